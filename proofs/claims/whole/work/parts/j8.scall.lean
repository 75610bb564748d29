/-! SOUNDNESS: calls -/
section SD8
variable {T : TXs} {s s' : HI} {p q m f v w t o x n k g : Int} {B : Int → Int} {X Y : Tst}
theorem OwI.mp (h : OwI s p) (φ : Int → Int) (e : ∀ i, pl s' p i → (s' 99 i = 2 ∨ s' 99 i = 3) → pl s p (φ i) ∧ s' 98 i = s 98 (φ i) ∧ s' 99 i = s 99 (φ i)) (inj : ∀ i j, pl s' p i → pl s' p j → (s' 99 i = 2 ∨ s' 99 i = 3) → (s' 99 j = 2 ∨ s' 99 j = 3) → i ≠ j → φ i ≠ φ j) (e1 : ∀ v, s 110 v = p → s' 110 v = p) (e3 : ∀ v, s 113 v = p → s' 113 v = p) : OwI s' p := by
  refine ⟨fun i hi => ⟨fun z => ?_, fun z => ?_⟩, fun i j hi hj hne z y => ?_⟩
  · obtain ⟨q1, q2, q3⟩ := e i hi (Or.inl z)
    rw [q2]; exact e1 _ ((h.1 _ q1).1 (by rw [← q3]; exact z))
  · obtain ⟨q1, q2, q3⟩ := e i hi (Or.inr z)
    rw [q2]; exact e3 _ ((h.1 _ q1).2 (by rw [← q3]; exact z))
  · obtain ⟨q1, q2, q3⟩ := e i hi z
    obtain ⟨r1, r2, r3⟩ := e j hj (by rw [y]; exact z)
    rw [q2, r2]
    exact h.2 _ _ q1 r1 (inj i j hi hj z (by rw [y]; exact z) hne) (by rw [← q3]; exact z) (by rw [← q3, ← r3]; exact y)
theorem mv98 {fr i : Int} : ∀ (n : Nat), (fr + n ≤ i ∨ i + n ≤ fr) → ∀ x, mvS s fr i n 98 x = (if i ≤ x ∧ x < i + n then s 98 (fr + (x - i)) else s 98 x) ∧ mvS s fr i n 99 x = (if i ≤ x ∧ x < i + n then s 99 (fr + (x - i)) else s 99 x)
  | 0, _, x => by
    rw [if_neg (by omega), if_neg (by omega)]; exact ⟨rfl, rfl⟩
  | n + 1, h, x => by
    have ih := mv98 (fr := fr) (i := i) n (by omega)
    show st2 (mvS s fr i n) (i + n) (mvS s fr i n 98 (fr + n)) (mvS s fr i n 99 (fr + n)) 98 x = _ ∧ st2 (mvS s fr i n) (i + n) (mvS s fr i n 98 (fr + n)) (mvS s fr i n 99 (fr + n)) 99 x = _
    have a9 := ih (fr + n)
    rw [if_neg (by omega), if_neg (by omega)] at a9
    rw [st2_98, st2_99, a9.1, a9.2, (ih x).1, (ih x).2]
    by_cases c : x = i + n
    · subst c
      rw [if_pos rfl, if_pos rfl, if_pos (by omega), if_pos (by omega), show fr + (i + (n : Int) - i) = fr + n by omega]
      exact ⟨rfl, rfl⟩
    · rw [if_neg c, if_neg c]
      by_cases d : i ≤ x ∧ x < i + n
      · rw [if_pos d, if_pos d, if_pos (by omega), if_pos (by omega)]; exact ⟨rfl, rfl⟩
      · rw [if_neg d, if_neg d, if_neg (by omega), if_neg (by omega)]; exact ⟨rfl, rfl⟩
theorem so_call {A : Asg} {Z : Tst} (h : JJ T s p m f X) (hpar : parT (T m) v X) (v0 : 0 ≤ v ∧ v < nFn (T m)) (hL : LC (T m) f A) (h96 : 0 ≤ s 96 (ai s p)) (hA : A (s 96 (ai s p)) = some Z) (hZ : leX (if rTy (T m) v = -1 then (X.1 - nPar (T m) v, X.2.1, X.2.2) else (X.1 - nPar (T m) v + 1, up1 X.2.1 (X.1 - nPar (T m) v) (rTy (T m) v), X.2.2)) Z) : JO T (calS s p v (nPar (T m) v)) (-1) := by
  obtain ⟨hJ, hP⟩ := id h
  have hpb := hP.1.1
  unfold calS
  by_cases c16 : s 94 p = 16
  · rw [if_pos c16]; exact hJ.trp hpb
  rw [if_neg c16]
  have hS := h.mg.2.1.2.1
  obtain ⟨np0, np4, -⟩ := hS.2.2.2.2.2.2.2.2.2.2 v v0.1 v0.2
  have hA0 := hP.1.a
  obtain ⟨h1, h2, h3, h4, h5, h6, h7⟩ := id hP
  have hh := hP.hg_
  obtain ⟨np, hnp⟩ : ∃ np, nPar (T m) v = np := ⟨_, rfl⟩
  rw [hnp] at np0 np4 hZ ⊢
  obtain ⟨pr1, pr2⟩ := hpar
  rw [hnp] at pr1 pr2
  obtain ⟨x0, hx0⟩ : ∃ x0, ai s p = x0 := ⟨_, rfl⟩
  have e94 : 16 * p + s 94 p = x0 + 1 := by rw [← hx0]; unfold ai; omega
  have efr : sk s p (hg s p - np) = 26 * x0 + 10 + (X.1 - np) := by unfold sk; rw [hh, hx0]
  rw [efr, e94]
  obtain ⟨r, hr⟩ : ∃ r, mvS (actS (pp s p np) p v) (26 * x0 + 10 + (X.1 - np)) (26 * (x0 + 1)) np.toNat = r := ⟨_, rfl⟩
  rw [hr]
  have eNt : (np.toNat : Int) = np := Int.toNat_of_nonneg np0
  have d9 : 26 * x0 + 10 + (X.1 - np) + np.toNat ≤ 26 * (x0 + 1) ∨ 26 * (x0 + 1) + np.toNat ≤ 26 * x0 + 10 + (X.1 - np) := by left; omega
  have pp94 : pp s p np 94 p = s 94 p := ppz_n (by decide)
  have a98 : ∀ i, ¬ (26 * (x0 + 1) ≤ i ∧ i < 26 * (x0 + 1) + 26) → actS (pp s p np) p v 98 i = s 98 i ∧ actS (pp s p np) p v 99 i = s 99 i := fun i z => by
    unfold actS; rw [pp94, e94, if_neg (by omega), if_neg (by omega), if_neg (by omega), if_neg (by omega), if_neg (by omega), if_neg (by omega), if_neg (by omega), if_neg (by omega), if_neg (by omega), if_neg (by omega)]
    exact ⟨pp_98, pp_99⟩
  have b98 : ∀ i, 26 * (x0 + 1) ≤ i ∧ i < 26 * (x0 + 1) + 26 → actS (pp s p np) p v 98 i = 0 ∧ actS (pp s p np) p v 99 i = 4 := fun i z => by
    unfold actS; rw [pp94, e94]
    constructor
    · rw [if_neg (by omega), if_neg (by omega), if_pos ⟨rfl, z⟩]
    · rw [if_neg (by omega), if_neg (by omega), if_neg (by omega), if_pos ⟨rfl, z⟩]
  have r98 : ∀ i, i < 26 * (x0 + 1) → r 98 i = s 98 i ∧ r 99 i = s 99 i := fun i z => by
    have := mv98 (s := actS (pp s p np) p v) np.toNat d9 i
    rw [hr] at this
    rw [this.1, this.2, if_neg (by omega), if_neg (by omega)]
    exact a98 i (by omega)
  have rpar : ∀ k, 0 ≤ k → k < np → r 98 (26 * (x0 + 1) + k) = s 98 (26 * x0 + 10 + (X.1 - np) + k) ∧ r 99 (26 * (x0 + 1) + k) = s 99 (26 * x0 + 10 + (X.1 - np) + k) := fun k z0 z1 => by
    have := mv98 (s := actS (pp s p np) p v) np.toNat d9 (26 * (x0 + 1) + k)
    rw [hr] at this
    rw [this.1, this.2, if_pos (by omega), if_pos (by omega), show 26 * (x0 + 1) + k - 26 * (x0 + 1) = k by omega]
    exact a98 _ (by omega)
  have remp : ∀ k, np ≤ k → k < 26 → r 98 (26 * (x0 + 1) + k) = 0 ∧ r 99 (26 * (x0 + 1) + k) = 4 := fun k z0 z1 => by
    have := mv98 (s := actS (pp s p np) p v) np.toNat d9 (26 * (x0 + 1) + k)
    rw [hr] at this
    rw [this.1, this.2, if_neg (by omega), if_neg (by omega)]
    exact b98 _ (by omega)
  have rn : ∀ {a : Nat} {i : Int}, a ≠ 98 ∧ a ≠ 99 → ¬ ((a = 95 ∨ a = 96 ∨ a = 97) ∧ i = x0 + 1) → ¬ (a = 94 ∧ i = p) → ¬ (a = 97 ∧ i = x0) → r a i = s a i := fun {a i} z1 z2 z3 z4 => by
    rw [← hr, mvS_n z1]
    unfold actS; rw [pp94, e94, if_neg (by omega), if_neg (by omega), if_neg (by omega), if_neg (by omega), if_neg z3]
    unfold pp; rw [hx0]; unfold upI; rw [if_neg z4]
  have r97 : r 97 x0 = X.1 - np := by
    rw [← hr, mvS_n (by decide)]
    unfold actS; rw [pp94, e94, if_neg (by omega), if_neg (by omega), if_neg (by omega), if_neg (by omega), if_neg (by omega)]
    unfold pp; rw [hx0, upI_eq, hh]
  have r95' : r 95 (x0 + 1) = v := by
    rw [← hr, mvS_n (by decide)]; unfold actS; rw [pp94, e94, if_pos ⟨rfl, rfl⟩]
  have r96' : r 96 (x0 + 1) = 0 := by
    rw [← hr, mvS_n (by decide)]; unfold actS; rw [pp94, e94, if_neg (by omega), if_pos ⟨Or.inl rfl, rfl⟩]
  have r97' : r 97 (x0 + 1) = 0 := by
    rw [← hr, mvS_n (by decide)]; unfold actS; rw [pp94, e94, if_neg (by omega), if_pos ⟨Or.inr rfl, rfl⟩]
  have r94 : r 94 p = s 94 p + 1 := by
    rw [← hr, mvS_n (by decide)]; unfold actS; rw [pp94, if_neg (by omega), if_neg (by omega), if_neg (by omega), if_neg (by omega), if_pos ⟨rfl, rfl⟩]
  clear a98 b98 d9
  have ea : ai r p = x0 + 1 := by unfold ai; rw [r94]; omega
  have VT : ∀ v w, Vt s r p v w := fun v w => Vt.rf (fun _ => rn (by decide) (by omega) (by omega) (by omega)) (fun _ => rn (by decide) (by omega) (by omega) (by omega)) (fun _ => rn (by decide) (by omega) (by omega) (by omega)) (fun _ => rn (by decide) (by omega) (by omega) (by omega)) (fun _ => rn (by decide) (by omega) (by omega) (by omega))
  rw [hx0] at hA0 h6 h4 h3 h96 hA
  have hO : OwI r p := by
    refine h7.mp (fun i => if 26 * (x0 + 1) ≤ i then 26 * x0 + 10 + (X.1 - np) + (i - 26 * (x0 + 1)) else i) (fun i hi z => ?_) (fun i j hi hj z y hne => ?_) (fun v z => (rn (by decide) (by omega) (by omega) (by omega)).trans z) (fun v z => (rn (by decide) (by omega) (by omega) (by omega)).trans z)
    · obtain ⟨x, k, y1, y2, y3, y4, rfl⟩ := hi
      rw [ea] at y2
      by_cases c : x = x0 + 1
      · subst c
        rw [r97'] at y4
        have hk : k < np := by
          apply Classical.byContradiction
          intro d
          rw [(remp k (by omega) (by omega)).2] at z; omega
        rw [if_pos (by omega), show 26 * (x0 + 1) + k - 26 * (x0 + 1) = k by omega]
        refine ⟨⟨x0, 10 + (X.1 - np) + k, hA0.1, by rw [hx0]; omega, by omega, by rw [h6.1]; omega, by omega⟩, rpar k y3 hk⟩
      · have e97 : r 97 x ≤ s 97 x := by
          by_cases d : x = x0
          · subst d; rw [r97, h6.1]; omega
          · rw [rn (by decide) (by omega) (by omega) (by omega)]; exact Int.le_refl _
        have := hP.h97 x y1 (by omega)
        rw [if_neg (by omega)]
        exact ⟨⟨x, k, y1, by omega, y3, by omega, rfl⟩, r98 _ (by omega)⟩
    · have key : ∀ i, pl r p i → (r 99 i = 2 ∨ r 99 i = 3) → (i < 26 * x0 + 10 + (X.1 - np)) ∨ (26 * (x0 + 1) ≤ i ∧ i < 26 * (x0 + 1) + np) := by
        rintro i ⟨x, k, y1, y2, y3, y4, rfl⟩ z
        rw [ea] at y2
        by_cases c : x = x0 + 1
        · subst c
          rw [r97'] at y4
          right
          have hk : k < np := by
            apply Classical.byContradiction
            intro d
            rw [(remp k (by omega) (by omega)).2] at z; omega
          omega
        · by_cases d : x = x0
          · subst d; rw [r97] at y4; omega
          · rw [rn (by decide) (by omega) (by omega) (by omega)] at y4
            have := hP.h97 x y1 (by omega)
            omega
      have k1 := key i hi z
      have k2 := key j hj y
      by_cases c1 : 26 * (x0 + 1) ≤ i
      · rw [if_pos c1]
        by_cases c2 : 26 * (x0 + 1) ≤ j
        · rw [if_pos c2]; omega
        · rw [if_neg c2]; omega
      · rw [if_neg c1]
        by_cases c2 : 26 * (x0 + 1) ≤ j
        · rw [if_pos c2]; omega
        · rw [if_neg c2]; omega
  obtain ⟨A', hL'⟩ := h.mg.2.2 v v0.1 v0.2
  obtain ⟨Z', z1, z2⟩ := hL'.1.1
  have mE : mEq s r := fun a i a1 a2 => rn (by omega) (by omega) (by omega) (by omega)
  have F : JJ T r p m v (0, fun _ => 0, ent (T m) v) := by
    have hG : Gl r := by
      have g := hJ.1
      unfold Gl at g ⊢
      have e1 : ∀ i, r 49 i = s 49 i := fun i => rn (by decide) (by omega) (by omega) (by omega)
      have e2 : ∀ i, r 89 i = s 89 i := fun i => rn (by decide) (by omega) (by omega) (by omega)
      have e3 : ∀ i, r 93 i = s 93 i := fun i => rn (by decide) (by omega) (by omega) (by omega)
      have e4 : ∀ i, r 109 i = s 109 i := fun i => rn (by decide) (by omega) (by omega) (by omega)
      have e5 : ∀ i, r 111 i = s 111 i := fun i => rn (by decide) (by omega) (by omega) (by omega)
      have e6 : ∀ i, r 112 i = s 112 i := fun i => rn (by decide) (by omega) (by omega) (by omega)
      have e7 : ∀ i, r 114 i = s 114 i := fun i => rn (by decide) (by omega) (by omega) (by omega)
      simp only [e1, e2, e3, e4, e5, e6, e7]
      exact g
    have hl : lcl p s r := fun a i z y1 y2 y3 y4 => by
      by_cases c : a = 98 ∨ a = 99
      · have hw : i < 26 * (x0 + 1) ∨ 26 * (x0 + 1) + 26 ≤ i := by unfold ownC at z; omega
        have e9 := mv98 (s := actS (pp s p np) p v) (fr := 26 * x0 + 10 + (X.1 - np)) (i := 26 * (x0 + 1)) np.toNat (by left; omega) i
        rw [hr, if_neg (by omega), if_neg (by omega)] at e9
        have a98 : actS (pp s p np) p v 98 i = s 98 i ∧ actS (pp s p np) p v 99 i = s 99 i := by
          unfold actS; rw [pp94, e94, if_neg (by omega), if_neg (by omega), if_neg (by omega), if_neg (by omega), if_neg (by omega), if_neg (by omega), if_neg (by omega), if_neg (by omega), if_neg (by omega), if_neg (by omega)]
          exact ⟨pp_98, pp_99⟩
        rcases c with c | c
        · subst c; rw [e9.1, a98.1]
        · subst c; rw [e9.2, a98.2]
      · exact rn (by omega) (fun y => z (by unfold ownC; omega)) (fun y => z (by unfold ownC; omega)) (fun y => z (by unfold ownC; omega))
    refine ⟨hJ.lc hl hG, ⟨h1.1, ⟨by rw [r94]; omega, by rw [r94]; omega⟩, (rn (by decide) (by omega) (by omega) (by omega)).trans h1.2.2.1, h1.2.2.2.1.tr mE, by rw [rn (by decide) (by omega) (by omega) (by omega)]; exact h1.2.2.2.2.1, by rw [rn (by decide) (by omega) (by omega) (by omega)]; exact h1.2.2.2.2.2⟩, ?_, ?_, ?_, (by show (0 : Int) ≤ 0 ∧ (0 : Int) ≤ 16; decide), ?_, hO⟩
    · exact h2.tr h1.2.2.2.1 (fun b _ _ => ⟨rn (by decide) (by omega) (by omega) (by omega), rn (by decide) (by omega) (by omega) (by omega)⟩) (fun b i _ _ _ _ => ⟨rn (by decide) (by omega) (by omega) (by omega), rn (by decide) (by omega) (by omega) (by omega)⟩)
    · intro x y1 y2
      rw [ea] at y2
      by_cases c : x = x0
      · subst c
        unfold SuI
        rw [rn (a := 95) (i := x) (by decide) (by omega) (by omega) (by omega), rn (a := 96) (i := x) (by decide) (by omega) (by omega) (by omega), r95', h4.2]
        refine ⟨h4.1, A, Z, X.1 - np, hL, h96, hA, ⟨by omega, by omega⟩, ?_, ?_⟩
        · have fr0 : Frm T r p m x (X.1 - np, X.2.1, X.2.2) := by
            refine ⟨r97, fun k a b => ?_, fun k a b => ?_⟩
            · have b : k < X.1 - np := b
              rw [(r98 _ (by omega)).1, (r98 _ (by omega)).2]; exact (h6.2.1 k a (by omega)).tr (VT _ _)
            · rw [(r98 _ (by omega)).1, (r98 _ (by omega)).2]; exact (h6.2.2 k a b).tr (VT _ _)
          refine fr0.le ⟨rfl, fun k a b => ?_, fun k a b => ?_⟩
          · have b : k < X.1 - np := b
            by_cases c : rTy (T m) v = -1
            · rw [if_pos c] at hZ; exact hZ.2.1 k a b
            · rw [if_neg c] at hZ
              have := hZ.2.1 k a (by show k < X.1 - np + 1; omega)
              have e : up1 X.2.1 (X.1 - np) (rTy (T m) v) k = X.2.1 k := up1_ne (by omega)
              show leT (X.2.1 k) (Z.2.1 k)
              rw [← e]; exact this
          · by_cases c : rTy (T m) v = -1
            · rw [if_pos c] at hZ; exact hZ.2.2 k a b
            · rw [if_neg c] at hZ; exact hZ.2.2 k a b
        · refine ⟨fun c => ?_, fun c => ?_⟩
          · rw [if_pos c] at hZ; exact hZ.1.symm
          · rw [if_neg c] at hZ
            refine ⟨hZ.1.symm, ?_⟩
            have := hZ.2.1 (X.1 - np) (by omega) (by show X.1 - np < X.1 - np + 1; omega)
            have e : up1 X.2.1 (X.1 - np) (rTy (T m) v) (X.1 - np) = rTy (T m) v := up1_eq
            rw [← e]; exact this
      · have h16 := hP.h97 x y1 (by omega)
        exact (h3 x y1 (by omega)).tr (rn (by decide) (by omega) (by omega) (by omega)) (rn (by decide) (by omega) (by omega) (by omega)) (rn (by decide) (by omega) (by omega) (by omega)) (rn (by decide) (by omega) (by omega) (by omega)) (fun i i0 i1 => r98 i (by omega)) (fun i _ _ => VT _ _)
    · rw [ea]; exact ⟨v0, r95'⟩
    · rw [ea]
      refine ⟨r97', fun k a b => ?_, fun k a b => ?_⟩
      · have b : k < 0 := b
        omega
      · show vOk T r p m _ _ (ent (T m) v k)
        unfold ent
        rw [hnp]
        by_cases c : k < np
        · rw [if_pos c, (rpar k a c).1, (rpar k a c).2]
          have := h6.2.1 (X.1 - np + k) (by omega) (by omega)
          rw [show 26 * x0 + 10 + (X.1 - np + k) = 26 * x0 + 10 + (X.1 - np) + k by omega] at this
          exact (this.le (pr2 k a c)).tr (VT _ _)
        · rw [if_neg c, (remp k (by omega) (by omega)).1, (remp k (by omega) (by omega)).2]
          exact vOk.emp
  exact F.land hL' (by rw [ea, r96']; decide) (by rw [ea, r96']; exact z1) z2
/-- the one that was called is left -/
theorem so_back (h : JJ T s p m f X) (hc : if rTy (T m) f = -1 then X.1 = 0 else X.1 = 1 ∧ leT (X.2.1 0) (rTy (T m) f)) : JO T (bckS s p (rTy (T m) f ≠ -1)) (-1) := by
  obtain ⟨hJ, hP⟩ := id h
  have hpb := hP.1.1
  have hA0 := hP.1.a
  obtain ⟨h1, h2, h3, h4, h5, h6, h7⟩ := id hP
  have hh := hP.hg_
  unfold bckS
  simp only []
  obtain ⟨has, hhas⟩ : ∃ c : Prop, c = (rTy (T m) f ≠ -1) := ⟨_, rfl⟩
  rw [← hhas]
  have hX1 : has → X.1 = 1 ∧ leT (X.2.1 0) (rTy (T m) f) := fun c => by rw [hhas] at c; rw [if_neg c] at hc; exact hc
  obtain ⟨s1, hs1⟩ : ∃ s1, cif has (pp s p 1) s = s1 := ⟨_, rfl⟩
  rw [hs1]
  have j1 : ∃ Y, JJ T s1 p m f Y := by
    by_cases c : has
    · rw [cif_y c] at hs1; subst hs1
      exact ⟨_, h.pp_ (n := 1) (by decide) (by have := (hX1 c).1; omega)⟩
    · rw [cif_n c] at hs1; subst hs1; exact ⟨_, h⟩
  have n1 : ∀ {a : Nat} {i : Int}, ¬ (a = 97 ∧ i = ai s p) → s1 a i = s a i := fun {a i} z => by
    by_cases c : has
    · rw [cif_y c] at hs1; subst hs1; unfold pp; exact if_neg z
    · rw [cif_n c] at hs1; subst hs1; rfl
  by_cases c1 : s 94 p = 1
  · rw [if_pos c1]
    obtain ⟨Y, hY⟩ := j1
    exact hY.1.ovr hpb (by decide)
  rw [if_neg c1]
  obtain ⟨x0, hx0⟩ : ∃ x0, ai s p = x0 := ⟨_, rfl⟩
  have e94 : 16 * p + s 94 p = x0 + 1 := by rw [← hx0]; unfold ai; omega
  rw [hx0] at hA0 h6 h4 h3 n1
  have hx16 : 16 * p < x0 := by have := h1.2.1; omega
  obtain ⟨s2, hs2⟩ : ∃ s2, upI s1 94 p (s 94 p - 1) = s2 := ⟨_, rfl⟩
  rw [hs2]
  have n2 : ∀ {a : Nat} {i : Int}, ¬ (a = 97 ∧ i = x0) → ¬ (a = 94 ∧ i = p) → s2 a i = s a i := fun {a i} z y => by
    rw [← hs2]; unfold upI; rw [if_neg y]; exact n1 z
  have s94 : s2 94 p = s 94 p - 1 := by rw [← hs2, upI_eq]
  have ea : ai s2 p = x0 - 1 := by unfold ai; rw [s94]; omega
  have VT : ∀ v w, Vt s s2 p v w := fun v w => Vt.rf (fun _ => n2 (by omega) (by omega)) (fun _ => n2 (by omega) (by omega)) (fun _ => n2 (by omega) (by omega)) (fun _ => n2 (by omega) (by omega)) (fun _ => n2 (by omega) (by omega))
  obtain ⟨y1, A, Z, n, y2, y3, y4, y5, y6, y7⟩ := h3 (x0 - 1) (by omega) (by omega)
  rw [show x0 - 1 + 1 = x0 by omega, h4.2] at y7
  have pls : ∀ i, pl s2 p i → pl s p i ∧ i < 26 * x0 := by
    rintro i ⟨x, k, a, b, c, d, rfl⟩
    rw [ea] at b
    rw [n2 (by omega) (by omega)] at d
    have := hP.h97 x a (by omega)
    exact ⟨⟨x, k, a, by omega, c, d, rfl⟩, by omega⟩
  have hO : OwI s2 p := h7.tr (fun i hi => ⟨(pls i hi).1, n2 (by omega) (by omega), n2 (by omega) (by omega)⟩) (fun v z => (n2 (by omega) (by omega)).trans z) (fun v z => (n2 (by omega) (by omega)).trans z)
  have F : JJ T s2 p m (s 95 (x0 - 1)) (n, Z.2.1, Z.2.2) := by
    have hG : Gl s2 := by
      have g := hJ.1
      unfold Gl at g ⊢
      have e1 : ∀ i, s2 49 i = s 49 i := fun i => n2 (by omega) (by omega)
      have e2 : ∀ i, s2 89 i = s 89 i := fun i => n2 (by omega) (by omega)
      have e3 : ∀ i, s2 93 i = s 93 i := fun i => n2 (by omega) (by omega)
      have e4 : ∀ i, s2 109 i = s 109 i := fun i => n2 (by omega) (by omega)
      have e5 : ∀ i, s2 111 i = s 111 i := fun i => n2 (by omega) (by omega)
      have e6 : ∀ i, s2 112 i = s 112 i := fun i => n2 (by omega) (by omega)
      have e7 : ∀ i, s2 114 i = s 114 i := fun i => n2 (by omega) (by omega)
      simp only [e1, e2, e3, e4, e5, e6, e7]
      exact g
    have mE : mEq s s2 := fun a i a1 a2 => n2 (by omega) (by omega)
    refine ⟨hJ.lc (fun a i z _ _ _ _ => n2 (fun y => z (by unfold ownC; omega)) (fun y => z (by unfold ownC; omega))) hG, ⟨h1.1, ⟨by rw [s94]; omega, by rw [s94]; omega⟩, (n2 (by omega) (by omega)).trans h1.2.2.1, h1.2.2.2.1.tr mE, by rw [n2 (by omega) (by omega)]; exact h1.2.2.2.2.1, by rw [n2 (by omega) (by omega)]; exact h1.2.2.2.2.2⟩, ?_, ?_, ?_, y5, ?_, hO⟩
    · exact h2.tr h1.2.2.2.1 (fun b _ _ => ⟨n2 (by omega) (by omega), n2 (by omega) (by omega)⟩) (fun b i _ _ _ _ => ⟨n2 (by omega) (by omega), n2 (by omega) (by omega)⟩)
    · intro x a b
      rw [ea] at b
      exact (h3 x a (by omega)).tr (n2 (by omega) (by omega)) (n2 (by omega) (by omega)) (n2 (by omega) (by omega)) (n2 (by omega) (by omega)) (fun i _ _ => ⟨n2 (by omega) (by omega), n2 (by omega) (by omega)⟩) (fun i _ _ => VT _ _)
    · rw [ea]; exact ⟨y1, n2 (by omega) (by omega)⟩
    · rw [ea]
      exact y6.tr (n2 (by omega) (by omega)) (fun i _ _ => ⟨n2 (by omega) (by omega), n2 (by omega) (by omega)⟩) y5.1 (fun i _ _ => VT _ _)
  have x96 : s2 96 (x0 - 1) = s 96 (x0 - 1) := n2 (by omega) (by omega)
  by_cases c : has
  · rw [cif_y c]
    obtain ⟨r1, r2⟩ := hX1 c
    rw [hhas] at c
    obtain ⟨w1, w2⟩ := y7.2 c
    have t0 := h.top (k := 0) (by decide) (by omega)
    rw [Int.sub_zero, show X.1 - 1 = 0 by omega] at t0
    have hpl := hP.pl_ (k := 0) (by decide) (by omega)
    have hsk : sk s p (hg s p - 1 - 0) = 26 * x0 + 10 := by unfold sk; rw [hh, hx0]; omega
    have hF : Fp s2 p (tv s p 0) (ts s p 0) := by
      refine ⟨fun z => (n2 (by omega) (by omega)).trans ((h7.1 _ hpl).1 z), fun z => (n2 (by omega) (by omega)).trans ((h7.1 _ hpl).2 z), fun z j hj => ?_⟩
      obtain ⟨q1, q2⟩ := pls j hj
      rw [n2 (by omega) (by omega), n2 (by omega) (by omega)]
      exact h7.2 _ j hpl q1 (by rw [hsk]; omega) z
    have Z16 : Z.1 ≤ 16 := (y2.2.2.1 _ _ y3 y4).1
    have F2 := F.psh_ (by show n < 16; omega) ((t0.le r2).tr (VT _ _)) hF
    have e96 : psh s2 p (tv s p 0) (ts s p 0) 96 (ai (psh s2 p (tv s p 0) (ts s p 0)) p) = s 96 (x0 - 1) := by rw [psh_ai, ea, psh_96, x96]
    refine F2.land y2 (by rw [e96]; exact y3) (by rw [e96]; exact y4) ⟨w1.symm, fun k a b => ?_, fun k a b => leL.rf⟩
    have b : k < n + 1 := b
    show leT (up1 Z.2.1 n (rTy (T m) f) k) (Z.2.1 k)
    by_cases d : k = n
    · subst d; rw [up1_eq]; exact w2
    · rw [up1_ne d]; exact leT.rf
  · rw [cif_n c]
    have c' : rTy (T m) f = -1 := Classical.byContradiction fun z => c (by rw [hhas]; exact z)
    have w1 := y7.1 c'
    exact F.land y2 (by rw [ea, x96]; exact y3) (by rw [ea, x96]; exact y4) ⟨w1.symm, fun k a b => leT.rf, fun k a b => leL.rf⟩
end SD8
