/-! THE SPEC, 2: what comes to each place of a function's code -/
section TY0
abbrev linT (t : Int) : Prop := kindM t = 4 ∨ kindM t = 5
abbrev heapT (t : Int) : Prop := 1 ≤ kindM t ∧ kindM t ≤ 3
abbrev leT (v t : Int) : Prop := v = t ∨ (v = 6 ∧ heapT t)
abbrev leL (a b : Int) : Prop := leT a b ∨ (b = 7 ∧ ¬ linT a)
abbrev Tst : Type := Int × (Int → Int) × (Int → Int)
def up1 (g : Int → Int) (i x : Int) : Int → Int := fun j => if j = i then x else g j
theorem up1_eq {g : Int → Int} {i x : Int} : up1 g i x i = x := if_pos rfl
theorem up1_ne {g : Int → Int} {i j x : Int} (h : j ≠ i) : up1 g i x j = g j := if_neg h
def leX (X Y : Tst) : Prop := X.1 = Y.1 ∧ (∀ k, 0 ≤ k → k < X.1 → leT (X.2.1 k) (Y.2.1 k)) ∧ (∀ k, 0 ≤ k → k < 10 → leL (X.2.2 k) (Y.2.2 k))
def eqX (X Y : Tst) : Prop := X.1 = Y.1 ∧ (∀ k, 0 ≤ k → k < X.1 → X.2.1 k = Y.2.1 k) ∧ (∀ k, 0 ≤ k → k < 10 → X.2.2 k = Y.2.2 k)
/-- types alone -/
def vT (B : Int → Int) (t : Int) : Prop := 0 ≤ t ∧ t < 1048576 ∧ (kindM t = 2 → t = 2) ∧ (kindM t = 6 → t = 6) ∧ (kindM t = 0 → t = 0) ∧ (kindM t = 7 → t = 7) ∧ (kindM t = 1 ∨ kindM t = 3 ∨ kindM t = 4 → whichM t < nRec B) ∧ (kindM t = 5 → whichM t < nCtr B ∧ stateM t < nSt B (whichM t))
def vX (B : Int → Int) (X : Tst) : Prop := 0 ≤ X.1 ∧ (∀ k, 0 ≤ k → k < X.1 → vT B (X.2.1 k)) ∧ (∀ k, 0 ≤ k → k < 10 → vT B (X.2.2 k))
theorem vT_of {B : Int → Int} {t : Int} (h : t = 0 ∨ t = 2 ∨ t = 6 ∨ t = 7) : vT B t := by
  rcases h with rfl | rfl | rfl | rfl <;> exact ⟨by decide, by decide, by decide, by decide, by decide, by decide, fun h => absurd h (by decide), fun h => absurd h (by decide)⟩
theorem k6 : kindM 6 = 6 := rfl
theorem k7 : kindM 7 = 7 := rfl
theorem k0 : kindM 0 = 0 := rfl
theorem km1 : kindM (-1) = -1 := rfl
theorem kiM_nn {t : Int} (h : 0 ≤ kindM t) : 0 ≤ t := by
  unfold kindM at h
  split at h <;> omega
theorem leT.rf {a : Int} : leT a a := Or.inl rfl
theorem leL.rf {a : Int} : leL a a := Or.inl leT.rf
theorem leX.rf {X : Tst} : leX X X := ⟨rfl, fun _ _ _ => leT.rf, fun _ _ _ => leL.rf⟩
theorem leT.tr {a b c : Int} (h1 : leT a b) (h2 : leT b c) : leT a c := by
  rcases h1 with rfl | ⟨rfl, h1⟩
  · exact h2
  · rcases h2 with rfl | ⟨rfl, h2⟩
    · exact Or.inr ⟨rfl, h1⟩
    · exact absurd h1 (by decide)
theorem leT.as {a b : Int} (h1 : leT a b) (h2 : leT b a) : a = b := by
  rcases h1 with rfl | ⟨rfl, h1⟩
  · rfl
  · rcases h2 with rfl | ⟨rfl, h2⟩
    · rfl
    · rfl
theorem leL.tr {a b c : Int} (h1 : leL a b) (h2 : leL b c) : leL a c := by
  rcases h1 with h1 | ⟨rfl, h1⟩
  · rcases h2 with h2 | ⟨rfl, h2⟩
    · exact Or.inl (h1.tr h2)
    · refine Or.inr ⟨rfl, fun q => ?_⟩
      rcases h1 with rfl | ⟨rfl, -⟩
      · exact h2 q
      · exact absurd q (by decide)
  · rcases h2 with h2 | ⟨rfl, h2⟩
    · rcases h2 with rfl | ⟨h2, -⟩
      · exact Or.inr ⟨rfl, h1⟩
      · exact absurd h2 (by decide)
    · exact Or.inr ⟨rfl, h1⟩
theorem leL.as {a b : Int} (h1 : leL a b) (h2 : leL b a) : a = b := by
  rcases h1 with h1 | ⟨rfl, h1⟩
  · rcases h2 with h2 | ⟨rfl, h2⟩
    · exact h1.as h2
    · rcases h1 with rfl | ⟨h1, -⟩
      · rfl
      · exact absurd h1 (by decide)
  · rcases h2 with h2 | ⟨rfl, h2⟩
    · rcases h2 with rfl | ⟨h2, -⟩
      · rfl
      · exact absurd h2 (by decide)
    · rfl
theorem leX.tr {X Y Z : Tst} (h1 : leX X Y) (h2 : leX Y Z) : leX X Z := ⟨h1.1.trans h2.1, fun k a b => (h1.2.1 k a b).tr (h2.2.1 k a (by rw [← h1.1]; exact b)), fun k a b => (h1.2.2 k a b).tr (h2.2.2 k a b)⟩
theorem leX.as {X Y : Tst} (h1 : leX X Y) (h2 : leX Y X) : eqX X Y := ⟨h1.1, fun k a b => (h1.2.1 k a b).as (h2.2.1 k a (by rw [← h1.1]; exact b)), fun k a b => (h1.2.2 k a b).as (h2.2.2 k a b)⟩
theorem eqX.le {X Y : Tst} (h : eqX X Y) : leX X Y := ⟨h.1, fun k a b => Or.inl (h.2.1 k a b), fun k a b => Or.inl (Or.inl (h.2.2 k a b))⟩
theorem eqX.sy {X Y : Tst} (h : eqX X Y) : eqX Y X := ⟨h.1.symm, fun k a b => (h.2.1 k a (by rw [h.1]; exact b)).symm, fun k a b => (h.2.2 k a b).symm⟩
theorem leT_lin {a b : Int} (h : leT a b) (hb : ¬ linT b) : ¬ linT a := by
  rcases h with rfl | ⟨rfl, -⟩
  · exact hb
  · decide
theorem leL_lin {a b : Int} (h : leL a b) (hb : ¬ linT b) : ¬ linT a := by
  rcases h with h | ⟨-, h⟩
  · exact leT_lin h hb
  · exact h
theorem leT_eq {a b : Int} (h : leT a b) (hb : ¬ heapT b) : a = b := by
  rcases h with rfl | ⟨-, h⟩
  · rfl
  · exact absurd h hb
theorem leT_k {a b : Int} (h : leT a b) (hb : kindM b = 0 ∨ 4 ≤ kindM b) : a = b := leT_eq h (by omega)
/-! joining -/
def both (a b : Int) : Int := if a = b then a else if a = 6 ∧ heapT b then b else if b = 6 ∧ heapT a then a else -1
def bothL (a b : Int) : Int := if both a b = -1 then 7 else both a b
/-- can they be joined -/
def jOK (Y X : Tst) : Prop := Y.1 = X.1 ∧ (∀ k, 0 ≤ k → k < Y.1 → both (Y.2.1 k) (X.2.1 k) ≠ -1) ∧ (∀ k, 0 ≤ k → k < 10 → both (Y.2.2 k) (X.2.2 k) = -1 → ¬ linT (Y.2.2 k) ∧ ¬ linT (X.2.2 k))
def jX (Y X : Tst) : Tst := (Y.1, fun k => both (Y.2.1 k) (X.2.1 k), fun k => bothL (Y.2.2 k) (X.2.2 k))
theorem heap_nn {a : Int} (h : heapT a) : 0 ≤ a := kiM_nn (by omega)
theorem both_lub {a b w : Int} (ha : 0 ≤ a) (h1 : leT a w) (h2 : leT b w) : both a b ≠ -1 ∧ leT (both a b) w ∧ leT a (both a b) ∧ leT b (both a b) := by
  unfold both
  split
  · rename_i h; subst h; exact ⟨by omega, h1, leT.rf, leT.rf⟩
  · rename_i hne
    split
    · rename_i h
      have := heap_nn h.2
      exact ⟨by omega, h2, Or.inr h, leT.rf⟩
    · split
      · rename_i h
        exact ⟨by omega, h1, leT.rf, Or.inr h⟩
      · rename_i q1 q2
        exfalso
        rcases h1 with rfl | ⟨rfl, h1⟩
        · rcases h2 with rfl | h2
          · exact hne rfl
          · exact q2 h2
        · rcases h2 with rfl | ⟨rfl, h2⟩
          · exact q1 ⟨rfl, h1⟩
          · exact hne rfl
theorem both_c (a b : Int) : (a = b ∧ both a b = a) ∨ (a = 6 ∧ heapT b ∧ both a b = b) ∨ (b = 6 ∧ heapT a ∧ both a b = a) ∨ both a b = -1 := by
  unfold both
  by_cases h1 : a = b
  · left; exact ⟨h1, if_pos h1⟩
  · rw [if_neg h1]
    by_cases h2 : a = 6 ∧ heapT b
    · rw [if_pos h2]; exact Or.inr (Or.inl ⟨h2.1, h2.2, rfl⟩)
    · rw [if_neg h2]
      by_cases h3 : b = 6 ∧ heapT a
      · rw [if_pos h3]; exact Or.inr (Or.inr (Or.inl ⟨h3.1, h3.2, rfl⟩))
      · rw [if_neg h3]; exact Or.inr (Or.inr (Or.inr rfl))
theorem both_ub {a b : Int} (h : both a b ≠ -1) : leT a (both a b) ∧ leT b (both a b) := by
  rcases both_c a b with ⟨h1, h2⟩ | ⟨h1, h2, h3⟩ | ⟨h1, h2, h3⟩ | h1
  · rw [h2, ← h1]; exact ⟨leT.rf, leT.rf⟩
  · rw [h3]; exact ⟨Or.inr ⟨h1, h2⟩, leT.rf⟩
  · rw [h3]; exact ⟨leT.rf, Or.inr ⟨h1, h2⟩⟩
  · exact absurd h1 h
theorem both_n1 {a b : Int} (ha : 0 ≤ a) (h : both a b = -1) : ¬ leT a b ∧ ¬ leT b a := by
  constructor
  · intro q; exact (both_lub ha q leT.rf).1 h
  · intro q; exact (both_lub ha leT.rf q).1 h
theorem bothL_lub {a b w : Int} (ha : 0 ≤ a) (h1 : leL a w) (h2 : leL b w) : (both a b = -1 → ¬ linT a ∧ ¬ linT b) ∧ leL (bothL a b) w ∧ leL a (bothL a b) ∧ leL b (bothL a b) := by
  unfold bothL
  by_cases hb : both a b = -1
  · rw [if_pos hb]
    have hn := both_n1 ha hb
    have key : w = 7 ∧ ¬ linT a ∧ ¬ linT b := by
      rcases h1 with h1 | ⟨rfl, h1⟩
      · rcases h2 with h2 | ⟨rfl, h2⟩
        · exact absurd hb (both_lub ha h1 h2).1
        · refine ⟨rfl, leT_lin h1 (by decide), h2⟩
      · rcases h2 with h2 | ⟨-, h2⟩
        · exact ⟨rfl, h1, leT_lin h2 (by decide)⟩
        · exact ⟨rfl, h1, h2⟩
    obtain ⟨rfl, q1, q2⟩ := key
    exact ⟨fun _ => ⟨q1, q2⟩, leL.rf, Or.inr ⟨rfl, q1⟩, Or.inr ⟨rfl, q2⟩⟩
  · rw [if_neg hb]
    refine ⟨fun q => absurd q hb, ?_, Or.inl (both_ub hb).1, Or.inl (both_ub hb).2⟩
    have hu := both_ub hb
    rcases h1 with h1 | ⟨rfl, h1⟩
    · rcases h2 with h2 | ⟨rfl, h2⟩
      · exact Or.inl (both_lub ha h1 h2).2.1
      · refine Or.inr ⟨rfl, ?_⟩
        unfold both at hb ⊢
        split
        · rename_i q; rw [q]; exact h2
        · split
          · exact h2
          · split
            · rename_i q; intro h9; omega
            · decide
    · refine Or.inr ⟨rfl, ?_⟩
      unfold both at hb ⊢
      split
      · exact h1
      · split
        · rename_i q; intro h9; omega
        · split
          · exact h1
          · decide
theorem jX_lub {B : Int → Int} {Y X W : Tst} (hv : vX B Y) (h1 : leX Y W) (h2 : leX X W) : jOK Y X ∧ leX (jX Y X) W ∧ leX Y (jX Y X) ∧ leX X (jX Y X) := by
  have e : Y.1 = X.1 := h1.1.trans h2.1.symm
  refine ⟨⟨e, fun k a b => (both_lub (hv.2.1 k a b).1 (h1.2.1 k a b) (h2.2.1 k a (by omega))).1, fun k a b => (bothL_lub (hv.2.2 k a b).1 (h1.2.2 k a b) (h2.2.2 k a b)).1⟩, ⟨h1.1, ?_, ?_⟩, ⟨rfl, ?_, ?_⟩, ⟨e.symm, ?_, ?_⟩⟩
  · exact fun k a b => (both_lub (hv.2.1 k a b).1 (h1.2.1 k a b) (h2.2.1 k a (by show k < X.1; rw [← e]; exact b))).2.1
  · exact fun k a b => (bothL_lub (hv.2.2 k a b).1 (h1.2.2 k a b) (h2.2.2 k a b)).2.1
  · exact fun k a b => (both_lub (hv.2.1 k a b).1 (h1.2.1 k a b) (h2.2.1 k a (by omega))).2.2.1
  · exact fun k a b => (bothL_lub (hv.2.2 k a b).1 (h1.2.2 k a b) (h2.2.2 k a b)).2.2.1
  · exact fun k a b => (both_lub (hv.2.1 k a (by omega)).1 (h1.2.1 k a (by omega)) (h2.2.1 k a (by omega))).2.2.2
  · exact fun k a b => (bothL_lub (hv.2.2 k a b).1 (h1.2.2 k a b) (h2.2.2 k a b)).2.2.2
theorem jX_ub {Y X : Tst} (h : jOK Y X) : leX Y (jX Y X) ∧ leX X (jX Y X) := by
  obtain ⟨h1, h2, h3⟩ := h
  have hl : ∀ a b : Int, (both a b = -1 → ¬ linT a ∧ ¬ linT b) → leL a (bothL a b) ∧ leL b (bothL a b) := by
    intro a b q
    unfold bothL
    by_cases hb : both a b = -1
    · rw [if_pos hb]; exact ⟨Or.inr ⟨rfl, (q hb).1⟩, Or.inr ⟨rfl, (q hb).2⟩⟩
    · rw [if_neg hb]; exact ⟨Or.inl (both_ub hb).1, Or.inl (both_ub hb).2⟩
  exact ⟨⟨rfl, fun k a b => (both_ub (h2 k a b)).1, fun k a b => (hl _ _ (h3 k a b)).1⟩, ⟨h1.symm, fun k a b => (both_ub (h2 k a (by rw [h1]; exact b))).2, fun k a b => (hl _ _ (h3 k a b)).2⟩⟩
theorem both_v {B : Int → Int} {a b : Int} (ha : vT B a) (hb : vT B b) (h : both a b ≠ -1) : vT B (both a b) := by
  unfold both at h ⊢
  split
  · exact ha
  · rename_i h1
    rw [if_neg h1] at h
    split
    · exact hb
    · rename_i h2
      rw [if_neg h2] at h
      split
      · exact ha
      · rename_i h3; rw [if_neg h3] at h; exact absurd rfl h
theorem bothL_v {B : Int → Int} {a b : Int} (ha : vT B a) (hb : vT B b) : vT B (bothL a b) := by
  unfold bothL
  split
  · exact vT_of (by omega)
  · exact both_v ha hb (by assumption)
theorem jX_v {B : Int → Int} {Y X : Tst} (hv : vX B Y) (hw : vX B X) (h : jOK Y X) : vX B (jX Y X) :=
  ⟨hv.1, fun k a b => both_v (hv.2.1 k a b) (hw.2.1 k a (by rw [← h.1]; exact b)) (h.2.1 k a b), fun k a b => bothL_v (hv.2.2 k a b) (hw.2.2 k a b)⟩
end TY0
