/-! SOUNDNESS: spawn -/
section SK4
variable {T : TXs} {s s' : HI} {p q m f v w t o x n k g e a : Int} {B : Int → Int} {X Y : Tst}
theorem ownS_110 {i : Int} : ownS s v w o 110 i = if w = 2 ∧ i = v then o else s 110 i := by
  unfold ownS
  by_cases c : w = 2
  · rw [if_pos c, upI_self]
    by_cases d : i = v
    · rw [if_pos d, if_pos ⟨c, d⟩]
    · rw [if_neg d, if_neg (fun y => d y.2)]
  · rw [if_neg c, show (if w = 2 ∧ i = v then o else s 110 i) = s 110 i from if_neg (fun y => c y.1)]
    split
    · exact upI_a (by decide)
    · rfl
theorem ownS_113 {i : Int} : ownS s v w o 113 i = if w = 3 ∧ i = v then o else s 113 i := by
  unfold ownS
  by_cases c : w = 2
  · rw [if_pos c, if_neg (by omega), upI_a (by decide)]
  · rw [if_neg c]
    by_cases d : w = 3
    · rw [if_pos d, upI_self]
      by_cases d' : i = v
      · rw [if_pos d', if_pos ⟨d, d'⟩]
      · rw [if_neg d', if_neg (fun y => d' y.2)]
    · rw [if_neg d, if_neg (fun y => d y.1)]
theorem hnd98 {fr i n9 : Int} : ∀ (n : Nat), (fr + n ≤ i ∨ i + n ≤ fr) → ∀ x, hndS s fr i n9 n 98 x = (if i ≤ x ∧ x < i + n then s 98 (fr + (x - i)) else s 98 x) ∧ hndS s fr i n9 n 99 x = (if i ≤ x ∧ x < i + n then s 99 (fr + (x - i)) else s 99 x)
  | 0, _, x => by
    rw [if_neg (by omega), if_neg (by omega)]; exact ⟨rfl, rfl⟩
  | n + 1, h, x => by
    have ih := hnd98 (fr := fr) (i := i) (n9 := n9) n (by omega)
    show ownS (st2 (hndS s fr i n9 n) (i + n) (hndS s fr i n9 n 98 (fr + n)) (hndS s fr i n9 n 99 (fr + n))) _ _ n9 98 x = _ ∧ ownS (st2 (hndS s fr i n9 n) (i + n) (hndS s fr i n9 n 98 (fr + n)) (hndS s fr i n9 n 99 (fr + n))) _ _ n9 99 x = _
    have a9 := ih (fr + n)
    rw [if_neg (by omega), if_neg (by omega)] at a9
    rw [ownS_n (by decide), ownS_n (by decide), st2_98, st2_99, a9.1, a9.2, (ih x).1, (ih x).2]
    by_cases c : x = i + n
    · subst c
      rw [if_pos rfl, if_pos rfl, if_pos (by omega), if_pos (by omega), show fr + (i + (n : Int) - i) = fr + n by omega]
      exact ⟨rfl, rfl⟩
    · rw [if_neg c, if_neg c]
      by_cases d : i ≤ x ∧ x < i + n
      · rw [if_pos d, if_pos d, if_pos (by omega), if_pos (by omega)]; exact ⟨rfl, rfl⟩
      · rw [if_neg d, if_neg d, if_neg (by omega), if_neg (by omega)]; exact ⟨rfl, rfl⟩
theorem hnd_o {fr i n9 : Int} : ∀ (n : Nat), (fr + n ≤ i ∨ i + n ≤ fr) → (∀ a j, a ≠ 98 → a ≠ 99 → a ≠ 110 → a ≠ 113 → hndS s fr i n9 n a j = s a j) ∧ (∀ y, (∀ j : Int, 0 ≤ j → j < n → ¬ (s 99 (fr + j) = 2 ∧ s 98 (fr + j) = y)) → hndS s fr i n9 n 110 y = s 110 y) ∧ (∀ y, (∀ j : Int, 0 ≤ j → j < n → ¬ (s 99 (fr + j) = 3 ∧ s 98 (fr + j) = y)) → hndS s fr i n9 n 113 y = s 113 y) ∧ (∀ j : Int, 0 ≤ j → j < n → s 99 (fr + j) = 2 → hndS s fr i n9 n 110 (s 98 (fr + j)) = n9) ∧ ∀ j : Int, 0 ≤ j → j < n → s 99 (fr + j) = 3 → hndS s fr i n9 n 113 (s 98 (fr + j)) = n9
  | 0, _ => ⟨fun _ _ _ _ _ _ => rfl, fun _ _ => rfl, fun _ _ => rfl, fun j a b => by omega, fun j a b => by omega⟩
  | n + 1, h => by
    obtain ⟨i1, i2, i3, i4, i5⟩ := hnd_o (fr := fr) (i := i) (n9 := n9) n (by omega)
    have a9 := hnd98 (s := s) (fr := fr) (i := i) (n9 := n9) n (by omega) (fr + n)
    rw [if_neg (by omega), if_neg (by omega)] at a9
    have st : hndS s fr i n9 (n + 1) = ownS (st2 (hndS s fr i n9 n) (i + n) (s 98 (fr + n)) (s 99 (fr + n))) (s 98 (fr + n)) (s 99 (fr + n)) n9 := by
      show ownS (st2 (hndS s fr i n9 n) (i + n) (hndS s fr i n9 n 98 (fr + n)) (hndS s fr i n9 n 99 (fr + n))) _ _ n9 = _
      rw [a9.1, a9.2]
    rw [st]
    refine ⟨fun a j z1 z2 z3 z4 => ?_, fun y hy => ?_, fun y hy => ?_, fun j j0 j1 hj => ?_, fun j j0 j1 hj => ?_⟩
    · rw [ownS_n ⟨z3, z4⟩, st2_n z1 z2]; exact i1 a j z1 z2 z3 z4
    · rw [ownS_110, if_neg (fun z => hy n (by omega) (by omega) ⟨z.1, z.2.symm⟩), st2_n (by decide) (by decide)]
      exact i2 y (fun j a b => hy j a (by omega))
    · rw [ownS_113, if_neg (fun z => hy n (by omega) (by omega) ⟨z.1, z.2.symm⟩), st2_n (by decide) (by decide)]
      exact i3 y (fun j a b => hy j a (by omega))
    · rw [ownS_110]
      split
      · rfl
      · rename_i c
        rw [st2_n (by decide) (by decide)]
        by_cases d : j = n
        · subst d; exact absurd ⟨hj, rfl⟩ c
        · exact i4 j j0 (by omega) hj
    · rw [ownS_113]
      split
      · rfl
      · rename_i c
        rw [st2_n (by decide) (by decide)]
        by_cases d : j = n
        · subst d; exact absurd ⟨hj, rfl⟩ c
        · exact i5 j j0 (by omega) hj
/-- the process's own stays; whose the values are too -/
theorem JJ.og3 (h : JJ T s p m f X) (hJ : JO T s' p) (mE : mEq s s') (e : ∀ a i, ownC p a i → s' a i = s a i) (hv : ∀ i, pl s p i → Vt s s' p (s 98 i) (s 99 i)) (ho : ∀ i, pl s p i → (s 99 i = 2 → s' 110 (s 98 i) = p) ∧ (s 99 i = 3 → s' 113 (s 98 i) = p)) : JJ T s' p m f X := by
  obtain ⟨-, hP⟩ := id h
  obtain ⟨h1, h2, h3, h4, h5, h6, h7⟩ := id hP
  have hA := h1.a
  obtain ⟨o1, o2, o3, o4⟩ := h1.c
  have c5 : ∀ x, 16 * p ≤ x → x < 16 * p + 16 → s' 95 x = s 95 x ∧ s' 96 x = s 96 x ∧ s' 97 x = s 97 x := fun x a b => ⟨e _ _ (by unfold ownC; omega), e _ _ (by unfold ownC; omega), e _ _ (by unfold ownC; omega)⟩
  have c8 : ∀ i, 416 * p ≤ i → i < 416 * p + 416 → s' 98 i = s 98 i ∧ s' 99 i = s 99 i := fun i a b => ⟨e _ _ (by unfold ownC; omega), e _ _ (by unfold ownC; omega)⟩
  have ch : ∀ b, 1 ≤ b → b ≤ 1024 → s' 100 (1025 * p + b) = s 100 (1025 * p + b) ∧ s' 302 (1025 * p + b) = s 302 (1025 * p + b) := fun b b0 b1 => ⟨e _ _ (by unfold ownC; omega), e _ _ (by unfold ownC; omega)⟩
  have ea : ai s' p = ai s p := ai_eq (e _ _ o1)
  refine ⟨hJ, hP.go mE (by rw [e _ _ o4]; exact h1.2.2.2.2.2) (e _ _ o1) (e _ _ o2) (e _ _ o3) (fun x x0 x1 => (c5 x x0 (by omega)).1) (fun x x0 x1 => ⟨(c5 x x0 (by omega)).2.1, (c5 x x0 (by omega)).2.2⟩) (fun i i0 i1 => c8 i i0 (by omega)) (fun i hi _ => hv i hi) ?_ h5 ?_ ?_⟩
  · exact h2.tr h1.2.2.2.1 ch (fun b i b0 b1 i0 i1 => ⟨e _ _ (by unfold ownC hx; omega), e _ _ (by unfold ownC hx; omega)⟩)
  · exact h6.tr (c5 _ hA.1 hA.2).2.2 (fun i i0 i1 => c8 i (by omega) (by omega)) h5.1 (fun i i0 i1 => hv i ⟨ai s p, i - 26 * ai s p, h1.a.1, Int.le_refl _, by omega, by rw [h6.1]; omega, by omega⟩)
  · have hpl : ∀ i, pl s' p i → pl s p i ∧ s' 98 i = s 98 i ∧ s' 99 i = s 99 i := fun i hi => by
      have := (pl_eq ea (fun x x0 x1 => (c5 x x0 (by omega)).2.2)).mp hi
      obtain ⟨x, k, a, b, c, d, rfl⟩ := id this
      have h16 := hP.h97 x a b
      exact ⟨this, (c8 _ (by omega) (by omega)).1, (c8 _ (by omega) (by omega)).2⟩
    refine ⟨fun i hi => ?_, fun i j hi hj hne => ?_⟩
    · obtain ⟨q1, q2, q3⟩ := hpl i hi
      rw [q2, q3]; exact ho i q1
    · obtain ⟨q1, q2, q3⟩ := hpl i hi
      obtain ⟨r1, r2, r3⟩ := hpl j hj
      rw [q2, q3, r2, r3]; exact h7.2 i j q1 r1 hne
theorem so_sp (h : JJ T s p m f X) (hhp : ∀ k, 0 ≤ k → k < nPar (T m) v → ¬ heapT (pTy (T m) v k)) (hpar : parT (T m) v X) (v0 : 0 ≤ v ∧ v < nFn (T m)) {np9 : Int} (h96 : s 96 (ai s p) = np9) (K : ∀ s', JJ T s' p m f (X.1 - nPar (T m) v, X.2.1, X.2.2) → ai s' p = ai s p → s' 96 (ai s p) = np9 → JO T s' (-1)) : JO T (spnS s p v (nPar (T m) v)) (-1) := by
  have hp := h.2.1.1
  have hS := h.mg.2.1.2.1
  have hN := h.mg.2.1.2.2.1
  obtain ⟨np0, np4, -⟩ := hS.2.2.2.2.2.2.2.2.2.2 v v0.1 v0.2
  have hpt := (hN.2.2 v v0.1 v0.2).1
  obtain ⟨pr1, pr2⟩ := hpar
  obtain ⟨A', hL'⟩ := h.mg.2.2 v v0.1 v0.2
  obtain ⟨Z', u1, u2⟩ := hL'.1.1
  obtain ⟨np, hnp⟩ : ∃ np, nPar (T m) v = np := ⟨_, rfl⟩
  rw [hnp] at np0 np4 hpt pr1 pr2 hhp K ⊢
  unfold spnS
  simp only []
  by_cases c12 : frP s = 12
  · rw [if_pos c12]; exact h.1.trp hp
  rw [if_neg c12]
  have hlt := frL_b (g := fun k => decide (s 89 k < 4)) 12 0
  have hlt : 0 ≤ frP s ∧ frP s ≤ 12 := hlt
  have hf := (frL_f (f := fun k => decide (s 89 k < 4)) 12 0 (by show frP s < _; omega)).2
  have hf : decide (s 89 (frP s) < 4) = false := hf
  obtain ⟨n, hn⟩ : ∃ n, frP s = n := ⟨_, rfl⟩
  rw [hn] at hlt c12 hf ⊢
  have hf := of_decide_eq_false hf
  obtain ⟨h1, h2, h3, h4, h5, h6, h7⟩ := id h.2
  have hnp' : n ≠ p := fun z => by subst z; exact hf h1.2.2.2.2.2
  have hA := h1.a
  have hh := h.2.hg_
  rw [h1.2.2.1]
  have efr : sk s p (hg s p - np) = 26 * ai s p + 10 + (X.1 - np) := by unfold sk; rw [hh]
  rw [efr]
  obtain ⟨fr, hfr⟩ : ∃ fr, 26 * ai s p + 10 + (X.1 - np) = fr := ⟨_, rfl⟩
  rw [hfr]
  have frb : 416 * p ≤ fr ∧ fr + np ≤ 416 * p + 416 := by omega
  have eNt : (np.toNat : Int) = np := Int.toNat_of_nonneg np0
  obtain ⟨g, hg⟩ : ∃ g, staS (pp s p np) n m v (s 92 p) = g := ⟨_, rfl⟩
  rw [hg]
  -- what staS does
  have pp94 : ∀ a i, ¬ (a = 97 ∧ i = ai s p) → pp s p np a i = s a i := fun a i z => if_neg z
  have G : ∀ a i, ¬ (ownC n a i) → ¬ (a = 97 ∧ i = ai s p) → g a i = s a i := fun a i z y => by
    rw [← hg]; unfold staS actS
    have e94 : (fun a i => if a = 89 ∧ i = n then 1 else if (a = 90 ∨ a = 93 ∨ a = 94 ∨ a = 108) ∧ i = n then 0 else if a = 91 ∧ i = n then m else if a = 92 ∧ i = n then s 92 p else if a = 100 ∧ 1025 * n < i ∧ i < 1025 * n + 1025 then 0 else pp s p np a i : HI) 94 n = 0 := by
      show (if _ then _ else _) = _; rw [if_neg (by omega), if_pos ⟨by omega, rfl⟩]
    rw [e94]
    unfold ownC at z
    rw [if_neg (by omega), if_neg (by omega), if_neg (by omega), if_neg (by omega), if_neg (by omega)]
    show (if _ then _ else _) = _
    rw [if_neg (by omega), if_neg (by omega), if_neg (by omega), if_neg (by omega), if_neg (by omega)]
    exact pp94 a i y
  have g97 : g 97 (ai s p) = X.1 - np := by
    rw [← hg]; unfold staS actS
    have e94 : (fun a i => if a = 89 ∧ i = n then 1 else if (a = 90 ∨ a = 93 ∨ a = 94 ∨ a = 108) ∧ i = n then 0 else if a = 91 ∧ i = n then m else if a = 92 ∧ i = n then s 92 p else if a = 100 ∧ 1025 * n < i ∧ i < 1025 * n + 1025 then 0 else pp s p np a i : HI) 94 n = 0 := by
      show (if _ then _ else _) = _; rw [if_neg (by omega), if_pos ⟨by omega, rfl⟩]
    rw [e94]
    rw [if_neg (by omega), if_neg (by omega), if_neg (by omega), if_neg (by omega), if_neg (by omega)]
    show (if _ then _ else _) = _
    rw [if_neg (by omega), if_neg (by omega), if_neg (by omega), if_neg (by omega), if_neg (by omega)]
    unfold pp; rw [upI_eq, hh]
  have GN : (g 89 n = 1 ∧ g 93 n = 0 ∧ g 94 n = 1 ∧ g 91 n = m ∧ g 92 n = s 92 p) ∧ (g 95 (16 * n) = v ∧ g 96 (16 * n) = 0 ∧ g 97 (16 * n) = 0) ∧ (∀ b, 1 ≤ b → b ≤ 1024 → g 100 (1025 * n + b) = 0) ∧ ∀ k, 0 ≤ k → k < 26 → g 98 (26 * (16 * n) + k) = 0 ∧ g 99 (26 * (16 * n) + k) = 4 := by
    rw [← hg]; unfold staS actS
    have e94 : (fun a i => if a = 89 ∧ i = n then 1 else if (a = 90 ∨ a = 93 ∨ a = 94 ∨ a = 108) ∧ i = n then 0 else if a = 91 ∧ i = n then m else if a = 92 ∧ i = n then s 92 p else if a = 100 ∧ 1025 * n < i ∧ i < 1025 * n + 1025 then 0 else pp s p np a i : HI) 94 n = 0 := by
      show (if _ then _ else _) = _; rw [if_neg (by omega), if_pos ⟨by omega, rfl⟩]
    rw [e94, Int.add_zero]
    refine ⟨⟨?_, ?_, ?_, ?_, ?_⟩, ⟨?_, ?_, ?_⟩, fun b b0 b1 => ?_, fun k k0 k1 => ⟨?_, ?_⟩⟩
    · rw [if_neg (by omega), if_neg (by omega), if_neg (by omega), if_neg (by omega), if_neg (by omega)]
      show (if _ then _ else _) = _
      rw [if_pos ⟨rfl, rfl⟩]
    · rw [if_neg (by omega), if_neg (by omega), if_neg (by omega), if_neg (by omega), if_neg (by omega)]
      show (if _ then _ else _) = _
      rw [if_neg (by omega), if_pos ⟨by omega, rfl⟩]
    · rw [if_neg (by omega), if_neg (by omega), if_neg (by omega), if_neg (by omega), if_pos ⟨rfl, rfl⟩]; rfl
    · rw [if_neg (by omega), if_neg (by omega), if_neg (by omega), if_neg (by omega), if_neg (by omega)]
      show (if _ then _ else _) = _
      rw [if_neg (by omega), if_neg (by omega), if_pos ⟨rfl, rfl⟩]
    · rw [if_neg (by omega), if_neg (by omega), if_neg (by omega), if_neg (by omega), if_neg (by omega)]
      show (if _ then _ else _) = _
      rw [if_neg (by omega), if_neg (by omega), if_neg (by omega), if_pos ⟨rfl, rfl⟩]
    · rw [if_pos ⟨rfl, rfl⟩]
    · rw [if_neg (by omega), if_pos ⟨by omega, rfl⟩]
    · rw [if_neg (by omega), if_pos ⟨by omega, rfl⟩]
    · rw [if_neg (by omega), if_neg (by omega), if_neg (by omega), if_neg (by omega), if_neg (by omega)]
      show (if _ then _ else _) = _
      rw [if_neg (by omega), if_neg (by omega), if_neg (by omega), if_neg (by omega), if_pos ⟨rfl, by omega, by omega⟩]
    · rw [if_neg (by omega), if_neg (by omega), if_pos ⟨rfl, by omega, by omega⟩]
    · rw [if_neg (by omega), if_neg (by omega), if_neg (by omega), if_pos ⟨rfl, by omega, by omega⟩]
  clear hg
  have d9 : fr + np.toNat ≤ 26 * (16 * n) ∨ 26 * (16 * n) + np.toNat ≤ fr := by omega
  obtain ⟨o1, o2, o3, o4, o5⟩ := hnd_o (s := g) (fr := fr) (i := 26 * (16 * n)) (n9 := n) np.toNat d9
  have o8 := fun x => hnd98 (s := g) (fr := fr) (i := 26 * (16 * n)) (n9 := n) np.toNat d9 x
  rw [eNt] at o2 o3 o4 o5
  simp only [eNt] at o8
  obtain ⟨y, hy⟩ : ∃ y, hndS g fr (26 * (16 * n)) n np.toNat = y := ⟨_, rfl⟩
  rw [hy] at o1 o2 o3 o4 o5 ⊢
  simp only [hy] at o8
  clear hy
  obtain ⟨r, hr⟩ : ∃ r, upI y 49 56 (if s 49 56 < n + 1 then n + 1 else s 49 56) = r := ⟨_, rfl⟩
  rw [hr]
  have gfr : ∀ j, 0 ≤ j → j < np → g 98 (fr + j) = s 98 (fr + j) ∧ g 99 (fr + j) = s 99 (fr + j) := fun j j0 j1 => ⟨G _ _ (by unfold ownC; omega) (by omega), G _ _ (by unfold ownC; omega) (by omega)⟩
  have r49 : ∀ i, i ≠ 56 → r 49 i = s 49 i := fun i z => by
    rw [← hr, upI_i z, o1 49 i (by decide) (by decide) (by decide) (by decide)]; exact G _ _ (by unfold ownC; omega) (by omega)
  have r56 : r 49 56 = if s 49 56 < n + 1 then n + 1 else s 49 56 := by
    rw [← hr, upI_eq]
  have rg : ∀ a i, a ≠ 49 → a ≠ 98 → a ≠ 99 → a ≠ 110 → a ≠ 113 → r a i = g a i := fun a i z1 z2 z3 z4 z5 => by rw [← hr, upI_a z1, o1 a i z2 z3 z4 z5]
  have rn : ∀ a i, ¬ ownC n a i → ¬ (a = 97 ∧ i = ai s p) → a ≠ 49 → a ≠ 110 → a ≠ 113 → r a i = s a i := fun a i z1 z2 z3 z4 z5 => by
    by_cases c : a = 98 ∨ a = 99
    · have hw : ¬ (26 * (16 * n) ≤ i ∧ i < 26 * (16 * n) + np) := by unfold ownC at z1; omega
      rw [← hr, upI_a z3]
      have := o8 i
      rw [if_neg hw, if_neg hw] at this
      rcases c with c | c
      · subst c; rw [this.1]; exact G _ _ z1 z2
      · subst c; rw [this.2]; exact G _ _ z1 z2
    · rw [rg a i z3 (by omega) (by omega) z4 z5]; exact G _ _ z1 z2
  have r98 : ∀ k, 0 ≤ k → k < 26 → r 98 (26 * (16 * n) + k) = (if k < np then s 98 (fr + k) else 0) ∧ r 99 (26 * (16 * n) + k) = (if k < np then s 99 (fr + k) else 4) := fun k k0 k1 => by
    have := o8 (26 * (16 * n) + k)
    rw [← hr, upI_a (by decide), upI_a (by decide), this.1, this.2]
    by_cases c : k < np
    · rw [if_pos (by omega), if_pos (by omega), if_pos (by omega), if_pos (by omega), show 26 * (16 * n) + k - 26 * (16 * n) = k by omega]
      exact gfr k k0 c
    · rw [if_neg (by omega), if_neg (by omega), if_neg (by omega), if_neg (by omega)]
      exact GN.2.2.2 k k0 k1
  have plf : ∀ j, 0 ≤ j → j < np → pl s p (fr + j) := fun j j0 j1 => ⟨ai s p, 10 + (X.1 - np) + j, hA.1, Int.le_refl _, by omega, by rw [h6.1]; omega, by omega⟩
  have own2 : ∀ z x, x ≠ p → s 110 z = x → r 110 z = x := fun z x z1 z2 => by
    rw [← hr, upI_a (by decide), o2 z (fun j j0 j1 w => ?_), G _ _ (by unfold ownC; omega) (by omega)]
    · exact z2
    · rw [(gfr j j0 j1).1, (gfr j j0 j1).2] at w
      have := (h7.1 _ (plf j j0 j1)).1 w.1
      rw [w.2] at this; omega
  have own3 : ∀ z x, x ≠ p → s 113 z = x → r 113 z = x := fun z x z1 z2 => by
    rw [← hr, upI_a (by decide), o3 z (fun j j0 j1 w => ?_), G _ _ (by unfold ownC; omega) (by omega)]
    · exact z2
    · rw [(gfr j j0 j1).1, (gfr j j0 j1).2] at w
      have := (h7.1 _ (plf j j0 j1)).2 w.1
      rw [w.2] at this; omega
  have mE : mEq s r := fun a i a1 a2 => rn a i (by unfold ownC; omega) (by omega) (by omega) (by omega) (by omega)
  have gl : ∀ a i, 109 ≤ a → a ≤ 118 → a ≠ 110 → a ≠ 113 → r a i = s a i := fun a i a1 a2 a3 a4 => rn a i (by unfold ownC; omega) (by omega) (by omega) a3 a4
  have no : ∀ x, opn r x ↔ opn s x := fun x => by unfold opn; rw [gl 112 x (by decide) (by decide) (by decide) (by decide)]
  obtain ⟨⟨g1, g2, g3, g4, g5, g6, g7, g8, g9⟩, q2, q3, q4⟩ := id h.1
  have VT : ∀ q' v w, w ≠ 1 → Vt s r q' v w := fun q' v w z => ⟨fun y => absurd y z, fun _ => gl _ _ (by decide) (by decide) (by decide) (by decide), fun _ => ⟨gl _ _ (by decide) (by decide) (by decide) (by decide), gl _ _ (by decide) (by decide) (by decide) (by decide)⟩⟩
  have r89 : r 89 n = 1 := (rg _ _ (by decide) (by decide) (by decide) (by decide) (by decide)).trans GN.1.1
  -- the new process
  have PN : PO T r n := by
    have ea : ai r n = 16 * n := by unfold ai; rw [rg _ _ (by decide) (by decide) (by decide) (by decide) (by decide), GN.1.2.2.1]; omega
    have r97 : r 97 (16 * n) = 0 := (rg _ _ (by decide) (by decide) (by decide) (by decide) (by decide)).trans GN.2.1.2.2
    refine ⟨m, ⟨⟨hlt.1, by omega⟩, by rw [rg _ _ (by decide) (by decide) (by decide) (by decide) (by decide), GN.1.2.2.1]; decide, (rg _ _ (by decide) (by decide) (by decide) (by decide) (by decide)).trans GN.1.2.2.2.1, h.mg.tr mE, by rw [rg _ _ (by decide) (by decide) (by decide) (by decide) (by decide), GN.1.2.2.2.2]; exact h1.2.2.2.2.1, by rw [r89]; decide⟩, fun b b0 b1 => ?_, fun x x0 x1 => by rw [ea] at x1; omega, ?_, ?_⟩
    · rw [rg 100 _ (by decide) (by decide) (by decide) (by decide) (by decide), GN.2.2.1 b b0 b1]
      exact ⟨by decide, fun z => absurd z (by decide)⟩
    · rw [ea]
      unfold ToI
      rw [rg 95 _ (by decide) (by decide) (by decide) (by decide) (by decide), rg 96 _ (by decide) (by decide) (by decide) (by decide) (by decide), GN.2.1.1, GN.2.1.2.1]
      refine ⟨v0, A', Z', hL', Int.le_refl _, u1, Frm.le (X := (0, fun _ => 0, ent (T m) v)) ⟨r97, fun k a b => ?_, fun k a b => ?_⟩ u2⟩
      · have b : k < 0 := b
        omega
      · show vOk T r n m _ _ (ent (T m) v k)
        obtain ⟨w1, w2⟩ := r98 k a (by omega)
        rw [w1, w2]
        unfold ent
        rw [hnp]
        by_cases c : k < np
        · rw [if_pos c, if_pos c, if_pos c]
          have hv := h6.2.1 (X.1 - np + k) (by omega) (by omega)
          rw [show 26 * ai s p + 10 + (X.1 - np + k) = fr + k by omega] at hv
          have hv := hv.le (pr2 k a c)
          have hk := hpt k a c
          have h0 : 0 ≤ pTy (T m) v k := hk.1.1
          have ek : kindM (pTy (T m) v k) = pTy (T m) v k % 8 := by unfold kindM; rw [if_neg (by omega)]
          have nh := hhp k a c
          have k9 : kindM (pTy (T m) v k) = 0 ∨ kindM (pTy (T m) v k) = 4 ∨ kindM (pTy (T m) v k) = 5 := by unfold heapT at nh; omega
          refine (hv.any_p k9).tr (VT _ _ _ ?_)
          rcases k9 with z | z | z
          · rw [(hv.k0 z).1]; decide
          · rw [(hv.k4 z).1]; decide
          · rw [(hv.k5 z).1]; decide
        · rw [if_neg c, if_neg c, if_neg c]; exact vOk.emp
    · have hpl : ∀ i, pl r n i → (r 99 i = 2 ∨ r 99 i = 3) → ∃ k, (0 ≤ k ∧ k < np) ∧ i = 26 * (16 * n) + k ∧ r 98 i = s 98 (fr + k) ∧ r 99 i = s 99 (fr + k) := by
        rintro i ⟨x, k, a, b, c, d, rfl⟩ z
        rw [ea] at b
        have ex : x = 16 * n := by omega
        subst ex
        rw [r97] at d
        obtain ⟨w1, w2⟩ := r98 k c (by omega)
        by_cases e : k < np
        · rw [if_pos e] at w1 w2
          exact ⟨k, ⟨c, e⟩, rfl, w1, w2⟩
        · rw [w2, if_neg e] at z; omega
      refine ⟨fun i hi => ⟨fun z => ?_, fun z => ?_⟩, fun i j hi hj hne z zz => ?_⟩
      · obtain ⟨k, ⟨k0, k1⟩, -, e1, e2⟩ := hpl i hi (Or.inl z)
        rw [e1, ← hr, upI_a (by decide), ← (gfr k k0 k1).1]
        exact o4 k k0 k1 (by rw [(gfr k k0 k1).2, ← e2]; exact z)
      · obtain ⟨k, ⟨k0, k1⟩, -, e1, e2⟩ := hpl i hi (Or.inr z)
        rw [e1, ← hr, upI_a (by decide), ← (gfr k k0 k1).1]
        exact o5 k k0 k1 (by rw [(gfr k k0 k1).2, ← e2]; exact z)
      · obtain ⟨k, ⟨k0, k1⟩, ei, e1, e2⟩ := hpl i hi z
        obtain ⟨l, ⟨l0, l1⟩, ej, e3, e4⟩ := hpl j hj (by rw [zz]; exact z)
        rw [e1, e3]
        exact h7.2 _ _ (plf k k0 k1) (plf l l0 l1) (by omega) (by rw [← e2]; exact z) (by rw [← e2, ← e4]; exact zz)
  have hJ : JO T r p := by
    refine ⟨⟨by rw [r49 _ (by decide)]; exact g1, by rw [r49 _ (by decide)]; exact g2, by rw [r49 _ (by decide)]; exact g3, by rw [r49 _ (by decide)]; exact g4, by rw [r56]; split <;> omega, fun q q0 q1 => ?_, fun b b0 b1 => by rw [gl 109 _ (by decide) (by decide) (by decide) (by decide)]; exact g7 b b0 b1, fun b j b0 b1 => by rw [gl 109 _ (by decide) (by decide) (by decide) (by decide), gl 111 _ (by decide) (by decide) (by decide) (by decide)]; exact g8 b j b0 b1, fun x x0 x1 => by rw [gl 112 _ (by decide) (by decide) (by decide) (by decide), gl 114 _ (by decide) (by decide) (by decide) (by decide)]; exact g9 x x0 x1⟩, fun x hx => ?_, fun x hx hx' => ?_, fun q q0 q1 q5 q6 => ?_⟩
    · rw [r49 52 (by decide), r56]
      by_cases c : q = n
      · subst c
        have e93 : r 93 q = 0 := (rg _ _ (by decide) (by decide) (by decide) (by decide) (by decide)).trans GN.1.2.1
        rw [r89, e93]
        refine ⟨by decide, fun _ => ⟨by decide, g3⟩, fun _ => ?_⟩
        split <;> omega
      · have := g6 q q0 q1
        rw [rn 89 _ (by unfold ownC; omega) (by omega) (by decide) (by decide) (by decide), rn 93 _ (by unfold ownC; omega) (by omega) (by decide) (by decide) (by decide)]
        refine ⟨this.1, this.2.1, fun z => ?_⟩
        have := this.2.2 z
        split <;> omega
    · have hy := (no x).mp hx
      have hy1 := hy.1
      exact (q2 x hy).tr mE (gl _ _ (by decide) (by decide) (by decide) (by decide)) (gl _ _ (by decide) (by decide) (by decide) (by decide)) (gl _ _ (by decide) (by decide) (by decide) (by decide)) (fun j _ => ⟨gl _ _ (by decide) (by decide) (by decide) (by decide), gl _ _ (by decide) (by decide) (by decide) (by decide), gl _ _ (by decide) (by decide) (by decide) (by decide)⟩) (fun z z1 z2 => ⟨gl _ _ (by decide) (by decide) (by decide) (by decide), own2 z _ (by omega) z1⟩) (fun z z1 z2 => ⟨gl _ _ (by decide) (by decide) (by decide) (by decide), gl _ _ (by decide) (by decide) (by decide) (by decide), own3 z _ (by omega) z1⟩)
    · have hy := (no x).mp hx
      have hy' := (no _).mp hx'
      obtain ⟨m1, c1, w1⟩ := q2 x hy
      obtain ⟨m2, c2, w2⟩ := q2 _ hy'
      exact (q3 x hy hy').tr (gl _ _ (by decide) (by decide) (by decide) (by decide)) (gl _ _ (by decide) (by decide) (by decide) (by decide)) (gl _ _ (by decide) (by decide) (by decide) (by decide)) (fun j _ => gl _ _ (by decide) (by decide) (by decide) (by decide)) (gl _ _ (by decide) (by decide) (by decide) (by decide)) (gl _ _ (by decide) (by decide) (by decide) (by decide)) (gl _ _ (by decide) (by decide) (by decide) (by decide)) (fun j _ => gl _ _ (by decide) (by decide) (by decide) (by decide)) w1.2.2.2.2.2.1.2 w2.2.2.2.2.2.1.2
    · by_cases c : q = n
      · subst c; exact PN
      · rw [rn 89 _ (by unfold ownC; omega) (by omega) (by decide) (by decide) (by decide)] at q6
        exact (q4 q q0 q1 q5 q6).tr2 (fun a i z => rn a i (by unfold ownC hx at z ⊢; omega) (by unfold ownC at z; omega) (by unfold ownC at z; omega) (by unfold ownC at z; omega) (by unfold ownC at z; omega)) mE (fun z z1 z2 => ⟨gl _ _ (by decide) (by decide) (by decide) (by decide), own2 z _ (by omega) z1⟩) (fun z z1 z2 => ⟨gl _ _ (by decide) (by decide) (by decide) (by decide), gl _ _ (by decide) (by decide) (by decide) (by decide), own3 z _ (by omega) z1⟩)
  have h9 := h.pp_ (n := np) np0 pr1
  have rp : ∀ a i, ownC p a i → r a i = pp s p np a i := fun a i z => by
    by_cases c : a = 97 ∧ i = ai s p
    · obtain ⟨rfl, rfl⟩ := c
      rw [rg _ _ (by decide) (by decide) (by decide) (by decide) (by decide), g97]
      unfold pp; rw [upI_eq, hh]
    · rw [pp94 a i c]
      exact rn a i (by unfold ownC hx at z ⊢; omega) c (by unfold ownC at z; omega) (by unfold ownC at z; omega) (by unfold ownC at z; omega)
  have ppg : ∀ a i, a ≠ 97 → pp s p np a i = s a i := fun a i z => ppz_n z
  have F : JJ T r p m f (X.1 - np, X.2.1, X.2.2) := by
    refine h9.og3 hJ (fun a i a1 a2 => by rw [ppg a i (by omega)]; exact mE a i a1 a2) rp (fun i hi => ⟨fun _ v0 v1 y => by rw [rp 100 _ (by unfold ownC; omega), rp 302 _ (by unfold ownC; omega)]; exact ⟨y, rfl⟩, fun _ => by rw [ppg _ _ (by decide)]; exact gl _ _ (by decide) (by decide) (by decide) (by decide), fun _ => by rw [ppg _ _ (by decide), ppg _ _ (by decide)]; exact ⟨gl _ _ (by decide) (by decide) (by decide) (by decide), gl _ _ (by decide) (by decide) (by decide) (by decide)⟩⟩) (fun i hi => ?_)
    have hi' := pp_pl np0 hi
    rw [pp_98, pp_99]
    have nfr : ∀ j, 0 ≤ j → j < np → i ≠ fr + j := fun j j0 j1 => by
      have := pp_np h.2 (n := np) (k := np - 1 - j) (by omega) (by omega) pr1 i hi
      unfold sk at this; rw [hh] at this; omega
    refine ⟨fun z => ?_, fun z => ?_⟩
    · rw [← hr, upI_a (by decide), o2 _ (fun j j0 j1 w => ?_), G _ _ (by unfold ownC; omega) (by omega)]
      · exact (h7.1 i hi').1 z
      · rw [(gfr j j0 j1).1, (gfr j j0 j1).2] at w
        exact h7.2 i _ hi' (plf j j0 j1) (nfr j j0 j1) (Or.inl z) (w.1.trans z.symm) w.2
    · rw [← hr, upI_a (by decide), o3 _ (fun j j0 j1 w => ?_), G _ _ (by unfold ownC; omega) (by omega)]
      · exact (h7.1 i hi').2 z
      · rw [(gfr j j0 j1).1, (gfr j j0 j1).2] at w
        exact h7.2 i _ hi' (plf j j0 j1) (nfr j j0 j1) (Or.inr z) (w.1.trans z.symm) w.2
  refine K r F (ai_eq ?_) ?_
  · rw [rp 94 p (by unfold ownC; omega), ppg _ _ (by decide)]
  · rw [rp 96 _ (by unfold ownC; omega), ppg _ _ (by decide)]; exact h96
end SK4
