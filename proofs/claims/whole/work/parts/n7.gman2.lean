/-! BOOT: a right manifest, whole -/
section BG1
variable {S : Int → Option (Int → Int)} {G G' : HI} {B Bm b : Int → Int} {p m f k e j P K H n gc sd pl : Int} {s s' : Int × HI}
theorem np_b (hS : ∀ m b, S m = some b → Sh b) (h : Hd S G p) : 0 ≤ np S G p ∧ np S G p ≤ 4 := by
  obtain ⟨b, h1, h2, -⟩ := h
  obtain ⟨n1, n2, -⟩ := (hS _ b h1).2.2.2.2.2.2.2.2.2.2 _ h2.1 h2.2
  unfold np
  rw [bO_y h1]
  exact ⟨n1, n2⟩
/-- the next process -/
theorem GI.hd {x y z : Int} (h : GI S G P P 0) (hH : ∃ b, S x = some b ∧ (0 ≤ y ∧ y < nFn b) ∧ btb b y ∧ 1 ≤ z ∧ z ≤ 64) : GI S (upI (upI (upI G 77 P x) 78 P y) 79 P z) (P + 1) P 0 := by
  obtain ⟨G', hG'⟩ : ∃ G', upI (upI (upI G 77 P x) 78 P y) 79 P z = G' := ⟨_, rfl⟩
  have n : ∀ (a : Nat) i, 80 ≤ a ∨ i ≠ P → G' a i = G a i := fun a i w => by rw [← hG', upI_ne (by omega), upI_ne (by omega), upI_ne (by omega)]
  have e7 : G' 77 P = x := by rw [← hG', upI_a (by decide), upI_a (by decide), upI_eq]
  have e8 : G' 78 P = y := by rw [← hG', upI_a (by decide), upI_eq]
  have e9 : G' 79 P = z := by rw [← hG', upI_eq]
  rw [hG']
  have ept : ∀ p k, p ≠ P → pt S G' p k = pt S G p k := fun p k w => by unfold pt; rw [n _ _ (Or.inr w), n _ _ (Or.inr w)]
  have enp : ∀ p, p ≠ P → np S G' p = np S G p := fun p w => by unfold np; rw [n _ _ (Or.inr w), n _ _ (Or.inr w)]
  obtain ⟨h1, h2, h3, ⟨h4, h5, h6, h7⟩, h8⟩ := h
  refine ⟨fun p p0 p1 => ?_, fun e j e0 e1 j0 j1 => ?_, fun p k p0 k0 k4 k1 hb => ?_, ⟨by rw [n _ _ (by omega)]; exact h4, fun c c0 c1 => ?_, fun e e0 e1 he => ?_, fun c c' c0 c1 c2 => ?_⟩, fun e e0 e1 => ?_⟩
  · by_cases w : p = P
    · subst w
      unfold Hd
      rw [e7, e8, e9]; exact hH
    · have := h1 p p0 (by omega)
      unfold Hd at this ⊢
      rw [n _ _ (Or.inr w), n _ _ (Or.inr w), n _ _ (Or.inr w)]
      exact this
  · rw [n 81 _ (by omega)] at j1
    obtain ⟨p, k, y1, y2, y3, y4, y5, y6, y7, y8, y9⟩ := h2 e j e0 e1 j0 j1
    have w : p ≠ P := by unfold bef at y4; omega
    exact ⟨p, k, by rw [n _ _ (by omega)]; exact y1, y2, y3, y4, by rw [enp p w]; exact y5, by rw [n _ _ (by omega)]; exact y6, by rw [ept p k w]; exact y7, by rw [n _ _ (by omega), n _ _ (Or.inr w), ept p k w]; exact y8, by rw [n _ _ (by omega), ept p k w]; exact y9⟩
  · have w : p ≠ P := by unfold bef at hb; omega
    rw [enp p w] at k1
    rw [ept p k w, n 80 _ (by omega)]
    obtain ⟨w1, w2⟩ := h3 p k p0 k0 k4 k1 hb
    refine ⟨w1, fun y => ?_⟩
    obtain ⟨u1, j, u2, u3, u4⟩ := w2 y
    exact ⟨u1, j, u2, by rw [n _ _ (by omega)]; exact u3, by rw [n _ _ (by omega)]; exact u4⟩
  · rw [n _ _ (by omega)] at c1
    rw [n _ _ (by omega), n _ _ (by omega)]; exact h5 c c0 c1
  · rw [n _ _ (by omega)] at he
    obtain ⟨c, u1, u2, u3⟩ := h6 e e0 e1 he
    exact ⟨c, u1, by rw [n _ _ (by omega)]; exact u2, by rw [n _ _ (by omega)]; exact u3⟩
  · rw [n _ _ (by omega)] at c2
    rw [n 85 _ (by omega), n 85 _ (by omega), n 84 _ (by omega), n 84 _ (by omega)]; exact h7 c c' c0 c1 c2
  · have := h8 e e0 e1
    unfold Tw at this ⊢
    rw [n 81 _ (by omega), n 82 _ (by omega), n 82 _ (by omega), n 83 _ (by omega), n 83 _ (by omega), n 84 _ (by omega), n 84 _ (by omega)]
    exact this
theorem GI.nx (h : GI S G (P + 1) P (np S G P)) : GI S G (P + 1) (P + 1) 0 := by
  obtain ⟨h1, h2, h3, h4, h8⟩ := h
  refine ⟨h1, fun e j e0 e1 j0 j1 => ?_, fun p k p0 k0 k4 k1 hb => h3 p k p0 k0 k4 k1 ?_, h4, h8⟩
  · obtain ⟨p, k, y1, y2, y3, y4, y5⟩ := h2 e j e0 e1 j0 j1
    exact ⟨p, k, y1, y2, y3, by unfold bef at y4 ⊢; omega, y5⟩
  · unfold bef at hb ⊢
    by_cases w : p = P
    · subst w; exact Or.inr ⟨rfl, k1⟩
    · left; omega
theorem lpX_i {f : Int → Int × HI → Mx} (I : Int → Int × HI → Prop) : ∀ (n : Nat) (k : Int) (s s' : Int × HI), lpX f n k s = .ok s' → I k s → (∀ j t t', k ≤ j → j < k + n → I j t → f j t = .ok t' → I (j + 1) t') → I (k + n) s'
  | 0, k, s, s', h, hI, _ => by
    cases h
    rw [show k + ((0 : Nat) : Int) = k by omega]; exact hI
  | n + 1, k, s, s', h, hI, st => by
    unfold lpX at h
    cases hf : f k s with
    | error e => rw [hf] at h; cases h
    | ok t =>
      rw [hf] at h
      have := lpX_i I n (k + 1) t s' h (st k s t (Int.le_refl _) (by omega) hI hf) (fun j t t' j0 j1 hj hf => st j t t' (by omega) (by omega) hj hf)
      rw [show k + 1 + (n : Int) = k + ((n + 1 : Nat) : Int) by omega] at this
      exact this
/-- one parameter -/
theorem prm_GI (h : GI S s.2 (P + 1) P K) (P0 : 0 ≤ P) (K0 : 0 ≤ K ∧ K < 4) (hK : K < np S s.2 P) (hS : S m = some Bm) (em : s.2 77 P = m) (ef : s.2 78 P = f) (hp : prmP S B Bm P m f K s = .ok s') : GI S s'.2 (P + 1) P (K + 1) ∧ ∀ a i, a ≤ 79 → s'.2 a i = s.2 a i := by
  have hg := (prm_g hp).1
  have ept : pt S s.2 P K = pTy Bm f K := by unfold pt; rw [em, ef, bO_y hS]
  refine ⟨?_, hg⟩
  unfold prmP at hp
  split at hp
  · rename_i z
    split at hp
    · cases hp
    · split at hp
      · cases hp
      · split at hp
        · cases hp
        · split at hp
          · cases hp
          · cases hp
            exact h.num K0 (ept.trans z) fOr_rng
  · rename_i z
    split at hp
    · cases hp
    · rename_i z2
      have z2 := Classical.not_not.mp z2
      by_cases c : fitG S s.2 (B s.1) (4 * m + whichM (pTy Bm f K)) (sideM (pTy Bm f K))
      · rw [cif_y c] at hp
        cases hp
        exact h.use P0 K0 hK (by rw [ept]; exact z) ⟨z2.1, by omega⟩ (by rw [em, ept]) (by rw [ept]) c
      · rw [cif_n c] at hp; cases hp
theorem prc_GI (hSh : ∀ m b, S m = some b → Sh b) (h : GI S s.2 P P 0) (P0 : 0 ≤ P) (hp : prcP S B P s = .ok s') : GI S s'.2 (P + 1) (P + 1) 0 := by
  unfold prcP at hp
  split at hp
  · cases hp
  · cases hS : S (B s.1) with
    | none => rw [hS] at hp; cases hp
    | some Bm =>
      rw [hS] at hp
      simp only [] at hp
      split at hp
      · cases hp
      · rename_i z1
        by_cases c : B (s.1 + 1) < nFn Bm ∧ btb Bm (B (s.1 + 1))
        · rw [cif_y c] at hp
          split at hp
          · rename_i z3
            have G1 := h.hd (x := B s.1) (y := B (s.1 + 1)) (z := B (s.1 + 2)) ⟨Bm, hS, ⟨by omega, c.1⟩, c.2, z3⟩
            obtain ⟨g, hg⟩ : ∃ g, upI (upI (upI s.2 77 P (B s.1)) 78 P (B (s.1 + 1))) 79 P (B (s.1 + 2)) = g := ⟨_, rfl⟩
            rw [hg] at G1 hp
            have e7 : g 77 P = B s.1 := by rw [← hg, upI_a (by decide), upI_a (by decide), upI_eq]
            have e8 : g 78 P = B (s.1 + 1) := by rw [← hg, upI_a (by decide), upI_eq]
            obtain ⟨n1, n2, -⟩ := (hSh _ _ hS).2.2.2.2.2.2.2.2.2.2 _ (show 0 ≤ B (s.1 + 1) by omega) c.1
            have en : ∀ (t : Int × HI), (∀ a i, a ≤ 79 → t.2 a i = g a i) → np S t.2 P = nPar Bm (B (s.1 + 1)) := fun t ht => by
              unfold np; rw [ht 77 _ (by decide), ht 78 _ (by decide), e7, e8, bO_y hS]
            have R := lpX_i (fun k t => GI S t.2 (P + 1) P k ∧ ∀ a i, a ≤ 79 → t.2 a i = g a i) _ 0 _ _ hp ⟨G1, fun _ _ _ => rfl⟩ (fun j t t' j0 j1 hj hf => by
              obtain ⟨w1, w2⟩ := hj
              obtain ⟨u1, u2⟩ := prm_GI w1 P0 (by omega) (by rw [en t w2]; omega) hS ((w2 77 P (by decide)).trans e7) ((w2 78 P (by decide)).trans e8) hf
              exact ⟨u1, fun a i z => (u2 a i z).trans (w2 a i z)⟩)
            obtain ⟨w1, w2⟩ := R
            rw [Int.zero_add, Int.toNat_of_nonneg n1, ← en s' w2] at w1
            exact w1.nx
          · cases hp
        · rw [cif_n c] at hp; cases hp
/-- all of it -/
theorem man_GI {q : Int} (hSh : ∀ m b, S m = some b → Sh b) (h : manP S B n = .ok (q, G)) : (1 ≤ B 2 ∧ B 2 ≤ 6) ∧ GI S G (B 2) (B 2) 0 ∧ ∀ e, 0 ≤ e → e < 8 → G 81 e ≠ 1 := by
  unfold manP at h
  split at h
  · cases h
  · split at h
    · cases h
    · split at h
      · cases h
      · rename_i z
        have z := Classical.not_not.mp z
        refine ⟨z, ?_⟩
        cases hl : lpX (prcP S B) (B 2).toNat 0 (3, fun _ _ => 0) with
        | error e => rw [hl] at h; cases h
        | ok t =>
          rw [hl] at h
          have h : (if t.1 < n then Except.error (1, t.1) else cif (∃ e, 0 ≤ e ∧ e < 8 ∧ t.2 81 e = 1) (.error (6, t.1)) (.ok t)) = (.ok (q, G) : Mx) := h
          have R := lpX_i (fun k t => GI S t.2 k k 0) _ 0 _ _ hl ⟨fun p p0 p1 => by exfalso; omega, fun e j _ _ j0 j1 => by exfalso; have : j < 0 := j1; omega, fun p k p0 _ _ _ hb => by exfalso; unfold bef at hb; omega, ⟨Int.le_refl _, fun c c0 c1 => by exfalso; have : c < 0 := c1; omega, fun e _ _ he => absurd he (by show ¬ (0 < (0 : Int)); decide), fun c c' c0 c1 c2 => by exfalso; have : c' < 0 := c2; omega⟩, fun e _ _ => ⟨⟨Int.le_refl _, by show (0 : Int) ≤ 2; decide⟩, fun z => absurd z (by show ¬ ((0 : Int) = 2); decide)⟩⟩ (fun j t t' j0 j1 hj hf => prc_GI hSh hj j0 hf)
          rw [Int.zero_add, Int.toNat_of_nonneg (by omega)] at R
          split at h
          · cases h
          · by_cases c : ∃ e, 0 ≤ e ∧ e < 8 ∧ t.2 81 e = 1
            · rw [cif_y c] at h; cases h
            · rw [cif_n c] at h
              cases h
              exact ⟨R, fun e e0 e1 y => c ⟨e, e0, e1, y⟩⟩
end BG1
