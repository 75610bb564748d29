/-! BOOT: what a right manifest says of itself -/
section BG0
variable {S : Int → Option (Int → Int)} {G G' : HI} {B Bm b : Int → Int} {p m f k e j P K H n gc sd pl : Int} {s s' : Int × HI}
/-- a text of the shelf -/
def bO (S : Int → Option (Int → Int)) (m : Int) : Int → Int := (S m).getD (fun _ => 0)
theorem bO_y (h : S m = some b) : bO S m = b := by unfold bO; rw [h]; rfl
/-- the type of a parameter, and how many there are -/
def pt (S : Int → Option (Int → Int)) (G : HI) (p k : Int) : Int := pTy (bO S (G 77 p)) (G 78 p) k
def np (S : Int → Option (Int → Int)) (G : HI) (p : Int) : Int := nPar (bO S (G 77 p)) (G 78 p)
def Hd (S : Int → Option (Int → Int)) (G : HI) (p : Int) : Prop := ∃ b, S (G 77 p) = some b ∧ (0 ≤ G 78 p ∧ G 78 p < nFn b) ∧ btb b (G 78 p) ∧ 1 ≤ G 79 p ∧ G 79 p ≤ 64
def bef (P K p k : Int) : Prop := p < P ∨ (p = P ∧ k < K)
def Us (S : Int → Option (Int → Int)) (G : HI) (P K e j : Int) : Prop := ∃ p k, G 84 (2 * e + j) = 4 * p + k ∧ 0 ≤ p ∧ (0 ≤ k ∧ k < 4) ∧ bef P K p k ∧ k < np S G p ∧ G 80 (4 * p + k) = e ∧ pt S G p k ≠ 0 ∧ G 82 (2 * e + j) = 4 * G 77 p + whichM (pt S G p k) ∧ G 83 (2 * e + j) = sideM (pt S G p k)
def Tw (S : Int → Option (Int → Int)) (G : HI) (e : Int) : Prop := G 83 (2 * e) ≠ G 83 (2 * e + 1) ∧ (∃ b b', S (G 82 (2 * e) / 4) = some b ∧ S (G 82 (2 * e + 1) / 4) = some b' ∧ Alk b b' (G 82 (2 * e) % 4) (G 82 (2 * e + 1) % 4)) ∧ G 84 (2 * e) < G 84 (2 * e + 1)
def GI (S : Int → Option (Int → Int)) (G : HI) (H P K : Int) : Prop :=
  (∀ p, 0 ≤ p → p < H → Hd S G p) ∧ (∀ e j, 0 ≤ e → e < 8 → 0 ≤ j → j < G 81 e → Us S G P K e j) ∧
  (∀ p k, 0 ≤ p → 0 ≤ k → k < 4 → k < np S G p → bef P K p k → (pt S G p k = 0 → rng (G 80 (4 * p + k))) ∧ (pt S G p k ≠ 0 → (0 ≤ G 80 (4 * p + k) ∧ G 80 (4 * p + k) < 8) ∧ ∃ j, 0 ≤ j ∧ j < G 81 (G 80 (4 * p + k)) ∧ G 84 (2 * G 80 (4 * p + k) + j) = 4 * p + k)) ∧
  (0 ≤ G 200 0 ∧ (∀ c, 0 ≤ c → c < G 200 0 → (0 ≤ G 85 c ∧ G 85 c < 8) ∧ 0 < G 81 (G 85 c)) ∧ (∀ e, 0 ≤ e → e < 8 → 0 < G 81 e → ∃ c, 0 ≤ c ∧ c < G 200 0 ∧ G 85 c = e) ∧ ∀ c c', 0 ≤ c → c < c' → c' < G 200 0 → G 84 (2 * G 85 c) < G 84 (2 * G 85 c')) ∧
  (∀ e, 0 ≤ e → e < 8 → (0 ≤ G 81 e ∧ G 81 e ≤ 2) ∧ (G 81 e = 2 → Tw S G e))
theorem GI.pl_ (h : GI S G H P K) (e0 : 0 ≤ e ∧ e < 8) (j0 : 0 ≤ j) (j1 : j < G 81 e) (K4 : 0 ≤ K) : G 84 (2 * e + j) < 4 * P + K := by
  obtain ⟨p, k, h1, h2, h3, h4, -⟩ := h.2.1 e j e0.1 e0.2 j0 j1
  rw [h1]
  rcases h4 with h4 | h4 <;> omega
theorem bef_s : bef P (K + 1) p k ↔ bef P K p k ∨ (p = P ∧ k = K) := by unfold bef; omega
/-- a number -/
theorem GI.num {x : Int} (h : GI S G H P K) (K0 : 0 ≤ K ∧ K < 4) (hp : pt S G P K = 0) (hx : rng x) : GI S (upI G 80 (4 * P + K) x) H P (K + 1) := by
  have n : ∀ (a : Nat) i, a ≠ 80 → upI G 80 (4 * P + K) x a i = G a i := fun a i z => upI_a z
  have ept : ∀ p k, pt S (upI G 80 (4 * P + K) x) p k = pt S G p k := fun p k => by unfold pt; rw [n _ _ (by decide), n _ _ (by decide)]
  have enp : ∀ p, np S (upI G 80 (4 * P + K) x) p = np S G p := fun p => by unfold np; rw [n _ _ (by decide), n _ _ (by decide)]
  obtain ⟨h1, h2, h3, ⟨h4, h5, h6, h7⟩, h8⟩ := h
  refine ⟨fun p p0 p1 => ?_, fun e j e0 e1 j0 j1 => ?_, fun p k p0 k0 k4 k1 hb => ?_, ⟨by rw [n _ _ (by decide)]; exact h4, fun c c0 c1 => ?_, fun e e0 e1 he => ?_, fun c c' c0 c1 c2 => ?_⟩, fun e e0 e1 => ?_⟩
  · have := h1 p p0 p1
    unfold Hd at this ⊢
    rw [n 77 _ (by decide), n 78 _ (by decide), n 79 _ (by decide)]
    exact this
  · rw [n 81 _ (by decide)] at j1
    obtain ⟨p, k, y1, y2, y3, y4, y5, y6, y7, y8, y9⟩ := h2 e j e0 e1 j0 j1
    refine ⟨p, k, by rw [n 84 _ (by decide)]; exact y1, y2, y3, bef_s.mpr (Or.inl y4), by rw [enp]; exact y5, ?_, by rw [ept]; exact y7, by rw [n 82 _ (by decide), n 77 _ (by decide), ept]; exact y8, by rw [n 83 _ (by decide), ept]; exact y9⟩
    rw [upI_i (by unfold bef at y4; omega)]; exact y6
  · rw [enp] at k1
    rw [ept]
    rcases bef_s.mp hb with hb | ⟨rfl, rfl⟩
    · have hs : 4 * p + k ≠ 4 * P + K ∨ (p = P ∧ k = K) := by unfold bef at hb; omega
      by_cases z : 4 * p + k = 4 * P + K
      · rw [z, upI_eq]
        refine ⟨fun _ => hx, fun y => ?_⟩
        obtain ⟨rfl, rfl⟩ := hs.resolve_left (fun w => w z)
        exact absurd hp y
      · rw [upI_i z]
        obtain ⟨w1, w2⟩ := h3 p k p0 k0 k4 k1 hb
        refine ⟨w1, fun y => ?_⟩
        obtain ⟨u1, j, u2, u3, u4⟩ := w2 y
        exact ⟨u1, j, u2, by rw [n 81 _ (by decide)]; exact u3, by rw [n 84 _ (by decide)]; exact u4⟩
    · rw [upI_eq]
      exact ⟨fun _ => hx, fun y => absurd hp y⟩
  · rw [n 200 _ (by decide)] at c1
    rw [n 85 _ (by decide), n 81 _ (by decide)]
    exact h5 c c0 c1
  · rw [n 81 _ (by decide)] at he
    obtain ⟨c, u1, u2, u3⟩ := h6 e e0 e1 he
    exact ⟨c, u1, by rw [n 200 _ (by decide)]; exact u2, by rw [n 85 _ (by decide)]; exact u3⟩
  · rw [n 200 _ (by decide)] at c2
    rw [n 84 _ (by decide), n 84 _ (by decide), n 85 _ (by decide), n 85 _ (by decide)]
    exact h7 c c' c0 c1 c2
  · have := h8 e e0 e1
    unfold Tw at this ⊢
    rw [n 81 _ (by decide), n 82 _ (by decide), n 82 _ (by decide), n 83 _ (by decide), n 83 _ (by decide), n 84 _ (by decide), n 84 _ (by decide)]
    exact this
/-- an end -/
theorem GI.use (h : GI S G H P K) (P0 : 0 ≤ P) (K0 : 0 ≤ K ∧ K < 4) (hK : K < np S G P) (hp : pt S G P K ≠ 0) (e0 : 0 ≤ e ∧ e < 8) (hgc : gc = 4 * G 77 P + whichM (pt S G P K)) (hsd : sd = sideM (pt S G P K)) (hf : fitG S G e gc sd) : GI S (useG G e gc sd (4 * P + K)) H P (K + 1) := by
  obtain ⟨G', hG'⟩ : ∃ G', useG G e gc sd (4 * P + K) = G' := ⟨_, rfl⟩
  have hu : 0 ≤ G 81 e ∧ G 81 e < 2 := by
    rcases hf with hf | hf
    · omega
    · have := hf.1; omega
  have g81 : ∀ i, G' 81 i = if i = e then G 81 e + 1 else G 81 i := fun i => by
    rw [← hG']; unfold useG; rw [upI_a (by decide), upI_self, upI_a (by decide), upI_a (by decide), upI_a (by decide), ord_a (by decide) (by decide)]
  have g82 : ∀ i, G' 82 i = if i = 2 * e + G 81 e then gc else G 82 i := fun i => by
    rw [← hG']; unfold useG; rw [upI_a (by decide), upI_a (by decide), upI_a (by decide), upI_a (by decide), upI_self, ord_a (by decide) (by decide)]
  have g83 : ∀ i, G' 83 i = if i = 2 * e + G 81 e then sd else G 83 i := fun i => by
    rw [← hG']; unfold useG; rw [upI_a (by decide), upI_a (by decide), upI_a (by decide), upI_self, upI_a (by decide), ord_a (by decide) (by decide)]
  have g84 : ∀ i, G' 84 i = if i = 2 * e + G 81 e then 4 * P + K else G 84 i := fun i => by
    rw [← hG']; unfold useG; rw [upI_a (by decide), upI_a (by decide), upI_self, upI_a (by decide), upI_a (by decide), ord_a (by decide) (by decide)]
  have g80 : ∀ i, G' 80 i = if i = 4 * P + K then e else G 80 i := fun i => by
    rw [← hG']; unfold useG; rw [upI_self, upI_a (by decide), upI_a (by decide), upI_a (by decide), upI_a (by decide), ord_a (by decide) (by decide)]
  have g85 : ∀ i, G' 85 i = if G 81 e = 0 ∧ i = G 200 0 then e else G 85 i := fun i => by
    rw [← hG']; unfold useG ordG
    rw [upI_a (by decide), upI_a (by decide), upI_a (by decide), upI_a (by decide), upI_a (by decide)]
    by_cases z : G 81 e = 0
    · rw [if_pos z, upI_a (by decide), upI_self]
      by_cases y : i = G 200 0
      · rw [if_pos y, if_pos ⟨z, y⟩]
      · rw [if_neg y, if_neg (fun u => y u.2)]
    · rw [if_neg z, if_neg (fun u => z u.1)]
  have g20 : G' 200 0 = if G 81 e = 0 then G 200 0 + 1 else G 200 0 := by
    rw [← hG']; unfold useG ordG
    rw [upI_a (by decide), upI_a (by decide), upI_a (by decide), upI_a (by decide), upI_a (by decide)]
    split
    · rw [upI_eq]
    · rfl
  have glo : ∀ (a : Nat) i, a ≤ 79 → G' a i = G a i := fun a i z => by
    rw [← hG']; unfold useG
    rw [upI_a (by omega), upI_a (by omega), upI_a (by omega), upI_a (by omega), upI_a (by omega), ord_a (by omega) (by omega)]
  rw [hG']
  have ept : ∀ p k, pt S G' p k = pt S G p k := fun p k => by unfold pt; rw [glo _ _ (by decide), glo _ _ (by decide)]
  have enp : ∀ p, np S G' p = np S G p := fun p => by unfold np; rw [glo _ _ (by decide), glo _ _ (by decide)]
  have PL : ∀ e' j, 0 ≤ e' → e' < 8 → 0 ≤ j → j < G 81 e' → G 84 (2 * e' + j) < 4 * P + K := fun e' j z1 z2 z3 z4 => h.pl_ ⟨z1, z2⟩ z3 z4 (by omega)
  obtain ⟨h1, h2, h3, ⟨h4, h5, h6, h7⟩, h8⟩ := h
  -- an elder use stays
  have old : ∀ e' j, 0 ≤ e' → e' < 8 → 0 ≤ j → j < G 81 e' → 2 * e' + j ≠ 2 * e + G 81 e := fun e' j z1 z2 z3 z4 => by
    have := (h8 e' z1 z2).1
    by_cases y : e' = e
    · subst y; omega
    · omega
  refine ⟨fun p p0 p1 => ?_, fun e' j z0 z1 j0 j1 => ?_, fun p k p0 k0 k4 k1 hb => ?_, ⟨?_, fun c c0 c1 => ?_, fun e' z0 z1 he => ?_, fun c c' c0 c1 c2 => ?_⟩, fun e' z0 z1 => ?_⟩
  · have := h1 p p0 p1
    unfold Hd at this ⊢
    rw [glo 77 _ (by decide), glo 78 _ (by decide), glo 79 _ (by decide)]
    exact this
  · rw [g81] at j1
    by_cases y : e' = e ∧ j = G 81 e
    · obtain ⟨rfl, rfl⟩ := y
      refine ⟨P, K, by rw [g84, if_pos rfl], P0, K0, Or.inr ⟨rfl, by omega⟩, by rw [enp]; exact hK, by rw [g80, if_pos rfl], by rw [ept]; exact hp, by rw [g82, if_pos rfl, glo 77 _ (by decide), ept]; exact hgc, by rw [g83, if_pos rfl, ept]; exact hsd⟩
    · have j2 : j < G 81 e' := by
        by_cases w : e' = e
        · rw [if_pos w] at j1; rw [w]
          have : j ≠ G 81 e := fun u => y ⟨w, u⟩
          omega
        · rw [if_neg w] at j1; exact j1
      have ne := old e' j z0 z1 j0 j2
      obtain ⟨p, k, y1, y2, y3, y4, y5, y6, y7, y8, y9⟩ := h2 e' j z0 z1 j0 j2
      refine ⟨p, k, by rw [g84, if_neg ne]; exact y1, y2, y3, bef_s.mpr (Or.inl y4), by rw [enp]; exact y5, ?_, by rw [ept]; exact y7, by rw [g82, if_neg ne, glo 77 _ (by decide), ept]; exact y8, by rw [g83, if_neg ne, ept]; exact y9⟩
      rw [g80, if_neg (by unfold bef at y4; omega)]; exact y6
  · rw [enp] at k1
    rw [ept]
    have new : p = P ∧ k = K → (pt S G p k = 0 → rng (G' 80 (4 * p + k))) ∧ (pt S G p k ≠ 0 → (0 ≤ G' 80 (4 * p + k) ∧ G' 80 (4 * p + k) < 8) ∧ ∃ j, 0 ≤ j ∧ j < G' 81 (G' 80 (4 * p + k)) ∧ G' 84 (2 * G' 80 (4 * p + k) + j) = 4 * p + k) := by
      rintro ⟨rfl, rfl⟩
      rw [g80, if_pos rfl]
      refine ⟨fun y => absurd y hp, fun _ => ⟨e0, G 81 e, hu.1, ?_, ?_⟩⟩
      · rw [g81, if_pos rfl]; omega
      · rw [g84, if_pos rfl]
    rcases bef_s.mp hb with hb | hb
    · by_cases z : 4 * p + k = 4 * P + K
      · exact new (by unfold bef at hb; omega)
      · obtain ⟨w1, w2⟩ := h3 p k p0 k0 k4 k1 hb
        rw [g80, if_neg z]
        refine ⟨w1, fun y => ?_⟩
        obtain ⟨u1, j, u2, u3, u4⟩ := w2 y
        have ne := old _ j u1.1 u1.2 u2 u3
        refine ⟨u1, j, u2, ?_, by rw [g84, if_neg ne]; exact u4⟩
        rw [g81]
        by_cases w : G 80 (4 * p + k) = e
        · rw [if_pos w]; rw [w] at u3; omega
        · rw [if_neg w]; exact u3
    · exact new hb
  · rw [g20]; split <;> omega
  · rw [g20] at c1
    rw [g85, g81]
    by_cases z : G 81 e = 0 ∧ c = G 200 0
    · rw [if_pos z, if_pos rfl]; exact ⟨e0, by omega⟩
    · rw [if_neg z]
      have c2 : c < G 200 0 := by
        by_cases w : G 81 e = 0
        · rw [if_pos w] at c1
          have : c ≠ G 200 0 := fun u => z ⟨w, u⟩
          omega
        · rw [if_neg w] at c1; exact c1
      obtain ⟨w1, w2⟩ := h5 c c0 c2
      refine ⟨w1, ?_⟩
      by_cases y : G 85 c = e
      · rw [if_pos y]; omega
      · rw [if_neg y]; exact w2
  · rw [g81] at he
    by_cases y : e' = e
    · subst y
      by_cases z : G 81 e' = 0
      · exact ⟨G 200 0, h4, by rw [g20, if_pos z]; omega, by rw [g85, if_pos ⟨z, rfl⟩]⟩
      · obtain ⟨c, u1, u2, u3⟩ := h6 e' z0 z1 (by omega)
        exact ⟨c, u1, by rw [g20, if_neg z]; exact u2, by rw [g85, if_neg (fun u => z u.1)]; exact u3⟩
    · rw [if_neg y] at he
      obtain ⟨c, u1, u2, u3⟩ := h6 e' z0 z1 he
      exact ⟨c, u1, by rw [g20]; split <;> omega, by rw [g85, if_neg (by omega)]; exact u3⟩
  · rw [g20] at c2
    have key : ∀ c, 0 ≤ c → c < G 200 0 → G' 85 c = G 85 c ∧ G' 84 (2 * G 85 c) = G 84 (2 * G 85 c) := fun c x0 x1 => by
      obtain ⟨w1, w2⟩ := h5 c x0 x1
      have ne := old (G 85 c) 0 w1.1 w1.2 (Int.le_refl _) w2
      rw [Int.add_zero] at ne
      exact ⟨by rw [g85, if_neg (by omega)], by rw [g84, if_neg ne]⟩
    by_cases z : G 81 e = 0 ∧ c' = G 200 0
    · obtain ⟨w1, w2⟩ := key c c0 (by omega)
      obtain ⟨v1, v2⟩ := h5 c c0 (by omega)
      rw [g85 c', if_pos z, w1, w2, g84, if_pos (by omega)]
      have := PL (G 85 c) 0 v1.1 v1.2 (Int.le_refl _) v2
      rw [Int.add_zero] at this
      exact this
    · have c3 : c' < G 200 0 := by
        by_cases w : G 81 e = 0
        · rw [if_pos w] at c2
          have : c' ≠ G 200 0 := fun u => z ⟨w, u⟩
          omega
        · rw [if_neg w] at c2; exact c2
      obtain ⟨w1, w2⟩ := key c c0 (by omega)
      obtain ⟨v1, v2⟩ := key c' (by omega) c3
      rw [w1, v1, w2, v2]
      exact h7 c c' c0 c1 c3
  · rw [g81]
    by_cases y : e' = e
    · subst y
      rw [if_pos rfl]
      refine ⟨by omega, fun z2 => ?_⟩
      have u1 : G 81 e' = 1 := by omega
      obtain ⟨-, f2, b, b', f3, f4, f5⟩ := hf.resolve_left (by omega)
      unfold Tw
      rw [g82, if_neg (by omega), g82, if_pos (by omega), g83, if_neg (by omega), g83, if_pos (by omega), g84, if_neg (by omega), g84, if_pos (by omega)]
      refine ⟨f2, ⟨b, b', f3, f4, f5⟩, ?_⟩
      have := PL e' 0 z0 z1 (Int.le_refl _) (by omega)
      rw [Int.add_zero] at this
      exact this
    · rw [if_neg y]
      obtain ⟨w1, w2⟩ := h8 e' z0 z1
      refine ⟨w1, fun z2 => ?_⟩
      have := w2 z2
      unfold Tw at this ⊢
      rw [g82, if_neg (by omega), g82, if_neg (by omega), g83, if_neg (by omega), g83, if_neg (by omega), g84, if_neg (by omega), g84, if_neg (by omega)]
      exact this
end BG0
