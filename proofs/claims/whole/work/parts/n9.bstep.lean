/-! BOOT: its state, place by place -/
section BD2
variable {S : Int → Option (Int → Int)} {G s0 s s' : HI} {p m f k e j x c c' c1 H kn v w i n P K sd ct : Int}
def GF (S : Int → Option (Int → Int)) (G : HI) (n : Int) : Prop := (GI S G n n 0 ∧ ∀ e, 0 ≤ e → e < 8 → G 81 e ≠ 1) ∧ (∀ m b, S m = some b → Sh b) ∧ GV S G ∧ G 200 0 ≤ 8
/-- the channels that are there at place x -/
def CC (G : HI) (x c : Int) : Prop := (0 ≤ c ∧ c ≤ G 200 0) ∧ (∀ c', 0 ≤ c' → c' < c → G 84 (2 * G 85 c') < x) ∧ ∀ c', c ≤ c' → c' < G 200 0 → x ≤ G 84 (2 * G 85 c')
theorem GF.np4 (h : GF S G n) (p0 : 0 ≤ p ∧ p < n) : 0 ≤ np S G p ∧ np S G p ≤ 4 := np_b h.2.1 (h.1.1.1 p p0.1 p0.2)
/-- an end of the manifest has two uses -/
theorem GF.two (h : GF S G n) (e0 : 0 ≤ e ∧ e < 8) (hu : 0 < G 81 e) : G 81 e = 2 ∧ Tw S G e := by
  obtain ⟨w1, w2⟩ := h.1.1.2.2.2.2 e e0.1 e0.2
  have := h.1.2 e e0.1 e0.2
  have z : G 81 e = 2 := by omega
  exact ⟨z, w2 z⟩
theorem GF.ch (h : GF S G n) (c0 : 0 ≤ c ∧ c < G 200 0) : (0 ≤ G 85 c ∧ G 85 c < 8) ∧ G 81 (G 85 c) = 2 ∧ Tw S G (G 85 c) := by
  obtain ⟨w1, w2⟩ := h.1.1.2.2.2.1.2.1 c c0.1 c0.2
  exact ⟨w1, h.two w1 w2⟩
/-- a use, and its place -/
theorem GF.us (h : GF S G n) (e0 : 0 ≤ e ∧ e < 8) (hu : 0 < G 81 e) (j0 : 0 ≤ j ∧ j < 2) : ∃ p k, G 84 (2 * e + j) = 4 * p + k ∧ (0 ≤ p ∧ p < n) ∧ (0 ≤ k ∧ k < np S G p) ∧ np S G p ≤ 4 ∧ G 80 (4 * p + k) = e ∧ pt S G p k ≠ 0 ∧ G 82 (2 * e + j) = 4 * G 77 p + whichM (pt S G p k) ∧ G 83 (2 * e + j) = sideM (pt S G p k) := by
  obtain ⟨p, k, y1, y2, y3, y4, y5, y6, y7, y8, y9⟩ := h.1.1.2.1 e j e0.1 e0.2 j0.1 (by rw [(h.two e0 hu).1]; exact j0.2)
  have y4 : p < n := by unfold bef at y4; omega
  exact ⟨p, k, y1, ⟨y2, y4⟩, ⟨y3.1, y5⟩, (h.np4 ⟨y2, y4⟩).2, y6, y7, y8, y9⟩
/-- .. is that of one parameter -/
theorem GF.pl (h : GF S G n) (e0 : 0 ≤ e ∧ e < 8) (hu : 0 < G 81 e) (j0 : 0 ≤ j ∧ j < 2) (P0 : 0 ≤ P ∧ P < n) (K0 : 0 ≤ K ∧ K < 4) (hx : G 84 (2 * e + j) = 4 * P + K) : K < np S G P ∧ G 80 (4 * P + K) = e ∧ pt S G P K ≠ 0 ∧ G 82 (2 * e + j) = 4 * G 77 P + whichM (pt S G P K) ∧ G 83 (2 * e + j) = sideM (pt S G P K) := by
  obtain ⟨p, k, y1, y2, y3, y4, y5⟩ := h.us e0 hu j0
  have e1 : p = P := by omega
  have e2 : k = K := by omega
  subst e1; subst e2
  exact ⟨y3.2, y5⟩
theorem GF.sdd (h : GF S G n) (e0 : 0 ≤ e ∧ e < 8) (hu : 0 < G 81 e) : (0 ≤ G 83 (2 * e) ∧ G 83 (2 * e) ≤ 1) ∧ (0 ≤ G 83 (2 * e + 1) ∧ G 83 (2 * e + 1) ≤ 1) ∧ G 83 (2 * e) ≠ G 83 (2 * e + 1) := by
  obtain ⟨w1, w2⟩ := h.two e0 hu
  have v0 := (h.2.2.1 e 0 e0.1 e0.2 (by omega) (by omega)).1
  rw [Int.add_zero] at v0
  exact ⟨v0, (h.2.2.1 e 1 e0.1 e0.2 (by omega) (by omega)).1, w2.1⟩
/-- the number of the channel -/
theorem GF.cx (h : GF S G n) (c0 : 0 ≤ c ∧ c < G 200 0) (he : G 85 c = e) : cix G e = c := by
  have := h.2.2.2
  subst he
  refine frL_l 8 0 c c0.1 (by omega) (decide_eq_false (fun z => z rfl)) (fun j j0 j1 => decide_eq_true (fun z => ?_))
  have := h.1.1.2.2.2.1.2.2.2 j c j0 j1 c0.2
  rw [z] at this
  omega
theorem CC.eq (h : GF S G n) (hc : CC G x c) (c1 : 0 ≤ c' ∧ c' < G 200 0) : G 84 (2 * G 85 c') < x ↔ c' < c := by
  constructor
  · intro z
    apply Classical.byContradiction
    intro y
    have := hc.2.2 c' (by omega) c1.2
    omega
  · intro z; exact hc.2.1 c' c1.1 z
/-- what a parameter that tells an end is -/
theorem GF.use (h : GF S G n) (P0 : 0 ≤ P ∧ P < n) (K0 : 0 ≤ K ∧ K < np S G P) (hp : pt S G P K ≠ 0) (hc : CC G (4 * P + K) c) : ∃ e, G 80 (4 * P + K) = e ∧ (0 ≤ e ∧ e < 8) ∧ G 81 e = 2 ∧ Tw S G e ∧ ((G 84 (2 * e) = 4 * P + K ∧ c < G 200 0 ∧ G 85 c = e ∧ G 82 (2 * e) = 4 * G 77 P + whichM (pt S G P K) ∧ G 83 (2 * e) = sideM (pt S G P K) ∧ CC G (4 * P + K + 1) (c + 1)) ∨ ∃ c1, (0 ≤ c1 ∧ c1 < c) ∧ G 85 c1 = e ∧ G 84 (2 * e + 1) = 4 * P + K ∧ G 82 (2 * e + 1) = 4 * G 77 P + whichM (pt S G P K) ∧ G 83 (2 * e + 1) = sideM (pt S G P K) ∧ CC G (4 * P + K + 1) c) := by
  have K4 := (h.np4 P0).2
  obtain ⟨e0, j, j0, j1, ej⟩ := (h.1.1.2.2.1 P K P0.1 K0.1 (by omega) K0.2 (Or.inl P0.2)).2 hp
  obtain ⟨e, he⟩ : ∃ e, G 80 (4 * P + K) = e := ⟨_, rfl⟩
  rw [he] at e0 j1 ej
  obtain ⟨w1, w2⟩ := h.two e0 (by omega)
  have j2 : j = 0 ∨ j = 1 := by omega
  obtain ⟨c1, u1, u2, u3⟩ := h.1.1.2.2.2.1.2.2.1 e e0.1 e0.2 (by omega)
  have uq : ∀ c', 0 ≤ c' → c' < G 200 0 → G 84 (2 * G 85 c') = 4 * P + K → G 85 c' = e := fun c' z0 z1 z => by
    obtain ⟨y1, y2, y3⟩ := h.ch ⟨z0, z1⟩
    have := h.pl (j := 0) y1 (by omega) (by omega) P0 ⟨K0.1, by omega⟩ (by rw [Int.add_zero]; exact z)
    exact this.2.1.symm.trans he
  refine ⟨e, he, e0, w1, w2, ?_⟩
  rcases j2 with rfl | rfl
  · rw [Int.add_zero] at ej
    obtain ⟨y1, y2, y3, y4, y5⟩ := h.pl (j := 0) e0 (by omega) (by omega) P0 ⟨K0.1, by omega⟩ (by rw [Int.add_zero]; exact ej)
    rw [Int.add_zero] at y4 y5
    have c1c : ¬ c1 < c := fun z => by
      have := hc.2.1 c1 u1 z
      rw [u3] at this; omega
    have cc1 : ¬ c < c1 := fun z => by
      have q1 := h.1.1.2.2.2.1.2.2.2 c c1 hc.1.1 z u2
      have q2 := hc.2.2 c (Int.le_refl _) (by omega)
      rw [u3] at q1; omega
    have ec : c1 = c := by omega
    subst ec
    refine Or.inl ⟨ej, u2, u3, y4, y5, ⟨by omega, by omega⟩, fun c' z0 z1 => ?_, fun c' z0 z1 => ?_⟩
    · by_cases z : c' = c1
      · subst z; rw [u3]; omega
      · have := hc.2.1 c' z0 (by omega); omega
    · have q1 := h.1.1.2.2.2.1.2.2.2 c1 c' u1 (by omega) z1
      rw [u3] at q1; omega
  · obtain ⟨y1, y2, y3, y4, y5⟩ := h.pl e0 (by omega) (by omega) P0 ⟨K0.1, by omega⟩ ej
    have t3 := w2.2.2
    have c1c : c1 < c := (hc.eq h ⟨u1, u2⟩).mp (by rw [u3]; omega)
    refine Or.inr ⟨c1, ⟨u1, c1c⟩, u3, ej, y4, y5, hc.1, fun c' z0 z1 => ?_, fun c' z0 z1 => ?_⟩
    · have := hc.2.1 c' z0 z1; omega
    · have q := hc.2.2 c' z0 z1
      by_cases z : G 84 (2 * G 85 c') = 4 * P + K
      · have := uq c' (by have := hc.1.1; omega) z1 z
        rw [this] at z; omega
      · omega
/-- a place with no end -/
theorem GF.nu (h : GF S G n) (P0 : 0 ≤ P ∧ P < n) (K0 : 0 ≤ K ∧ K < 4) (hp : K < np S G P → pt S G P K = 0) (c0 : 0 ≤ c ∧ c < G 200 0) (j0 : j = 0 ∨ j = 1) : G 84 (2 * G 85 c + j) ≠ 4 * P + K := fun z => by
  obtain ⟨y1, y2, y3⟩ := h.ch c0
  obtain ⟨w1, w2, w3, -⟩ := h.pl (j := j) y1 (by omega) (by omega) P0 K0 z
  exact w3 (hp w1)
theorem CC.nu (hc : CC G (4 * P + K) c) (h : GF S G n) (P0 : 0 ≤ P ∧ P < n) (K0 : 0 ≤ K ∧ K < 4) (hp : K < np S G P → pt S G P K = 0) : CC G (4 * P + K + 1) c := by
  refine ⟨hc.1, fun c' z0 z1 => ?_, fun c' z0 z1 => ?_⟩
  · have := hc.2.1 c' z0 z1; omega
  · have q := hc.2.2 c' z0 z1
    have := h.nu P0 K0 hp (c := c') (j := 0) ⟨by have := hc.1.1; omega, z1⟩ (Or.inl rfl)
    rw [Int.add_zero] at this
    omega
theorem GF.us1 (h : GF S G n) (hx : ∀ c1, 0 ≤ c1 → c1 < c → G 84 (2 * G 85 c1 + 1) ≠ x) (i0 : 0 ≤ i ∧ i < 2 * c) : uS G (x + 1) i = uS G x i := by
  unfold uS
  have := hx (i / 2) (by omega) (by omega)
  by_cases z : G 84 (2 * G 85 (i / 2) + 1) < x
  · by_cases y : G 83 (2 * G 85 (i / 2) + 1) = i % 2
    · rw [if_pos ⟨by omega, y⟩, if_pos ⟨z, y⟩]
    · rw [if_neg (fun u => y u.2), if_neg (fun u => y u.2)]
  · rw [if_neg (by omega), if_neg (by omega)]
/-- the locals but that at x -/
theorem GF.lv (h : GF S G n) (P0 : 0 ≤ P ∧ P < n) (K0 : 0 ≤ K ∧ K < 4) (p0 : 0 ≤ p ∧ p < n) (k0 : 0 ≤ k ∧ k < 26) (ne : ¬ (p = P ∧ k = K)) : lV S G (4 * P + K + 1) p k = lV S G (4 * P + K) p k ∧ lW S G (4 * P + K + 1) p k = lW S G (4 * P + K) p k := by
  have := h.np4 p0
  unfold lV lW
  by_cases z : k < np S G p
  · have : 4 * p + k ≠ 4 * P + K := by omega
    by_cases y : 4 * p + k < 4 * P + K
    · simp only [if_pos (show k < np S G p ∧ 4 * p + k < 4 * P + K from ⟨z, y⟩), if_pos (show k < np S G p ∧ 4 * p + k < 4 * P + K + 1 from ⟨z, by omega⟩), and_self]
    · simp only [if_neg (show ¬ (k < np S G p ∧ 4 * p + k < 4 * P + K) by omega), if_neg (show ¬ (k < np S G p ∧ 4 * p + k < 4 * P + K + 1) by omega), and_self]
  · simp only [if_neg (show ¬ (k < np S G p ∧ 4 * p + k < 4 * P + K) by omega), if_neg (show ¬ (k < np S G p ∧ 4 * p + k < 4 * P + K + 1) by omega), and_self]
/-- a parameter's local is set: the columns of locals -/
theorem GF.s2_ (h : GF S G n) (P0 : 0 ≤ P ∧ P < n) (K0 : 0 ≤ K ∧ K < np S G P) (hv : v = gvV S G P K) (hw : w = gvW S G P K) (a5 : ∀ i, (s 98 i = if (0 ≤ i ∧ i < 416 * (P + 1)) ∧ i % 416 < 26 then lV S G (4 * P + K) (i / 416) (i % 416) else s0 98 i) ∧ s 99 i = if (0 ≤ i ∧ i < 416 * (P + 1)) ∧ i % 416 < 26 then lW S G (4 * P + K) (i / 416) (i % 416) else s0 99 i) : ∀ i, (st2 s (416 * P + K) v w 98 i = if (0 ≤ i ∧ i < 416 * (P + 1)) ∧ i % 416 < 26 then lV S G (4 * P + K + 1) (i / 416) (i % 416) else s0 98 i) ∧ st2 s (416 * P + K) v w 99 i = if (0 ≤ i ∧ i < 416 * (P + 1)) ∧ i % 416 < 26 then lW S G (4 * P + K + 1) (i / 416) (i % 416) else s0 99 i := by
  have K4 := (h.np4 P0).2
  intro i
  obtain ⟨u1, u2⟩ := a5 i
  rw [st2_98, st2_99]
  by_cases z : i = 416 * P + K
  · subst z
    have e1 : (416 * P + K) / 416 = P := by omega
    have e2 : (416 * P + K) % 416 = K := by omega
    rw [e1, e2, if_pos rfl, if_pos rfl]
    simp only [if_pos (show (0 ≤ 416 * P + K ∧ 416 * P + K < 416 * (P + 1)) ∧ K < 26 by omega)]
    unfold lV lW
    simp only [if_pos (show K < np S G P ∧ 4 * P + K < 4 * P + K + 1 from ⟨K0.2, by omega⟩)]
    exact ⟨hv, hw⟩
  · rw [if_neg z, if_neg z, u1, u2]
    by_cases y : (0 ≤ i ∧ i < 416 * (P + 1)) ∧ i % 416 < 26
    · simp only [if_pos y]
      obtain ⟨l1, l2⟩ := h.lv P0 ⟨K0.1, by omega⟩ (p := i / 416) (k := i % 416) ⟨by omega, by omega⟩ ⟨by omega, y.2⟩ (by omega)
      rw [l1, l2]; exact ⟨rfl, rfl⟩
    · simp only [if_neg y, and_self]
/-- a number -/
theorem BP.num (h : GF S G n) (hb : BP S G kn (P + 1) (4 * P + K) c s0 s) (hc : CC G (4 * P + K) c) (P0 : 0 ≤ P ∧ P < n) (K0 : 0 ≤ K ∧ K < np S G P) (hp : pt S G P K = 0) : BP S G kn (P + 1) (4 * P + K + 1) c s0 (st2 s (416 * P + K) (G 80 (4 * P + K)) 0) := by
  have K4 := (h.np4 P0).2
  obtain ⟨a1, a2, a3, a4, a5, a6, a7, a8, a9⟩ := hb
  have n9 : ∀ (a : Nat) i, a ≠ 98 → a ≠ 99 → st2 s (416 * P + K) (G 80 (4 * P + K)) 0 a i = s a i := fun a i z1 z2 => st2_n z1 z2
  refine ⟨fun i => by rw [n9 _ _ (by decide) (by decide)]; exact a1 i, fun i => by rw [n9 _ _ (by decide) (by decide)]; exact a2 i, fun i => by rw [n9 _ _ (by decide) (by decide), n9 _ _ (by decide) (by decide), n9 _ _ (by decide) (by decide), n9 _ _ (by decide) (by decide), n9 _ _ (by decide) (by decide), n9 _ _ (by decide) (by decide)]; exact a3 i, fun i => by rw [n9 _ _ (by decide) (by decide), n9 _ _ (by decide) (by decide), n9 _ _ (by decide) (by decide)]; exact a4 i, h.s2_ P0 K0 (by unfold gvV; rw [if_pos hp]) (by unfold gvW; rw [if_pos hp]) a5, fun i => by rw [n9 _ _ (by decide) (by decide)]; exact a6 i, fun i => by rw [n9 _ _ (by decide) (by decide)]; exact a7 i, fun i => ?_, fun a i z => by rw [n9 _ _ (by omega) (by omega)]; exact a9 a i z⟩
  rw [n9 _ _ (by decide) (by decide), n9 _ _ (by decide) (by decide), n9 _ _ (by decide) (by decide), n9 _ _ (by decide) (by decide)]
  obtain ⟨u1, u2, u3, u4⟩ := a8 i
  refine ⟨u1, ?_, u3, ?_⟩
  · rw [u2]
    by_cases z : 0 ≤ i ∧ i < 2 * c
    · rw [if_pos z, if_pos z, h.us1 (fun c1 c0 c2 => h.nu P0 ⟨K0.1, by omega⟩ (fun _ => hp) ⟨c0, by have := hc.1.2; omega⟩ (Or.inr rfl)) z]
    · rw [if_neg z, if_neg z]
  · rw [u4]
    by_cases z : 0 ≤ i ∧ i < 2 * c
    · rw [if_pos z, if_pos z, h.us1 (fun c1 c0 c2 => h.nu P0 ⟨K0.1, by omega⟩ (fun _ => hp) ⟨c0, by have := hc.1.2; omega⟩ (Or.inr rfl)) z]
    · rw [if_neg z, if_neg z]
end BD2
