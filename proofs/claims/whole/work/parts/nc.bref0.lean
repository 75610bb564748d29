/-! BOOT, the reference: its memory and the state -/
section BR1
variable {S : Int → Option (Int → Int)} {G s0 s s' h h' : HI} {p m f k e j x x' c c' c1 H kn v w i n P K ct : Int}
/-- nothing has begun -/
def bp0 (kn : Int) (s0 : HI) : HI := fun a i => if a = 49 then (if i = 51 then 1 else if 52 ≤ i ∧ i ≤ 55 then 0 else if i = 56 then kn else s0 49 i) else if a = 89 ∧ 0 ≤ i ∧ i < 12 then 4 else if a = 109 ∧ 0 ≤ i ∧ i < 128 then -1 else if a = 112 ∧ 0 ≤ i ∧ i < 24 then -1 else if a = 114 ∧ 0 ≤ i ∧ i < 24 then 0 else s0 a i
theorem bp0_n {a : Nat} (h : a ≠ 49 ∧ a ≠ 89 ∧ a ≠ 109 ∧ a ≠ 112 ∧ a ≠ 114) : bp0 kn s0 a i = s0 a i := by
  unfold bp0
  rw [if_neg h.1, if_neg (fun y => h.2.1 y.1), if_neg (fun y => h.2.2.1 y.1), if_neg (fun y => h.2.2.2.1 y.1), if_neg (fun y => h.2.2.2.2 y.1)]
theorem bp_0 : BP S G kn 0 0 0 s0 (bp0 kn s0) := by
  have n0 : ∀ i : Int, ¬ (0 ≤ i ∧ i < 0) := fun i z => by omega
  refine ⟨fun i => rfl, fun i => ?_, fun i => ?_, fun i => ?_, fun i => ?_, fun i => ?_, fun i => ?_, fun i => ?_, fun a i z => bp0_n (by omega)⟩
  · rw [if_neg (n0 i)]
    unfold bp0
    rw [if_neg (by decide)]
    by_cases z : 0 ≤ i ∧ i < 12
    · rw [if_pos ⟨rfl, z⟩, if_pos z]
    · rw [if_neg (fun y => z y.2), if_neg (by omega), if_neg (by omega), if_neg (by omega), if_neg z]
  · rw [bp0_n (by decide), bp0_n (by decide), bp0_n (by decide), bp0_n (by decide), bp0_n (by decide), bp0_n (by decide)]
    simp only [if_neg (n0 i), and_self]
  · rw [bp0_n (by decide), bp0_n (by decide), bp0_n (by decide)]
    simp only [if_neg (show ¬ ((0 ≤ i ∧ i < 16 * 0) ∧ i % 16 = 0) by omega), and_self]
  · rw [bp0_n (by decide), bp0_n (by decide)]
    simp only [if_neg (show ¬ ((0 ≤ i ∧ i < 416 * 0) ∧ i % 416 < 26) by omega), and_self]
  · rw [bp0_n (by decide), if_neg (by omega)]
  · unfold bp0
    rw [if_neg (by decide), if_neg (by omega)]
    by_cases z : 0 ≤ i ∧ i < 128
    · rw [if_pos ⟨rfl, z⟩, if_pos z]
    · rw [if_neg (fun y => z y.2), if_neg (by omega), if_neg (by omega), if_neg z]
  · rw [bp0_n (a := 113) (by decide), bp0_n (a := 118) (by decide), if_neg (c := 0 ≤ i ∧ i < 2 * 0) (by omega), if_neg (c := 0 ≤ i ∧ i < 2 * 0) (by omega)]
    refine ⟨?_, rfl, ?_, rfl⟩
    · unfold bp0
      rw [if_neg (by decide), if_neg (by omega), if_neg (by omega)]
      by_cases z : 0 ≤ i ∧ i < 24
      · rw [if_pos ⟨rfl, z⟩, if_pos z, if_neg (by omega)]
      · rw [if_neg (fun y => z y.2), if_neg (by omega), if_neg z]
    · unfold bp0
      rw [if_neg (by decide), if_neg (by omega), if_neg (by omega), if_neg (by omega)]
      by_cases z : 0 ≤ i ∧ i < 24
      · rw [if_pos ⟨rfl, z⟩, if_pos z]
      · rw [if_neg (fun y => z y.2), if_neg z]
/-- a parameter, before there are channels -/
theorem BP.loc0 (h : GF S G n) (hb : BP S G kn (P + 1) (4 * P + K) 0 s0 s) (P0 : 0 ≤ P ∧ P < n) (K0 : 0 ≤ K ∧ K < np S G P) : BP S G kn (P + 1) (4 * P + K + 1) 0 s0 (st2 s (416 * P + K) (gvV S G P K) (gvW S G P K)) := by
  have K4 := (h.np4 P0).2
  obtain ⟨a1, a2, a3, a4, a5, a6, a7, a8, a9⟩ := hb
  have n9 : ∀ (a : Nat) i, a ≠ 98 → a ≠ 99 → st2 s (416 * P + K) (gvV S G P K) (gvW S G P K) a i = s a i := fun a i z1 z2 => st2_n z1 z2
  refine ⟨fun i => by rw [n9 _ _ (by decide) (by decide)]; exact a1 i, fun i => by rw [n9 _ _ (by decide) (by decide)]; exact a2 i, fun i => by rw [n9 _ _ (by decide) (by decide), n9 _ _ (by decide) (by decide), n9 _ _ (by decide) (by decide), n9 _ _ (by decide) (by decide), n9 _ _ (by decide) (by decide), n9 _ _ (by decide) (by decide)]; exact a3 i, fun i => by rw [n9 _ _ (by decide) (by decide), n9 _ _ (by decide) (by decide), n9 _ _ (by decide) (by decide)]; exact a4 i, h.s2_ P0 K0 rfl rfl a5, fun i => by rw [n9 _ _ (by decide) (by decide)]; exact a6 i, fun i => by rw [n9 _ _ (by decide) (by decide)]; exact a7 i, fun i => ?_, fun a i z => by rw [n9 _ _ (by omega) (by omega)]; exact a9 a i z⟩
  rw [n9 _ _ (by decide) (by decide), n9 _ _ (by decide) (by decide), n9 _ _ (by decide) (by decide), n9 _ _ (by decide) (by decide)]
  obtain ⟨u1, u2, u3, u4⟩ := a8 i
  rw [u2, u4]
  refine ⟨u1, ?_, u3, ?_⟩ <;> rw [if_neg (by omega), if_neg (by omega)]
theorem BP.tl0 (h : GF S G n) (P0 : 0 ≤ P ∧ P < n) (hb : BP S G kn (P + 1) (4 * P + np S G P) 0 s0 s) : BP S G kn (P + 1) (4 * (P + 1)) 0 s0 s := by
  have K4 := h.np4 P0
  obtain ⟨a1, a2, a3, a4, a5, a6, a7, a8, a9⟩ := hb
  refine ⟨a1, a2, a3, a4, fun i => ?_, a6, a7, fun i => ?_, a9⟩
  · obtain ⟨u1, u2⟩ := a5 i
    rw [u1, u2]
    by_cases y : (0 ≤ i ∧ i < 416 * (P + 1)) ∧ i % 416 < 26
    · simp only [if_pos y]
      have n4 := h.np4 (p := i / 416) ⟨by omega, by omega⟩
      have hle : i / 416 ≤ P := by omega
      have e : lV S G (4 * (P + 1)) (i / 416) (i % 416) = lV S G (4 * P + np S G P) (i / 416) (i % 416) ∧ lW S G (4 * (P + 1)) (i / 416) (i % 416) = lW S G (4 * P + np S G P) (i / 416) (i % 416) := by
        unfold lV lW
        by_cases z : i % 416 < np S G (i / 416)
        · have l2 : 4 * (i / 416) + i % 416 < 4 * P + np S G P := by
            by_cases w : i / 416 = P
            · rw [w] at z ⊢; omega
            · omega
          have l3 : 4 * (i / 416) + i % 416 < 4 * (P + 1) := by omega
          rw [if_pos ⟨z, l3⟩, if_pos ⟨z, l2⟩, if_pos ⟨z, l3⟩, if_pos ⟨z, l2⟩]
          exact ⟨rfl, rfl⟩
        · rw [if_neg (fun w => z w.1), if_neg (fun w => z w.1), if_neg (fun w => z w.1), if_neg (fun w => z w.1)]
          exact ⟨rfl, rfl⟩
      rw [e.1, e.2]; exact ⟨rfl, rfl⟩
    · simp only [if_neg y, and_self]
  · obtain ⟨u1, u2, u3, u4⟩ := a8 i
    rw [u2, u4]
    refine ⟨u1, ?_, u3, ?_⟩ <;> rw [if_neg (by omega), if_neg (by omega)]
/-- a channel, when all the rest is there -/
def chB (G : HI) (n c : Int) (s : HI) : HI := fun a i => if i = 2 * c ∨ i = 2 * c + 1 then (if a = 112 then 0 else if a = 113 then G 84 (uS G (4 * n) i) / 4 else if a = 118 then G 82 (uS G (4 * n) i) + 24 else s a i) else s a i
theorem chB_n {a : Nat} (z : a ≠ 112 ∧ a ≠ 113 ∧ a ≠ 118) : chB G n c s a i = s a i := by
  unfold chB; rw [if_neg z.1, if_neg z.2.1, if_neg z.2.2]; split <;> rfl
theorem BP.chb (hb : BP S G kn n (4 * n) c s0 s) (c0 : 0 ≤ c ∧ c < 12) : BP S G kn n (4 * n) (c + 1) s0 (chB G n c s) := by
  obtain ⟨a1, a2, a3, a4, a5, a6, a7, a8, a9⟩ := hb
  have n9 : ∀ (a : Nat) i, a ≠ 112 → a ≠ 113 → a ≠ 118 → chB G n c s a i = s a i := fun a i z1 z2 z3 => by
    unfold chB; rw [if_neg z1, if_neg z2, if_neg z3]; split <;> rfl
  refine ⟨fun i => by rw [n9 _ _ (by decide) (by decide) (by decide)]; exact a1 i, fun i => by rw [n9 _ _ (by decide) (by decide) (by decide)]; exact a2 i, fun i => by rw [n9 _ _ (by decide) (by decide) (by decide), n9 _ _ (by decide) (by decide) (by decide), n9 _ _ (by decide) (by decide) (by decide), n9 _ _ (by decide) (by decide) (by decide), n9 _ _ (by decide) (by decide) (by decide), n9 _ _ (by decide) (by decide) (by decide)]; exact a3 i, fun i => by rw [n9 _ _ (by decide) (by decide) (by decide), n9 _ _ (by decide) (by decide) (by decide), n9 _ _ (by decide) (by decide) (by decide)]; exact a4 i, fun i => by rw [n9 _ _ (by decide) (by decide) (by decide), n9 _ _ (by decide) (by decide) (by decide)]; exact a5 i, fun i => by rw [n9 _ _ (by decide) (by decide) (by decide)]; exact a6 i, fun i => by rw [n9 _ _ (by decide) (by decide) (by decide)]; exact a7 i, fun i => ?_, fun a i z => by rw [n9 _ _ (by omega) (by omega) (by omega)]; exact a9 a i z⟩
  rw [n9 114 _ (by decide) (by decide) (by decide)]
  obtain ⟨u1, u2, u3, u4⟩ := a8 i
  unfold chB
  by_cases z : i = 2 * c ∨ i = 2 * c + 1
  · simp only [if_pos z, if_pos (show 0 ≤ i ∧ i < 24 by omega), if_pos (show 0 ≤ i ∧ i < 2 * (c + 1) by omega), if_pos (show i / 2 < c + 1 by omega)]
    rw [if_pos (by omega)] at u3
    exact ⟨rfl, rfl, u3, rfl⟩
  · simp only [if_neg z]
    refine ⟨?_, ?_, u3, ?_⟩
    · rw [u1]
      by_cases y : 0 ≤ i ∧ i < 24
      · rw [if_pos y, if_pos y]
        by_cases q : i / 2 < c
        · rw [if_pos q, if_pos (by omega)]
        · rw [if_neg q, if_neg (by omega)]
      · rw [if_neg y, if_neg y]
    · rw [u2]
      by_cases q : 0 ≤ i ∧ i < 2 * c
      · rw [if_pos q, if_pos (by omega)]
      · rw [if_neg q, if_neg (by omega)]
    · rw [u4]
      by_cases q : 0 ≤ i ∧ i < 2 * c
      · rw [if_pos q, if_pos (by omega)]
      · rw [if_neg q, if_neg (by omega)]
/-- the places that do not agree yet: ends from channel c on -/
def gbg (S : Int → Option (Int → Int)) (G : HI) (x c i : Int) : Prop := (0 ≤ i ∧ i % 416 < np S G (i / 416)) ∧ 4 * (i / 416) + i % 416 < x ∧ pt S G (i / 416) (i % 416) ≠ 0 ∧ 2 * c ≤ gvV S G (i / 416) (i % 416)
def ceC (a : Nat) (i : Int) : Prop := (51 ≤ a ∧ a ≤ 69) ∨ (87 ≤ a ∧ a ≤ 100) ∨ (109 ≤ a ∧ a ≤ 118) ∨ (a = 49 ∧ 51 ≤ i ∧ i ≤ 56)
def Ag (S : Int → Option (Int → Int)) (G : HI) (x c : Int) (h s : HI) : Prop := ∀ a i, ceC a i → ¬ (a = 98 ∧ gbg S G x c i) → h a i = s a i
theorem Ag.beg (H : Ag S G (4 * P) 0 h s) {f c9 : Int} : Ag S G (4 * P) 0 (staS h P m f c9) (staS s P m f c9) := fun a i ha hg => by
  have e94 : ∀ t : HI, (fun a i => if a = 89 ∧ i = P then 1 else if (a = 90 ∨ a = 93 ∨ a = 94 ∨ a = 108) ∧ i = P then 0 else if a = 91 ∧ i = P then m else if a = 92 ∧ i = P then c9 else if a = 100 ∧ 1025 * P < i ∧ i < 1025 * P + 1025 then 0 else t a i : HI) 94 P = 0 := fun t => by
    show (if _ then _ else _) = _
    rw [if_neg (by omega), if_pos ⟨by decide, rfl⟩]
  unfold staS actS
  rw [e94, e94]
  split; rfl
  split; rfl
  split; rfl
  split; rfl
  split; rfl
  show (if _ then _ else _) = (if _ then _ else _)
  split; rfl
  split; rfl
  split; rfl
  split; rfl
  split; rfl
  exact H a i ha hg
theorem Ag.mono (H : Ag S G x c h s) (hx : x ≤ x') : Ag S G x' c h s := fun a i ha hg => H a i ha (fun y => hg ⟨y.1, y.2.1, by have := y.2.2.1; omega, y.2.2.2⟩)
theorem Ag.loc {y : Int} (H : Ag S G (4 * P + K) 0 h s) (K0 : 0 ≤ K ∧ K < 4) (hK : K < np S G P) (P0 : 0 ≤ P) (hv : pt S G P K ≠ 0 → 0 ≤ gvV S G P K) (hy : pt S G P K = 0 → y = gvV S G P K) : Ag S G (4 * P + K + 1) 0 (st2 h (416 * P + K) y w) (st2 s (416 * P + K) (gvV S G P K) w) := fun a i ha hg => by
  by_cases z9 : a = 99
  · subst z9
    rw [st2_99, st2_99]
    by_cases z : i = 416 * P + K
    · rw [if_pos z, if_pos z]
    · rw [if_neg z, if_neg z]; exact H 99 i ha (by omega)
  · by_cases z8 : a = 98
    · subst z8
      rw [st2_98, st2_98]
      by_cases z : i = 416 * P + K
      · rw [if_pos z, if_pos z]
        apply hy
        apply Classical.byContradiction
        intro w
        refine hg ⟨rfl, ?_⟩
        have d1 : i / 416 = P := by omega
        have d2 : i % 416 = K := by omega
        unfold gbg
        rw [d1, d2]
        exact ⟨⟨by omega, hK⟩, by omega, w, by have := hv w; omega⟩
      · rw [if_neg z, if_neg z]
        exact H 98 i ha (fun y => hg ⟨rfl, y.2.1, by have := y.2.2.1; omega, y.2.2.2⟩)
    · rw [st2_n z8 z9, st2_n z8 z9]
      exact H a i ha (fun y => z8 y.1)
/-- a channel's end -/
def chM (h : HI) (x ct p k : Int) : HI := st2 (upI (upI (upI h 112 x 0) 118 x ct) 113 x p) (416 * p + k) x 3
theorem chM_o {a : Nat} {ct : Int} (ha : a ≠ 98 ∧ a ≠ 99) (z : ¬ ((a = 112 ∨ a = 113 ∨ a = 118) ∧ i = x)) : chM h x ct p k a i = h a i := by
  unfold chM
  rw [st2_n ha.1 ha.2, upI_ne (by omega), upI_ne (by omega), upI_ne (by omega)]
theorem chM_x {ct : Int} : chM h x ct p k 112 x = 0 ∧ chM h x ct p k 113 x = p ∧ chM h x ct p k 118 x = ct := by
  unfold chM
  rw [st2_n (by decide) (by decide), st2_n (by decide) (by decide), st2_n (by decide) (by decide)]
  refine ⟨?_, ?_, ?_⟩
  · rw [upI_a (by decide), upI_a (by decide), upI_eq]
  · rw [upI_eq]
  · rw [upI_a (by decide), upI_eq]
theorem chM_v {ct : Int} : chM h x ct p k 98 i = (if i = 416 * p + k then x else h 98 i) ∧ chM h x ct p k 99 i = if i = 416 * p + k then 3 else h 99 i := by
  unfold chM
  rw [st2_98, st2_99, upI_a (by decide), upI_a (by decide), upI_a (by decide), upI_a (by decide), upI_a (by decide), upI_a (by decide)]
  exact ⟨rfl, rfl⟩
/-- both ends of channel c -/
def chU (G : HI) (c e j : Int) (h : HI) : HI := chM h (2 * c + G 83 (2 * e + j)) (G 82 (2 * e + j) + 24) (G 84 (2 * e + j) / 4) (G 84 (2 * e + j) % 4)
theorem Ag.ch (hG : GF S G n) (H : Ag S G (4 * n) c h s) (hb : BP S G n n (4 * n) c s0 s) (n6 : n ≤ 6) (c0 : 0 ≤ c ∧ c < G 200 0) (he : G 85 c = e) : Ag S G (4 * n) (c + 1) (chU G c e 1 (chU G c e 0 h)) (chB G n c s) := by
  obtain ⟨y1, y2, y3⟩ := hG.ch c0
  rw [he] at y1 y2 y3
  obtain ⟨d1, d2, d3⟩ := hG.sdd y1 (by omega)
  have g8 := hG.2.2.2
  obtain ⟨p0, k0, a1, a2, a3, a4, a5, a6, a7, a8⟩ := hG.us (j := 0) y1 (by omega) (by omega)
  obtain ⟨p1, k1, b1, b2, b3, b4, b5, b6, b7, b8⟩ := hG.us (j := 1) y1 (by omega) (by omega)
  have ecx := hG.cx c0 he
  have gv0 : gvV S G p0 k0 = 2 * c + G 83 (2 * e + 0) := by unfold gvV; rw [if_neg a6, a5, ecx, a8]
  have gv1 : gvV S G p1 k1 = 2 * c + G 83 (2 * e + 1) := by unfold gvV; rw [if_neg b6, b5, ecx, b8]
  rw [Int.add_zero] at a1 a7 a8 gv0
  have uu : ∀ i, i / 2 = c → uS G (4 * n) i = if G 83 (2 * e + 1) = i % 2 then 2 * e + 1 else 2 * e := fun i z => by
    unfold uS
    rw [z, he]
    by_cases y : G 83 (2 * e + 1) = i % 2
    · rw [if_pos ⟨by omega, y⟩, if_pos y]
    · rw [if_neg (fun w => y w.2), if_neg y]
  have loc : ∀ p k, 0 ≤ p → p < n → 0 ≤ k → k < np S G p → np S G p ≤ 4 → pt S G p k ≠ 0 → s 98 (416 * p + k) = gvV S G p k ∧ s 99 (416 * p + k) = 3 := fun p k q0 q1 k0 k1 k4 z => by
    obtain ⟨u1, u2⟩ := hb.2.2.2.2.1 (416 * p + k)
    have d1 : (416 * p + k) / 416 = p := by omega
    have d2 : (416 * p + k) % 416 = k := by omega
    rw [u1, u2, d1, d2, if_pos (by omega), if_pos (by omega)]
    unfold lV lW gvW
    rw [if_pos ⟨k1, by omega⟩, if_pos ⟨k1, by omega⟩, if_neg z]
    exact ⟨rfl, rfl⟩
  obtain ⟨l0, l0'⟩ := loc p0 k0 a2.1 a2.2 a3.1 a3.2 a4 a6
  obtain ⟨l1, l1'⟩ := loc p1 k1 b2.1 b2.2 b3.1 b3.2 b4 b6
  unfold chU
  rw [Int.add_zero, a1, b1, show (4 * p0 + k0) / 4 = p0 by omega, show (4 * p0 + k0) % 4 = k0 by omega, show (4 * p1 + k1) / 4 = p1 by omega, show (4 * p1 + k1) % 4 = k1 by omega]
  intro a i ha hg
  by_cases z9 : a = 99
  · subst z9
    rw [chM_v.2, chM_v.2]
    rw [chB_n (by decide)]
    by_cases q1 : i = 416 * p1 + k1
    · rw [if_pos q1, q1, l1']
    · rw [if_neg q1]
      by_cases q0 : i = 416 * p0 + k0
      · rw [if_pos q0, q0, l0']
      · rw [if_neg q0]; exact H 99 i ha (by omega)
  · by_cases z8 : a = 98
    · subst z8
      rw [chM_v.1, chM_v.1]
      rw [chB_n (by decide)]
      by_cases q1 : i = 416 * p1 + k1
      · rw [if_pos q1, q1, l1, gv1]
      · rw [if_neg q1]
        by_cases q0 : i = 416 * p0 + k0
        · rw [if_pos q0, q0, l0, gv0]
        · rw [if_neg q0]
          refine H 98 i ha (fun y => hg ⟨rfl, y.2.1, y.2.2.1, y.2.2.2.1, ?_⟩)
          obtain ⟨-, ⟨i0, ik⟩, ix, ip, iv⟩ := y
          have bp : 0 ≤ i / 416 ∧ i / 416 < n := by
            refine ⟨by omega, ?_⟩
            omega
          have bk : 0 ≤ i % 416 ∧ i % 416 < np S G (i / 416) := ⟨by omega, ik⟩
          have k4 := (hG.np4 bp).2
          obtain ⟨r1, r2, r3, r4⟩ := hG.pe bp bk ip
          apply Classical.byContradiction
          intro w
          have e2 : gvV S G (i / 416) (i % 416) / 2 = c := by omega
          rw [uu _ e2] at r3
          by_cases v : G 83 (2 * e + 1) = gvV S G (i / 416) (i % 416) % 2
          · rw [if_pos v, b1] at r3; omega
          · rw [if_neg v, a1] at r3; omega
    · by_cases zc : (a = 112 ∨ a = 113 ∨ a = 118) ∧ (i = 2 * c ∨ i = 2 * c + 1)
      · obtain ⟨za, zi⟩ := zc
        have e2 : i / 2 = c := by omega
        have u2 := uu i e2
        by_cases v : G 83 (2 * e + 1) = i % 2
        · rw [if_pos v] at u2
          have ei : i = 2 * c + G 83 (2 * e + 1) := by omega
          rcases za with rfl | rfl | rfl
          · rw [show chB G n c s 112 i = 0 by unfold chB; rw [if_pos zi, if_pos rfl]]
            rw [ei, chM_x.1]
          · rw [show chB G n c s 113 i = G 84 (uS G (4 * n) i) / 4 by unfold chB; rw [if_pos zi, if_neg (by decide), if_pos rfl], u2, b1]
            rw [ei, chM_x.2.1]; omega
          · rw [show chB G n c s 118 i = G 82 (uS G (4 * n) i) + 24 by unfold chB; rw [if_pos zi, if_neg (by decide), if_neg (by decide), if_pos rfl], u2]
            rw [ei, chM_x.2.2]
        · rw [if_neg v] at u2
          have ei : i = 2 * c + G 83 (2 * e) := by omega
          rcases za with rfl | rfl | rfl
          · rw [show chB G n c s 112 i = 0 by unfold chB; rw [if_pos zi, if_pos rfl]]
            rw [chM_o (by decide) (by omega), ei, chM_x.1]
          · rw [show chB G n c s 113 i = G 84 (uS G (4 * n) i) / 4 by unfold chB; rw [if_pos zi, if_neg (by decide), if_pos rfl], u2, a1]
            rw [chM_o (by decide) (by omega), ei, chM_x.2.1]; omega
          · rw [show chB G n c s 118 i = G 82 (uS G (4 * n) i) + 24 by unfold chB; rw [if_pos zi, if_neg (by decide), if_neg (by decide), if_pos rfl], u2]
            rw [chM_o (by decide) (by omega), ei, chM_x.2.2]
      · rw [chM_o ⟨z8, z9⟩ (by omega), chM_o ⟨z8, z9⟩ (by omega)]
        rw [show chB G n c s a i = s a i by
          unfold chB
          by_cases w : i = 2 * c ∨ i = 2 * c + 1
          · rw [if_pos w, if_neg (fun v => zc ⟨Or.inl v, w⟩), if_neg (fun v => zc ⟨Or.inr (Or.inl v), w⟩), if_neg (fun v => zc ⟨Or.inr (Or.inr v), w⟩)]
          · rw [if_neg w]]
        exact H a i ha (fun y => z8 y.1)
/-- all is there -/
theorem Ag.all (hG : GF S G n) (H : Ag S G (4 * n) (G 200 0) h s) (n6 : n ≤ 6) : ∀ a i, ceC a i → h a i = s a i := fun a i ha => H a i ha (fun y => by
  obtain ⟨-, ⟨i0, ik⟩, ix, ip, iv⟩ := y
  have bp : 0 ≤ i / 416 ∧ i / 416 < n := ⟨by omega, by omega⟩
  obtain ⟨r1, -⟩ := hG.pe bp ⟨by omega, ik⟩ ip
  omega)
end BR1
