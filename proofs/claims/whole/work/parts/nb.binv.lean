/-! BOOT: what is so of its state -/
section BD4
variable {T : TXs} {S : Int → Option (Int → Int)} {G s0 s s' : HI} {p q m f k e j x c c' c1 H kn v w i n P K ct : Int}
/-- what an end of the manifest is at last -/
theorem GF.en (h : GF S G n) (x0 : 0 ≤ x ∧ x < 2 * G 200 0) : ∃ e j p k, G 85 (x / 2) = e ∧ (0 ≤ e ∧ e < 8) ∧ G 81 e = 2 ∧ (j = 0 ∨ j = 1) ∧ uS G (4 * n) x = 2 * e + j ∧ G 83 (2 * e + j) = x % 2 ∧ G 84 (2 * e + j) = 4 * p + k ∧ (0 ≤ p ∧ p < n) ∧ (0 ≤ k ∧ k < np S G p) ∧ np S G p ≤ 4 ∧ G 80 (4 * p + k) = e ∧ pt S G p k ≠ 0 ∧ G 82 (2 * e + j) = 4 * G 77 p + whichM (pt S G p k) ∧ sideM (pt S G p k) = x % 2 := by
  obtain ⟨y1, y2, y3⟩ := h.ch (c := x / 2) (by omega)
  obtain ⟨e, he⟩ : ∃ e, G 85 (x / 2) = e := ⟨_, rfl⟩
  rw [he] at y1 y2 y3
  obtain ⟨d1, d2, d3⟩ := h.sdd y1 (by omega)
  obtain ⟨p', k', u1, u2, u3, u4, -⟩ := h.us (j := 1) y1 (by omega) (by omega)
  have lt : G 84 (2 * e + 1) < 4 * n := by omega
  by_cases z : G 83 (2 * e + 1) = x % 2
  · obtain ⟨p, k, w1, w2, w3, w4, w5, w6, w7, w8⟩ := h.us (j := 1) y1 (by omega) (by omega)
    exact ⟨e, 1, p, k, he, y1, y2, Or.inr rfl, by unfold uS; rw [he, if_pos ⟨lt, z⟩], z, w1, w2, w3, w4, w5, w6, w7, w8.symm.trans z⟩
  · obtain ⟨p, k, w1, w2, w3, w4, w5, w6, w7, w8⟩ := h.us (j := 0) y1 (by omega) (by omega)
    have z0 : G 83 (2 * e + 0) = x % 2 := by rw [Int.add_zero]; omega
    exact ⟨e, 0, p, k, he, y1, y2, Or.inl rfl, by unfold uS; rw [he, if_neg (fun y => z y.2), Int.add_zero], z0, w1, w2, w3, w4, w5, w6, w7, w8.symm.trans z0⟩
/-- what a parameter that tells an end is at last -/
theorem GF.pe (h : GF S G n) (p0 : 0 ≤ p ∧ p < n) (k0 : 0 ≤ k ∧ k < np S G p) (hp : pt S G p k ≠ 0) : (0 ≤ gvV S G p k ∧ gvV S G p k < 2 * G 200 0) ∧ gvV S G p k % 2 = sideM (pt S G p k) ∧ G 84 (uS G (4 * n) (gvV S G p k)) = 4 * p + k ∧ G 82 (uS G (4 * n) (gvV S G p k)) = 4 * G 77 p + whichM (pt S G p k) := by
  have K4 := (h.np4 p0).2
  have sb := sideM_b (pt S G p k)
  obtain ⟨e0, j, j0, j1, ej⟩ := (h.1.1.2.2.1 p k p0.1 k0.1 (by omega) k0.2 (Or.inl p0.2)).2 hp
  obtain ⟨e, he⟩ : ∃ e, G 80 (4 * p + k) = e := ⟨_, rfl⟩
  rw [he] at e0 j1 ej
  obtain ⟨w1, w2⟩ := h.two e0 (by omega)
  obtain ⟨c1, u1, u2, u3⟩ := h.1.1.2.2.2.1.2.2.1 e e0.1 e0.2 (by omega)
  have ecx := h.cx ⟨u1, u2⟩ u3
  have ev : gvV S G p k = 2 * c1 + sideM (pt S G p k) := by unfold gvV; rw [if_neg hp, he, ecx]
  rw [ev]
  obtain ⟨f1, f2, f3, f4, f5⟩ := h.pl (j := j) e0 (by omega) (by omega) p0 ⟨k0.1, by omega⟩ ej
  obtain ⟨d1, d2, d3⟩ := h.sdd e0 (by omega)
  have t3 := w2.2.2
  obtain ⟨p', k', v1, v2, v3, v4, -⟩ := h.us (j := 1) e0 (by omega) (by omega)
  have eu : uS G (4 * n) (2 * c1 + sideM (pt S G p k)) = 2 * e + j := by
    unfold uS
    rw [show (2 * c1 + sideM (pt S G p k)) / 2 = c1 by omega, show (2 * c1 + sideM (pt S G p k)) % 2 = sideM (pt S G p k) by omega, u3]
    have j2 : j = 0 ∨ j = 1 := by omega
    rcases j2 with rfl | rfl
    · rw [Int.add_zero] at f5
      rw [if_neg (fun y => by omega), Int.add_zero]
    · rw [if_pos ⟨by omega, f5⟩]
  rw [eu]
  exact ⟨by omega, by omega, ej, f4⟩
set_option maxRecDepth 4000 in
theorem bp_inv (h : GF S G n) (n0 : 1 ≤ n ∧ n ≤ 6) (hb : BP S G n n (4 * n) (G 200 0) s0 s) (hM : ∀ m b, S m = some b → T (6 + m) = b ∧ Mg T s0 (6 + m)) (hz : ∀ q, ¬ (0 ≤ q ∧ q < 12) → s0 89 q < 4 → s0 90 q = 0) : INV T s ∧ Z90 s ∧ AllP s := by
  have g8 := h.2.2.2
  have g0 := h.1.1.2.2.2.1.1
  obtain ⟨a1, a2, a3, a4, a5, a6, a7, a8, a9⟩ := hb
  have mE : mEq s0 s := fun a i z1 z2 => a9 a i (by omega)
  have e52 : s 49 52 = 0 := by rw [a1, if_neg (by decide), if_pos (by decide)]
  have e53 : s 49 53 = 0 := by rw [a1, if_neg (by decide), if_pos (by decide)]
  have e54 : s 49 54 = 0 := by rw [a1, if_neg (by decide), if_pos (by decide)]
  have e55 : s 49 55 = 0 := by rw [a1, if_neg (by decide), if_pos (by decide)]
  have e56 : s 49 56 = n := by rw [a1, if_neg (by decide), if_neg (by decide), if_pos rfl]
  have e89 : ∀ q, 0 ≤ q → q < 12 → s 89 q = if q < n then 1 else 4 := fun q q0 q1 => by
    rw [a2]
    by_cases z : q < n
    · rw [if_pos ⟨q0, z⟩, if_pos z]
    · rw [if_neg (fun y => z y.2), if_pos ⟨q0, q1⟩, if_neg z]
  have l89 : ∀ q, 0 ≤ q → q < 12 → s 89 q < 4 → q < n := fun q q0 q1 z => by
    rw [e89 q q0 q1] at z
    by_cases y : q < n
    · exact y
    · rw [if_neg y] at z; omega
  have pr : ∀ q, 0 ≤ q → q < n → s 90 q = 0 ∧ s 93 q = 0 ∧ s 91 q = 6 + G 77 q ∧ s 92 q = 16 * G 79 q ∧ s 94 q = 1 := fun q q0 q1 => by
    obtain ⟨u1, u2, u3, u4, u5, u6⟩ := a3 q
    rw [u1, u2, u4, u5, u6]
    simp only [if_pos (show 0 ≤ q ∧ q < n from ⟨q0, q1⟩), and_self]
  have e109 : ∀ b, 0 ≤ b → b < 128 → s 109 b = -1 := fun b b0 b1 => by rw [a7, if_pos ⟨b0, b1⟩]
  have e112 : ∀ x, 0 ≤ x → x < 24 → s 112 x = if x / 2 < G 200 0 then 0 else -1 := fun x x0 x1 => by rw [(a8 x).1, if_pos ⟨x0, x1⟩]
  have e114 : ∀ x, 0 ≤ x → x < 24 → s 114 x = 0 := fun x x0 x1 => by rw [(a8 x).2.2.1, if_pos ⟨x0, x1⟩]
  have op : ∀ x, opn s x → (0 ≤ x ∧ x < 24) ∧ x < 2 * G 200 0 := fun x hx => by
    obtain ⟨x0, x1, x2⟩ := hx
    rw [e112 x x0 x1] at x2
    by_cases z : x / 2 < G 200 0
    · omega
    · rw [if_neg z] at x2; exact absurd rfl x2
  have ev : ∀ x, 0 ≤ x → x < 2 * G 200 0 → s 112 x = 0 ∧ s 113 x = G 84 (uS G (4 * n) x) / 4 ∧ s 118 x = G 82 (uS G (4 * n) x) + 24 := fun x x0 x1 => by
    rw [e112 x x0 (by omega), (a8 x).2.1, (a8 x).2.2.2, if_pos (by omega), if_pos ⟨x0, x1⟩, if_pos ⟨x0, x1⟩]
    exact ⟨rfl, rfl, rfl⟩
  -- the module and the contract of an end
  have cn : ∀ e j, 0 ≤ e → e < 8 → G 81 e = 2 → (j = 0 ∨ j = 1) → T ((G 82 (2 * e + j) + 24) / 4) = bO S (G 82 (2 * e + j) / 4) ∧ Mg T s ((G 82 (2 * e + j) + 24) / 4) ∧ (0 ≤ G 82 (2 * e + j) % 4 ∧ G 82 (2 * e + j) % 4 < nCtr (T ((G 82 (2 * e + j) + 24) / 4))) ∧ (G 82 (2 * e + j) + 24) % 4 = G 82 (2 * e + j) % 4 ∧ ∃ b, S (G 82 (2 * e + j) / 4) = some b ∧ T ((G 82 (2 * e + j) + 24) / 4) = b := fun e j e0 e1 e2 j0 => by
    obtain ⟨-, w1, w2, b, w3, w4⟩ := h.2.2.1 e j e0 e1 (by omega) (by omega)
    obtain ⟨m1, m2⟩ := hM _ b w3
    rw [show (G 82 (2 * e + j) + 24) / 4 = 6 + G 82 (2 * e + j) / 4 by omega, m1]
    exact ⟨(bO_y w3).symm, m2.tr mE, ⟨by omega, w4⟩, by omega, b, w3, rfl⟩
  have Hdq : ∀ q, 0 ≤ q → q < n → ∃ b, S (G 77 q) = some b ∧ T (6 + G 77 q) = b ∧ bO S (G 77 q) = b ∧ Mg T s (6 + G 77 q) ∧ (0 ≤ G 78 q ∧ G 78 q < nFn b) ∧ btb b (G 78 q) ∧ (1 ≤ G 79 q ∧ G 79 q ≤ 64) := fun q q0 q1 => by
    obtain ⟨b, h1, h2, h3, h4, h5⟩ := h.1.1.1 q q0 q1
    obtain ⟨m1, m2⟩ := hM _ b h1
    exact ⟨b, h1, m1, bO_y h1, m2.tr mE, h2, h3, h4, h5⟩
  have loc : ∀ q k, 0 ≤ q → q < n → 0 ≤ k → k < 26 → s 98 (26 * (16 * q) + k) = lV S G (4 * n) q k ∧ s 99 (26 * (16 * q) + k) = lW S G (4 * n) q k := fun q k q0 q1 k0 k1 => by
    obtain ⟨u1, u2⟩ := a5 (26 * (16 * q) + k)
    have d1 : (26 * (16 * q) + k) / 416 = q := by omega
    have d2 : (26 * (16 * q) + k) % 416 = k := by omega
    rw [u1, u2, d1, d2, if_pos (by omega), if_pos (by omega)]
    exact ⟨rfl, rfl⟩
  have eai : ∀ q, 0 ≤ q → q < n → ai s q = 16 * q := fun q q0 q1 => by unfold ai; rw [(pr q q0 q1).2.2.2.2]; omega
  have f97 : ∀ q, 0 ≤ q → q < n → s 95 (16 * q) = G 78 q ∧ s 96 (16 * q) = 0 ∧ s 97 (16 * q) = 0 := fun q q0 q1 => by
    obtain ⟨u1, u2, u3⟩ := a4 (16 * q)
    rw [u1, u2, u3, show 16 * q / 16 = q by omega, if_pos (by omega), if_pos (by omega), if_pos (by omega)]
    exact ⟨rfl, rfl, rfl⟩
  -- a local whose sort is that of an end
  have en3 : ∀ q i, 0 ≤ q → q < n → pl s q i → s 99 i ≠ 2 ∧ (s 99 i = 3 → ∃ k, i = 26 * (16 * q) + k ∧ (0 ≤ k ∧ k < np S G q) ∧ pt S G q k ≠ 0 ∧ s 98 i = gvV S G q k) := fun q i q0 q1 hi => by
    obtain ⟨x, k, x0, x1, k0, k1, rfl⟩ := hi
    rw [eai q q0 q1] at x1
    have ex : x = 16 * q := by omega
    subst ex
    rw [(f97 q q0 q1).2.2] at k1
    obtain ⟨u1, u2⟩ := loc q k q0 q1 k0 (by omega)
    rw [u1, u2]
    unfold lW lV
    by_cases z : k < np S G q ∧ 4 * q + k < 4 * n
    · rw [if_pos z, if_pos z]
      unfold gvW
      by_cases y : pt S G q k = 0
      · rw [if_pos y]; exact ⟨by decide, fun y => by omega⟩
      · rw [if_neg y]; exact ⟨by decide, fun _ => ⟨k, rfl, ⟨k0, z.1⟩, y, rfl⟩⟩
    · rw [if_neg z]; exact ⟨by decide, fun y => by omega⟩
  refine ⟨⟨by rw [e54]; decide, ⟨by rw [e53]; decide, by rw [e54]; decide, by rw [e52]; decide, by rw [e55]; decide, by rw [e56]; omega, fun q q0 q1 => ?_, fun b b0 b1 => Or.inl (e109 b b0 b1), fun b j b0 b1 z => absurd (e109 b b0 b1) z, fun x x0 x1 _ => e114 x x0 x1⟩, fun x hx => ?_, fun x hx hx' => ?_, fun q q0 q1 _ q2 => ?_⟩, fun q q2 => ?_, fun q q0 q1 q2 => ?_⟩
  · rw [e89 q q0 q1, e56, e52]
    by_cases z : q < n
    · rw [if_pos z, (pr q q0 z).2.1]; omega
    · rw [if_neg z]; omega
  · -- an end
    obtain ⟨⟨x0, x1⟩, x2⟩ := op x hx
    obtain ⟨e, j, p, k, w1, w2, w3, w4, w5, w6, w7, w8, w9, w10, w11, w12, w13, w14⟩ := h.en ⟨x0, x2⟩
    obtain ⟨v1, v2, v3⟩ := ev x x0 x2
    obtain ⟨c1, c2, c3, c4, -⟩ := cn e j w2.1 w2.2 w3 w4
    rw [w5] at v2 v3
    have hS := c2.2.1.2.1
    have hs := (hS.2.2.2.2.2.2.1 _ c3.1 c3.2)
    refine ⟨(G 82 (2 * e + j) + 24) / 4, G 82 (2 * e + j) % 4, by rw [v3]; omega, by omega, c3.2, c2, ?_, by rw [e114 x x0 x1]; decide, fun k hk => ?_, fun j k _ hk => ?_⟩
    · rw [v1]; exact ⟨Int.le_refl _, by have := hs.1; omega⟩
    · rw [e114 x x0 x1] at hk; omega
    · rw [e114 x x0 x1] at hk; omega
  · -- a channel
    obtain ⟨⟨x0, x1⟩, x2⟩ := op x hx
    obtain ⟨⟨y0, y1⟩, y2⟩ := op _ hx'
    have om := oth_m (e := x)
    have od : oth x / 2 = x / 2 := by unfold oth; split <;> omega
    obtain ⟨e, j, p, k, w1, w2, w3, w4, w5, w6, w7, w8, w9, w10, w11, w12, w13, w14⟩ := h.en ⟨x0, x2⟩
    obtain ⟨e', j', p', k', t1, t2, t3, t4, t5, t6, -⟩ := h.en ⟨y0, y2⟩
    have ee : e' = e := by rw [← t1, ← w1, od]
    subst ee
    obtain ⟨v1, v2, v3⟩ := ev x x0 x2
    obtain ⟨z1, z2, z3⟩ := ev _ y0 y2
    rw [w5] at v2 v3
    rw [t5] at z2 z3
    obtain ⟨-, u2, u3⟩ := h.ch (c := x / 2) (by omega)
    rw [w1] at u2 u3
    obtain ⟨d1, d2, d3⟩ := h.sdd w2 (by omega)
    have jj : j ≠ j' := fun y => by rw [y, t6] at w6; omega
    obtain ⟨b, b', f1, f2, f3⟩ := u3.2.1
    have f1' : ∀ b2, S (G 82 (2 * e') / 4) = some b2 → b2 = b := fun b2 y => by rw [f1] at y; cases y; rfl
    have f2' : ∀ b2, S (G 82 (2 * e' + 1) / 4) = some b2 → b2 = b' := fun b2 y => by rw [f2] at y; cases y; rfl
    obtain ⟨-, -, -, c4, b1, g1, g2⟩ := cn e' j w2.1 w2.2 w3 w4
    obtain ⟨-, -, -, c4', b2, g3, g4⟩ := cn e' j' w2.1 w2.2 w3 t4
    refine ⟨?_, Or.inl ⟨e114 _ y0 y1, ?_⟩⟩
    · unfold eB eC
      rw [v3, z3, g2, g4, c4, c4']
      rcases w4 with rfl | rfl
      · have : j' = 1 := by omega
        subst this
        rw [Int.add_zero] at g1 ⊢
        rw [f1' _ g1, f2' _ g3]; exact f3
      · have : j' = 0 := by omega
        subst this
        rw [Int.add_zero] at g3 ⊢
        rw [f1' _ g3, f2' _ g1]; exact f3.sy
    · rw [e114 x x0 x1, z1]; exact v1
  · -- a process
    have qn := l89 q q0 q1 q2
    obtain ⟨u1, u2, u3, u4, u5⟩ := pr q q0 qn
    obtain ⟨b, h1, h2, h3, h4, h5, h6, h7⟩ := Hdq q q0 qn
    obtain ⟨f1, f2, f3⟩ := f97 q q0 qn
    have hN := h4.2.1.2.2.1
    have hS := h4.2.1.2.1
    rw [h2] at hN hS
    have n4 := h.np4 ⟨q0, qn⟩
    have enp : np S G q = nPar b (G 78 q) := by unfold np; rw [h3]
    have ept : ∀ k, pt S G q k = pTy b (G 78 q) k := fun k => by unfold pt; rw [h3]
    have hpt := (hN.2.2 (G 78 q) h5.1 h5.2).1
    obtain ⟨A', hL'⟩ := h4.2.2 (G 78 q) h5.1 (by rw [h2]; exact h5.2)
    obtain ⟨Z', o1, o2⟩ := hL'.1.1
    refine ⟨6 + G 77 q, ⟨⟨q0, q1⟩, by rw [u5]; decide, u3, h4, by rw [u4]; omega, q2⟩, fun b b0 b1 => ?_, fun x x0 x1 => by rw [eai q q0 qn] at x1; omega, ?_, fun i hi => ⟨fun z => absurd z (en3 q i q0 qn hi).1, fun z => ?_⟩, fun i j hi hj ne z zz => ?_⟩
    · rw [a6, if_pos (by omega)]
      exact ⟨by decide, fun z => absurd z (by decide)⟩
    · rw [eai q q0 qn]
      unfold ToI
      rw [f1, f2, h2]
      rw [h2] at hL' o2
      refine ⟨h5, A', Z', hL', Int.le_refl _, o1, Frm.le (X := (0, fun _ => 0, ent b (G 78 q))) ⟨f3, fun k a b => ?_, fun k a b' => ?_⟩ o2⟩
      · have b : k < 0 := b
        omega
      · show vOk T s q (6 + G 77 q) _ _ (ent b (G 78 q) k)
        obtain ⟨w1, w2⟩ := loc q k q0 qn a (by omega)
        rw [w1, w2]
        unfold ent lV lW
        rw [← enp]
        by_cases z : k < np S G q
        · rw [if_pos ⟨z, by omega⟩, if_pos ⟨z, by omega⟩, if_pos z, ← ept k]
          unfold gvW
          have hv := hpt k a (by omega)
          rw [← ept k] at hv
          by_cases y : pt S G q k = 0
          · rw [y, if_pos rfl]
            unfold gvV
            rw [if_pos y]
            exact vOk.int ((h.1.1.2.2.1 q k q0 a (by omega) z (Or.inl qn)).1 y)
          · rw [if_neg y]
            have hk : kindM (pt S G q k) = 5 ∧ stateM (pt S G q k) = 0 := by
              have := h6.2 k a (by omega)
              rw [← ept k] at this
              exact this.resolve_left y
            obtain ⟨r1, r2, r3, r4⟩ := h.pe ⟨q0, qn⟩ ⟨a, z⟩ y
            obtain ⟨v1, v2, v3⟩ := ev _ r1.1 r1.2
            have hw := hv.1.2.2.2.2.2.2.2 hk.1
            have c4 := hS.2.2.2.2.2.1
            have w0 : 0 ≤ whichM (pt S G q k) := by unfold whichM; omega
            refine vOk.end_ ⟨⟨r1.1, by omega⟩, v1.trans hk.2.symm, r2, ?_⟩ hk.1
            rw [v3, r4, show (4 * G 77 q + whichM (pt S G q k) + 24) / 4 = 6 + G 77 q by omega, show (4 * G 77 q + whichM (pt S G q k) + 24) % 4 = whichM (pt S G q k) by omega, h2]
            exact Alk.rf hN w0 hw.1
        · rw [if_neg (fun y => z y.1), if_neg (fun y => z y.1), if_neg z]
          exact vOk.emp
    · obtain ⟨k, rfl, k0, y, ek⟩ := (en3 q i q0 qn hi).2 z
      obtain ⟨r1, r2, r3, r4⟩ := h.pe ⟨q0, qn⟩ k0 y
      rw [ek, (ev _ r1.1 r1.2).2.1, r3]; omega
    · have z3 : s 99 i = 3 := z.resolve_left (en3 q i q0 qn hi).1
      obtain ⟨k, rfl, k0, y, ek⟩ := (en3 q i q0 qn hi).2 z3
      obtain ⟨l, rfl, l0, y', el⟩ := (en3 q j q0 qn hj).2 (zz.trans z3)
      obtain ⟨r1, r2, r3, r4⟩ := h.pe ⟨q0, qn⟩ k0 y
      obtain ⟨t1, t2, t3, t4⟩ := h.pe ⟨q0, qn⟩ l0 y'
      rw [ek, el]
      intro w
      rw [w] at t3
      omega
  · by_cases z : 0 ≤ q ∧ q < n
    · exact (pr q z.1 z.2).1
    · obtain ⟨u1, -⟩ := a3 q
      rw [u1, if_neg z]
      rw [a2, if_neg z] at q2
      by_cases y : 0 ≤ q ∧ q < 12
      · rw [if_pos y] at q2; omega
      · rw [if_neg y] at q2; exact hz q y q2
  · have qn := l89 q q0 q1 q2
    obtain ⟨u1, u2, u3, u4, u5⟩ := pr q q0 qn
    obtain ⟨b, h1, h2, h3, h4, h5, h6, h7⟩ := Hdq q q0 qn
    refine ⟨by rw [u5]; decide, by rw [u4]; omega, fun x x0 x1 => ?_, by rw [e56]; exact qn⟩
    rw [eai q q0 qn] at x1
    rw [show x = 16 * q by omega, (f97 q q0 qn).2.2]; decide
end BD4
