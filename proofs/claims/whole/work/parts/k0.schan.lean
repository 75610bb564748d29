/-! SOUNDNESS: channels -/
section SK0
variable {T : TXs} {s s' : HI} {p q m f v w t o x n k g e : Int} {B : Int → Int} {X Y : Tst}
theorem frL_f {f : Int → Bool} : ∀ (n : Nat) (k : Int), frL f n k < k + n → (k ≤ frL f n k) ∧ f (frL f n k) = false
  | 0, k, h => by
    have : frL f 0 k = k := rfl
    omega
  | n + 1, k, h => by
    by_cases c : f k = true
    · have e : frL f (n + 1) k = frL f n (k + 1) := if_pos c
      rw [e] at h ⊢
      have h9 : frL f n (k + 1) < k + 1 + n := by omega
      have := frL_f (f := f) n (k + 1) h9
      exact ⟨by omega, this.2⟩
    · have e : frL f (n + 1) k = k := if_neg c
      rw [e]
      exact ⟨Int.le_refl _, by cases h : f k; rfl; exact absurd h c⟩
theorem endt {v y : Int} (v0 : 0 ≤ v ∧ v < 4) (y0 : y = 0 ∨ y = 1) : kindM (5 + 8 * v + 524288 * y) = 5 ∧ whichM (5 + 8 * v + 524288 * y) = v ∧ stateM (5 + 8 * v + 524288 * y) = 0 ∧ sideM (5 + 8 * v + 524288 * y) = y := by
  unfold kindM whichM stateM sideM
  rw [if_neg (by omega)]
  omega
theorem JJ.ope (h : JJ T s p m f X) (e0 : 0 ≤ e ∧ e < 24) (hc : s 112 e = -1) (v0 : 0 ≤ v ∧ v < nCtr (T m)) (h16 : X.1 < 16) (hl : opn s (oth e) → s 118 (oth e) = 4 * m + v ∧ s 112 (oth e) = 0 ∧ s 114 (oth e) = 0) : JJ T (opE s p e (4 * m + v)) p m f (X.1 + 1, up1 X.2.1 X.1 (5 + 8 * v + 524288 * (e % 2)), X.2.2) := by
  have hS := h.mg.2.1.2.1
  have hN := h.mg.2.1.2.2.1
  have c4 : nCtr (T m) ≤ 4 := hS.2.2.2.2.2.1
  have hp := h.2.1.1
  have hct : 1 ≤ nSt (T m) v := (hS.2.2.2.2.2.2.1 v v0.1 v0.2).1
  unfold opE
  obtain ⟨r, hr⟩ : ∃ r, upI (upI (upI (upI s 112 e 0) 113 e p) 114 e 0) 118 e (4 * m + v) = r := ⟨_, rfl⟩
  rw [hr]
  have n : ∀ {a : Nat} {i : Int}, ¬ ((a = 112 ∨ a = 113 ∨ a = 114 ∨ a = 118) ∧ i = e) → r a i = s a i := fun z => by
    rw [← hr]; unfold upI; rw [if_neg (by omega), if_neg (by omega), if_neg (by omega), if_neg (by omega)]
  have r2 : r 112 e = 0 := by rw [← hr, upI_a (by decide), upI_a (by decide), upI_a (by decide), upI_eq]
  have r3 : r 113 e = p := by rw [← hr, upI_a (by decide), upI_a (by decide), upI_eq]
  have r4 : r 114 e = 0 := by rw [← hr, upI_a (by decide), upI_eq]
  have r8 : r 118 e = 4 * m + v := by rw [← hr, upI_eq]
  have ne : ∀ x, opn s x → x ≠ e := fun x z y => by subst y; exact z.2.2 hc
  have no : ∀ x, opn r x → x ≠ e → opn s x := fun x z y => ⟨z.1, z.2.1, by have := z.2.2; rw [n (by omega)] at this; exact this⟩
  obtain ⟨⟨g1, g2, g3, g4, g5, g6, g7, g8, g9⟩, q2, q3, q4⟩ := id h.1
  have mE : mEq s r := fun a i a1 a2 => n (by omega)
  have eB9 : eB T r e = T m := by unfold eB; rw [r8, show (4 * m + v) / 4 = m by omega]
  have eC9 : eC r e = v := by unfold eC; rw [r8]; omega
  have hJ : JO T r p := by
    refine ⟨⟨by rw [n (by omega)]; exact g1, by rw [n (by omega)]; exact g2, by rw [n (by omega)]; exact g3, by rw [n (by omega)]; exact g4, by rw [n (by omega)]; exact g5, fun q q0 q1 => by rw [n (by omega), n (by omega), n (by omega), n (by omega)]; exact g6 q q0 q1, fun b b0 b1 => by rw [n (by omega)]; exact g7 b b0 b1, fun b j b0 b1 => by rw [n (by omega), n (by omega)]; exact g8 b j b0 b1, fun x x0 x1 => ?_⟩, fun x hx => ?_, fun x hx hx' => ?_, fun q q0 q1 q5 q6 => ?_⟩
    · by_cases c : x = e
      · subst c; rw [r2]; exact fun z => absurd z (by decide)
      · rw [n (by omega), n (by omega)]; exact g9 x x0 x1
    · by_cases c : x = e
      · subst c
        refine ⟨m, v, r8, ⟨v0.1, by omega⟩, v0.2, h.mg.tr mE, by rw [r2]; omega, by rw [r4]; decide, fun k hk => ?_, fun j k _ hk => ?_⟩
        · rw [r4] at hk; omega
        · rw [r4] at hk; omega
      · exact (q2 x (no x hx c)).tr mE (n (by omega)) (n (by omega)) (n (by omega)) (fun j _ => ⟨n (by omega), n (by omega), n (by omega)⟩) (fun v z1 z2 => ⟨n (by omega), (n (by omega)).trans z1⟩) (fun v z1 z2 => by
          have := ne v z2
          exact ⟨n (by omega), n (by omega), (n (by omega)).trans z1⟩)
    · have key : ∀ y, y = oth e → opn r y → (r 118 y = 4 * m + v ∧ r 112 y = 0 ∧ r 114 y = 0) := fun y z1 z2 => by
        have : y ≠ e := by subst z1; exact oth_ne
        have ho := no y z2 this
        rw [n (by omega), n (by omega), n (by omega)]
        subst z1; exact hl ho
      have alk : ∀ y z, r 118 y = 4 * m + v → r 118 z = 4 * m + v → Alk (eB T r y) (eB T r z) (eC r y) (eC r z) := fun y z z1 z2 => by
        unfold eB eC; rw [z1, z2, show (4 * m + v) / 4 = m by omega, show (4 * m + v) % 4 = v by omega]
        exact Alk.rf hN v0.1 v0.2
      have hh : ∀ y, r 112 y = 0 → r 114 y = 0 → r 112 (oth y) = 0 → r 114 (oth y) = 0 → hlf T r y := fun y z1 z2 z3 z4 => by
        refine ⟨z4, ?_⟩
        rw [z2]; show r 112 y = _; rw [z1, z3]
      by_cases c : x = e
      · subst c
        obtain ⟨k1, k2, k3⟩ := key (oth x) rfl hx'
        exact ⟨alk _ _ r8 k1, Or.inl (hh x r2 r4 k2 k3)⟩
      · by_cases c' : oth x = e
        · have hxe : x = oth e := by rw [← c', oth_oth]
          obtain ⟨k1, k2, k3⟩ := key x hxe hx
          refine ⟨by rw [c']; exact alk _ _ k1 r8, Or.inl (hh x k2 k3 (by rw [c']; exact r2) (by rw [c']; exact r4))⟩
        · have ho := no x hx c
          have ho' := no _ hx' c'
          obtain ⟨m1, c1, y1⟩ := q2 x ho
          obtain ⟨m2, c2, y2⟩ := q2 _ ho'
          exact (q3 x ho ho').tr (n (by omega)) (n (by omega)) (n (by omega)) (fun j _ => n (by omega)) (n (by omega)) (n (by omega)) (n (by omega)) (fun j _ => n (by omega)) y1.2.2.2.2.2.1.2 y2.2.2.2.2.2.1.2
    · rw [n (by omega)] at q6
      exact (q4 q q0 q1 q5 q6).tr2 (fun a i z => n (by unfold ownC at z; omega)) mE (fun v z1 z2 => ⟨n (by omega), (n (by omega)).trans z1⟩) (fun v z1 z2 => by
        have := ne v z2
        exact ⟨n (by omega), n (by omega), (n (by omega)).trans z1⟩)
  have h2 : JJ T r p m f X := h.og hJ (fun a i z _ _ _ => n (by omega)) (fun i hi => ⟨fun _ _ _ y => by rw [n (by omega), n (by omega)]; exact ⟨y, rfl⟩, fun z => n (by omega), fun z => by
    have := ne _ (h.h3 hi z).1
    exact ⟨n (by omega), n (by omega)⟩⟩) (fun i hi => ⟨fun z => (n (by omega)).trans (h.h2 hi z).2.2, fun z => by
    have := ne _ (h.h3 hi z).1
    exact (n (by omega)).trans (h.h3 hi z).2⟩)
  obtain ⟨t1, t2, t3, t4⟩ := endt (v := v) (y := e % 2) ⟨v0.1, by omega⟩ (by omega)
  have ea : ai r p = ai s p := ai_eq (n (by omega))
  refine h2.psh_ h16 (vOk.end_ ⟨e0, by rw [r2, t3], t4.symm, ?_⟩ t1) ⟨fun z => absurd z (by decide), fun _ => r3, fun _ j hj y z => ?_⟩
  · rw [r8, t2, show (4 * m + v) / 4 = m by omega, show (4 * m + v) % 4 = v by omega]
    exact Alk.rf hN v0.1 v0.2
  · have hj' : pl s p j := (pl_eq ea (fun x _ _ => n (by omega))).mp hj
    rw [n (by omega)] at y z
    exact ne _ (h.h3 hj' y).1 z
theorem opE_n {c : Int} {a : Nat} {i : Int} (h : a < 97 ∨ 118 < a) : opE s p e c a i = s a i := by unfold opE; rw [psh_n (by omega), upI_a (by omega), upI_a (by omega), upI_a (by omega), upI_a (by omega)]
theorem so_ch (h : JJ T s p m f X) (v0 : 0 ≤ v ∧ v < nCtr (T m)) (h16 : X.1 + 2 ≤ 16) {np : Int} (h96 : s 96 (ai s p) = np) (K : ∀ s', JJ T s' p m f (X.1 + 2, up1 (up1 X.2.1 X.1 (5 + 8 * v)) (X.1 + 1) (5 + 8 * v + 524288), X.2.2) → ai s' p = ai s p → s' 96 (ai s p) = np → JO T s' (-1)) : JO T (chnS s p (4 * s 91 p + v)) (-1) := by
  unfold chnS
  simp only []
  have hp := h.2.1.1
  rw [h.2.1.2.2.1]
  by_cases c : frCh s = 12
  · rw [if_pos c]; exact h.1.trp hp
  rw [if_neg c]
  have hlt := frL_b (g := fun k => decide (s 112 (2 * k) ≠ -1 ∨ s 112 (2 * k + 1) ≠ -1)) 12 0
  have hlt : 0 ≤ frCh s ∧ frCh s ≤ 12 := hlt
  have hf := frL_f (f := fun k => decide (s 112 (2 * k) ≠ -1 ∨ s 112 (2 * k + 1) ≠ -1)) 12 0 (by show frCh s < _; omega)
  obtain ⟨k, hk⟩ : ∃ k, frCh s = k := ⟨_, rfl⟩
  have hf := hf.2
  have hf : decide (s 112 (2 * frCh s) ≠ -1 ∨ s 112 (2 * frCh s + 1) ≠ -1) = false := hf
  rw [hk] at hlt c hf ⊢
  have hf := of_decide_eq_false hf
  have k1 : s 112 (2 * k) = -1 := Classical.byContradiction fun z => hf (Or.inl z)
  have k2 : s 112 (2 * k + 1) = -1 := Classical.byContradiction fun z => hf (Or.inr z)
  have o1 : oth (2 * k) = 2 * k + 1 := by unfold oth; rw [if_pos (by omega)]
  have o2 : oth (2 * k + 1) = 2 * k := by unfold oth; rw [if_neg (by omega)]; omega
  have h2 := h.ope (e := 2 * k) (v := v) (by omega) k1 v0 (by omega) (fun z => absurd z (by rw [o1]; exact fun y => y.2.2 k2))
  obtain ⟨r, hr⟩ : ∃ r, opE s p (2 * k) (4 * m + v) = r := ⟨_, rfl⟩
  rw [hr] at h2 ⊢
  have z2 : ∀ a, (a = 112 ∨ a = 113 ∨ a = 114 ∨ a = 118) → ∀ i, i ≠ 2 * k → r a i = s a i := fun a z i y => by
    rw [← hr]; unfold opE; rw [psh_n (by omega)]; unfold upI; rw [if_neg (by omega), if_neg (by omega), if_neg (by omega), if_neg (by omega)]
  have x12 : r 112 (2 * k) = 0 := by rw [← hr]; unfold opE; rw [psh_n (by decide), upI_a (by decide), upI_a (by decide), upI_a (by decide), upI_eq]
  have x14 : r 114 (2 * k) = 0 := by rw [← hr]; unfold opE; rw [psh_n (by decide), upI_a (by decide), upI_eq]
  have x18 : r 118 (2 * k) = 4 * m + v := by rw [← hr]; unfold opE; rw [psh_n (by decide), upI_eq]
  have h3 := h2.ope (e := 2 * k + 1) (v := v) (by omega) (by rw [z2 _ (by omega) _ (by omega)]; exact k2) v0 (by show X.1 + 1 < 16; omega) (fun _ => by rw [o2]; exact ⟨x18, x12, x14⟩)
  have ea : ai r p = ai s p := ai_eq (by rw [← hr]; exact opE_n (by decide))
  have e1 : (2 * k) % 2 = 0 := by omega
  have e2 : (2 * k + 1) % 2 = 1 := by omega
  rw [e1, e2] at h3
  have h4 : JJ T (opE r p (2 * k + 1) (4 * m + v)) p m f (X.1 + 1 + 1, up1 (up1 X.2.1 X.1 (5 + 8 * v)) (X.1 + 1) (5 + 8 * v + 524288), X.2.2) := by
    have q1 : 5 + 8 * v + 524288 * 0 = 5 + 8 * v := by omega
    have q2 : 5 + 8 * v + 524288 * 1 = 5 + 8 * v + 524288 := by omega
    rw [q1, q2] at h3; exact h3
  refine K _ (h4.e1 (by omega)) ((ai_eq (opE_n (by decide))).trans ea) ?_
  rw [opE_n (by decide), ← hr, opE_n (by decide)]; exact h96
theorem so_out (h : JJ T s p m f X) (h1 : 1 ≤ X.1) {np : Int} (h96 : s 96 (ai s p) = np) (K : ∀ s', JJ T s' p m f (X.1 - 1, X.2.1, X.2.2) → ai s' p = ai s p → s' 96 (ai s p) = np → JO T s' (-1)) : JO T (outS s p) (-1) := by
  have h2 := h.pp_ (n := 1) (by decide) h1
  have hp := h.2.1.1
  unfold outS
  by_cases c : s 49 55 = 500
  · rw [if_pos c]; exact h2.1.trp hp
  rw [if_neg c]
  obtain ⟨o, ho⟩ : ∃ o, s 49 55 = o := ⟨_, rfl⟩
  rw [ho] at c ⊢
  obtain ⟨u, hu⟩ : ∃ u, tv s p 0 = u := ⟨_, rfl⟩
  rw [hu]
  obtain ⟨r, hr⟩ : ∃ r, upI (upI (upI (pp s p 1) 87 o p) 88 o u) 49 55 (o + 1) = r := ⟨_, rfl⟩
  rw [hr]
  have n : ∀ {a : Nat} {i : Int}, a ≠ 87 ∧ a ≠ 88 ∧ ¬ (a = 49 ∧ i = 55) → r a i = pp s p 1 a i := fun z => by
    rw [← hr]; unfold upI; rw [if_neg (by omega), if_neg (by omega), if_neg (by omega)]
  have r55 : r 49 55 = o + 1 := by rw [← hr, upI_eq]
  have g := h2.1.1
  have g4 := h.1.1.2.2.2.1
  have hG : Gl r := by
    obtain ⟨g1, g2, g3, -, g5, g6, g7, g8, g9⟩ := g
    exact ⟨by rw [n (by omega)]; exact g1, by rw [n (by omega)]; exact g2, by rw [n (by omega)]; exact g3, by rw [r55]; omega, by rw [n (by omega)]; exact g5, fun q q0 q1 => by rw [n (by omega), n (by omega), n (by omega), n (by omega)]; exact g6 q q0 q1, fun b b0 b1 => by rw [n (by omega)]; exact g7 b b0 b1, fun b j b0 b1 => by rw [n (by omega), n (by omega)]; exact g8 b j b0 b1, fun e e0 e1 => by rw [n (by omega), n (by omega)]; exact g9 e e0 e1⟩
  have hJ : JO T r p := h2.1.lc (fun a i _ _ z1 z2 z3 => n (by omega)) hG
  have h3 : JJ T r p m f (X.1 - 1, X.2.1, X.2.2) := h2.og hJ (fun a i _ z1 z2 z3 => n (by omega)) (fun i hi => Vt.rf (fun _ => n (by omega)) (fun _ => n (by omega)) (fun _ => n (by omega)) (fun _ => n (by omega)) (fun _ => n (by omega))) (fun i hi => ⟨fun z => (n (by omega)).trans (h2.h2 hi z).2.2, fun z => (n (by omega)).trans (h2.h3 hi z).2⟩)
  refine K _ h3 ((ai_eq (n (by omega))).trans ppz_ai) ?_
  rw [n (by omega), pp_96]; exact h96
end SK0
