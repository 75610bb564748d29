/-! SOUNDNESS: what is closed, what is over -/
section SD4
variable {T : TXs} {s s' : HI} {p q m f v w t : Int} {B : Int → Int} {X Y : Tst} {E : Int → Prop}
/-- what goes with the ends of E: those, or what waited for one of them -/
theorem clo_in {e : Int} (h : clo s E e) : (E e ∧ opn s e) ∨ ∃ x k, clo s E x ∧ 0 ≤ k ∧ k < s 114 x ∧ s 117 (4 * x + k) = 3 ∧ s 116 (4 * x + k) = e ∧ opn s e := by
  refine (h (fun e => clo s E e ∧ ((E e ∧ opn s e) ∨ ∃ x k, clo s E x ∧ 0 ≤ k ∧ k < s 114 x ∧ s 117 (4 * x + k) = 3 ∧ s 116 (4 * x + k) = e ∧ opn s e)) (fun x hx ho => ⟨clo_s hx ho, Or.inl ⟨hx, ho⟩⟩) (fun x k hx k0 k1 h3 ho => ⟨clo_k hx.1 k0 k1 h3 ho, Or.inr ⟨x, k, hx.1, k0, k1, h3, rfl, ho⟩⟩)).2
theorem JO.q3 (h : JO T s p) {x k : Int} (hx : opn s x) (k0 : 0 ≤ k) (k1 : k < s 114 x) (h3 : s 117 (4 * x + k) = 3) : s 113 (s 116 (4 * x + k)) = 100 + x := by
  obtain ⟨m, c, -, -, -, -, -, -, h7, -⟩ := h.2.1 x hx
  have := (h7 k.toNat (by omega)).2.2.2.2.2
  rw [Int.toNat_of_nonneg k0] at this
  exact this h3
theorem JO.q2 (h : JO T s p) {x k : Int} (hx : opn s x) (k0 : 0 ≤ k) (k1 : k < s 114 x) (h3 : s 117 (4 * x + k) = 2) : s 110 (s 116 (4 * x + k)) = 100 + x := by
  obtain ⟨m, c, -, -, -, -, -, -, h7, -⟩ := h.2.1 x hx
  have := (h7 k.toNat (by omega)).2.2.2.2.1
  rw [Int.toNat_of_nonneg k0] at this
  exact this h3
/-- whose the ends are that go -/
theorem JO.clo_ (h : JO T s p) {e : Int} (hc : clo s E e) : E e ∨ ∃ x, clo s E x ∧ s 113 e = 100 + x := by
  rcases clo_in hc with ⟨z, -⟩ | ⟨x, k, z1, z2, z3, z4, z5, -⟩
  · exact Or.inl z
  · refine Or.inr ⟨x, z1, ?_⟩
    rw [← z5]; exact h.q3 (clo_o z1) z2 z3 z4
theorem JO.blo_ (h : JO T s p) {b : Int} (hc : blo s (clo s E) b) : ∃ x, clo s E x ∧ s 110 b = 100 + x := by
  obtain ⟨x, k, z1, z2, z3, z4, z5⟩ := hc
  refine ⟨x, z1, ?_⟩
  rw [← z5]; exact h.q2 (clo_o z1) z2 z3 z4
theorem cls_n {a : Nat} {i : Int} (h1 : a ≠ 112) (h2 : a ≠ 114) (h3 : a ≠ 109) : clsS s E a i = s a i := by
  unfold clsS; rw [cif_n (fun z => h1 z.1), cif_n (fun z => h2 z.1), cif_n (fun z => h3 z.1)]
theorem cls_112y {e : Int} (h : clo s E e) : clsS s E 112 e = -1 := by unfold clsS; rw [cif_y ⟨rfl, h⟩]
theorem cls_112n {e : Int} (h : ¬ clo s E e) : clsS s E 112 e = s 112 e := by
  unfold clsS; rw [cif_n (fun z => h z.2), cif_n (fun z => absurd z.1 (by decide)), cif_n (fun z => absurd z.1 (by decide))]
theorem cls_114y {e : Int} (h : clo s E e) : clsS s E 114 e = 0 := by unfold clsS; rw [cif_n (fun z => absurd z.1 (by decide)), cif_y ⟨rfl, h⟩]
theorem cls_114n {e : Int} (h : ¬ clo s E e) : clsS s E 114 e = s 114 e := by
  unfold clsS; rw [cif_n (fun z => absurd z.1 (by decide)), cif_n (fun z => h z.2), cif_n (fun z => absurd z.1 (by decide))]
theorem cls_109y {b : Int} (h : blo s (clo s E) b) : clsS s E 109 b = -1 := by unfold clsS; rw [cif_n (fun z => absurd z.1 (by decide)), cif_n (fun z => absurd z.1 (by decide)), cif_y ⟨rfl, h⟩]
theorem cls_109n {b : Int} (h : ¬ blo s (clo s E) b) : clsS s E 109 b = s 109 b := by
  unfold clsS; rw [cif_n (fun z => absurd z.1 (by decide)), cif_n (fun z => absurd z.1 (by decide)), cif_n (fun z => h z.2)]
theorem cls_opn {e : Int} : opn (clsS s E) e ↔ opn s e ∧ ¬ clo s E e := by
  constructor
  · rintro ⟨h0, h1, h2⟩
    by_cases c : clo s E e
    · rw [cls_112y c] at h2; exact absurd rfl h2
    · rw [cls_112n c] at h2; exact ⟨⟨h0, h1, h2⟩, c⟩
  · rintro ⟨⟨h0, h1, h2⟩, c⟩
    exact ⟨h0, h1, by rw [cls_112n c]; exact h2⟩
theorem JO.cls (h : JO T s p) (hp : p < 12) (hE : ∀ e, E e → s 113 e = p) : JO T (clsS s E) p := by
  obtain ⟨⟨g1, g2, g3, g4, g5, g6, g7, g8, g9⟩, h2, h3, h4⟩ := id h
  have n : ∀ {a : Nat} {i : Int}, a ≠ 112 → a ≠ 114 → a ≠ 109 → clsS s E a i = s a i := fun a b c => cls_n a b c
  have cl : ∀ v q, clo s E v → s 113 v = q → q ≠ p → ∃ x, clo s E x ∧ q = 100 + x := fun v q hc e ne => by
    rcases h.clo_ hc with z | ⟨x, z1, z2⟩
    · exact absurd ((hE v z).symm.trans e).symm (fun y => ne y)
    · exact ⟨x, z1, e.symm.trans z2⟩
  refine ⟨⟨by rw [n (by decide) (by decide) (by decide)]; exact g1, by rw [n (by decide) (by decide) (by decide)]; exact g2, by rw [n (by decide) (by decide) (by decide)]; exact g3, by rw [n (by decide) (by decide) (by decide)]; exact g4, by rw [n (by decide) (by decide) (by decide)]; exact g5, fun q q0 q1 => by
    rw [n (by decide) (by decide) (by decide), n (by decide) (by decide) (by decide), n (by decide) (by decide) (by decide), n (by decide) (by decide) (by decide)]; exact g6 q q0 q1, fun b b0 b1 => ?_, fun b j b0 b1 hb => ?_, fun e e0 e1 => ?_⟩, fun e he => ?_, fun e he he' => ?_, fun q q0 q1 q2 q3 => ?_⟩
  · by_cases c : blo s (clo s E) b
    · rw [cls_109y c]; exact Or.inl rfl
    · rw [cls_109n c]; exact g7 b b0 b1
  · rw [n (by decide) (by decide) (by decide)]
    by_cases c : blo s (clo s E) b
    · rw [cls_109y c] at hb; exact absurd rfl hb
    · rw [cls_109n c] at hb; exact g8 b j b0 b1 hb
  · by_cases c : clo s E e
    · rw [cls_112y c, cls_114y c]; exact fun _ => rfl
    · rw [cls_112n c, cls_114n c]; exact g9 e e0 e1
  · obtain ⟨ho, hc⟩ := cls_opn.mp he
    refine (h2 e ho).tr (fun a i a1 a2 => n (by omega) (by omega) (by omega)) (n (by decide) (by decide) (by decide)) (cls_112n hc) (cls_114n hc) (fun j _ => ⟨n (by decide) (by decide) (by decide), n (by decide) (by decide) (by decide), n (by decide) (by decide) (by decide)⟩) (fun v z1 z2 => ⟨?_, (n (by decide) (by decide) (by decide)).trans z1⟩) (fun v z1 z2 => ?_)
    · refine cls_109n (fun y => ?_)
      obtain ⟨x, y1, y2⟩ := h.blo_ y
      have : x = e := by omega
      subst this; exact hc y1
    · have hv : ¬ clo s E v := fun y => by
        obtain ⟨x, y1, y2⟩ := cl v _ y z1 (by have := ho.1; omega)
        have : x = e := by omega
        subst this; exact hc y1
      exact ⟨cls_112n hv, n (by decide) (by decide) (by decide), (n (by decide) (by decide) (by decide)).trans z1⟩
  · obtain ⟨ho, hc⟩ := cls_opn.mp he
    obtain ⟨ho', hc'⟩ := cls_opn.mp he'
    obtain ⟨m1, c1, y1⟩ := h2 e ho
    obtain ⟨m2, c2, y2⟩ := h2 _ ho'
    exact (h3 e ho ho').tr (n (by decide) (by decide) (by decide)) (cls_112n hc) (cls_114n hc) (fun j _ => n (by decide) (by decide) (by decide)) (n (by decide) (by decide) (by decide)) (cls_112n hc') (cls_114n hc') (fun j _ => n (by decide) (by decide) (by decide)) y1.2.2.2.2.2.1.2 y2.2.2.2.2.2.1.2
  · rw [n (by decide) (by decide) (by decide)] at q3
    refine (h4 q q0 q1 q2 q3).tr (fun a i z => ?_) (fun a i a1 a2 => n (by omega) (by omega) (by omega)) (fun v z1 z2 => ?_) (fun v z => (n (by decide) (by decide) (by decide)).trans z) (fun v z1 z2 => ?_) (fun v z => (n (by decide) (by decide) (by decide)).trans z)
    · unfold ownC at z; exact n (by omega) (by omega) (by omega)
    · refine cls_109n (fun y => ?_)
      obtain ⟨x, y1, y2⟩ := h.blo_ y
      have := (clo_o y1).1
      omega
    · have hv : ¬ clo s E v := fun y => by
        obtain ⟨x, y1, y2⟩ := cl v _ y z1 q2
        have := (clo_o y1).1
        omega
      exact ⟨cls_112n hv, n (by decide) (by decide) (by decide)⟩
theorem frb_k {b : Int} (h : s 110 b ≠ p) : frbS s p 109 b = s 109 b := by unfold frbS; rw [cif_n (fun z => h z.2.2.2.2)]
theorem frb_d {b : Int} : frbS s p 109 b = -1 ∨ frbS s p 109 b = s 109 b := by
  unfold frbS
  by_cases c : ((109 : Nat) = 109 ∧ 0 ≤ b ∧ b < 128 ∧ s 109 b ≠ -1 ∧ s 110 b = p)
  · rw [cif_y c]; exact Or.inl rfl
  · rw [cif_n c]; exact Or.inr rfl
theorem JO.frb (h : JO T s p) (hp : p < 12) : JO T (frbS s p) p := by
  obtain ⟨⟨g1, g2, g3, g4, g5, g6, g7, g8, g9⟩, h2, h3, h4⟩ := id h
  have n : ∀ {a : Nat} {i : Int}, a ≠ 109 → frbS s p a i = s a i := fun a => frb_n a
  have no : ∀ e, opn (frbS s p) e ↔ opn s e := fun e => by unfold opn; rw [n (by decide)]
  refine ⟨⟨by rw [n (by decide)]; exact g1, by rw [n (by decide)]; exact g2, by rw [n (by decide)]; exact g3, by rw [n (by decide)]; exact g4, by rw [n (by decide)]; exact g5, fun q q0 q1 => by
    rw [n (by decide), n (by decide), n (by decide), n (by decide)]; exact g6 q q0 q1, fun b b0 b1 => ?_, fun b j b0 b1 hb => ?_, fun e e0 e1 => by rw [n (by decide), n (by decide)]; exact g9 e e0 e1⟩, fun e he => ?_, fun e he he' => ?_, fun q q0 q1 q2 q3 => ?_⟩
  · rcases frb_d (s := s) (p := p) (b := b) with z | z
    · exact Or.inl z
    · rw [z]; exact g7 b b0 b1
  · rw [n (by decide)]
    rcases frb_d (s := s) (p := p) (b := b) with z | z
    · exact absurd z hb
    · rw [z] at hb; exact g8 b j b0 b1 hb
  · have ho := (no e).mp he
    have := ho.1
    exact (h2 e ho).tr (fun a i a1 a2 => n (by omega)) (n (by decide)) (n (by decide)) (n (by decide)) (fun j _ => ⟨n (by decide), n (by decide), n (by decide)⟩) (fun v z1 z2 => ⟨frb_k (by omega), (n (by decide)).trans z1⟩) (fun v z1 z2 => ⟨n (by decide), n (by decide), (n (by decide)).trans z1⟩)
  · have ho := (no _).mp he
    have ho' := (no _).mp he'
    obtain ⟨m1, c1, y1⟩ := h2 e ho
    obtain ⟨m2, c2, y2⟩ := h2 _ ho'
    exact (h3 e ho ho').tr (n (by decide)) (n (by decide)) (n (by decide)) (fun j _ => n (by decide)) (n (by decide)) (n (by decide)) (n (by decide)) (fun j _ => n (by decide)) y1.2.2.2.2.2.1.2 y2.2.2.2.2.2.1.2
  · rw [n (by decide)] at q3
    exact (h4 q q0 q1 q2 q3).tr (fun a i z => n (by unfold ownC at z; omega)) (fun a i a1 a2 => n (by omega)) (fun v z1 z2 => frb_k (by omega)) (fun v z => (n (by decide)).trans z) (fun v z1 z2 => ⟨n (by decide), n (by decide)⟩) (fun v z => (n (by decide)).trans z)
/-- one of a process's scalars changes -/
theorem JO.sc (h : JO T s p) {a : Nat} {x : Int} (ha : a = 90 ∨ (a = 89 ∧ 4 ≤ x ∧ x ≤ 5)) (hp : 0 ≤ p) : JO T (upI s a p x) p := by
  have n : ∀ {b : Nat} {i : Int}, ¬ (b = a ∧ i = p) → upI s a p x b i = s b i := fun z => if_neg z
  refine h.lc (fun b i z _ _ _ _ => n (fun y => z (by unfold ownC; omega))) ?_
  obtain ⟨g1, g2, g3, g4, g5, g6, g7, g8, g9⟩ := h.1
  refine ⟨by rw [n (by omega)]; exact g1, by rw [n (by omega)]; exact g2, by rw [n (by omega)]; exact g3, by rw [n (by omega)]; exact g4, by rw [n (by omega)]; exact g5, fun q q0 q1 => ?_, fun b b0 b1 => by rw [n (by omega)]; exact g7 b b0 b1, fun b j b0 b1 => by rw [n (by omega), n (by omega)]; exact g8 b j b0 b1, fun e e0 e1 => by rw [n (by omega), n (by omega)]; exact g9 e e0 e1⟩
  have := g6 q q0 q1
  rw [n (b := 93) (by omega), n (b := 49) (by omega), n (b := 49) (by omega)]
  by_cases c : 89 = a ∧ q = p
  · obtain ⟨c1, c2⟩ := c
    subst c2; subst c1
    rw [upI_eq]; omega
  · rw [n c]; exact this
theorem JO.out (h : JO T s p) (h89 : 4 ≤ s 89 p) : JO T s (-1) := ⟨h.1, h.2.1, h.2.2.1, fun q q0 q1 _ q3 => by
  by_cases c : q = p
  · subst c; omega
  · exact h.2.2.2 q q0 q1 c q3⟩
theorem JO.ovr (h : JO T s p) (hp : 0 ≤ p ∧ p < 12) {x : Int} (hx : 4 ≤ x ∧ x ≤ 5) : JO T (ovrS s p x) (-1) := by
  have h1 := (h.sc (a := 89) (x := x) (by omega) hp.1).frb hp.2
  have e113 : ∀ e, frbS (upI s 89 p x) p 113 e = s 113 e := fun e => by rw [frb_n (by decide), upI_a (by decide)]
  have h2 := h1.cls (E := fun e => s 113 e = p) hp.2 (fun e he => by rw [e113]; exact he)
  refine h2.out ?_
  rw [cls_n (by decide) (by decide) (by decide), frb_n (by decide), upI_eq]
  exact hx.1
theorem JO.trp (h : JO T s p) (hp : 0 ≤ p ∧ p < 12) {x : Int} : JO T (trpS s p x) (-1) := (h.sc (a := 90) (x := x) (by omega) hp.1).ovr hp (by omega)
end SD4
