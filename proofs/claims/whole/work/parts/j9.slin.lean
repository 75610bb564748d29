/-! CONTRACTS THAT ARE ALIKE -/
section SD9a
variable {B B' B'' : Int → Int} {c d e S t : Int}
theorem alL.rf {R : Int → Int → Prop} {x : Int} (h : kindM x = 5 → R (whichM x) (whichM x)) : alL B B R x x := ⟨rfl, fun _ => rfl, fun k => ⟨rfl, rfl, h k⟩⟩
theorem Alk.rf (hN : NV B) (c0 : 0 ≤ c) (c1 : c < nCtr B) : Alk B B c c := by
  refine ⟨fun x y => x = y ∧ 0 ≤ x ∧ x < nCtr B, fun x y h => ?_, rfl, c0, c1⟩
  obtain ⟨rfl, h0, h1⟩ := h
  refine ⟨⟨h0, h1⟩, ⟨h0, h1⟩, rfl, fun s s0 s1 => ⟨rfl, rfl, fun t t0 t1 => ⟨rfl, alL.rf (fun k => ⟨rfl, by unfold whichM; omega, ?_⟩)⟩⟩⟩
  rcases (hN.2.1 x s t h0 h1 s0 s1 t0 t1).1 with z | z
  · rw [z] at k; exact absurd k (by decide)
  · exact (z.1.2.2.2.2.2.2.2 k).1
theorem alL.tr {R R' : Int → Int → Prop} {x y z : Int} (h : alL B B' R x y) (h' : alL B' B'' R' y z) : alL B B'' (fun a b => ∃ w, R a w ∧ R' w b) x z := ⟨h.1.trans h'.1, fun k => (h.2.1 k).trans (h'.2.1 (h.1.symm.trans k)), fun k => ⟨(h.2.2 k).1.trans (h'.2.2 (h.1.symm.trans k)).1, (h.2.2 k).2.1.trans (h'.2.2 (h.1.symm.trans k)).2.1, whichM y, (h.2.2 k).2.2, (h'.2.2 (h.1.symm.trans k)).2.2⟩⟩
theorem Alk.tr (h : Alk B B' c d) (h' : Alk B' B'' d e) : Alk B B'' c e := by
  obtain ⟨R, h1, h2⟩ := h
  obtain ⟨R', h1', h2'⟩ := h'
  refine ⟨fun a b => ∃ w, R a w ∧ R' w b, ?_, d, h2, h2'⟩
  rintro x z ⟨y, hx, hy⟩
  obtain ⟨a1, a2, a3, a4⟩ := h1 x y hx
  obtain ⟨b1, b2, b3, b4⟩ := h1' y z hy
  refine ⟨a1, b2, a3.trans b3, fun s s0 s1 => ?_⟩
  obtain ⟨c1, c2, c3⟩ := a4 s s0 s1
  obtain ⟨d1, d2, d3⟩ := b4 s s0 (by rw [← a3]; exact s1)
  refine ⟨c1.trans d1, c2.trans d2, fun t t0 t1 => ⟨(c3 t t0 t1).1.trans (d3 t t0 (by rw [← c2]; exact t1)).1, (c3 t t0 t1).2.tr (d3 t t0 (by rw [← c2]; exact t1)).2⟩⟩
/-- what alike contracts say -/
theorem Alk.st (h : Alk B B' c d) (s0 : 0 ≤ S) (s1 : S < nSt B c) : ((0 ≤ c ∧ c < nCtr B) ∧ (0 ≤ d ∧ d < nCtr B')) ∧ nSt B c = nSt B' d ∧ tnS B c S = tnS B' d S ∧ nMs B c S = nMs B' d S ∧ ∀ t, 0 ≤ t → t < nMs B c S → thM B c S t = thM B' d S t ∧ alL B B' (Alk B B') (ldM B c S t) (ldM B' d S t) := by
  obtain ⟨R, h1, h2⟩ := h
  obtain ⟨a1, a2, a3, a4⟩ := h1 c d h2
  obtain ⟨c1, c2, c3⟩ := a4 S s0 s1
  exact ⟨⟨a1, a2⟩, a3, c1, c2, fun t t0 t1 => ⟨(c3 t t0 t1).1, (c3 t t0 t1).2.mn (fun x y hR => ⟨R, h1, hR⟩)⟩⟩
theorem Alk.cd (h : Alk B B' c d) : (0 ≤ c ∧ c < nCtr B) ∧ (0 ≤ d ∧ d < nCtr B') ∧ nSt B c = nSt B' d := by
  obtain ⟨R, h1, h2⟩ := h
  obtain ⟨a1, a2, a3, -⟩ := h1 c d h2
  exact ⟨a1, a2, a3⟩
end SD9a
/-! SOUNDNESS: blocks, and ends that are closed -/
section SD9
variable {T : TXs} {s s' : HI} {p q m f v w t o x n k g : Int} {B : Int → Int} {X Y : Tst}
/-- what is no process's own changes -/
theorem JJ.og (h : JJ T s p m f X) (hJ : JO T s' p) (e : ∀ a i, a < 109 ∨ 118 < a → a ≠ 49 → a ≠ 87 → a ≠ 88 → s' a i = s a i) (hv : ∀ i, pl s p i → Vt s s' p (s 98 i) (s 99 i)) (ho : ∀ i, pl s p i → (s 99 i = 2 → s' 110 (s 98 i) = p) ∧ (s 99 i = 3 → s' 113 (s 98 i) = p)) : JJ T s' p m f X := by
  obtain ⟨-, hP⟩ := id h
  obtain ⟨h1, h2, h3, h4, h5, h6, h7⟩ := id hP
  have n : ∀ {a : Nat} {i : Int}, (a < 109 ∨ 118 < a) ∧ a ≠ 49 ∧ a ≠ 87 ∧ a ≠ 88 → s' a i = s a i := fun z => e _ _ z.1 z.2.1 z.2.2.1 z.2.2.2
  refine ⟨hJ, hP.go (fun a i a1 a2 => n (by omega)) (by rw [n (by decide)]; exact h1.2.2.2.2.2) (n (by decide)) (n (by decide)) (n (by decide)) (fun x _ _ => n (by decide)) (fun x _ _ => ⟨n (by decide), n (by decide)⟩) (fun i _ _ => ⟨n (by decide), n (by decide)⟩) (fun i hi _ => hv i hi) ?_ h5 ?_ ?_⟩
  · exact h2.tr h1.2.2.2.1 (fun b _ _ => ⟨n (by decide), n (by decide)⟩) (fun b i _ _ _ _ => ⟨n (by decide), n (by decide)⟩)
  · exact h6.tr (n (by decide)) (fun i _ _ => ⟨n (by decide), n (by decide)⟩) h5.1 (fun i i0 i1 => hv i ⟨ai s p, i - 26 * ai s p, h1.a.1, Int.le_refl _, by omega, by rw [h6.1]; omega, by omega⟩)
  · have hpl : ∀ i, pl s' p i → pl s p i := fun i hi => (pl_eq (ai_eq (n (by decide))) (fun x _ _ => n (by decide))).mp hi
    refine ⟨fun i hi => ?_, fun i j hi hj hne => ?_⟩
    · rw [n (a := 98) (by decide), n (a := 99) (by decide)]; exact ho i (hpl i hi)
    · rw [n (a := 98) (by decide), n (a := 98) (by decide), n (a := 99) (by decide), n (a := 99) (by decide)]; exact h7.2 i j (hpl i hi) (hpl j hj) hne
/-- what a place holds -/
theorem JJ.h2 (h : JJ T s p m f X) {i : Int} (hi : pl s p i) (z : s 99 i = 2) : (0 ≤ s 98 i ∧ s 98 i < 128) ∧ s 109 (s 98 i) ≠ -1 ∧ s 110 (s 98 i) = p := by
  obtain ⟨t, hv⟩ := h.2.any hi
  obtain ⟨-, y1, -, y2⟩ := hv.w2 z
  exact ⟨y1, y2, (h.2.2.2.2.2.2.2.1 i hi).1 z⟩
theorem JJ.h3 (h : JJ T s p m f X) {i : Int} (hi : pl s p i) (z : s 99 i = 3) : opn s (s 98 i) ∧ s 113 (s 98 i) = p := by
  obtain ⟨t, hv⟩ := h.2.any hi
  obtain ⟨-, y1, y2, -⟩ := hv.w3 z
  have : 0 ≤ stateM t := by unfold stateM; omega
  exact ⟨⟨y1.1, y1.2, by omega⟩, (h.2.2.2.2.2.2.2.1 i hi).2 z⟩
theorem JJ.cls {E : Int → Prop} (h : JJ T s p m f X) (hE : ∀ e, E e → s 113 e = p ∧ ∀ j, pl s p j → s 99 j = 3 → s 98 j ≠ e) : JJ T (clsS s E) p m f X := by
  have hp := h.2.1.1
  have hJ := h.1.cls (E := E) hp.2 (fun e z => (hE e z).1)
  refine h.og hJ (fun a i z _ _ _ => cls_n (by omega) (by omega) (by omega)) (fun i hi => ⟨fun _ _ _ y => by rw [cls_n (by decide) (by decide) (by decide), cls_n (by decide) (by decide) (by decide)]; exact ⟨y, rfl⟩, fun z => cls_109n (fun y => ?_), fun z => ⟨cls_112n (fun y => ?_), cls_n (by decide) (by decide) (by decide)⟩⟩) (fun i hi => ⟨fun z => (cls_n (by decide) (by decide) (by decide)).trans (h.h2 hi z).2.2, fun z => (cls_n (by decide) (by decide) (by decide)).trans (h.h3 hi z).2⟩)
  · obtain ⟨x, y1, y2⟩ := h.1.blo_ y
    have := (clo_o y1).1
    have := (h.h2 hi z).2.2
    omega
  · rcases h.1.clo_ y with d | ⟨x, y1, y2⟩
    · exact (hE _ d).2 i hi z rfl
    · have := (clo_o y1).1
      have := (h.h3 hi z).2
      omega
/-- blocks change that are a process's own -/
theorem JO.bl (h : JO T s p) (hp : p < 12) (e : ∀ a i, ¬ (109 ≤ a ∧ a ≤ 111) → s' a i = s a i) (hb : ∀ b, (s 109 b ≠ -1 ∧ s 110 b ≠ p) → s' 109 b = s 109 b ∧ s' 110 b = s 110 b) (hG : Gl s') : JO T s' p := by
  obtain ⟨-, h2, h3, h4⟩ := h
  have n : ∀ {a : Nat} {i : Int}, ¬ (109 ≤ a ∧ a ≤ 111) → s' a i = s a i := fun z => e _ _ z
  have no : ∀ e, opn s' e ↔ opn s e := fun e => by unfold opn; rw [n (by decide)]
  refine ⟨hG, fun e he => ?_, fun e he he' => ?_, fun q q0 q1 q2 q3 => ?_⟩
  · have ho := (no e).mp he
    have := ho.1
    exact (h2 e ho).tr (fun a i a1 a2 => n (by omega)) (n (by decide)) (n (by decide)) (n (by decide)) (fun j _ => ⟨n (by decide), n (by decide), n (by decide)⟩) (fun v z1 z2 => ⟨(hb v ⟨z2, by omega⟩).1, (hb v ⟨z2, by omega⟩).2.trans z1⟩) (fun v z1 z2 => ⟨n (by decide), n (by decide), (n (by decide)).trans z1⟩)
  · have ho := (no _).mp he
    have ho' := (no _).mp he'
    obtain ⟨m1, c1, y1⟩ := h2 e ho
    obtain ⟨m2, c2, y2⟩ := h2 _ ho'
    exact (h3 e ho ho').tr (n (by decide)) (n (by decide)) (n (by decide)) (fun j _ => n (by decide)) (n (by decide)) (n (by decide)) (n (by decide)) (fun j _ => n (by decide)) y1.2.2.2.2.2.1.2 y2.2.2.2.2.2.1.2
  · rw [n (by decide)] at q3
    exact (h4 q q0 q1 q2 q3).tr2 (fun a i z => n (by unfold ownC at z; omega)) (fun a i a1 a2 => n (by omega)) (fun v z1 z2 => ⟨(hb v ⟨z2, by omega⟩).1, (hb v ⟨z2, by omega⟩).2.trans z1⟩) (fun v z1 z2 => ⟨n (by decide), n (by decide), (n (by decide)).trans z1⟩)
theorem Gl.bl (h : Gl s) (e : ∀ a i, ¬ (109 ≤ a ∧ a ≤ 111) → s' a i = s a i) (h1 : ∀ b, 0 ≤ b → b < 128 → s' 109 b = -1 ∨ (1 ≤ s' 109 b ∧ s' 109 b ≤ 6)) (h2 : ∀ b j, 0 ≤ b → b < 128 → s' 109 b ≠ -1 → 0 ≤ j → j < 6 → rng (s' 111 (6 * b + j))) : Gl s' := by
  have n : ∀ {a : Nat} {i : Int}, ¬ (109 ≤ a ∧ a ≤ 111) → s' a i = s a i := fun z => e _ _ z
  obtain ⟨g1, g2, g3, g4, g5, g6, g7, g8, g9⟩ := h
  exact ⟨by rw [n (by decide)]; exact g1, by rw [n (by decide)]; exact g2, by rw [n (by decide)]; exact g3, by rw [n (by decide)]; exact g4, by rw [n (by decide)]; exact g5, fun q q0 q1 => by
    rw [n (by decide), n (by decide), n (by decide), n (by decide)]; exact g6 q q0 q1, h1, h2, fun e e0 e1 => by rw [n (by decide), n (by decide)]; exact g9 e e0 e1⟩
theorem frL_bb {f : Int → Bool} : ∀ (n : Nat) (k b : Int), k ≤ b → b < k + n → f b = false → (k ≤ frL f n k ∧ frL f n k ≤ b) ∧ f (frL f n k) = false
  | 0, k, b, h1, h2, _ => by omega
  | n + 1, k, b, h1, h2, h3 => by
    by_cases c : f k = true
    · have hkb : k ≠ b := fun z => by rw [z, h3] at c; exact absurd c (by decide)
      have := frL_bb (f := f) n (k + 1) b (by omega) (by omega) h3
      have e : frL f (n + 1) k = frL f n (k + 1) := if_pos c
      rw [e]; exact ⟨⟨by omega, this.1.2⟩, this.2⟩
    · have e : frL f (n + 1) k = k := if_neg c
      rw [e]
      exact ⟨⟨Int.le_refl _, h1⟩, by cases h : f k; rfl; exact absurd h c⟩
theorem bcl_g2 : ∀ n : Nat, (∀ b : Nat, b < n → 1 ≤ s 109 b) → 2 * (n : Int) ≤ bcl s n
  | 0, _ => by show (2 * ((0 : Nat) : Int)) ≤ 0; decide
  | n + 1, h => by
    have := bcl_g2 n (fun b hb => h b (by omega))
    have h9 := h n (by omega)
    show 2 * ((n + 1 : Nat) : Int) ≤ bcl s n + (if s 109 n = -1 then 0 else s 109 n + 1)
    rw [if_neg (by omega)]; omega
theorem Gl.fb (h : Gl s) (hn : 1 ≤ n) (hc : ¬ bcl s 128 + n + 1 > 256) : ∃ b, 0 ≤ b ∧ b < 128 ∧ s 109 b = -1 := by
  apply Classical.byContradiction
  intro z
  have := bcl_g2 (s := s) 128 (fun b hb => by
    rcases h.2.2.2.2.2.2.1 b (by omega) (by omega) with y | y
    · exact absurd ⟨(b : Int), by omega, by omega, y⟩ z
    · exact y.1)
  omega
theorem so_bl {np : Int} (h : JJ T s p m f X) (h16 : X.1 < 16) (v0 : 0 ≤ v ∧ v < nRec (T m)) (hc : ¬ bcl s 128 + nFld (T m) v + 1 > 256) (h96 : s 96 (ai s p) = np) (K : ∀ s', JJ T s' p m f (X.1 + 1, up1 X.2.1 X.1 (4 + 8 * v), X.2.2) → ai s' p = ai s p → s' 96 (ai s p) = np → JO T s' (-1)) : JO T (mkbS s p (nFld (T m) v)) (-1) := by
  have hS := h.mg.2.1.2.1
  obtain ⟨f1, f6, -⟩ := hS.2.2.1 v v0.1 v0.2
  have r8 : nRec (T m) ≤ 8 := hS.2.1
  obtain ⟨b0, y0, y1, y2⟩ := h.1.1.fb f1 hc
  have hb := frL_bb (f := fun k => decide (s 109 k ≠ -1)) 128 0 b0 y0 (by omega) (by simp [y2])
  unfold mkbS
  simp only []
  obtain ⟨b, hbe⟩ : ∃ b, frL (fun k => decide (s 109 k ≠ -1)) 128 0 = b := ⟨_, rfl⟩
  rw [hbe] at hb ⊢
  obtain ⟨⟨b1, b2⟩, b3⟩ := hb
  have b3 : s 109 b = -1 := by simpa using b3
  obtain ⟨nf, hnf⟩ : ∃ nf, nFld (T m) v = nf := ⟨_, rfl⟩
  rw [hnf] at f1 f6 ⊢
  obtain ⟨r, hr⟩ : ∃ r : HI, (fun a i => if a = 109 ∧ i = b then nf else if a = 110 ∧ i = b then p else if a = 111 ∧ 6 * b ≤ i ∧ i < 6 * b + 6 then 0 else s a i) = r := ⟨_, rfl⟩
  rw [hr]
  have n : ∀ a i, ¬ (109 ≤ a ∧ a ≤ 111) → r a i = s a i := fun a i z => by rw [← hr]; show (if _ then _ else _) = _; rw [if_neg (by omega), if_neg (by omega), if_neg (by omega)]
  have n9 : ∀ i, i ≠ b → r 109 i = s 109 i ∧ r 110 i = s 110 i := fun i z => by
    rw [← hr]; constructor
    · show (if _ then _ else _) = _; rw [if_neg (by omega), if_neg (by omega), if_neg (by omega)]
    · show (if _ then _ else _) = _; rw [if_neg (by omega), if_neg (by omega), if_neg (by omega)]
  have r9 : r 109 b = nf := by rw [← hr]; exact if_pos ⟨rfl, rfl⟩
  have r10 : r 110 b = p := by rw [← hr]; show (if _ then _ else _) = _; rw [if_neg (by omega), if_pos ⟨rfl, rfl⟩]
  have hG : Gl r := h.1.1.bl n (fun c c0 c1 => by
    by_cases d : c = b
    · subst d; rw [r9]; exact Or.inr ⟨f1, f6⟩
    · rw [(n9 c d).1]; exact h.1.1.2.2.2.2.2.2.1 c c0 c1) (fun c j c0 c1 hc j0 j1 => by
    by_cases d : c = b
    · subst d
      rw [← hr]; show rng (if _ then _ else _); rw [if_neg (by omega), if_neg (by omega), if_pos ⟨rfl, by omega, by omega⟩]; decide
    · rw [(n9 c d).1] at hc
      have := h.1.1.2.2.2.2.2.2.2.1 c j c0 c1 hc j0 j1
      rw [← hr]; show rng (if _ then _ else _); rw [if_neg (by omega), if_neg (by omega), if_neg (by omega)]; exact this)
  have hJ : JO T r p := h.1.bl h.2.1.1.2 n (fun c z => n9 c (fun y => by subst y; exact z.1 b3)) hG
  have h2 : JJ T r p m f X := h.og hJ (fun a i z _ _ _ => n a i (by omega)) (fun i hi => ⟨fun _ _ _ y => by rw [n _ _ (by decide), n _ _ (by decide)]; exact ⟨y, rfl⟩, fun z => (n9 _ (fun y => (h.h2 hi z).2.1 (by rw [y]; exact b3))).1, fun z => ⟨n _ _ (by decide), n _ _ (by decide)⟩⟩) (fun i hi => ⟨fun z => ((n9 _ (fun y => (h.h2 hi z).2.1 (by rw [y]; exact b3))).2).trans (h.h2 hi z).2.2, fun z => (n _ _ (by decide)).trans (h.h3 hi z).2⟩)
  have ek := kM18 (c := 4) v0.1 (by decide)
  have ew := wM18 (c := 4) (v := v) ⟨v0.1, by omega⟩ (by decide)
  have ea : ai r p = ai s p := ai_eq (n _ _ (by decide))
  have h3 := h2.psh_ (v := b) (w := 2) (t := 4 + 8 * v) h16 (vOk.blk ⟨⟨b1, by omega⟩, by rw [r9, ew, hnf], by rw [r9]; omega⟩ ek) ⟨fun _ => r10, fun z => absurd z (by decide), fun _ j hj y z => by
    have hj' : pl s p j := (pl_eq ea (fun x _ _ => n _ _ (by decide))).mp hj
    rw [n _ _ (by decide)] at y z
    have := (h.h2 hj' y).2.1
    rw [z] at this; exact this b3⟩
  exact K _ h3 (psh_ai.trans ea) (by rw [psh_96, n _ _ (by decide)]; exact h96)
theorem JJ.fr (h : JJ T s p m f X) (hv : s 110 v = p) (hd : ∀ j, pl s p j → s 99 j = 2 → s 98 j ≠ v) : JJ T (upI s 109 v (-1)) p m f X := by
  have n : ∀ {a : Nat} {i : Int}, ¬ (a = 109 ∧ i = v) → upI s 109 v (-1) a i = s a i := fun z => if_neg z
  have hG : Gl (upI s 109 v (-1)) := h.1.1.bl (fun a i z => n (by omega)) (fun b b0 b1 => by
    by_cases c : b = v
    · subst c; rw [upI_eq]; exact Or.inl rfl
    · rw [n (by omega)]; exact h.1.1.2.2.2.2.2.2.1 b b0 b1) (fun b j b0 b1 hb j0 j1 => by
    by_cases c : b = v
    · subst c; rw [upI_eq] at hb; exact absurd rfl hb
    · rw [n (by omega)] at hb; rw [n (by omega)]; exact h.1.1.2.2.2.2.2.2.2.1 b j b0 b1 hb j0 j1)
  have hJ := h.1.bl (s' := upI s 109 v (-1)) h.2.1.1.2 (fun a i z => n (by omega)) (fun b z => ⟨n (fun y => z.2 (by rw [y.2]; exact hv)), n (by omega)⟩) hG
  exact h.og hJ (fun a i z _ _ _ => n (by omega)) (fun i hi => ⟨fun _ _ _ y => by rw [n (by omega), n (by omega)]; exact ⟨y, rfl⟩, fun z => n (fun y => hd i hi z y.2), fun z => ⟨n (by omega), n (by omega)⟩⟩) (fun i hi => ⟨fun z => (n (by omega)).trans (h.h2 hi z).2.2, fun z => (n (by omega)).trans (h.h3 hi z).2⟩)
theorem JJ.bc {b j : Int} (h : JJ T s p m f X) (hr : rng x) : JJ T (upI s 111 (6 * b + j) x) p m f X := by
  have n : ∀ {a : Nat} {i : Int}, a ≠ 111 → upI s 111 (6 * b + j) x a i = s a i := fun z => upI_a z
  have hG : Gl (upI s 111 (6 * b + j) x) := h.1.1.bl (fun a i z => n (by omega)) (fun b b0 b1 => by rw [n (by decide)]; exact h.1.1.2.2.2.2.2.2.1 b b0 b1) (fun b' j' b0 b1 hb j0 j1 => by
    rw [n (by decide)] at hb
    have := h.1.1.2.2.2.2.2.2.2.1 b' j' b0 b1 hb j0 j1
    rw [upI_self]; split
    · exact hr
    · exact this)
  have hJ := h.1.bl (s' := upI s 111 (6 * b + j) x) h.2.1.1.2 (fun a i z => n (by omega)) (fun b z => ⟨n (by decide), n (by decide)⟩) hG
  exact h.og hJ (fun a i z _ _ _ => n (by omega)) (fun i hi => Vt.rf (fun _ => n (by decide)) (fun _ => n (by decide)) (fun _ => n (by decide)) (fun _ => n (by decide)) (fun _ => n (by decide))) (fun i hi => ⟨fun z => (n (by decide)).trans (h.h2 hi z).2.2, fun z => (n (by decide)).trans (h.h3 hi z).2⟩)
end SD9
