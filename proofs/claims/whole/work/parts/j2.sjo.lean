/-! SOUNDNESS: what stays, when a process changes its own -/
section SD2
variable {T : TXs} {s s' : HI} {p q m f v w t : Int} {B : Int → Int} {X Y : Tst}
theorem Pb.c (h : Pb T s p m) : ownC p 94 p ∧ ownC p 91 p ∧ ownC p 92 p ∧ ownC p 89 p := by unfold ownC; omega
theorem ai_eq (h : s' 94 p = s 94 p) : ai s' p = ai s p := by unfold ai; rw [h]
theorem pl_eq (h1 : ai s' p = ai s p) (h2 : ∀ x, 16 * p ≤ x → x ≤ ai s p → s' 97 x = s 97 x) {i : Int} : pl s' p i ↔ pl s p i := by
  constructor
  · rintro ⟨x, k, a, b, c, d, e⟩
    rw [h1] at b
    exact ⟨x, k, a, b, c, by rw [← h2 x a b]; exact d, e⟩
  · rintro ⟨x, k, a, b, c, d, e⟩
    exact ⟨x, k, a, by rw [h1]; exact b, c, by rw [h2 x a b]; exact d, e⟩
theorem OwI.tr (h : OwI s p) (e : ∀ i, pl s' p i → pl s p i ∧ s' 98 i = s 98 i ∧ s' 99 i = s 99 i) (e1 : ∀ v, s 110 v = p → s' 110 v = p) (e3 : ∀ v, s 113 v = p → s' 113 v = p) : OwI s' p := by
  refine ⟨fun i hi => ?_, fun i j hi hj hne => ?_⟩
  · obtain ⟨q1, q2, q3⟩ := e i hi
    rw [q2, q3]
    exact ⟨fun z => e1 _ ((h.1 i q1).1 z), fun z => e3 _ ((h.1 i q1).2 z)⟩
  · obtain ⟨q1, q2, q3⟩ := e i hi
    obtain ⟨r1, r2, r3⟩ := e j hj
    rw [q2, q3, r2, r3]
    exact h.2 i j q1 r1 hne
/-- the linear values of a process's frame, by its types -/
theorem Frm.ow {x : Int} (h : Frm T s p m x X) (x0 : 0 ≤ X.1) (hO : OwI s p) (x1 : 16 * p ≤ x) (x2 : x ≤ ai s p) (hb : ∀ b, 1 ≤ b → b ≤ 1024 → 1 ≤ s 100 (1025 * p + b) → 1 ≤ s' 100 (1025 * p + b) ∧ s' 302 (1025 * p + b) = s 302 (1025 * p + b)) (e1 : ∀ v, s 110 v = p → s 109 v ≠ -1 → s' 109 v = s 109 v) (e3 : ∀ v, s 113 v = p → opn s v → s' 112 v = s 112 v ∧ s' 118 v = s 118 v) : ∀ i, 26 * x ≤ i → i < 26 * x + 10 + X.1 → Vt s s' p (s 98 i) (s 99 i) := by
  intro i i0 i1
  have hp : pl s p i := ⟨x, i - 26 * x, x1, x2, by omega, by rw [h.1]; omega, by omega⟩
  have hv : ∃ t, vOk T s p m (s 98 i) (s 99 i) t := by
    by_cases c : i < 26 * x + 10
    · have := h.2.2 (i - 26 * x) (by omega) (by omega)
      rw [show 26 * x + (i - 26 * x) = i by omega] at this
      exact ⟨_, this⟩
    · have := h.2.1 (i - 26 * x - 10) (by omega) (by omega)
      rw [show 26 * x + 10 + (i - 26 * x - 10) = i by omega] at this
      exact ⟨_, this⟩
  obtain ⟨t, hv⟩ := hv
  refine ⟨fun _ v0 v1 z => hb _ v0 v1 z, fun z => e1 _ ((hO.1 i hp).1 z) (hv.w2 z).2.2.2, fun z => e3 _ ((hO.1 i hp).2 z) ?_⟩
  obtain ⟨y1, y2, -⟩ := (hv.w3 z).2
  have : 0 ≤ stateM t := by unfold stateM; omega
  exact ⟨y1.1, y1.2, by omega⟩
/-- another process's state does not look at what is not its own -/
theorem PO.any (h : PO T s p) {i : Int} (hi : pl s p i) : ∃ m t, vOk T s p m (s 98 i) (s 99 i) t := by
  obtain ⟨m, h1, h2, h3, h4, h5⟩ := h
  obtain ⟨x, k, a, b, c, d, rfl⟩ := hi
  have key : ∀ Y, Frm T s p m x Y → ∃ m t, vOk T s p m (s 98 (26 * x + k)) (s 99 (26 * x + k)) t := fun Y hF => by
    by_cases z : k < 10
    · exact ⟨_, _, hF.2.2 k c z⟩
    · have := hF.2.1 (k - 10) (by omega) (by rw [← hF.1]; omega)
      rw [show 26 * x + 10 + (k - 10) = 26 * x + k by omega] at this
      exact ⟨_, _, this⟩
  by_cases z : x = ai s p
  · subst z
    obtain ⟨y1, A, Z, y2, y3, y4, y6⟩ := h4
    exact key _ y6
  · obtain ⟨y1, A, Z, n, y2, y3, y4, y5, y6, y7⟩ := h3 x a (by omega)
    exact key _ y6
theorem PO.tr2 (h : PO T s p) (e : ∀ a i, ownC p a i → s' a i = s a i) (em : mEq s s') (eb0 : ∀ v, s 110 v = p → s 109 v ≠ -1 → s' 109 v = s 109 v ∧ s' 110 v = p) (ee0 : ∀ v, s 113 v = p → opn s v → s' 112 v = s 112 v ∧ s' 118 v = s 118 v ∧ s' 113 v = p) : PO T s' p := by
  have eb := fun v z y => (eb0 v z y).1
  have ee := fun v z y => (⟨(ee0 v z y).1, (ee0 v z y).2.1⟩ : s' 112 v = s 112 v ∧ s' 118 v = s 118 v)
  have hany := fun i hi => PO.any h (i := i) hi
  obtain ⟨m, h1, h2, h3, h4, h5⟩ := h
  have hA := h1.a
  obtain ⟨o1, o2, o3, o4⟩ := h1.c
  have ea : ai s' p = ai s p := ai_eq (e _ _ o1)
  have c5 : ∀ x, 16 * p ≤ x → x < 16 * p + 16 → s' 95 x = s 95 x ∧ s' 96 x = s 96 x ∧ s' 97 x = s 97 x := fun x a b => ⟨e _ _ (by unfold ownC; omega), e _ _ (by unfold ownC; omega), e _ _ (by unfold ownC; omega)⟩
  have c8 : ∀ i, 416 * p ≤ i → i < 416 * p + 416 → s' 98 i = s 98 i ∧ s' 99 i = s 99 i := fun i a b => ⟨e _ _ (by unfold ownC; omega), e _ _ (by unfold ownC; omega)⟩
  have ch : ∀ b, 1 ≤ b → b ≤ 1024 → s' 100 (1025 * p + b) = s 100 (1025 * p + b) ∧ s' 302 (1025 * p + b) = s 302 (1025 * p + b) := fun b b0 b1 => ⟨e _ _ (by unfold ownC; omega), e _ _ (by unfold ownC; omega)⟩
  have hb : ∀ b, 1 ≤ b → b ≤ 1024 → 1 ≤ s 100 (1025 * p + b) → 1 ≤ s' 100 (1025 * p + b) ∧ s' 302 (1025 * p + b) = s 302 (1025 * p + b) := fun b b0 b1 z => by rw [(ch b b0 b1).1]; exact ⟨z, (ch b b0 b1).2⟩
  refine ⟨m, h1.tr em (e _ _ o1) (e _ _ o2) (e _ _ o3) (by rw [e _ _ o4]; exact h1.2.2.2.2.2), h2.tr h1.2.2.2.1 ch (fun b i b0 b1 i0 i1 => ⟨e _ _ (by unfold ownC hx; omega), e _ _ (by unfold ownC hx; omega)⟩), ?_, ?_, ?_⟩
  · intro x x0 x1
    rw [ea] at x1
    have hS := h3 x x0 x1
    obtain ⟨y1, A, Z, n, y2, y3, y4, y5, y6, y7⟩ := id hS
    have en : s 97 x = n := y6.1
    exact hS.tr (c5 x x0 (by omega)).1 (c5 (x + 1) (by omega) (by omega)).1 (c5 x x0 (by omega)).2.1 (c5 x x0 (by omega)).2.2 (fun i i0 i1 => c8 i (by omega) (by omega)) (fun i i0 i1 => y6.ow y5.1 h5 x0 (by omega) hb eb ee i i0 (by show i < 26 * x + 10 + n; omega))
  · rw [ea]
    obtain ⟨y1, A, Z, y2, y3, y4, y6⟩ := h4
    have x0 : 0 ≤ Z.1 := (y2.2.2.2 _ _ y3 y4).1
    have x16 : Z.1 ≤ 16 := (y2.2.2.1 _ _ y3 y4).1
    obtain ⟨d5, d6, d7⟩ := c5 (ai s p) hA.1 hA.2
    unfold ToI
    rw [d5, d6]
    exact ⟨y1, A, Z, y2, y3, y4, y6.tr d7 (fun i i0 i1 => c8 i (by omega) (by omega)) x0 (y6.ow x0 h5 hA.1 (Int.le_refl _) hb eb ee)⟩
  · have hpl : ∀ i, pl s' p i → pl s p i ∧ s' 98 i = s 98 i ∧ s' 99 i = s 99 i := fun i hi => by
      have : pl s p i := (pl_eq ea (fun x x0 x1 => (c5 x x0 (by omega)).2.2)).mp hi
      obtain ⟨x, k, a, b, c, d, rfl⟩ := id this
      have h16 : s 97 x ≤ 16 := by
        by_cases z : x = ai s p
        · subst z
          obtain ⟨y1, A, Z, y2, y3, y4, y6⟩ := h4
          have x16 : Z.1 ≤ 16 := (y2.2.2.1 _ _ y3 y4).1
          rw [y6.1]; exact x16
        · obtain ⟨y1, A, Z, n, y2, y3, y4, y5, y6, y7⟩ := h3 x a (by omega)
          have en : s 97 x = n := y6.1
          omega
      exact ⟨this, (c8 _ (by omega) (by omega)).1, (c8 _ (by omega) (by omega)).2⟩
    refine ⟨fun i hi => ?_, fun i j hi hj hne => ?_⟩
    · obtain ⟨q1, q2, q3⟩ := hpl i hi
      obtain ⟨m', t, hv⟩ := hany i q1
      rw [q2, q3]
      refine ⟨fun z => (eb0 _ ((h5.1 i q1).1 z) (hv.w2 z).2.2.2).2, fun z => (ee0 _ ((h5.1 i q1).2 z) ?_).2.2⟩
      obtain ⟨y1, y2, -⟩ := (hv.w3 z).2
      have : 0 ≤ stateM t := by unfold stateM; omega
      exact ⟨y1.1, y1.2, by omega⟩
    · obtain ⟨q1, q2, q3⟩ := hpl i hi
      obtain ⟨r1, r2, r3⟩ := hpl j hj
      rw [q2, q3, r2, r3]
      exact h5.2 i j q1 r1 hne
theorem PO.tr (h : PO T s p) (e : ∀ a i, ownC p a i → s' a i = s a i) (em : mEq s s') (eb : ∀ v, s 110 v = p → s 109 v ≠ -1 → s' 109 v = s 109 v) (eb1 : ∀ v, s 110 v = p → s' 110 v = p) (ee : ∀ v, s 113 v = p → opn s v → s' 112 v = s 112 v ∧ s' 118 v = s 118 v) (ee1 : ∀ v, s 113 v = p → s' 113 v = p) : PO T s' p := h.tr2 e em (fun v z y => ⟨eb v z y, eb1 v z⟩) (fun v z y => ⟨(ee v z y).1, (ee v z y).2, ee1 v z⟩)
theorem wk_tr {c e : Int} (e1 : s' 112 e = s 112 e) (n : Nat) (e2 : ∀ k : Nat, k < n → s' 115 (4 * e + k) = s 115 (4 * e + k)) : ∀ k : Nat, k ≤ n → wk B c s' e k = wk B c s e k
  | 0, _ => e1
  | k + 1, h => by
    show thM B c (wk B c s' e k) _ = thM B c (wk B c s e k) _
    rw [wk_tr e1 n e2 k (by omega), e2 k (by omega)]
theorem qLd.tr {L : Int} (h : qLd T s m v w L) (hL : L = -1 ∨ kindM L = 0 ∨ kindM L = 4 ∨ kindM L = 5) (e2 : w = 2 → s' 109 v = s 109 v) (e3 : w = 3 → s' 112 v = s 112 v ∧ s' 118 v = s 118 v) : qLd T s' m v w L := by
  rcases h with h | ⟨h1, h2⟩
  · exact Or.inl h
  · refine Or.inr ⟨h1, h2.tr ⟨fun z => ?_, e2, e3⟩⟩
    exfalso
    rcases hL with hL | hL | hL | hL
    · exact h1 hL
    · have := h2.k0 hL; omega
    · have := h2.k4 hL; omega
    · have := h2.k5 hL; omega
theorem qLd.o {L : Int} (h : qLd T s m v w L) (k : w = 3) : opn s v := by
  rcases h with ⟨-, z⟩ | ⟨-, z⟩
  · omega
  · obtain ⟨y1, y2, -⟩ := (z.w3 k).2
    have : 0 ≤ stateM L := by unfold stateM; omega
    exact ⟨y1.1, y1.2, by omega⟩
theorem qLd.b {L : Int} (h : qLd T s m v w L) (k : w = 2) : (0 ≤ v ∧ v < 128) ∧ s 109 v ≠ -1 := by
  rcases h with ⟨-, z⟩ | ⟨-, z⟩
  · omega
  · obtain ⟨y1, -, y2⟩ := (z.w2 k).2
    exact ⟨y1, y2⟩
theorem ldk {c S t : Int} (hN : NV B) (c0 : 0 ≤ c) (c1 : c < nCtr B) (s0 : 0 ≤ S) (s1 : S < nSt B c) (t0 : 0 ≤ t) (t1 : t < nMs B c S) : ldM B c S t = -1 ∨ kindM (ldM B c S t) = 0 ∨ kindM (ldM B c S t) = 4 ∨ kindM (ldM B c S t) = 5 := by
  rcases (hN.2.1 c S t c0 c1 s0 s1 t0 t1).1 with h | h
  · exact Or.inl h
  · exact Or.inr h.2
theorem QM.tr {e c : Int} {k n : Nat} (h : QM T s e m c k) (hN : NV (T m)) (c0 : 0 ≤ c) (c1 : c < nCtr (T m)) (e1 : s' 112 e = s 112 e) (hk : k < n) (eq : ∀ j : Nat, j < n → s' 115 (4 * e + j) = s 115 (4 * e + j) ∧ s' 116 (4 * e + j) = s 116 (4 * e + j) ∧ s' 117 (4 * e + j) = s 117 (4 * e + j)) (eb : ∀ v, s 110 v = 100 + e → s 109 v ≠ -1 → s' 109 v = s 109 v ∧ s' 110 v = 100 + e) (ee : ∀ v, s 113 v = 100 + e → opn s v → s' 112 v = s 112 v ∧ s' 118 v = s 118 v ∧ s' 113 v = 100 + e) : QM T s' e m c k := by
  obtain ⟨h1, h2, h3, h4, h5, h6⟩ := h
  obtain ⟨q5, q6, q7⟩ := eq k hk
  have ew := wk_tr (B := T m) (c := c) e1 n (fun j hj => (eq j hj).1) k (by omega)
  unfold QM
  rw [ew, q5, q6, q7]
  exact ⟨h1, h2, h3, h4.tr (ldk hN c0 c1 h1.1 h1.2 h3.1 h3.2) (fun z => (eb _ (h5 z) (h4.b z).2).1) (fun z => ⟨(ee _ (h6 z) (h4.o z)).1, (ee _ (h6 z) (h4.o z)).2.1⟩), fun z => (eb _ (h5 z) (h4.b z).2).2, fun z => (ee _ (h6 z) (h4.o z)).2.2⟩
theorem QO.tr {e : Int} (h : QO T s e) (em : mEq s s') (e8 : s' 118 e = s 118 e) (e1 : s' 112 e = s 112 e) (e4 : s' 114 e = s 114 e) (eq : ∀ j : Nat, j < 4 → s' 115 (4 * e + j) = s 115 (4 * e + j) ∧ s' 116 (4 * e + j) = s 116 (4 * e + j) ∧ s' 117 (4 * e + j) = s 117 (4 * e + j)) (eb : ∀ v, s 110 v = 100 + e → s 109 v ≠ -1 → s' 109 v = s 109 v ∧ s' 110 v = 100 + e) (ee : ∀ v, s 113 v = 100 + e → opn s v → s' 112 v = s 112 v ∧ s' 118 v = s 118 v ∧ s' 113 v = 100 + e) : QO T s' e := by
  obtain ⟨m, c, h1, h2, h3, h4, h5, h6, h7, h8⟩ := h
  unfold QO
  rw [e8, e1, e4]
  refine ⟨m, c, h1, h2, h3, h4.tr em, h5, h6, fun k hk => (h7 k hk).tr h4.2.1.2.2.1 h2.1 h3 e1 (n := 4) (by omega) eq eb ee, fun j k hj hk => ?_⟩
  rw [(eq j (by omega)).2.1, (eq j (by omega)).2.2, (eq k (by omega)).2.1, (eq k (by omega)).2.2]
  exact h8 j k hj hk
theorem hlf_tr {e : Int} (e8 : s' 118 e = s 118 e) (e1 : s' 112 e = s 112 e) (e4 : s' 114 e = s 114 e) (e1' : s' 112 (oth e) = s 112 (oth e)) (e4' : s' 114 (oth e) = s 114 (oth e)) (h4 : s 114 e ≤ 4) (eq : ∀ j : Nat, j < 4 → s' 115 (4 * e + j) = s 115 (4 * e + j)) (h : hlf T s e) : hlf T s' e := by
  unfold hlf eB eC at h ⊢
  rw [e4', e4, e8, wk_tr e1 4 eq _ (by omega), e1']
  exact h
theorem LKK.tr {e : Int} (h : LKK T s e) (e8 : s' 118 e = s 118 e) (e1 : s' 112 e = s 112 e) (e4 : s' 114 e = s 114 e) (eq : ∀ j : Nat, j < 4 → s' 115 (4 * e + j) = s 115 (4 * e + j)) (e8' : s' 118 (oth e) = s 118 (oth e)) (e1' : s' 112 (oth e) = s 112 (oth e)) (e4' : s' 114 (oth e) = s 114 (oth e)) (eq' : ∀ j : Nat, j < 4 → s' 115 (4 * oth e + j) = s 115 (4 * oth e + j)) (h4 : s 114 e ≤ 4) (h4' : s 114 (oth e) ≤ 4) : LKK T s' e := by
  refine ⟨?_, h.2.imp (hlf_tr e8 e1 e4 e1' e4' h4 eq) (hlf_tr e8' e1' e4' (by rw [oth_oth]; exact e1) (by rw [oth_oth]; exact e4) h4' eq')⟩
  unfold eB eC
  rw [e8, e8']
  exact h.1
/-- a process changes its own columns -/
def lcl (p : Int) (s s' : HI) : Prop := ∀ a i, ¬ ownC p a i → a ≠ 111 → a ≠ 87 → a ≠ 88 → a ≠ 49 → s' a i = s a i
theorem lcl.rf : lcl p s s := fun _ _ _ _ _ _ _ => rfl
theorem lcl.tr {s2 : HI} (h : lcl p s s') (h' : lcl p s' s2) : lcl p s s2 := fun a i z z1 z2 z3 z4 => (h' a i z z1 z2 z3 z4).trans (h a i z z1 z2 z3 z4)
theorem lcl.mq (h : lcl p s s') : mEq s s' := fun a i a1 a2 => h a i (by unfold ownC; omega) (by omega) (by omega) (by omega) (by omega)
theorem lcl.g (h : lcl p s s') {a : Nat} {i : Int} (ha : (109 ≤ a ∧ a ≤ 118) ∧ a ≠ 111) : s' a i = s a i := h a i (by unfold ownC; omega) (by omega) (by omega) (by omega) (by omega)
theorem JO.lc (h : JO T s p) (hl : lcl p s s') (hG : Gl s') : JO T s' p := by
  obtain ⟨-, h2, h3, h4⟩ := h
  have g : ∀ {a : Nat} {i : Int}, ((109 ≤ a ∧ a ≤ 118) ∧ a ≠ 111) → s' a i = s a i := fun ha => hl.g ha
  have ho : ∀ e, opn s' e ↔ opn s e := fun e => by unfold opn; rw [g (by decide)]
  refine ⟨hG, fun e he => ?_, fun e he he' => ?_, fun q q0 q1 q2 q3 => ?_⟩
  · exact (h2 e ((ho e).mp he)).tr hl.mq (g (by decide)) (g (by decide)) (g (by decide)) (fun j _ => ⟨g (by decide), g (by decide), g (by decide)⟩) (fun v z _ => ⟨g (by decide), (g (by decide)).trans z⟩) (fun v z _ => ⟨g (by decide), g (by decide), (g (by decide)).trans z⟩)
  · have a1 := h2 e ((ho e).mp he)
    have a2 := h2 _ ((ho _).mp he')
    obtain ⟨m1, c1, y1⟩ := a1
    obtain ⟨m2, c2, y2⟩ := a2
    exact (h3 e ((ho e).mp he) ((ho _).mp he')).tr (g (by decide)) (g (by decide)) (g (by decide)) (fun j _ => g (by decide)) (g (by decide)) (g (by decide)) (g (by decide)) (fun j _ => g (by decide)) y1.2.2.2.2.2.1.2 y2.2.2.2.2.2.1.2
  · have e : ∀ a i, ownC q a i → s' a i = s a i := fun a i z => hl a i (by unfold ownC hx at z ⊢; omega) (by unfold ownC at z; omega) (by unfold ownC at z; omega) (by unfold ownC at z; omega) (by unfold ownC at z; omega)
    rw [e 89 q (by unfold ownC; omega)] at q3
    exact (h4 q q0 q1 q2 q3).tr e hl.mq (fun v _ _ => g (by decide)) (fun v z => (g (by decide)).trans z) (fun v _ _ => ⟨g (by decide), g (by decide)⟩) (fun v z => (g (by decide)).trans z)
/-- a process and its frame's types -/
theorem PJ.h97 (h : PJ T s p m f X) : ∀ x, 16 * p ≤ x → x ≤ ai s p → 0 ≤ s 97 x ∧ s 97 x ≤ 16 := by
  obtain ⟨h1, h2, h3, h4, h5, h6, h7⟩ := h
  intro x x0 x1
  by_cases z : x = ai s p
  · subst z; rw [h6.1]; exact h5
  · obtain ⟨y1, A, Z, n, y2, y3, y4, y5, y6, y7⟩ := h3 x x0 (by omega)
    have en : s 97 x = n := y6.1
    omega
theorem PJ.hg_ (h : PJ T s p m f X) : hg s p = X.1 := h.2.2.2.2.2.1.1
theorem PJ.ap (h : PJ T s p m f X) : AP s p := ⟨h.1.1, h.1.2.1.1, h.1.2.1.2⟩
/-- the top frame changes -/
theorem PJ.go (h : PJ T s p m f X) (em : mEq s s') (e89 : s' 89 p < 4) (e1 : s' 94 p = s 94 p) (e2 : s' 91 p = s 91 p) (e3 : s' 92 p = s 92 p) (e5 : ∀ x, 16 * p ≤ x → x ≤ ai s p → s' 95 x = s 95 x) (e67 : ∀ x, 16 * p ≤ x → x < ai s p → s' 96 x = s 96 x ∧ s' 97 x = s 97 x) (e8 : ∀ i, 416 * p ≤ i → i < 26 * ai s p → s' 98 i = s 98 i ∧ s' 99 i = s 99 i) (hv : ∀ i, pl s p i → i < 26 * ai s p → Vt s s' p (s 98 i) (s 99 i)) (hH : HpI T s' p m) (y0 : 0 ≤ Y.1 ∧ Y.1 ≤ 16) (hF : Frm T s' p m (ai s p) Y) (hO : OwI s' p) : PJ T s' p m f Y := by
  obtain ⟨h1, h2, h3, h4, h5, h6, h7⟩ := id h
  have hA := h1.a
  have ea : ai s' p = ai s p := ai_eq e1
  refine ⟨h1.tr em e1 e2 e3 e89, hH, ?_, ?_, y0, ?_, hO⟩
  · intro x x0 x1
    rw [ea] at x1
    have h16 := h.h97 x x0 (by omega)
    exact (h3 x x0 x1).tr (e5 x x0 (by omega)) (e5 (x + 1) (by omega) (by omega)) (e67 x x0 x1).1 (e67 x x0 x1).2 (fun i i0 i1 => e8 i (by omega) (by omega)) (fun i i0 i1 => hv i ⟨x, i - 26 * x, x0, by omega, by omega, by omega, by omega⟩ (by omega))
  · rw [ea, e5 _ hA.1 (Int.le_refl _)]; exact h4
  · rw [ea]; exact hF
end SD2
