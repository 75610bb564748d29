/-! SOUNDNESS: receive -/
section SK3
variable {T : TXs} {s s' : HI} {p q m f v w t o x n k g e a : Int} {B : Int → Int} {X Y : Tst}
theorem vOk.any_p {L : Int} (h : vOk T s p m v w L) (k : kindM L = 0 ∨ kindM L = 4 ∨ kindM L = 5) : vOk T s q m v w L := by
  rcases k with k | k | k
  · exact Or.inl ⟨k, h.k0 k⟩
  · obtain ⟨h1, h2⟩ := h.k4 k; subst h1; exact vOk.blk h2 k
  · obtain ⟨h1, h2⟩ := h.k5 k; subst h1; exact vOk.end_ h2 k
/-- what a receive does -/
def rcR (s r : HI) (p e st W v w : Int) : Prop := (∀ b i, b < 110 ∨ b = 111 ∨ 117 < b → r b i = s b i) ∧ (∀ i, r 112 i = if i = e then st else s 112 i) ∧ (∀ i, r 114 i = if i = e then W - 1 else s 114 i) ∧ (∀ b i, 115 ≤ b → b ≤ 117 → r b i = if 4 * e ≤ i ∧ i < 4 * e + W - 1 then s b (i + 1) else s b i) ∧ (∀ i, r 110 i = if w = 2 ∧ i = v then p else s 110 i) ∧ ∀ i, r 113 i = if w = 3 ∧ i = v then p else s 113 i
theorem rcR_of {st W : Int} (hW : s 114 e = W) : rcR s (ownS (upI (shfS s e) 112 e st) v w p) p e st W v w := by
  obtain ⟨g, hg⟩ : ∃ g, upI (shfS s e) 112 e st = g := ⟨_, rfl⟩
  rw [hg]
  have n : ∀ b i, b ≠ 110 → b ≠ 113 → ownS g v w p b i = g b i := fun b i z1 z2 => by
    unfold ownS; split
    · exact upI_a z1
    · split
      · exact upI_a z2
      · rfl
  have e0 : ∀ b i, (b < 112 ∨ b = 113 ∨ 117 < b) → g b i = s b i := fun b i z => by
    rw [← hg, upI_a (by omega)]; unfold shfS; rw [if_neg (by omega), if_neg (by omega)]
  refine ⟨fun b i z => (n b i (by omega) (by omega)).trans (e0 b i (by omega)), fun i => ?_, fun i => ?_, fun b i b1 b2 => ?_, fun i => ?_, fun i => ?_⟩
  · rw [n _ _ (by decide) (by decide), ← hg, upI_self]
    split
    · rfl
    · unfold shfS; rw [if_neg (by omega), if_neg (by omega)]
  · rw [n _ _ (by decide) (by decide), ← hg, upI_a (by decide)]
    unfold shfS
    by_cases c : i = e
    · rw [if_pos ⟨rfl, c⟩, if_pos c, hW]
    · rw [if_neg (fun y => c y.2), if_neg c, if_neg (by omega)]
  · rw [n _ _ (by omega) (by omega), ← hg, upI_a (by omega)]
    unfold shfS
    rw [hW, if_neg (by omega)]
    by_cases c : 4 * e ≤ i ∧ i < 4 * e + W - 1
    · rw [if_pos ⟨by omega, c⟩, if_pos c]
    · rw [if_neg (fun y => c y.2), if_neg c]
  · unfold ownS
    by_cases c : w = 2
    · rw [if_pos c, upI_self, e0 _ _ (by decide)]
      by_cases d : i = v
      · rw [if_pos d, if_pos ⟨c, d⟩]
      · rw [if_neg d, if_neg (fun y => d y.2)]
    · rw [if_neg c, show (if w = 2 ∧ i = v then p else s 110 i) = s 110 i from if_neg (fun y => c y.1)]
      split
      · rw [upI_a (by decide), e0 _ _ (by decide)]
      · exact e0 _ _ (by decide)
  · unfold ownS
    by_cases c : w = 2
    · rw [if_pos c, if_neg (by omega), upI_a (by decide), e0 _ _ (by decide)]
    · rw [if_neg c]
      by_cases d : w = 3
      · rw [if_pos d, upI_self, e0 _ _ (by decide)]
        by_cases d' : i = v
        · rw [if_pos d', if_pos ⟨d, d'⟩]
        · rw [if_neg d', if_neg (fun y => d' y.2)]
      · rw [if_neg d, if_neg (fun y => d y.1)]; exact e0 _ _ (by decide)
theorem own_psh {v w o v' w' : Int} : ownS (psh s p v' w') v w o = psh (ownS s v w o) p v' w' := by
  have e : ∀ a i, a ≠ 110 → a ≠ 113 → ownS s v w o a i = s a i := fun a i z1 z2 => by
    unfold ownS; split
    · exact upI_a z1
    · split
      · exact upI_a z2
      · rfl
  have ea : ai (ownS s v w o) p = ai s p := ai_eq (e _ _ (by decide) (by decide))
  have eh : hg (ownS s v w o) p = hg s p := by unfold hg; rw [ea, e _ _ (by decide) (by decide)]
  have es : sk (ownS s v w o) p (hg s p) = sk s p (hg s p) := by unfold sk; rw [ea]
  unfold psh
  rw [ea, eh, es]
  obtain ⟨y, hy⟩ : ∃ y, sk s p (hg s p) = y := ⟨_, rfl⟩
  obtain ⟨z, hz⟩ : ∃ z, ai s p = z := ⟨_, rfl⟩
  rw [hy, hz]
  funext b i
  unfold ownS st2 upI
  by_cases c2 : w = 2
  · rw [if_pos c2, if_pos c2]
    by_cases d : b = 110 ∧ i = v
    · obtain ⟨rfl, rfl⟩ := d; simp
    · simp [d]
  · rw [if_neg c2, if_neg c2]
    by_cases c3 : w = 3
    · rw [if_pos c3, if_pos c3]
      by_cases d : b = 113 ∧ i = v
      · obtain ⟨rfl, rfl⟩ := d; simp
      · simp [d]
    · rw [if_neg c3, if_neg c3]
theorem so_rcv {to : Int → Int} (h : JJ T s p m f X) (hX : 1 ≤ X.1) (hva : X.2.1 (X.1 - 1) = a) (a0 : 0 ≤ a ∧ a < 1048576) (hk5 : kindM a = 5) (htn : tnS (T m) (whichM a) (stateM a) = 2 - sideM a) (he : tv s p 0 = e) (hgo : 0 < s 114 e) (h16 : ldT (T m) a (s 115 (4 * e)) ≠ -1 → X.1 < 16) : (0 ≤ s 115 (4 * e) ∧ s 115 (4 * e) < nMs (T m) (whichM a) (stateM a)) ∧ ∃ r, rcvS s p to = goS r p (to (s 115 (4 * e))) ∧ JJ T r p m f (rcv (T m) X (s 115 (4 * e))) ∧ ai r p = ai s p := by
  have hp := h.2.1.1
  have tp := h.top (k := 0) (by decide) (by omega)
  rw [Int.sub_zero, hva, he] at tp
  obtain ⟨k3, he5⟩ := tp.k5 hk5
  obtain ⟨ho, me, ce, hF⟩ := JJ.en h.1 he5
  have hpl := h.2.pl_ (k := 0) (by decide) (by omega)
  have hh := h.2.hg_
  have esk : sk s p (hg s p - 1 - 0) = 26 * ai s p + 10 + (X.1 - 1) := by unfold sk; rw [hh]; omega
  rw [esk] at hpl
  have q98 : s 98 (26 * ai s p + 10 + (X.1 - 1)) = e := by rw [← esk]; exact he
  have q99 : s 99 (26 * ai s p + 10 + (X.1 - 1)) = 3 := by rw [← esk]; exact k3
  have h113 : s 113 e = p := by rw [← q98]; exact (h.h3 hpl q99).2
  obtain ⟨c1, c2, c3⟩ := hF.col
  obtain ⟨f1, f2, f3, f4, f5, f6, f7⟩ := id hF
  obtain ⟨⟨d1, d2⟩, d3, d4, d5, d6⟩ := f4.st (st_b a).1 f6
  have hN := h.mg.2.1.2.2.1
  have hS := h.mg.2.1.2.1
  obtain ⟨⟨g1, g2, g3, g4, g5, g6, g7, g8, g9⟩, q2, q3, q4⟩ := id h.1
  obtain ⟨m', c', y1, y2, y3, y4, y5, y6, y7, y8⟩ := q2 e ho
  have em : m' = me ∧ c' = ce := by omega
  obtain ⟨rfl, rfl⟩ := em
  obtain ⟨W, hWe⟩ : ∃ W, s 114 e = W := ⟨_, rfl⟩
  rw [hWe] at hgo y6 y7 y8
  have Q0 := y7 0 (by omega)
  obtain ⟨t, hte⟩ : ∃ t, s 115 (4 * e) = t := ⟨_, rfl⟩
  obtain ⟨v, hve⟩ : ∃ v, s 116 (4 * e) = v := ⟨_, rfl⟩
  obtain ⟨w, hwe⟩ : ∃ w, s 117 (4 * e) = w := ⟨_, rfl⟩
  have w0 : wk (T m') c' s e 0 = stateM a := f5
  unfold QM at Q0
  rw [w0, show 4 * e + ((0 : Nat) : Int) = 4 * e by omega, hte, hve, hwe] at Q0
  obtain ⟨-, -, ⟨t0, t1⟩, ql, qo2, qo3⟩ := Q0
  rw [hte] at h16 ⊢
  have t1' : t < nMs (T m) (whichM a) (stateM a) := by rw [← d5]; exact t1
  refine ⟨⟨t0, t1'⟩, ?_⟩
  obtain ⟨x1, x2, x3⟩ := c3 t t0 t1'
  obtain ⟨st, hst⟩ : ∃ st, thM (T m) (whichM a) (stateM a) t = st := ⟨_, rfl⟩
  rw [hst] at x2
  have sa : stateM a < nSt (T m) (whichM a) := by rw [← d3]; exact f6
  have th1 := (hN.2.1 _ _ t d2.1 d2.2 (st_b a).1 sa t0 t1').2
  have th0 : 0 ≤ thM (T m) (whichM a) (stateM a) t ∧ thM (T m) (whichM a) (stateM a) t ≤ 255 := by
    have := ((hS.2.2.2.2.2.2.1 _ d2.1 d2.2).2.2.2.1 _ (st_b a).1 sa).2.2.2.2.2.2.1 t t0 t1'
    exact ⟨this.2.1, this.2.2.1⟩
  rw [hst] at th0 th1
  have hth : thM (T m') c' (stateM a) t = st := by rw [(d6 t t0 t1).1]; exact hst
  obtain ⟨r, hr⟩ : ∃ r, ownS (upI (shfS s e) 112 e st) v w p = r := ⟨_, rfl⟩
  have R : rcR s r p e st W v w := by rw [← hr]; exact rcR_of hWe
  -- the state
  have hrc : rcvS s p to = goS (if w ≠ 4 then psh r p v w else r) p (to t) := by
    unfold rcvS
    simp only []
    rw [he, hte, hve, hwe, x2]
    by_cases c : w = 4
    · rw [if_neg (fun y => y c), if_neg (fun y => y c)]
      have : r = upI (shfS s e) 112 e st := by rw [← hr]; unfold ownS; rw [if_neg (by omega), if_neg (by omega)]
      rw [this]
    · rw [if_pos c, if_pos c, own_psh, hr]
  clear hr
  obtain ⟨n, r12, r14, rq, r10, r13⟩ := R
  have own2 : ∀ y x, x ≠ 100 + e → s 110 y = x → r 110 y = x := fun y x z z1 => by
    rw [r10, if_neg (fun u => z ?_)]
    · exact z1
    · rw [← z1, u.2]; exact qo2 u.1
  have own3 : ∀ y x, x ≠ 100 + e → s 113 y = x → r 113 y = x := fun y x z z1 => by
    rw [r13, if_neg (fun u => z ?_)]
    · exact z1
    · rw [← z1, u.2]; exact qo3 u.1
  have n12 : ∀ x, x ≠ e → r 112 x = s 112 x := fun x z => by rw [r12, if_neg z]
  have n14 : ∀ x, x ≠ e → r 114 x = s 114 x := fun x z => by rw [r14, if_neg z]
  have ne : ∀ x, s 113 x ≠ p → x ≠ e := fun x z d => z (by rw [d]; exact h113)
  have no : ∀ x, opn r x ↔ opn s x := fun x => by
    unfold opn
    by_cases c : x = e
    · subst c; rw [r12, if_pos rfl]; exact ⟨fun z => ho, fun z => ⟨z.1, z.2.1, by omega⟩⟩
    · rw [n12 x c]
  have heo := ho.1
  have mE : mEq s r := fun b i b1 b2 => n b i (by omega)
  have eb : ∀ x y, x ≠ 100 + e → s 110 y = x → s 109 y ≠ -1 → r 109 y = s 109 y ∧ r 110 y = x := fun x y z z1 _ => ⟨n _ _ (by decide), own2 y x z z1⟩
  have ee : ∀ x y, x ≠ 100 + e → x ≠ p → s 113 y = x → opn s y → r 112 y = s 112 y ∧ r 118 y = s 118 y ∧ r 113 y = x := fun x y z z2 z1 _ => ⟨n12 y (ne y (by omega)), n _ _ (by decide), own3 y x z z1⟩
  have rq1 : ∀ (b : Nat) (j : Nat), 115 ≤ b → b ≤ 117 → (j : Int) < W - 1 → r b (4 * e + j) = s b (4 * e + ((j + 1 : Nat) : Int)) := fun b j b1 b2 hj => by
    rw [rq b _ b1 b2, if_pos (by omega)]; congr 1; omega
  have rq2 : ∀ (b : Nat) (x : Int) (j : Nat), 115 ≤ b → b ≤ 117 → x ≠ e → j < 4 → r b (4 * x + j) = s b (4 * x + j) := fun b x j b1 b2 hx hj => by
    rw [rq b _ b1 b2, if_neg (by omega)]
  have wkr : ∀ j : Nat, (j : Int) ≤ W - 1 → wk (T m') c' r e j = wk (T m') c' s e (j + 1) := by
    intro j
    induction j with
    | zero =>
      intro _
      show r 112 e = thM (T m') c' (s 112 e) (s 115 (4 * e + ((0 : Nat) : Int)))
      rw [r12, if_pos rfl, f5, show 4 * e + ((0 : Nat) : Int) = 4 * e by omega, hte, hth]
    | succ j ih =>
      intro hj
      show thM (T m') c' (wk (T m') c' r e j) (r 115 (4 * e + j)) = thM (T m') c' (wk (T m') c' s e (j + 1)) (s 115 (4 * e + ((j + 1 : Nat) : Int)))
      rw [ih (by omega), rq1 115 j (by decide) (by decide) (by omega)]
  have hJ : JO T r p := by
    refine ⟨⟨by rw [n _ _ (by decide)]; exact g1, by rw [n _ _ (by decide)]; exact g2, by rw [n _ _ (by decide)]; exact g3, by rw [n _ _ (by decide)]; exact g4, by rw [n _ _ (by decide)]; exact g5, fun q q0 q1 => by rw [n _ _ (by decide), n _ _ (by decide), n _ _ (by decide), n _ _ (by decide)]; exact g6 q q0 q1, fun b b0 b1 => by rw [n _ _ (by decide)]; exact g7 b b0 b1, fun b j b0 b1 => by rw [n _ _ (by decide), n _ _ (by decide)]; exact g8 b j b0 b1, fun x x0 x1 => ?_⟩, fun x hx => ?_, fun x hx hx' => ?_, fun q q0 q1 q5 q6 => ?_⟩
    · by_cases c : x = e
      · subst c; rw [r12, if_pos rfl]; intro z; omega
      · rw [n12 x c, n14 x c]; exact g9 x x0 x1
    · have hy := (no x).mp hx
      have hy1 := hy.1
      by_cases c : x = e
      · subst c
        refine ⟨m', c', (n _ _ (by decide)).trans y1, y2, y3, y4.tr mE, by rw [r12, if_pos rfl, d3]; exact ⟨th0.1, th1⟩, by rw [r14, if_pos rfl]; omega, fun j hj => ?_, fun j l hjl hl => ?_⟩
        · rw [r14, if_pos rfl] at hj
          obtain ⟨z1, z2, z3, z4, z5, z6⟩ := y7 (j + 1) (by omega)
          unfold QM
          rw [wkr j (by omega), rq1 115 j (by decide) (by decide) hj, rq1 116 j (by decide) (by decide) hj, rq1 117 j (by decide) (by decide) hj]
          refine ⟨z1, z2, z3, z4.tr (ldk y4.2.1.2.2.1 y2.1 y3 z1.1 z1.2 z3.1 z3.2) (fun _ => n _ _ (by decide)) (fun z => ⟨n12 _ (ne _ (by have := z6 z; omega)), n _ _ (by decide)⟩), fun z => ?_, fun z => ?_⟩
          · rw [r10, if_neg]
            · exact z5 z
            · rintro ⟨u1, u2⟩
              refine y8 0 (j + 1) (by omega) (by omega) (Or.inl ?_) ?_ ?_
              · rw [show 4 * x + ((0 : Nat) : Int) = 4 * x by omega, hwe]; exact u1
              · rw [show 4 * x + ((0 : Nat) : Int) = 4 * x by omega, hwe, u1]; exact z
              · rw [show 4 * x + ((0 : Nat) : Int) = 4 * x by omega, hve]; exact u2
          · rw [r13, if_neg]
            · exact z6 z
            · rintro ⟨u1, u2⟩
              refine y8 0 (j + 1) (by omega) (by omega) (Or.inr ?_) ?_ ?_
              · rw [show 4 * x + ((0 : Nat) : Int) = 4 * x by omega, hwe]; exact u1
              · rw [show 4 * x + ((0 : Nat) : Int) = 4 * x by omega, hwe, u1]; exact z
              · rw [show 4 * x + ((0 : Nat) : Int) = 4 * x by omega, hve]; exact u2
        · rw [r14, if_pos rfl] at hl
          rw [rq1 116 j (by decide) (by decide) (by omega), rq1 117 j (by decide) (by decide) (by omega), rq1 116 l (by decide) (by decide) hl, rq1 117 l (by decide) (by decide) hl]
          exact y8 (j + 1) (l + 1) (by omega) (by omega)
      · exact (q2 x hy).tr mE (n _ _ (by decide)) (n12 x c) (n14 x c) (fun j hj => ⟨rq2 _ _ _ (by decide) (by decide) c hj, rq2 _ _ _ (by decide) (by decide) c hj, rq2 _ _ _ (by decide) (by decide) c hj⟩) (fun v' z1 z2 => eb (100 + x) v' (by omega) z1 z2) (fun v' z1 z2 => ee (100 + x) v' (by omega) (by omega) z1 z2)
    · have hy := (no x).mp hx
      have hy' := (no _).mp hx'
      have eBC : ∀ y, eB T r y = eB T s y ∧ eC r y = eC s y := fun y => by unfold eB eC; rw [n 118 _ (by decide)]; exact ⟨rfl, rfl⟩
      have al : ∀ y, Alk (eB T s y) (eB T s (oth y)) (eC s y) (eC s (oth y)) → Alk (eB T r y) (eB T r (oth y)) (eC r y) (eC r (oth y)) := fun y z => by
        rw [(eBC y).1, (eBC y).2, (eBC (oth y)).1, (eBC (oth y)).2]; exact z
      have lk : opn s (oth e) → hlf T r e := fun hoo => by
        have eBe : eB T s e = T m' := by unfold eB; rw [y1, show (4 * m' + c') / 4 = m' by omega]
        have eCe : eC s e = c' := by unfold eC; rw [y1]; omega
        rcases (q3 e ho hoo).2 with ⟨z1, z2⟩ | ⟨z1, z2⟩
        · refine ⟨by rw [n14 _ oth_ne]; exact z1, ?_⟩
          rw [(eBC e).1, (eBC e).2, r14, if_pos rfl, n12 _ oth_ne, ← z2, eBe, eCe, wkr _ (by omega), hWe]
          congr 1; omega
        · rw [oth_oth, hWe] at z1; omega
      by_cases c : x = e
      · subst c; exact ⟨al _ (q3 x hy hy').1, Or.inl (lk hy')⟩
      · by_cases c2 : oth x = e
        · exact ⟨al _ (q3 x hy hy').1, Or.inr (by rw [c2]; exact lk (by rw [← c2, oth_oth]; exact hy))⟩
        · obtain ⟨m1, c1, u1⟩ := q2 x hy
          obtain ⟨m2, c2', u2⟩ := q2 _ hy'
          exact (q3 x hy hy').tr (n _ _ (by decide)) (n12 x c) (n14 x c) (fun j hj => rq2 _ _ _ (by decide) (by decide) c hj) (n _ _ (by decide)) (n12 _ c2) (n14 _ c2) (fun j hj => rq2 _ _ _ (by decide) (by decide) c2 hj) u1.2.2.2.2.2.1.2 u2.2.2.2.2.2.1.2
    · rw [n _ _ (by decide)] at q6
      exact (q4 q q0 q1 q5 q6).tr2 (fun b i z => n b i (by unfold ownC at z; omega)) mE (fun v' z1 z2 => eb q v' (by omega) z1 z2) (fun v' z1 z2 => ee q v' (by omega) q5 z1 z2)
  obtain ⟨w1, w2, w3, w4⟩ := nxT_s (B := T m) a0 hst ⟨th0.1, by omega⟩
  have dj : ∀ i, pl s p i → i ≠ 26 * ai s p + 10 + (X.1 - 1) → s 99 i = 3 → s 98 i ≠ e := fun i hi hne z => by
    rw [← q98]; exact h.2.2.2.2.2.2.2.2 _ i hpl hi (fun y => hne y.symm) (Or.inr q99) (z.trans q99.symm)
  have F : JJ T r p m f (X.1, up1 X.2.1 (X.1 - 1) (nxT (T m) a t), X.2.2) := by
    refine h.og2 hJ (fun b i z _ _ _ => n b i (by omega)) (l := X.1 - 1) (by omega) (fun i hi hne => ⟨fun _ _ _ y => by rw [n _ _ (by decide), n _ _ (by decide)]; exact ⟨y, rfl⟩, fun z => n _ _ (by decide), fun z => ⟨n12 _ (dj i hi hne z), n _ _ (by decide)⟩⟩) ?_ (fun i hi => ⟨fun z => own2 _ _ (by omega) (h.h2 hi z).2.2, fun z => own3 _ _ (by omega) (h.h3 hi z).2⟩)
    rw [q98, q99]
    refine vOk.end_ ⟨⟨ho.1, ho.2.1⟩, by rw [r12, if_pos rfl, w3], by rw [w4]; exact f7, ?_⟩ (w1.trans hk5)
    rw [n _ _ (by decide), w2, y1, show (4 * m' + c') / 4 = m' by omega, show (4 * m' + c') % 4 = c' by omega]
    exact f4
  have ea : ai r p = ai s p := ai_eq (n _ _ (by decide))
  have hvL := (hN.2.1 _ _ t d2.1 d2.2 (st_b a).1 sa t0 t1').1
  have ql2 : qLd T r m v w (ldT (T m) a t) := ql.al (hvL.imp id (fun z => z.1)) x3 (fun _ _ z => z) (ldk y4.2.1.2.2.1 y2.1 y3 (st_b a).1 f6 t0 t1) (fun _ => n _ _ (by decide)) (fun z => ⟨n12 _ (ne _ (by have := qo3 z; omega)), n _ _ (by decide)⟩)
  refine ⟨_, hrc, ?_, ?_⟩
  · unfold rcv
    simp only []
    rw [hva]
    rcases ql2 with ⟨z1, z2⟩ | ⟨z1, z2⟩
    · rw [if_pos z1, if_neg (fun y => y z2)]; exact F
    · have hk := hvL.resolve_left z1
      have w4' : w ≠ 4 := fun y => by
        subst y
        rcases hk.2 with k | k | k
        · exact absurd (z2.k0 k).1 (by decide)
        · exact absurd (z2.k4 k).1 (by decide)
        · exact absurd (z2.k5 k).1 (by decide)
      rw [if_neg z1, if_pos w4']
      refine F.psh_ (by show X.1 < 16; exact h16 z1) (z2.any_p hk.2) ⟨fun z => by rw [r10, if_pos ⟨z, rfl⟩], fun z => by rw [r13, if_pos ⟨z, rfl⟩], fun z j hj y => ?_⟩
      have hj' : pl s p j := (pl_eq ea (fun x _ _ => n _ _ (by decide))).mp hj
      rw [n _ _ (by decide)] at y ⊢
      intro u
      rcases z with z | z
      · have := (h.h2 hj' (y.trans z)).2.2
        rw [u, qo2 z] at this; omega
      · have := (h.h3 hj' (y.trans z)).2
        rw [u, qo3 z] at this; omega
  · split
    · exact psh_ai.trans ea
    · exact ea
end SK3
