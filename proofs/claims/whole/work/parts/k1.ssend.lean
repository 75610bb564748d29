/-! SOUNDNESS: send -/
section SK1
variable {T : TXs} {s s' : HI} {p q m f v w t o x n k g e a : Int} {B : Int → Int} {X Y : Tst}
theorem nxT_s (a0 : 0 ≤ a ∧ a < 1048576) {st : Int} (h : thM B (whichM a) (stateM a) t = st) (s0 : 0 ≤ st ∧ st < 256) : kindM (nxT B a t) = kindM a ∧ whichM (nxT B a t) = whichM a ∧ stateM (nxT B a t) = st ∧ sideM (nxT B a t) = sideM a := by
  unfold nxT
  rw [h]
  unfold kindM whichM stateM sideM
  rw [if_neg (by omega), if_neg (by omega)]
  omega
theorem JJ.og2 {l : Int} (h : JJ T s p m f X) (hJ : JO T s' p) (e : ∀ a i, a < 109 ∨ 118 < a → a ≠ 49 → a ≠ 87 → a ≠ 88 → s' a i = s a i) (l0 : 0 ≤ l ∧ l < X.1) (hv : ∀ i, pl s p i → i ≠ 26 * ai s p + 10 + l → Vt s s' p (s 98 i) (s 99 i)) (hn : vOk T s' p m (s 98 (26 * ai s p + 10 + l)) (s 99 (26 * ai s p + 10 + l)) t) (ho : ∀ i, pl s p i → (s 99 i = 2 → s' 110 (s 98 i) = p) ∧ (s 99 i = 3 → s' 113 (s 98 i) = p)) : JJ T s' p m f (X.1, up1 X.2.1 l t, X.2.2) := by
  obtain ⟨-, hP⟩ := id h
  obtain ⟨h1, h2, h3, h4, h5, h6, h7⟩ := id hP
  have n : ∀ {a : Nat} {i : Int}, (a < 109 ∨ 118 < a) ∧ a ≠ 49 ∧ a ≠ 87 ∧ a ≠ 88 → s' a i = s a i := fun z => e _ _ z.1 z.2.1 z.2.2.1 z.2.2.2
  have hpl9 : ∀ k, 0 ≤ k → k < 10 + X.1 → pl s p (26 * ai s p + k) := fun k k0 k1 => ⟨ai s p, k, h1.a.1, Int.le_refl _, k0, by rw [h6.1]; exact k1, rfl⟩
  refine ⟨hJ, hP.go (fun a i a1 a2 => n (by omega)) (by rw [n (by decide)]; exact h1.2.2.2.2.2) (n (by decide)) (n (by decide)) (n (by decide)) (fun x _ _ => n (by decide)) (fun x _ _ => ⟨n (by decide), n (by decide)⟩) (fun i _ _ => ⟨n (by decide), n (by decide)⟩) (fun i hi z => hv i hi (by omega)) ?_ h5 ?_ ?_⟩
  · exact h2.tr h1.2.2.2.1 (fun b _ _ => ⟨n (by decide), n (by decide)⟩) (fun b i _ _ _ _ => ⟨n (by decide), n (by decide)⟩)
  · refine ⟨(n (by decide)).trans h6.1, fun k a b => ?_, fun k a b => ?_⟩
    · have b : k < X.1 := b
      rw [n (a := 98) (by decide), n (a := 99) (by decide)]
      show vOk T s' p m _ _ (up1 X.2.1 l t k)
      by_cases c : k = l
      · subst c; rw [up1_eq]; exact hn
      · rw [up1_ne c]; exact (h6.2.1 k a b).tr (hv _ (by have := hpl9 (10 + k) (by omega) (by omega); rw [show 26 * ai s p + (10 + k) = 26 * ai s p + 10 + k by omega] at this; exact this) (by omega))
    · rw [n (a := 98) (by decide), n (a := 99) (by decide)]
      exact (h6.2.2 k a b).tr (hv _ (hpl9 k a (by omega)) (by omega))
  · have hpl : ∀ i, pl s' p i → pl s p i := fun i hi => (pl_eq (ai_eq (n (by decide))) (fun x _ _ => n (by decide))).mp hi
    refine ⟨fun i hi => ?_, fun i j hi hj hne => ?_⟩
    · rw [n (a := 98) (by decide), n (a := 99) (by decide)]; exact ho i (hpl i hi)
    · rw [n (a := 98) (by decide), n (a := 98) (by decide), n (a := 99) (by decide), n (a := 99) (by decide)]; exact h7.2 i j (hpl i hi) (hpl j hj) hne
/-- an end that a type tells, and its own contract -/
def enF (T : TXs) (s : HI) (m v a me ce : Int) : Prop := s 118 v = 4 * me + ce ∧ (0 ≤ ce ∧ ce < 4) ∧ Mg T s me ∧ Alk (T me) (T m) ce (whichM a) ∧ s 112 v = stateM a ∧ stateM a < nSt (T me) ce ∧ v % 2 = sideM a
theorem JJ.en (h : JO T s p) (he : enT T s m v a) : opn s v ∧ ∃ me ce, enF T s m v a me ce := by
  obtain ⟨h1, h2, h3, h4⟩ := he
  have h0 := st_b a
  have ho : opn s v := ⟨h1.1, h1.2, by omega⟩
  obtain ⟨me, ce, y1, y2, y3, y4, y5, -⟩ := h.2.1 v ho
  rw [y1, show (4 * me + ce) / 4 = me by omega, show (4 * me + ce) % 4 = ce by omega] at h4
  exact ⟨ho, me, ce, y1, y2, y4, h4, h2, by rw [← h2]; exact y5.2, h3⟩
theorem enF.col {me ce : Int} (h : enF T s m v a me ce) : s 60 (8 * s 118 v + s 112 v) = tnS (T m) (whichM a) (stateM a) ∧ s 61 (8 * s 118 v + s 112 v) = nMs (T m) (whichM a) (stateM a) ∧ ∀ t, 0 ≤ t → t < nMs (T m) (whichM a) (stateM a) → s 62 (4 * (8 * s 118 v + s 112 v) + t) = ldM (T me) ce (stateM a) t ∧ s 63 (4 * (8 * s 118 v + s 112 v) + t) = thM (T m) (whichM a) (stateM a) t ∧ alL (T me) (T m) (Alk (T me) (T m)) (ldM (T me) ce (stateM a) t) (ldM (T m) (whichM a) (stateM a) t) := by
  obtain ⟨h1, h2, h3, h4, h5, h6, h7⟩ := h
  have h0 := st_b a
  obtain ⟨⟨c1, c2⟩, e1, e2, e3, e4⟩ := h4.st h0.1 h6
  obtain ⟨d1, d2, d3⟩ := h3.2.1.1.ct h3.2.1.2.1 c1.1 c1.2 h0.1 h6
  rw [h1, h5]
  refine ⟨d1.trans e2, d2.trans e3, fun t t0 t1 => ?_⟩
  rw [← e3] at t1
  obtain ⟨f1, f2⟩ := d3 t t0 t1
  obtain ⟨g1, g2⟩ := e4 t t0 t1
  exact ⟨f1, f2.trans g1, g2⟩
/-- a load of alike contracts -/
theorem qLd.al {r : HI} {m' L L' : Int} {R : Int → Int → Prop} (h : qLd T s m v w L) (hL : L' = -1 ∨ vT (T m') L') (ha : alL (T m) (T m') R L L') (hR : ∀ c d, R c d → Alk (T m) (T m') c d) (k : L = -1 ∨ kindM L = 0 ∨ kindM L = 4 ∨ kindM L = 5) (e2 : w = 2 → r 109 v = s 109 v) (e3 : w = 3 → r 112 v = s 112 v ∧ r 118 v = s 118 v) : qLd T r m' v w L' := by
  obtain ⟨a1, a2, a3⟩ := ha
  rcases h with ⟨rfl, h2⟩ | ⟨h1, h2⟩
  · left
    refine ⟨?_, h2⟩
    rcases hL with z | z
    · exact z
    · have : kindM L' = L' % 8 := by unfold kindM; rw [if_neg (by have := z.1; omega)]
      have e : kindM (-1) = -1 := rfl
      omega
  · have k := k.resolve_left h1
    right
    have n1 : L' ≠ -1 := fun z => by
      subst z
      have e : kindM (-1) = -1 := rfl
      omega
    refine ⟨n1, ?_⟩
    rcases k with k | k | k
    · obtain ⟨y1, y2⟩ := h2.k0 k
      exact Or.inl ⟨by omega, y1, y2⟩
    · obtain ⟨y1, y2, y3, y4⟩ := h2.k4 k
      subst y1
      have e := e2 rfl
      exact vOk.blk ⟨y2, by rw [e, y3]; exact a2 k, by rw [e]; exact y4⟩ (by omega)
    · obtain ⟨y1, y2, y3, y4, y5⟩ := h2.k5 k
      subst y1
      obtain ⟨e1, e2⟩ := e3 rfl
      obtain ⟨b1, b2, b3⟩ := a3 k
      exact vOk.end_ ⟨y2, by rw [e1, y3]; exact b1, y4.trans b2, by rw [e2]; exact y5.tr (hR _ _ b3)⟩ (by omega)
def sndR (s : HI) (e t v w : Int) : HI := ownS (upI (upI (upI (upI (upI s 112 e (s 63 (4 * (8 * s 118 e + s 112 e) + t))) 115 (4 * oth e + s 114 (oth e)) t) 116 (4 * oth e + s 114 (oth e)) v) 117 (4 * oth e + s 114 (oth e)) w) 114 (oth e) (s 114 (oth e) + 1)) v w (100 + oth e)
/-- an end whose turn it is has nothing that waits -/
theorem enF.z {me ce : Int} (h : JO T s p) (ho : opn s e) (hF : enF T s m e a me ce) (ht : tnS (T m) (whichM a) (stateM a) = 1 + sideM a) : s 114 e = 0 := by
  obtain ⟨h1, h2, h3, h4, h5, h6, h7⟩ := hF
  obtain ⟨m', c', y1, y2, y3, y4, y5, y6, y7, -⟩ := h.2.1 e ho
  have em : m' = me ∧ c' = ce := by omega
  obtain ⟨rfl, rfl⟩ := em
  apply Classical.byContradiction
  intro z
  have k0 := (y7 0 (by omega)).2.1
  have e0 : wk (T m') c' s e 0 = stateM a := h5
  rw [e0, (h4.st (st_b a).1 h6).2.2.1, ht] at k0
  omega
theorem so_snd1 (h : JJ T s p m f X) (hX : 1 ≤ X.1) (hva : X.2.1 (X.1 - 1) = a) (a0 : 0 ≤ a ∧ a < 1048576) (hE : endT (T m) a t) (t0 : 0 ≤ t) (he : tv s p 0 = e) (hoc : s 112 (oth e) = -1) : JJ T (upI s 112 e (s 63 (4 * (8 * s 118 e + s 112 e) + t))) p m f (X.1, up1 X.2.1 (X.1 - 1) (nxT (T m) a t), X.2.2) ∧ opn s e ∧ s 113 e = p := by
  have hp := h.2.1.1
  have tp := h.top (k := 0) (by decide) (by omega)
  rw [Int.sub_zero, hva, he] at tp
  obtain ⟨k3, he5⟩ := tp.k5 hE.1
  obtain ⟨ho, me, ce, hF⟩ := JJ.en h.1 he5
  have hz := hF.z h.1 ho hE.2.1
  have hpl := h.2.pl_ (k := 0) (by decide) (by omega)
  have hh := h.2.hg_
  have esk : sk s p (hg s p - 1 - 0) = 26 * ai s p + 10 + (X.1 - 1) := by unfold sk; rw [hh]; omega
  rw [esk] at hpl
  have q98 : s 98 (26 * ai s p + 10 + (X.1 - 1)) = e := by rw [← esk]; exact he
  have q99 : s 99 (26 * ai s p + 10 + (X.1 - 1)) = 3 := by rw [← esk]; exact k3
  have h113 : s 113 e = p := by rw [← q98]; exact (h.h3 hpl q99).2
  obtain ⟨c1, c2, c3⟩ := hF.col
  have e63 := (c3 t t0 hE.2.2).2.1
  rw [e63]
  obtain ⟨st, hst⟩ : ∃ st, thM (T m) (whichM a) (stateM a) t = st := ⟨_, rfl⟩
  rw [hst]
  obtain ⟨f1, f2, f3, f4, f5, f6, f7⟩ := id hF
  obtain ⟨⟨d1, d2⟩, d3, d4, d5, d6⟩ := f4.st (st_b a).1 f6
  have hN := h.mg.2.1.2.2.1
  have hS := h.mg.2.1.2.1
  have sa : stateM a < nSt (T m) (whichM a) := by rw [← d3]; exact f6
  have th1 := (hN.2.1 _ _ t d2.1 d2.2 (st_b a).1 sa t0 hE.2.2).2
  have th0 : 0 ≤ thM (T m) (whichM a) (stateM a) t ∧ thM (T m) (whichM a) (stateM a) t ≤ 255 := by
    have := ((hS.2.2.2.2.2.2.1 _ d2.1 d2.2).2.2.2.1 _ (st_b a).1 sa).2.2.2.2.2.2.1 t t0 hE.2.2
    exact ⟨this.2.1, this.2.2.1⟩
  rw [hst] at th0 th1
  have n : ∀ {b : Nat} {i : Int}, ¬ (b = 112 ∧ i = e) → upI s 112 e st b i = s b i := fun z => if_neg z
  have ne : ∀ x q, s 113 x = q → q ≠ p → x ≠ e := fun x q z y d => y (by rw [← z, d, h113])
  have no : ∀ x, opn (upI s 112 e st) x ↔ opn s x := fun x => by
    unfold opn
    by_cases c : x = e
    · subst c; rw [upI_eq]; exact ⟨fun z => ho, fun z => ⟨z.1, z.2.1, by omega⟩⟩
    · rw [n (by omega)]
  have mE : mEq s (upI s 112 e st) := fun b i b1 b2 => n (by omega)
  obtain ⟨⟨g1, g2, g3, g4, g5, g6, g7, g8, g9⟩, q2, q3, q4⟩ := id h.1
  have hJ : JO T (upI s 112 e st) p := by
    refine ⟨⟨by rw [n (by omega)]; exact g1, by rw [n (by omega)]; exact g2, by rw [n (by omega)]; exact g3, by rw [n (by omega)]; exact g4, by rw [n (by omega)]; exact g5, fun q q0 q1 => by rw [n (by omega), n (by omega), n (by omega), n (by omega)]; exact g6 q q0 q1, fun b b0 b1 => by rw [n (by omega)]; exact g7 b b0 b1, fun b j b0 b1 => by rw [n (by omega), n (by omega)]; exact g8 b j b0 b1, fun x x0 x1 => ?_⟩, fun x hx => ?_, fun x hx hx' => ?_, fun q q0 q1 q5 q6 => ?_⟩
    · rw [n (b := 114) (by omega)]
      by_cases c : x = e
      · subst c; intro _; exact hz
      · rw [n (by omega)]; exact g9 x x0 x1
    · have hx := (no x).mp hx
      by_cases c : x = e
      · subst c
        obtain ⟨m', c', y1, y2, y3, y4, y5, y6, y7, y8⟩ := q2 x ho
        have em : m' = me ∧ c' = ce := by omega
        obtain ⟨rfl, rfl⟩ := em
        refine ⟨m', c', by rw [n (by omega)]; exact y1, y2, y3, y4.tr mE, by rw [upI_eq, d3]; exact ⟨th0.1, th1⟩, by rw [n (by omega)]; exact y6, fun k hk => ?_, fun j k _ hk => ?_⟩
        · rw [n (by omega)] at hk; omega
        · rw [n (by omega)] at hk; omega
      · have x0 := hx.1
        exact (q2 x hx).tr mE (n (by omega)) (n (by omega)) (n (by omega)) (fun j _ => ⟨n (by omega), n (by omega), n (by omega)⟩) (fun v z1 z2 => ⟨n (by omega), (n (by omega)).trans z1⟩) (fun v z1 z2 => by
          have := ne v _ z1 (by omega)
          exact ⟨n (by omega), n (by omega), (n (by omega)).trans z1⟩)
    · have hy := (no x).mp hx
      have hy' := (no _).mp hx'
      have c1 : x ≠ e := fun z => hy'.2.2 (by rw [z]; exact hoc)
      have c2 : oth x ≠ e := fun z => by
        rw [← z, oth_oth] at hoc; exact hy.2.2 hoc
      obtain ⟨m1, c1, y1⟩ := q2 x hy
      obtain ⟨m2, c2, y2⟩ := q2 _ hy'
      exact (q3 x hy hy').tr (n (by omega)) (n (by omega)) (n (by omega)) (fun j _ => n (by omega)) (n (by omega)) (n (by omega)) (n (by omega)) (fun j _ => n (by omega)) y1.2.2.2.2.2.1.2 y2.2.2.2.2.2.1.2
    · rw [n (by omega)] at q6
      exact (q4 q q0 q1 q5 q6).tr2 (fun b i z => n (by unfold ownC at z; omega)) mE (fun v z1 z2 => ⟨n (by omega), (n (by omega)).trans z1⟩) (fun v z1 z2 => by
        have := ne v _ z1 q5
        exact ⟨n (by omega), n (by omega), (n (by omega)).trans z1⟩)
  obtain ⟨w1, w2, w3, w4⟩ := nxT_s (B := T m) a0 hst ⟨th0.1, by omega⟩
  have dj : ∀ i, pl s p i → i ≠ 26 * ai s p + 10 + (X.1 - 1) → s 99 i = 3 → s 98 i ≠ e := fun i hi hne z => by
    rw [← q98]; exact h.2.2.2.2.2.2.2.2 _ i hpl hi (fun y => hne y.symm) (Or.inr q99) (z.trans q99.symm)
  refine ⟨h.og2 hJ (fun b i z _ _ _ => n (by omega)) (l := X.1 - 1) (by omega) (fun i hi hne => ⟨fun _ _ _ y => by rw [n (by omega), n (by omega)]; exact ⟨y, rfl⟩, fun z => n (by omega), fun z => ?_⟩) ?_ (fun i hi => ⟨fun z => (n (by omega)).trans (h.h2 hi z).2.2, fun z => (n (by omega)).trans (h.h3 hi z).2⟩), ho, h113⟩
  · have := dj i hi hne z
    exact ⟨n (by omega), n (by omega)⟩
  · rw [q98, q99]
    refine vOk.end_ ⟨⟨ho.1, ho.2.1⟩, by rw [upI_eq, w3], by rw [w4]; exact f7, ?_⟩ (w1.trans hE.1)
    rw [n (by omega), w2, f1, show (4 * me + ce) / 4 = me by omega, show (4 * me + ce) % 4 = ce by omega]
    exact f4
end SK1
