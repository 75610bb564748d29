/-! SOUNDNESS: send, the other end open -/
section SK2
variable {T : TXs} {s s' : HI} {p q m f v w t o x n k g e a : Int} {B : Int → Int} {X Y : Tst}
/-- what a send does -/
def sdR (s r : HI) (e o st k W t v w : Int) : Prop := (∀ b i, b < 110 ∨ b = 111 ∨ 117 < b → r b i = s b i) ∧ (∀ i, r 112 i = if i = e then st else s 112 i) ∧ (∀ i, r 114 i = if i = o then W + 1 else s 114 i) ∧ (∀ i, i ≠ k → r 115 i = s 115 i ∧ r 116 i = s 116 i ∧ r 117 i = s 117 i) ∧ (r 115 k = t ∧ r 116 k = v ∧ r 117 k = w) ∧ (∀ i, r 110 i = if w = 2 ∧ i = v then 100 + o else s 110 i) ∧ ∀ i, r 113 i = if w = 3 ∧ i = v then 100 + o else s 113 i
theorem sdR_of {st W : Int} : sdR s (ownS (upI (upI (upI (upI (upI s 112 e st) 115 k t) 116 k v) 117 k w) 114 o (W + 1)) v w (100 + o)) e o st k W t v w := by
  obtain ⟨g, hg⟩ : ∃ g, upI (upI (upI (upI (upI s 112 e st) 115 k t) 116 k v) 117 k w) 114 o (W + 1) = g := ⟨_, rfl⟩
  rw [hg]
  have n : ∀ b i, b ≠ 110 → b ≠ 113 → ownS g v w (100 + o) b i = g b i := fun b i z1 z2 => by
    unfold ownS; split
    · exact upI_a z1
    · split
      · exact upI_a z2
      · rfl
  have e0 : ∀ i, g 110 i = s 110 i := fun i => by rw [← hg, upI_a (by decide), upI_a (by decide), upI_a (by decide), upI_a (by decide), upI_a (by decide)]
  have e3 : ∀ i, g 113 i = s 113 i := fun i => by rw [← hg, upI_a (by decide), upI_a (by decide), upI_a (by decide), upI_a (by decide), upI_a (by decide)]
  refine ⟨fun b i z => ?_, fun i => ?_, fun i => ?_, fun i z => ⟨?_, ?_, ?_⟩, ⟨?_, ?_, ?_⟩, fun i => ?_, fun i => ?_⟩
  · rw [n b i (by omega) (by omega), ← hg, upI_a (by omega), upI_a (by omega), upI_a (by omega), upI_a (by omega), upI_a (by omega)]
  · rw [n _ _ (by decide) (by decide), ← hg, upI_a (by decide), upI_a (by decide), upI_a (by decide), upI_a (by decide), upI_self]
  · rw [n _ _ (by decide) (by decide), ← hg, upI_self]
    split
    · rfl
    · rw [upI_a (by decide), upI_a (by decide), upI_a (by decide), upI_a (by decide)]
  · rw [n _ _ (by decide) (by decide), ← hg, upI_a (by decide), upI_a (by decide), upI_a (by decide), upI_i z, upI_a (by decide)]
  · rw [n _ _ (by decide) (by decide), ← hg, upI_a (by decide), upI_a (by decide), upI_i z, upI_a (by decide), upI_a (by decide)]
  · rw [n _ _ (by decide) (by decide), ← hg, upI_a (by decide), upI_i z, upI_a (by decide), upI_a (by decide), upI_a (by decide)]
  · rw [n _ _ (by decide) (by decide), ← hg, upI_a (by decide), upI_a (by decide), upI_a (by decide), upI_eq]
  · rw [n _ _ (by decide) (by decide), ← hg, upI_a (by decide), upI_a (by decide), upI_eq]
  · rw [n _ _ (by decide) (by decide), ← hg, upI_a (by decide), upI_eq]
  · unfold ownS
    by_cases c : w = 2
    · rw [if_pos c, upI_self, e0]
      by_cases d : i = v
      · rw [if_pos d, if_pos ⟨c, d⟩]
      · rw [if_neg d, if_neg (fun y => d y.2)]
    · rw [if_neg c, show (if w = 2 ∧ i = v then 100 + o else s 110 i) = s 110 i from if_neg (fun y => c y.1)]
      split
      · rw [upI_a (by decide), e0]
      · exact e0 i
  · unfold ownS
    by_cases c : w = 2
    · rw [if_pos c, if_neg (by omega), upI_a (by decide), e3]
    · rw [if_neg c]
      by_cases d : w = 3
      · rw [if_pos d, upI_self, e3]
        by_cases d' : i = v
        · rw [if_pos d', if_pos ⟨d, d'⟩]
        · rw [if_neg d', if_neg (fun y => d' y.2)]
      · rw [if_neg d, if_neg (fun y => d y.1)]; exact e3 i
theorem so_snd2 (h : JJ T s p m f X) (hX : 1 ≤ X.1) (hva : X.2.1 (X.1 - 1) = a) (a0 : 0 ≤ a ∧ a < 1048576) (hE : endT (T m) a t) (t0 : 0 ≤ t) (he : tv s p 0 = e) (hoo : opn s (oth e)) (hW : s 114 (oth e) < 4) (hq : qLd T s m v w (ldT (T m) a t)) (hFp : Fp s p v w) : JJ T (sndR s e t v w) p m f (X.1, up1 X.2.1 (X.1 - 1) (nxT (T m) a t), X.2.2) := by
  have hp := h.2.1.1
  have tp := h.top (k := 0) (by decide) (by omega)
  rw [Int.sub_zero, hva, he] at tp
  obtain ⟨k3, he5⟩ := tp.k5 hE.1
  obtain ⟨ho, me, ce, hF⟩ := JJ.en h.1 he5
  have hz := hF.z h.1 ho hE.2.1
  have hpl := h.2.pl_ (k := 0) (by decide) (by omega)
  have hh := h.2.hg_
  have esk : sk s p (hg s p - 1 - 0) = 26 * ai s p + 10 + (X.1 - 1) := by unfold sk; rw [hh]; omega
  rw [esk] at hpl
  have q98 : s 98 (26 * ai s p + 10 + (X.1 - 1)) = e := by rw [← esk]; exact he
  have q99 : s 99 (26 * ai s p + 10 + (X.1 - 1)) = 3 := by rw [← esk]; exact k3
  have h113 : s 113 e = p := by rw [← q98]; exact (h.h3 hpl q99).2
  obtain ⟨c1, c2, c3⟩ := hF.col
  have e63 := (c3 t t0 hE.2.2).2.1
  unfold sndR
  rw [e63]
  obtain ⟨st, hst⟩ : ∃ st, thM (T m) (whichM a) (stateM a) t = st := ⟨_, rfl⟩
  rw [hst]
  obtain ⟨f1, f2, f3, f4, f5, f6, f7⟩ := id hF
  obtain ⟨⟨d1, d2⟩, d3, d4, d5, d6⟩ := f4.st (st_b a).1 f6
  have hN := h.mg.2.1.2.2.1
  have hS := h.mg.2.1.2.1
  have sa : stateM a < nSt (T m) (whichM a) := by rw [← d3]; exact f6
  have th1 := (hN.2.1 _ _ t d2.1 d2.2 (st_b a).1 sa t0 hE.2.2).2
  have th0 : 0 ≤ thM (T m) (whichM a) (stateM a) t ∧ thM (T m) (whichM a) (stateM a) t ≤ 255 := by
    have := ((hS.2.2.2.2.2.2.1 _ d2.1 d2.2).2.2.2.1 _ (st_b a).1 sa).2.2.2.2.2.2.1 t t0 hE.2.2
    exact ⟨this.2.1, this.2.2.1⟩
  rw [hst] at th0 th1
  obtain ⟨W, hWe⟩ : ∃ W, s 114 (oth e) = W := ⟨_, rfl⟩
  rw [hWe] at hW ⊢
  obtain ⟨o, hoe⟩ : ∃ o, oth e = o := ⟨_, rfl⟩
  have hoo' : oth o = e := by rw [← hoe, oth_oth]
  have hneo : o ≠ e := by rw [← hoe]; exact oth_ne
  have hom : o % 2 = 1 - e % 2 := by rw [← hoe]; exact oth_m
  rw [hoe] at hoo hWe ⊢
  -- the walk
  obtain ⟨⟨g1, g2, g3, g4, g5, g6, g7, g8, g9⟩, q2, q3, q4⟩ := id h.1
  obtain ⟨mo, co, y1, y2, y3, y4, y5, y6, y7, y8⟩ := q2 o hoo
  rw [hWe] at y6 y7 y8
  have hlk := q3 e ho (by rw [hoe]; exact hoo)
  unfold LKK at hlk
  rw [hoe] at hlk
  have eBe : eB T s e = T me := by unfold eB; rw [f1, show (4 * me + ce) / 4 = me by omega]
  have eCe : eC s e = ce := by unfold eC; rw [f1]; omega
  have eBo : eB T s o = T mo := by unfold eB; rw [y1, show (4 * mo + co) / 4 = mo by omega]
  have eCo : eC s o = co := by unfold eC; rw [y1]; omega
  rw [eBe, eCe, eBo, eCo] at hlk
  obtain ⟨ak, hlf2⟩ := hlk
  have wst : wk (T mo) co s o W.toNat = stateM a := by
    rcases hlf2 with ⟨z1, z2⟩ | ⟨z1, z2⟩
    · rw [hoe, hWe] at z1
      rw [hoe, eBe, eCe, hz] at z2
      have z2 : s 112 e = s 112 o := z2
      rw [z1]; show s 112 o = _; rw [← z2]; exact f5
    · rw [hoo', eBo, eCo, hWe] at z2
      rw [z2]; exact f5
  obtain ⟨⟨b1, b2⟩, b3, b4, b5, b6⟩ := ak.st (st_b a).1 f6
  have akm := f4.sy.tr ak
  obtain ⟨⟨-, -⟩, -, -, -, b7⟩ := akm.st (st_b a).1 sa
  obtain ⟨b8, b9⟩ := b7 t t0 hE.2.2
  obtain ⟨k, hk⟩ : ∃ k, 4 * o + W = k := ⟨_, rfl⟩
  rw [hk]
  obtain ⟨r, hr⟩ : ∃ r, ownS (upI (upI (upI (upI (upI s 112 e st) 115 k t) 116 k v) 117 k w) 114 o (W + 1)) v w (100 + o) = r := ⟨_, rfl⟩
  have R : sdR s r e o st k W t v w := by rw [← hr]; exact sdR_of
  rw [hr]
  clear hr
  obtain ⟨n, r12, r14, rq, ⟨rk5, rk6, rk7⟩, r10, r13⟩ := R
  have vne : w = 3 → v ≠ e := fun z y => hFp.2.2 (Or.inr z) _ hpl (q99.trans z.symm) (q98.trans y.symm)
  have own2 : ∀ x, s 110 x ≠ p → r 110 x = s 110 x := fun x z => by rw [r10, if_neg (fun y => z (by rw [y.2]; exact hFp.1 y.1))]
  have own3 : ∀ x, s 113 x ≠ p → r 113 x = s 113 x := fun x z => by rw [r13, if_neg (fun y => z (by rw [y.2]; exact hFp.2.1 y.1))]
  have ne : ∀ x, s 113 x ≠ p → x ≠ e := fun x z d => z (by rw [d]; exact h113)
  have n12 : ∀ x, x ≠ e → r 112 x = s 112 x := fun x z => by rw [r12, if_neg z]
  have n14 : ∀ x, x ≠ o → r 114 x = s 114 x := fun x z => by rw [r14, if_neg z]
  have no : ∀ x, opn r x ↔ opn s x := fun x => by
    unfold opn
    by_cases c : x = e
    · subst c; rw [r12, if_pos rfl]; exact ⟨fun z => ho, fun z => ⟨z.1, z.2.1, by omega⟩⟩
    · rw [n12 x c]
  have mE : mEq s r := fun b i b1 b2 => n b i (by omega)
  have eb : ∀ x y, x ≠ p → s 110 y = x → s 109 y ≠ -1 → r 109 y = s 109 y ∧ r 110 y = x := fun x y z z1 _ => ⟨n _ _ (by decide), (own2 y (by omega)).trans z1⟩
  have ee : ∀ x y, x ≠ p → s 113 y = x → opn s y → r 112 y = s 112 y ∧ r 118 y = s 118 y ∧ r 113 y = x := fun x y z z1 _ => ⟨n12 y (ne y (by omega)), n _ _ (by decide), (own3 y (by omega)).trans z1⟩
  have hor := hoo.1
  have hor2 := hoo.2.1
  have heo := ho.1
  have wkr : ∀ j : Nat, j ≤ W.toNat → wk (T mo) co r o j = wk (T mo) co s o j := wk_tr (n12 o hneo) W.toNat (fun j hj => (rq _ (by omega)).1)
  have hJ : JO T r p := by
    refine ⟨⟨by rw [n _ _ (by decide)]; exact g1, by rw [n _ _ (by decide)]; exact g2, by rw [n _ _ (by decide)]; exact g3, by rw [n _ _ (by decide)]; exact g4, by rw [n _ _ (by decide)]; exact g5, fun q q0 q1 => by rw [n _ _ (by decide), n _ _ (by decide), n _ _ (by decide), n _ _ (by decide)]; exact g6 q q0 q1, fun b b0 b1 => by rw [n _ _ (by decide)]; exact g7 b b0 b1, fun b j b0 b1 => by rw [n _ _ (by decide), n _ _ (by decide)]; exact g8 b j b0 b1, fun x x0 x1 => ?_⟩, fun x hx => ?_, fun x hx hx' => ?_, fun q q0 q1 q5 q6 => ?_⟩
    · by_cases c : x = e
      · subst c; rw [r12, if_pos rfl]; intro z; omega
      · by_cases c' : x = o
        · subst c'; rw [n12 x c]; intro z; exact absurd z hoo.2.2
        · rw [n12 x c, n14 x c']; exact g9 x x0 x1
    · have hy := (no x).mp hx
      have hy1 := hy.1
      by_cases c : x = o
      · subst c
        refine ⟨mo, co, (n _ _ (by decide)).trans y1, y2, y3, y4.tr mE, by rw [n12 x hneo]; exact y5, by rw [r14, if_pos rfl]; omega, fun j hj => ?_, fun j l hjl hl => ?_⟩
        · rw [r14, if_pos rfl] at hj
          by_cases c2 : (j : Int) = W
          · have ej : j = W.toNat := by omega
            subst ej
            have ek : 4 * x + ((W.toNat : Nat) : Int) = k := by omega
            unfold QM
            rw [wkr _ (Nat.le_refl _), wst, ek, rk5, rk6, rk7]
            refine ⟨⟨(st_b a).1, by rw [← b3]; exact f6⟩, by rw [← b4, d4, hE.2.1]; omega, ⟨t0, by rw [← b5, d5]; exact hE.2.2⟩, ?_, fun z => by rw [r10, if_pos ⟨z, rfl⟩], fun z => by rw [r13, if_pos ⟨z, rfl⟩]⟩
            refine hq.al ((y4.2.1.2.2.1.2.1 co _ t y2.1 y3 (st_b a).1 (by rw [← b3]; exact f6) t0 (by rw [← b5, d5]; exact hE.2.2)).1.imp id (fun z => z.1)) b9 (fun _ _ z => z) (ldk hN d2.1 d2.2 (st_b a).1 sa t0 hE.2.2) (fun _ => n _ _ (by decide)) (fun z => ⟨n12 v (vne z), n _ _ (by decide)⟩)
          · exact (y7 j (by omega)).tr y4.2.1.2.2.1 y2.1 y3 (n12 x hneo) (n := W.toNat) (by omega) (fun i hi => rq _ (by omega)) (fun v' z1 z2 => eb (100 + x) v' (by omega) z1 z2) (fun v' z1 z2 => ee (100 + x) v' (by omega) z1 z2)
        · rw [r14, if_pos rfl] at hl
          rw [(rq (4 * x + (j : Int)) (by omega)).2.1, (rq (4 * x + (j : Int)) (by omega)).2.2]
          have Qj := y7 j (by omega)
          by_cases c2 : (l : Int) = W
          · rw [show 4 * x + (l : Int) = k by omega, rk6, rk7]
            rintro (z | z) z2 z3
            · have := Qj.2.2.2.2.1 z
              have := hFp.1 (z2.trans z)
              rw [← z3] at *; omega
            · have := Qj.2.2.2.2.2 z
              have := hFp.2.1 (z2.trans z)
              rw [← z3] at *; omega
          · rw [(rq (4 * x + (l : Int)) (by omega)).2.1, (rq (4 * x + (l : Int)) (by omega)).2.2]
            exact y8 j l hjl (by omega)
      · by_cases c3 : x = e
        · subst c3
          obtain ⟨m', c', u1, u2, u3, u4, u5, u6, u7, u8⟩ := q2 x ho
          have em : m' = me ∧ c' = ce := by omega
          obtain ⟨rfl, rfl⟩ := em
          refine ⟨m', c', (n _ _ (by decide)).trans u1, u2, u3, u4.tr mE, by rw [r12, if_pos rfl, d3]; exact ⟨th0.1, th1⟩, by rw [n14 x c]; exact u6, fun j hj => ?_, fun j l _ hl => ?_⟩
          · rw [n14 x c] at hj; omega
          · rw [n14 x c] at hl; omega
        · exact (q2 x hy).tr mE (n _ _ (by decide)) (n12 x c3) (n14 x c) (fun j _ => rq _ (by omega)) (fun v' z1 z2 => eb (100 + x) v' (by omega) z1 z2) (fun v' z1 z2 => ee (100 + x) v' (by omega) z1 z2)
    · have hy := (no x).mp hx
      have hy' := (no _).mp hx'
      have lk : hlf T r o := by
        refine ⟨by rw [hoo', n14 e (fun z => hneo z.symm)]; exact hz, ?_⟩
        have eB9 : eB T r o = T mo := by unfold eB; rw [n 118 _ (by decide)]; exact eBo
        have eC9 : eC r o = co := by unfold eC; rw [n 118 _ (by decide)]; exact eCo
        rw [eB9, eC9, r14, if_pos rfl, hoo', r12, if_pos rfl, show (W + 1).toNat = W.toNat + 1 by omega]
        show thM (T mo) co (wk (T mo) co r o W.toNat) (r 115 (4 * o + ((W.toNat : Nat) : Int))) = st
        rw [wkr _ (Nat.le_refl _), wst, show 4 * o + ((W.toNat : Nat) : Int) = k by omega, rk5, ← b8]
        exact hst
      have al : ∀ y, Alk (eB T s y) (eB T s (oth y)) (eC s y) (eC s (oth y)) → Alk (eB T r y) (eB T r (oth y)) (eC r y) (eC r (oth y)) := fun y z => by
        unfold eB eC at z ⊢
        rw [n 118 _ (by decide), n 118 _ (by decide)]; exact z
      by_cases c : x = o
      · subst c; exact ⟨al _ (q3 x hy hy').1, Or.inl lk⟩
      · by_cases c2 : x = e
        · subst c2; exact ⟨al _ (q3 x hy hy').1, Or.inr (by rw [hoe]; exact lk)⟩
        · have c3 : oth x ≠ o := fun z => c2 (by rw [← hoo', ← z, oth_oth])
          have c4 : oth x ≠ e := fun z => c (by rw [← hoe, ← z, oth_oth])
          obtain ⟨m1, c1, u1⟩ := q2 x hy
          obtain ⟨m2, c2', u2⟩ := q2 _ hy'
          have hy1 := hy.1
          have hy2 := hy'.1
          exact (q3 x hy hy').tr (n _ _ (by decide)) (n12 x c2) (n14 x c) (fun j _ => (rq _ (by omega)).1) (n _ _ (by decide)) (n12 _ c4) (n14 _ c3) (fun j _ => (rq _ (by omega)).1) u1.2.2.2.2.2.1.2 u2.2.2.2.2.2.1.2
    · rw [n _ _ (by decide)] at q6
      exact (q4 q q0 q1 q5 q6).tr2 (fun b i z => n b i (by unfold ownC at z; omega)) mE (fun v' z1 z2 => eb q v' q5 z1 z2) (fun v' z1 z2 => ee q v' q5 z1 z2)
  obtain ⟨w1, w2, w3, w4⟩ := nxT_s (B := T m) a0 hst ⟨th0.1, by omega⟩
  have dj : ∀ i, pl s p i → i ≠ 26 * ai s p + 10 + (X.1 - 1) → s 99 i = 3 → s 98 i ≠ e := fun i hi hne z => by
    rw [← q98]; exact h.2.2.2.2.2.2.2.2 _ i hpl hi (fun y => hne y.symm) (Or.inr q99) (z.trans q99.symm)
  refine h.og2 hJ (fun b i z _ _ _ => n b i (by omega)) (l := X.1 - 1) (by omega) (fun i hi hne => ⟨fun _ _ _ y => by rw [n _ _ (by decide), n _ _ (by decide)]; exact ⟨y, rfl⟩, fun z => n _ _ (by decide), fun z => ⟨n12 _ (dj i hi hne z), n _ _ (by decide)⟩⟩) ?_ (fun i hi => ⟨fun z => ?_, fun z => ?_⟩)
  · rw [q98, q99]
    refine vOk.end_ ⟨⟨ho.1, ho.2.1⟩, by rw [r12, if_pos rfl, w3], by rw [w4]; exact f7, ?_⟩ (w1.trans hE.1)
    rw [n _ _ (by decide), w2, f1, show (4 * me + ce) / 4 = me by omega, show (4 * me + ce) % 4 = ce by omega]
    exact f4
  · rw [r10, if_neg (fun y => hFp.2.2 (Or.inl y.1) i hi (z.trans y.1.symm) y.2)]; exact (h.h2 hi z).2.2
  · rw [r13, if_neg (fun y => hFp.2.2 (Or.inr y.1) i hi (z.trans y.1.symm) y.2)]; exact (h.h3 hi z).2
end SK2
