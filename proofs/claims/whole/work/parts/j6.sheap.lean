/-! SOUNDNESS: the heap -/
section SD6
variable {T : TXs} {s s' : HI} {p q m f v w t o x n k : Int} {B : Int → Int} {X Y : Tst}
/-- every place holds what it may -/
theorem PJ.any (h : PJ T s p m f X) {i : Int} (hi : pl s p i) : ∃ t, vOk T s p m (s 98 i) (s 99 i) t := by
  obtain ⟨x, k, a, b, c, d, rfl⟩ := hi
  have key : ∀ Y, Frm T s p m x Y → ∃ t, vOk T s p m (s 98 (26 * x + k)) (s 99 (26 * x + k)) t := fun Y hF => by
    by_cases z : k < 10
    · exact ⟨_, hF.2.2 k c z⟩
    · have := hF.2.1 (k - 10) (by omega) (by rw [← hF.1]; omega)
      rw [show 26 * x + 10 + (k - 10) = 26 * x + k by omega] at this
      exact ⟨_, this⟩
  by_cases z : x = ai s p
  · subst z; exact key _ h.2.2.2.2.2.1
  · obtain ⟨y1, A, Z, n, y2, y3, y4, y5, y6, y7⟩ := h.2.2.1 x a (by omega)
    exact key _ y6
theorem rot_pl {b : Int} (h : rot s p b) : ∃ i, pl s p i ∧ s 99 i = 1 ∧ s 98 i = b ∧ 0 < b := by
  obtain ⟨a, k, z1, z2, z3, z4, z5, z6, z7⟩ := h
  exact ⟨26 * (16 * p + a) + k, ⟨16 * p + a, k, by omega, by unfold ai; omega, z3, z4, rfl⟩, z5, z6, z7⟩
theorem pl_rot {i : Int} (h : pl s p i) (h1 : s 99 i = 1) (h2 : 0 < s 98 i) : rot s p (s 98 i) := by
  obtain ⟨x, k, a, b, c, d, rfl⟩ := h
  exact ⟨x - 16 * p, k, by omega, by unfold ai at b; omega, c, by rw [show 16 * p + (x - 16 * p) = x by omega]; exact d, by rw [show 16 * p + (x - 16 * p) = x by omega]; exact h1, by rw [show 16 * p + (x - 16 * p) = x by omega], h2⟩
theorem PJ.rch_ (h : PJ T s p m f X) {b : Int} (hb : rch s p b) : (1 ≤ b ∧ b ≤ 1024) ∧ 0 < s 100 (1025 * p + b) := by
  refine hb (fun b => (1 ≤ b ∧ b ≤ 1024) ∧ 0 < s 100 (1025 * p + b)) (fun b hr => ?_) (fun b i hr i0 i1 h1 h2 => ?_)
  · obtain ⟨i, y1, y2, y3, y4⟩ := rot_pl hr
    obtain ⟨t, ht⟩ := h.any y1
    rcases ht.w1 y2 with z | z
    · omega
    · rw [y3] at z; exact ⟨z.1, by omega⟩
  · have := ((h.2.1 b hr.1.1 hr.1.2).2 (by omega)).2 i i0 i1
    rcases this.w1 h1 with z | z
    · omega
    · exact ⟨z.1, by omega⟩
theorem PJ.hbd (h : PJ T s p m f X) : HBd s p := ⟨fun b b0 b1 => (h.2.1 b b0 b1).1, fun b hb => h.rch_ hb, fun a a0 a1 => h.h97 (16 * p + a) (by omega) (by unfold ai; omega)⟩
/-- the heap changes, not the frames -/
theorem JJ.hp_ (h : JJ T s p m f X) (e : ∀ a i, ¬ ((a = 100 ∨ a = 300 ∨ a = 301 ∨ a = 302) ∧ ownC p a i) → s' a i = s a i) (hv : ∀ i, pl s p i → s 99 i = 1 → 1 ≤ s 98 i → s 98 i ≤ 1024 → 1 ≤ s 100 (1025 * p + s 98 i) → 1 ≤ s' 100 (1025 * p + s 98 i) ∧ s' 302 (1025 * p + s 98 i) = s 302 (1025 * p + s 98 i)) (hH : HpI T s' p m) : JJ T s' p m f X := by
  obtain ⟨hJ, hP⟩ := h
  obtain ⟨h1, h2, h3, h4, h5, h6, h7⟩ := id hP
  have n : ∀ {a : Nat} {i : Int}, a ≠ 100 ∧ a ≠ 300 ∧ a ≠ 301 ∧ a ≠ 302 → s' a i = s a i := fun z => e _ _ (by omega)
  have VT : ∀ i, pl s p i → Vt s s' p (s 98 i) (s 99 i) := fun i hi => ⟨hv i hi, fun _ => n (by decide), fun _ => ⟨n (by decide), n (by decide)⟩⟩
  refine ⟨hJ.lc (fun a i z _ _ _ _ => e a i (fun y => z y.2)) ?_, hP.go (fun a i a1 a2 => n (by omega)) (by rw [n (by decide)]; exact h1.2.2.2.2.2) (n (by decide)) (n (by decide)) (n (by decide)) (fun x _ _ => n (by decide)) (fun x _ _ => ⟨n (by decide), n (by decide)⟩) (fun i _ _ => ⟨n (by decide), n (by decide)⟩) (fun i hi _ => VT i hi) hH h5 ?_ ?_⟩
  · have g := hJ.1
    unfold Gl at g ⊢
    simp only [n (a := 49) (by decide), n (a := 89) (by decide), n (a := 93) (by decide), n (a := 109) (by decide), n (a := 111) (by decide), n (a := 112) (by decide), n (a := 114) (by decide)]
    exact g
  · refine h6.tr (n (by decide)) (fun i _ _ => ⟨n (by decide), n (by decide)⟩) h5.1 (fun i i0 i1 => VT i ⟨ai s p, i - 26 * ai s p, h1.a.1, Int.le_refl _, by omega, by rw [h6.1]; omega, by omega⟩)
  · exact h7.tr (fun i hi => ⟨(pl_eq (ai_eq (n (by decide))) (fun x _ _ => n (by decide))).mp hi, n (by decide), n (by decide)⟩) (fun v z => (n (by decide)).trans z) (fun v z => (n (by decide)).trans z)
theorem JJ.mg (h : JJ T s p m f X) : Mg T s m := h.2.1.2.2.2.1
theorem JJ.gc (h : JJ T s p m f X) : JJ T (gcS s p) p m f X := by
  have hP := h.2
  have e : ∀ a i, a ≠ 100 → gcS s p a i = s a i := fun a i z => gcS_CE z
  have hN := h.mg.2.1.2.2.1
  have hS := h.mg.2.1.2.1
  refine h.hp_ (fun a i z => ?_) (fun i hi y1 v0 v1 _ => ?_) (fun b b0 b1 => ?_)
  · by_cases c : a = 100
    · subst c; exact gcS_o (by unfold ownC at z; omega)
    · exact e a i c
  · have hr := rch_r (pl_rot hi y1 (by omega))
    rw [gcS_y ⟨v0, v1⟩ hr, e _ _ (by decide)]
    exact ⟨by have := hP.rch_ hr; omega, rfl⟩
  · rw [e 302 _ (by decide)]
    by_cases c : rch s p b
    · rw [gcS_y ⟨b0, b1⟩ c]
      obtain ⟨y1, y2⟩ := hP.2.1 b b0 b1
      refine ⟨y1, fun z => ⟨(y2 z).1, fun i i0 i1 => ?_⟩⟩
      rw [e 300 _ (by decide), e 301 _ (by decide)]
      have hv := (y2 z).2 i i0 i1
      have hn := hv.nl (itT_n hN hS (y2 z).1 i0 i1)
      refine hv.tr ⟨fun w1 v0 v1 _ => ?_, fun y => absurd y hn.1, fun y => absurd y hn.2⟩
      have hr := rch_i c i0 i1 w1 (by omega)
      rw [gcS_y ⟨v0, v1⟩ hr, e _ _ (by decide)]
      exact ⟨by have := hP.rch_ hr; omega, rfl⟩
    · rw [gcS_n ⟨b0, b1⟩ c]
      exact ⟨by decide, fun z => absurd z (by decide)⟩
theorem mkB_k (hF : mkF s p n) (hB : HBd s p) (h92 : s 92 p ≤ 1024) (n0 : 0 ≤ n) : (1 ≤ mkB s p ∧ mkB s p ≤ 1024) ∧ ¬ 0 < gcS s p 100 (1025 * p + mkB s p) := by
  obtain ⟨b, b1, b2, b3⟩ := hF.free h92 n0 hB
  have key : ∀ (j : Nat) (k : Int), k + j = 1025 → 1 ≤ k → k ≤ b → (k ≤ frB (gcS s p) p j k ∧ frB (gcS s p) p j k ≤ b) ∧ ¬ 0 < gcS s p 100 (1025 * p + frB (gcS s p) p j k) := by
    intro j
    induction j with
    | zero => intro k hk _ hb; omega
    | succ j ih =>
      intro k hk k1 hb
      by_cases c : 0 < gcS s p 100 (1025 * p + k)
      · rw [frB_s c]
        have : k ≠ b := fun z => by subst z; exact b3 c
        have := ih (k + 1) (by omega) (by omega) (by omega)
        exact ⟨⟨by omega, this.1.2⟩, this.2⟩
      · rw [frB_e c]; exact ⟨⟨Int.le_refl _, hb⟩, c⟩
  have := key 1024 1 (by decide) (by decide) b1
  unfold mkB
  exact ⟨⟨by omega, by omega⟩, this.2⟩
/-- a new box -/
theorem JJ.nb {ws : Int → Int} (h : JJ T s p m f X) (k0 : 1 ≤ k ∧ k ≤ 1024) (hk : ¬ 0 < s 100 (1025 * p + k)) (n0 : 0 ≤ n ∧ n < 1024) (ht : tyB (T m) t (n + 1)) (hw : ∀ i, 0 ≤ i → i < n → vOk T (newB s p k n t ws) p m 0 (ws i) (itT (T m) t i)) : JJ T (newB s p k n t ws) p m f X := by
  have hP := h.2
  have hN := h.mg.2.1.2.2.1
  have hS := h.mg.2.1.2.1
  have e302 : ∀ i, i ≠ 1025 * p + k → newB s p k n t ws 302 i = s 302 i := fun i z => by
    unfold newB; rw [if_neg (by omega), if_neg (by omega), if_neg (by omega), if_neg (by omega)]
  have k302 : newB s p k n t ws 302 (1025 * p + k) = t := by
    unfold newB; rw [if_neg (by omega), if_pos ⟨rfl, rfl⟩]
  refine h.hp_ (fun a i z => ?_) (fun i hi y1 v0 v1 v2 => ?_) (fun b b0 b1 => ?_)
  · unfold newB
    rw [if_neg (fun y => z (by unfold ownC; omega)), if_neg (fun y => z (by unfold ownC; omega)), if_neg (fun y => z (by unfold ownC; unfold hx at y ⊢; omega)), if_neg (fun y => z (by unfold ownC; unfold hx at y ⊢; omega))]
  · have : s 98 i ≠ k := fun z => by rw [z] at v2; omega
    rw [newB_100 (by omega), e302 _ (by omega)]; exact ⟨v2, rfl⟩
  · by_cases c : b = k
    · subst c
      rw [newB_k, k302]
      refine ⟨by omega, fun _ => ⟨ht, fun i i0 i1 => ?_⟩⟩
      obtain ⟨q1, q2⟩ := newB_x (s := s) (p := p) (k := b) (n := n) (t := t) (w := ws) (i := i) ⟨i0, by omega⟩
      rw [q1, q2]; exact hw i i0 (by omega)
    · rw [newB_100 (by omega), e302 _ (by omega)]
      obtain ⟨y1, y2⟩ := hP.2.1 b b0 b1
      refine ⟨y1, fun z => ⟨(y2 z).1, fun i i0 i1 => ?_⟩⟩
      obtain ⟨q1, q2⟩ := newB_y (s := s) (p := p) (k := k) (n := n) (t := t) (w := ws) (i := hx p b i) (by unfold hx; omega)
      rw [q1, q2]
      have hv := (y2 z).2 i i0 i1
      have hn := hv.nl (itT_n hN hS (y2 z).1 i0 i1)
      refine hv.tr ⟨fun w1 v0 v1 v2 => ?_, fun y => absurd y hn.1, fun y => absurd y hn.2⟩
      have : s 300 (hx p b i) ≠ k := fun z => by rw [z] at v2; omega
      rw [newB_100 (by omega), e302 _ (by omega)]; exact ⟨v2, rfl⟩
theorem newB_t {ws : Int → Int} : newB s p k n t ws 302 (1025 * p + k) = t := by
  unfold newB; rw [if_neg (by omega), if_pos ⟨rfl, rfl⟩]
theorem mkF_b (hF : mkF s p n) (h92 : s 92 p ≤ 1024) : n < 1024 := by unfold mkF at hF; omega
theorem so_mk {ws : Int → Int} {np : Int} (h : JJ T s p m f X) (h16 : X.1 < 16) (n0 : 0 ≤ n) (ht : mkF s p n → tyB (T m) t (n + 1)) (hh : heapT t) (hw : ∀ s' i, 0 ≤ i → i < n → vOk T s' p m 0 (ws i) (itT (T m) t i)) (h96 : s 96 (ai s p) = np) (K : ∀ s', JJ T s' p m f (X.1 + 1, up1 X.2.1 X.1 t, X.2.2) → ai s' p = ai s p → s' 96 (ai s p) = np → JO T s' (-1)) : JO T (mkS s p n t ws) (-1) := by
  have hpb := h.2.1.1
  have h92 := h.2.1.2.2.2.2.1
  unfold mkS
  by_cases c : mkF s p n
  · rw [cif_y c]
    obtain ⟨kb, kf⟩ := mkB_k c h.2.hbd h92.2 n0
    have nb := mkF_b c h92.2
    have h2 := h.gc.nb (ws := ws) kb kf ⟨n0, nb⟩ (ht c) (fun i i0 i1 => hw _ i i0 i1)
    have h3 := h2.psh_ (v := mkB s p) (w := 1) (t := t) h16 (vOk.box (Or.inr ⟨kb, by rw [newB_k]; omega, newB_t⟩) hh) (Fp.nl (by decide))
    have ea : ai (newB (gcS s p) p (mkB s p) n t ws) p = ai s p := by
      unfold ai; rw [newB_o (by decide), gcS_CE (by decide)]
    refine K _ h3 (psh_ai.trans ea) ?_
    rw [psh_96, newB_o (by decide), gcS_CE (by decide)]; exact h96
  · rw [cif_n c]; exact h.1.trp hpb
/-- an item is written -/
theorem JJ.wr {b i : Int} (h : JJ T s p m f X) (b0 : 1 ≤ b ∧ b ≤ 1024) (hb : 1 ≤ s 100 (1025 * p + b)) (i0 : 0 ≤ i) (i1 : i < s 100 (1025 * p + b) - 1) (hv : vOk T s p m v (s 301 (hx p b i)) (itT (T m) (s 302 (1025 * p + b)) i)) : JJ T (upI s 300 (hx p b i) v) p m f X := by
  have hP := h.2
  have e : ∀ {a : Nat} {j : Int}, ¬ (a = 300 ∧ j = hx p b i) → upI s 300 (hx p b i) v a j = s a j := fun z => if_neg z
  have hN := h.mg.2.1.2.2.1
  have hS := h.mg.2.1.2.1
  have hsz := (hP.2.1 b b0.1 b0.2).1
  have VT : ∀ v' w', (w' ≠ 2 ∧ w' ≠ 3) → Vt s (upI s 300 (hx p b i) v) p v' w' := fun v' w' z => ⟨fun _ _ _ y => by rw [e (by omega), e (by omega)]; exact ⟨y, rfl⟩, fun y => absurd y z.1, fun y => absurd y z.2⟩
  refine h.hp_ (fun a j z => e (fun y => z ?_)) (fun j hj y1 v0 v1 v2 => by rw [e (by omega), e (by omega)]; exact ⟨v2, rfl⟩) (fun c c0 c1 => ?_)
  · obtain ⟨rfl, rfl⟩ := y
    exact ⟨by omega, by unfold ownC hx; omega⟩
  · rw [e (a := 100) (by omega), e (a := 302) (by omega)]
    obtain ⟨y1, y2⟩ := hP.2.1 c c0 c1
    refine ⟨y1, fun z => ⟨(y2 z).1, fun j j0 j1 => ?_⟩⟩
    rw [e (a := 301) (by omega)]
    have hn := ((y2 z).2 j j0 j1).nl (itT_n hN hS (y2 z).1 j0 j1)
    by_cases d : hx p c j = hx p b i
    · have hcb : c = b ∧ j = i := by unfold hx at d; omega
      obtain ⟨rfl, rfl⟩ := hcb
      rw [upI_eq]
      exact hv.tr (VT _ _ hn)
    · rw [e (fun y => d y.2)]
      exact ((y2 z).2 j j0 j1).tr (VT _ _ hn)
end SD6
