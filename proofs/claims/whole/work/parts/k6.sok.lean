/-! SOUNDNESS: what an instruction needs is there -/
section SK6
variable {T : TXs} {s s' : HI} {p q m f v w t o x n k g e a : Int} {B : Int → Int} {X Y : Tst}
def InsF (B : Int → Int) (o v : Int) : Prop := (0 ≤ o ∧ o ≤ 43) ∧ v ≤ 255 ∧ (o = 2 ∨ o = 3 → 0 ≤ v ∧ v < 10) ∧ ((20 ≤ o ∧ o ≤ 24) ∨ o = 26 ∨ o = 30 ∨ (32 ≤ o ∧ o ≤ 34) ∨ o = 36 ∨ o = 37 ∨ o = 38 ∨ o = 40 → 0 ≤ v) ∧ (o = 22 ∨ o = 26 ∨ o = 32 → v < nRec B) ∧ (o = 36 → v < nCtr B) ∧ (o = 30 ∨ o = 40 → v < nFn B) ∧ (o = 37 → v < 4) ∧ (o = 38 → 1 ≤ v ∧ v ≤ 4)
theorem insF {pc : Int} (hS : Sh B) (hN : NV B) (hB : ∀ k, -1 ≤ B k ∧ B k ≤ 255) (f0 : 0 ≤ f ∧ f < nFn B) (hb : bgn B (cAt B f) (cLen B f) pc) : InsF B (opA B f pc) (agA B f pc) := by
  obtain ⟨hI, hV⟩ := (hN.2.2 f f0.1 f0.2).2.2 pc hb
  have l10 : nLoc B f ≤ 10 := (hS.2.2.2.2.2.2.2.2.2.2 f f0.1 f0.2).2.2.2.2.2.2.2.2.1
  obtain ⟨a1, a2, a3, a4, a5, a6, a7, a8⟩ := hI
  obtain ⟨b1, b2, b3, b4, b5, b6⟩ := hV
  have e1 : B (cAt B f + pc) = opA B f pc := rfl
  have e2 : B (cAt B f + pc + 1) = agA B f pc := rfl
  rw [e1, e2] at a1 a2 a3 a4 a5
  rw [e1] at a6 a7
  have hv := (hB (cAt B f + pc + 1)).2
  rw [e2] at hv
  obtain ⟨o, ho⟩ : ∃ o, opA B f pc = o := ⟨_, rfl⟩
  obtain ⟨v, hve⟩ : ∃ v, agA B f pc = v := ⟨_, rfl⟩
  rw [ho] at a1 a2 a3 a4 a5 a6 a7 b2 b3 b4 b5 ⊢
  rw [hve] at a1 a2 a3 a4 a5 b2 b3 b4 b5 hv ⊢
  have n0 : ∀ k, oprn o = k → k ≠ 0 → 0 ≤ v := fun k z y => a1 (by rw [z]; exact y)
  refine ⟨⟨a6, a7⟩, hv, fun z => ?_, fun z => ?_, fun z => ?_, b4, b5, fun z => ?_, fun z => ?_⟩
  · have := oprn_2 (x := o) (by simp only [List.mem_cons, List.not_mem_nil, or_false]; omega)
    have h2 := a2 this
    exact ⟨n0 _ this (by decide), by omega⟩
  · by_cases c : o = 23 ∨ o = 24 ∨ o = 33 ∨ o = 34
    · exact n0 _ (oprn_5 (x := o) (by simp only [List.mem_cons, List.not_mem_nil, or_false]; omega)) (by decide)
    · by_cases c2 : o = 37
      · exact n0 _ (oprn_9 c2) (by decide)
      · by_cases c3 : o = 38
        · exact n0 _ (oprn_10 c3) (by decide)
        · exact n0 _ (oprn_3 (x := o) (by simp only [List.mem_cons, List.not_mem_nil, or_false]; omega)) (by decide)
  · by_cases c : o = 32
    · exact (b3 c).1
    · exact b2 (by omega)
  · have := a4 (oprn_9 z); omega
  · have := a5 (oprn_10 z); exact ⟨this.1, this.2.1⟩
theorem JJ.qb (h : JO T s p) : QB s := fun x hx => by
  obtain ⟨m, c, y1, y2, y3, y4, y5, y6, y7, -⟩ := h.2.1 x hx
  refine ⟨y6, fun k k0 k1 => ?_⟩
  have Q := (y7 k.toNat (by omega)).2.2.2.1
  rw [Int.toNat_of_nonneg k0] at Q
  exact ⟨fun z => (Q.b z).1, fun z => ⟨(Q.o z).1, (Q.o z).2.1⟩⟩
theorem vOk.bxv (h : vOk T s p m v w t) (k : t = 6 ∨ heapT t) (hH : HpI T s p m) : BxV s p v := by
  by_cases c : v = 0
  · exact Or.inl c
  · obtain ⟨-, h1, h2, -⟩ := h.bx k c
    exact Or.inr ⟨h1, h2, (hH v h1.1 h1.2).1.2⟩
theorem enO_of (h : JO T s p) (he : enT T s m v t) : EnO s v := by
  obtain ⟨ho, me, ce, f1, f2, f3, f4, f5, f6, f7⟩ := JJ.en h he
  have h8 : nSt (T me) ce ≤ 8 := (f3.2.1.2.1.2.2.2.2.2.2.1 ce f4.cd.1.1 f4.cd.1.2).2.1
  have := st_b t
  have := f3.1
  exact ⟨⟨ho.1, ho.2.1⟩, by omega, by omega, by omega⟩
theorem heapT_k {t : Int} (h : kindM t = 1 ∨ kindM t = 2 ∨ kindM t = 3) : heapT t := by unfold heapT; omega
theorem so_ok {fl : List (Int × Tst)} {pc : Int} (h : JJ T s p m f X) (ts9 : tstep (T m) f pc X = some fl) (ho : opA (T m) f pc = o) (hv : agA (T m) f pc = v) (hvX : vX (T m) X) (hF : InsF (T m) o v) (h16 : ∀ q ∈ fl, q.2.1 ≤ 16) (cg : cgO s p o v) : OkI (T m) m f s p o v := by
  obtain ⟨hJ, hP⟩ := id h
  obtain ⟨h1, h2, h3, h4, h5, h6, h7⟩ := id hP
  have hh := hP.hg_
  have hS := h.mg.2.1.2.1
  have hN := h.mg.2.1.2.2.1
  have hMB := h.mg.2.1.1
  have hm := h.mg.1
  have hbd := hP.hbd
  obtain ⟨F1, F2, F3, F4, F5, F6, F7, F8, F9⟩ := hF
  have r8 : nRec (T m) ≤ 8 := hS.2.1
  have n10 : nFn (T m) ≤ 10 := hS.2.2.2.2.2.2.2.2.2.1
  unfold tstep at ts9
  rw [ho, hv] at ts9
  have hPP : o < 20 → tsP o v pc X = some fl := fun z => by rw [if_pos z] at ts9; exact ts9
  have hHH : 20 ≤ o → o < 32 → tsH (T m) f o v pc X = some fl := fun z y => by rw [if_neg (by omega), if_pos y] at ts9; exact ts9
  have hLL : 32 ≤ o → tsL (T m) f o v pc X = some fl := fun z => by rw [if_neg (by omega), if_neg (by omega)] at ts9; exact ts9
  clear ts9
  have tp : ∀ k, 0 ≤ k → k < X.1 → vOk T s p m (tv s p k) (ts s p k) (X.2.1 (X.1 - 1 - k)) := fun k a b => h.top a b
  have sg : ∀ {a : Int} {Y : Tst}, fl = [(a, Y)] → Y.1 ≤ 16 := fun e => by
    subst e; exact h16 _ (List.mem_singleton.mpr rfl)
  rw [hh.symm] at h5
  refine ⟨⟨h5, JJ.qb hJ, h1.2.2.1, ⟨by omega, by omega⟩, hbd, h1.2.2.2.2.1, h1.2.2.2.2.2, fun b b0 b1 => by rcases hJ.1.2.2.2.2.2.2.1 b b0 b1 with z | z <;> omega⟩, ⟨F3, fun z => ?_, fun z => ?_, fun z => ?_⟩, fun z => ?_, fun z => ?_, fun z => ?_, fun z => ?_, fun z => ?_, fun z => ?_, fun z => ?_, fun z => ?_, fun z => ?_, fun z => ?_, fun z => ?_, fun z => ?_, fun z => ?_, fun z => ?_, fun z => ?_, fun z => ?_, fun z => ?_, fun z => ?_, fun z => ?_, fun z => ?_⟩
  · -- 0 1 2 5
    have tz := hPP (by omega)
    unfold tsP at tz
    rw [hh]
    rcases z with z | z | z | z
    · rw [if_pos z] at tz
      have := sg (onw_s tz).2
      simp only [] at this; omega
    · rw [if_neg (by omega), if_pos z] at tz
      have := sg (onw_s tz).2
      simp only [] at this; omega
    · rw [if_neg (by omega), if_neg (by omega), if_pos z] at tz
      have := sg (onw_s tz).2
      simp only [] at this; omega
    · rw [if_neg (by omega), if_neg (by omega), if_neg (by omega), if_neg (by omega), if_neg (by omega), if_pos z] at tz
      have := sg (onw_s tz).2
      simp only [] at this; omega
  · have tz := hPP (by omega)
    unfold tsP at tz
    rw [hh]
    rcases z with z | z | z | z
    · rw [if_neg (by omega), if_neg (by omega), if_neg (by omega), if_pos z] at tz
      have := (onw_s tz).1; omega
    · rw [if_neg (by omega), if_neg (by omega), if_neg (by omega), if_neg (by omega), if_pos z] at tz
      have := (onw_s tz).1; omega
    · rw [if_neg (by omega), if_neg (by omega), if_neg (by omega), if_neg (by omega), if_neg (by omega), if_pos z] at tz
      have := (onw_s tz).1; omega
    · rw [if_neg (by omega), if_neg (by omega), if_neg (by omega), if_neg (by omega), if_neg (by omega), if_neg (by omega), if_neg (by omega), if_pos z] at tz
      have := (onw_s tz).1; omega
  · have tz := hPP (by omega)
    unfold tsP at tz
    rw [hh]
    rw [if_neg (by omega), if_neg (by omega), if_neg (by omega), if_neg (by omega), if_neg (by omega), if_neg (by omega)] at tz
    by_cases c : o = 6
    · rw [if_pos c] at tz
      have := (onw_s tz).1; omega
    · rw [if_neg c, if_neg (by omega)] at tz
      have := (onw_s tz).1; omega
  · -- 21
    have tz := hHH (by omega) (by omega)
    unfold tsH at tz
    rw [if_neg (by omega), if_pos z] at tz
    have := (onw_s tz).1; omega
  · -- 22
    have tz := hHH (by omega) (by omega)
    unfold tsH at tz
    rw [if_neg (by omega), if_neg (by omega), if_pos z] at tz
    have := sg (onw_s tz).2
    simp only [] at this
    have v0 := F4 (by omega)
    have vr := F5 (by omega)
    have hf := hS.2.2.1 v v0 vr
    obtain ⟨-, -, -, -, m1, m2, -⟩ := hMB
    obtain ⟨c1, c2⟩ := m2 v v0 vr
    exact ⟨by omega, ⟨v0, by omega⟩, c1, ⟨by have := hf.1; omega, hf.2.1⟩, c2⟩
  · -- 23
    have tz := hHH (by omega) (by omega)
    unfold tsH at tz
    rw [if_neg (by omega), if_neg (by omega), if_neg (by omega), if_pos z] at tz
    obtain ⟨⟨y1, y2⟩, -⟩ := onw_s tz
    have t0 := tp 0 (by decide) y1
    rw [Int.sub_zero] at t0
    have hk : X.2.1 (X.1 - 1) = 6 ∨ heapT (X.2.1 (X.1 - 1)) := y2.imp id (fun y => heapT_k (Or.inl y.1))
    refine ⟨by omega, t0.bxv hk h2, fun y => ?_⟩
    obtain ⟨b1, b2, b3, b4⟩ := t0.bx hk y
    have c6 : X.2.1 (X.1 - 1) ≠ 6 := fun z => by rw [z] at b1; exact absurd b1 (by decide)
    have y2 := y2.resolve_left c6
    obtain ⟨d1, -⟩ := h.box_ b2 b3
    rw [b4] at d1
    refine ⟨F4 (by omega), ?_⟩
    rcases d1 with u | u | u <;> omega
  · -- 24
    have tz := hHH (by omega) (by omega)
    unfold tsH at tz
    rw [if_neg (by omega), if_neg (by omega), if_neg (by omega), if_neg (by omega), if_pos z] at tz
    obtain ⟨⟨y1, y2⟩, -⟩ := onw_s tz
    have t0 := tp 1 (by decide) y1
    rw [show X.1 - 1 - 1 = X.1 - 2 by omega] at t0
    have hk : X.2.1 (X.1 - 2) = 6 ∨ heapT (X.2.1 (X.1 - 2)) := y2.imp id (fun y => heapT_k (Or.inl y.1))
    refine ⟨by omega, t0.bxv hk h2, fun y => ?_⟩
    obtain ⟨b1, b2, b3, b4⟩ := t0.bx hk y
    have c6 : X.2.1 (X.1 - 2) ≠ 6 := fun z => by rw [z] at b1; exact absurd b1 (by decide)
    have y2 := y2.resolve_left c6
    obtain ⟨d1, -⟩ := h.box_ b2 b3
    rw [b4] at d1
    refine ⟨F4 (by omega), ?_⟩
    rcases d1 with u | u | u <;> omega
  · -- 25 26
    have tz := hHH (by omega) (by omega)
    unfold tsH at tz
    rw [if_neg (by omega), if_neg (by omega), if_neg (by omega), if_neg (by omega), if_neg (by omega)] at tz
    have y : 0 < X.1 ∧ X.2.1 (X.1 - 1) = 0 := by
      by_cases c : o = 25
      · rw [if_pos c] at tz; exact (onw_s tz).1
      · rw [if_neg c, if_pos (by omega)] at tz; exact (onw_s tz).1
    have t0 := tp 0 (by decide) y.1
    rw [Int.sub_zero, y.2] at t0
    have := (t0.k0 rfl).2
    exact ⟨by omega, by omega⟩
  · -- 27
    have tz := hHH (by omega) (by omega)
    unfold tsH at tz
    rw [if_neg (by omega), if_neg (by omega), if_neg (by omega), if_neg (by omega), if_neg (by omega), if_neg (by omega), if_neg (by omega), if_pos z] at tz
    obtain ⟨⟨y1, y2⟩, -⟩ := onw_s tz
    have t0 := tp 0 (by decide) y1
    rw [Int.sub_zero] at t0
    exact ⟨by omega, t0.bxv (y2.imp id (fun y => heapT_k (Or.inr y))) h2⟩
  · -- 28
    have tz := hHH (by omega) (by omega)
    unfold tsH at tz
    rw [if_neg (by omega), if_neg (by omega), if_neg (by omega), if_neg (by omega), if_neg (by omega), if_neg (by omega), if_neg (by omega), if_neg (by omega), if_pos z] at tz
    obtain ⟨⟨y1, -, y2⟩, -⟩ := onw_s tz
    have t0 := tp 1 (by decide) y1
    rw [show X.1 - 1 - 1 = X.1 - 2 by omega] at t0
    exact ⟨by omega, t0.bxv (y2.imp id (fun y => heapT_k (Or.inr y))) h2⟩
  · -- 29
    have tz := hHH (by omega) (by omega)
    unfold tsH at tz
    rw [if_neg (by omega), if_neg (by omega), if_neg (by omega), if_neg (by omega), if_neg (by omega), if_neg (by omega), if_neg (by omega), if_neg (by omega), if_neg (by omega), if_pos z] at tz
    obtain ⟨⟨y1, -, y2⟩, -⟩ := onw_s tz
    have t0 := tp 2 (by decide) y1
    rw [show X.1 - 1 - 2 = X.1 - 3 by omega] at t0
    exact ⟨by omega, t0.bxv (y2.imp id (fun y => heapT_k (Or.inr y.1))) h2⟩
  · -- 30
    have tz := hHH (by omega) (by omega)
    unfold tsH at tz
    rw [if_neg (by omega), if_neg (by omega), if_neg (by omega), if_neg (by omega), if_neg (by omega), if_neg (by omega), if_neg (by omega), if_neg (by omega), if_neg (by omega), if_neg (by omega), if_pos z] at tz
    have y := (onw_s tz).1
    have v0 := F4 (by omega)
    have v1 := F7 (by omega)
    obtain ⟨-, -, -, -, m1, m2, m3, m4, m5, m6⟩ := hMB
    have c1 : s 64 (10 * m + v) = nPar (T m) v := (m6 v v0 v1).1
    exact ⟨⟨v0, by omega⟩, c1, (hS.2.2.2.2.2.2.2.2.2.2 v v0 v1).1, by rw [hh]; exact y.1⟩
  · -- 31
    have tz := hHH (by omega) (by omega)
    unfold tsH at tz
    rw [if_neg (by omega), if_neg (by omega), if_neg (by omega), if_neg (by omega), if_neg (by omega), if_neg (by omega), if_neg (by omega), if_neg (by omega), if_neg (by omega), if_neg (by omega), if_neg (by omega)] at tz
    have y := (onw_s tz).1.1
    obtain ⟨-, -, -, -, m1, m2, m3, m4, m5, m6⟩ := hMB
    have c1 : s 66 (10 * m + f) = rTy (T m) f := (m6 f h4.1.1 h4.1.2).2.2.1
    refine ⟨⟨h4.1.1, by omega⟩, h4.2, c1, fun u => ?_, fun u u2 => ?_⟩
    · rw [if_neg u] at y; omega
    · have hA := h1.a
      have e94 : 16 * p + s 94 p - 1 = ai s p := rfl
      obtain ⟨y1, A, Z, n, y2, y3, y4, y5, y6, y7⟩ := h3 (ai s p - 1) (by omega) (by omega)
      rw [show ai s p - 1 + 1 = ai s p by omega, h4.2] at y7
      have := (y7.2 u).1
      have z16 : Z.1 ≤ 16 := (y2.2.2.1 _ _ y3 y4).1
      have en : s 97 (ai s p - 1) = n := y6.1
      omega
  · -- 32
    have tz := hLL (by omega)
    unfold tsL at tz
    rw [if_pos z] at tz
    have := sg (onw_s tz).2
    simp only [] at this
    have v0 := F4 (by omega)
    have vr := F5 (by omega)
    have hf := hS.2.2.1 v v0 vr
    obtain ⟨-, -, -, -, m1, m2, -⟩ := hMB
    obtain ⟨c1, c2⟩ := m2 v v0 vr
    refine ⟨by omega, ⟨v0, by omega⟩, c1, ⟨by have := hf.1; omega, hf.2.1⟩, fun X' hX' hle => ?_⟩
    exact hJ.1.fb hf.1 (by rw [hX' 128 rfl]; omega)
  · -- 33
    have tz := hLL (by omega)
    unfold tsL at tz
    rw [if_neg (by omega), if_pos z] at tz
    obtain ⟨⟨y1, y2, y3⟩, e⟩ := onw_s tz
    have := sg e
    simp only [] at this
    have t0 := tp 0 (by decide) y1
    rw [Int.sub_zero] at t0
    have hw := (hvX.2.1 (X.1 - 1) (by omega) (by omega)).2.2.2.2.2.2.1 (by omega)
    have h6' := (hS.2.2.1 _ (wM_b).1 hw).2.1
    exact ⟨⟨by omega, by omega⟩, (t0.k4 y2).2.1, F4 (by omega), by omega⟩
  · -- 34
    have tz := hLL (by omega)
    unfold tsL at tz
    rw [if_neg (by omega), if_neg (by omega), if_pos z] at tz
    obtain ⟨⟨y1, -, y2, y3⟩, e⟩ := onw_s tz
    have t0 := tp 1 (by decide) y1
    rw [show X.1 - 1 - 1 = X.1 - 2 by omega] at t0
    have hw := (hvX.2.1 (X.1 - 2) (by omega) (by omega)).2.2.2.2.2.2.1 (by omega)
    have h6' := (hS.2.2.1 _ (wM_b).1 hw).2.1
    exact ⟨by omega, (t0.k4 y2).2.1, F4 (by omega), by omega⟩
  · -- 35
    have tz := hLL (by omega)
    unfold tsL at tz
    rw [if_neg (by omega), if_neg (by omega), if_neg (by omega), if_pos z] at tz
    obtain ⟨⟨y1, y2⟩, e⟩ := onw_s tz
    have t0 := tp 0 (by decide) y1
    rw [Int.sub_zero] at t0
    exact ⟨by omega, (t0.k4 y2).2.1⟩
  · -- 36
    have tz := hLL (by omega)
    unfold tsL at tz
    rw [if_neg (by omega), if_neg (by omega), if_neg (by omega), if_neg (by omega), if_pos z] at tz
    have := sg (onw_s tz).2
    simp only [] at this
    exact ⟨by omega, F4 (by omega), by omega⟩
  · -- 37
    have tz := hLL (by omega)
    unfold tsL at tz
    rw [if_neg (by omega), if_neg (by omega), if_neg (by omega), if_neg (by omega), if_neg (by omega), if_pos z] at tz
    have v0 := F4 (by omega)
    unfold cgO at cg
    rw [if_neg (by omega), if_pos z] at cg
    have X1 : 1 ≤ X.1 := by
      by_cases cb : 0 < X.1 ∧ endT (T m) (X.2.1 (X.1 - 1)) v ∧ ldT (T m) (X.2.1 (X.1 - 1)) v = -1
      · omega
      · rw [if_neg cb] at tz
        have := (onw_s tz).1.1; omega
    have hd := dep_c (t := v) h X1 v0
    have t0 := tp 0 (by decide) (by omega)
    have en0 : ts s p 0 = 3 → EnO s (tv s p 0) := fun y => enO_of hJ (t0.w3 y).2
    have hd1 : depS s p v = 1 → 2 ≤ X.1 ∧ endT (T m) (X.2.1 (X.1 - 2)) v := fun y => by
      rw [y] at hd
      by_cases cb : endT (T m) (X.2.1 (X.1 - 1)) v ∧ ldT (T m) (X.2.1 (X.1 - 1)) v = -1
      · rw [if_pos cb] at hd; omega
      · rw [if_neg (fun u => cb u.2)] at tz
        have := (onw_s tz).1
        exact ⟨by omega, this.2.1⟩
    have hd0 : depS s p v ≠ 1 → depS s p v = 0 ∧ endT (T m) (X.2.1 (X.1 - 1)) v := fun y => by
      by_cases cb : endT (T m) (X.2.1 (X.1 - 1)) v ∧ ldT (T m) (X.2.1 (X.1 - 1)) v = -1
      · rw [if_pos cb] at hd; exact ⟨hd, cb.1⟩
      · rw [if_neg cb] at hd; exact absurd hd y
    -- the end
    have key : ∃ a, endT (T m) a v ∧ enT T s m (tv s p (depS s p v)) a := by
      by_cases c : depS s p v = 1
      · obtain ⟨y1, y2⟩ := hd1 c
        have t1 := tp 1 (by decide) (by omega)
        rw [show X.1 - 1 - 1 = X.1 - 2 by omega] at t1
        rw [c]
        exact ⟨_, y2, (t1.k5 y2.1).2⟩
      · obtain ⟨y1, y2⟩ := hd0 c
        rw [Int.sub_zero] at t0
        rw [y1]
        exact ⟨_, y2, (t0.k5 y2.1).2⟩
    obtain ⟨a, hE, hen⟩ := key
    obtain ⟨hop, me, ce, hF9⟩ := JJ.en hJ hen
    refine ⟨by omega, ⟨v0, F8 z⟩, en0, fun y => ?_, fun e he hO => ?_, fun e he hO hne => ?_⟩
    · obtain ⟨y1, y2⟩ := hd1 y
      have t1 := tp 1 (by decide) (by omega)
      rw [show X.1 - 1 - 1 = X.1 - 2 by omega] at t1
      exact ⟨by omega, enO_of hJ (t1.k5 y2.1).2, fun u => (t0.w2 u).2.1, fun u => (t0.w3 u).2.1⟩
    · subst he
      rw [(hF9.col.2.2 v v0 hE.2.2).2.1]
      obtain ⟨f1, f2, f3, f4, f5, f6, f7⟩ := hF9
      obtain ⟨⟨-, d2⟩, d3, -⟩ := f4.st (st_b a).1 f6
      exact ((hS.2.2.2.2.2.2.1 _ d2.1 d2.2).2.2.2.1 _ (st_b a).1 (by rw [← d3]; exact f6)).2.2.2.2.2.2.1 v v0 hE.2.2 |>.2.1
    · subst he
      have ob := (oth_b hO.1).1
      obtain ⟨m1, c1, y⟩ := hJ.2.1 _ ⟨ob.1, ob.2, hne⟩
      exact ⟨y.2.2.2.2.2.1.1, cg.resolve_left hne⟩
  · -- 38
    have tz := hLL (by omega)
    unfold tsL at tz
    rw [if_neg (by omega), if_neg (by omega), if_neg (by omega), if_neg (by omega), if_neg (by omega), if_neg (by omega), if_pos z] at tz
    obtain ⟨⟨y1, y2, y3, y4⟩, e⟩ := onw_s tz
    unfold cgO at cg
    rw [if_pos z] at cg
    have t0 := tp 0 (by decide) y1
    rw [Int.sub_zero] at t0
    have hen := (t0.k5 y2).2
    obtain ⟨hop, me, ce, f1, f2, f3, f4, f5, f6, f7⟩ := JJ.en hJ hen
    obtain ⟨e9, he9⟩ : ∃ e, tv s p 0 = e := ⟨_, rfl⟩
    rw [he9] at cg hen hop f1 f5 f7 t0
    obtain ⟨m', c', g1, g2, g3, g4, g5, g6, g7, g8⟩ := hJ.2.1 e9 hop
    have em : m' = me ∧ c' = ce := by omega
    obtain ⟨rfl, rfl⟩ := em
    have Q0 := g7 0 (by omega)
    have w0 : wk (T m') c' s e9 0 = stateM (X.2.1 (X.1 - 1)) := f5
    unfold QM at Q0
    rw [w0, show 4 * e9 + ((0 : Nat) : Int) = 4 * e9 by omega] at Q0
    obtain ⟨-, -, q3, q4, -⟩ := Q0
    have st := f4.st (st_b _).1 f6
    have v49 := F9 z
    have d5 : nMs (T m') c' (stateM (X.2.1 (X.1 - 1))) = v := st.2.2.2.1.trans y4
    rw [he9]
    refine ⟨⟨⟨by omega, by omega⟩, fun w4 => ?_⟩, enO_of hJ hen, ⟨q3.1, by omega⟩, ⟨by omega, g6.2⟩, fun u => (q4.b u).1, fun u => ⟨(q4.o u).1, (q4.o u).2.1⟩⟩
    obtain ⟨tt, htt⟩ : ∃ tt, s 115 (4 * e9) = tt := ⟨_, rfl⟩
    rw [htt] at q3 q4
    have q3' : tt < v := by omega
    have mem : ((T m) (cAt (T m) f + pc + 2 + tt), rcv (T m) X tt) ∈ fl := by
      subst e
      rw [List.mem_map]
      exact ⟨tt.toNat, List.mem_range.mpr (by omega), by rw [Int.toNat_of_nonneg q3.1]⟩
    have h17 := h16 _ mem
    have nl : ldT (T m) (X.2.1 (X.1 - 1)) tt ≠ -1 := fun u => by
      have al := (st.2.2.2.2 tt q3.1 q3.2).2
      have L := kn1 (ldk g4.2.1.2.2.1 g2.1 g3 (st_b _).1 f6 q3.1 q3.2)
      have e1 : kindM (ldT (T m) (X.2.1 (X.1 - 1)) tt) = -1 := by rw [u]; rfl
      have e2 := L.mpr (al.1.trans e1)
      rcases q4 with ⟨-, y⟩ | ⟨y, -⟩
      · exact w4 y
      · exact y e2
    unfold rcv at h17
    simp only [] at h17
    rw [if_neg nl] at h17
    have h17 : X.1 + 1 ≤ 16 := h17
    omega
  · -- 39
    have tz := hLL (by omega)
    unfold tsL at tz
    rw [if_neg (by omega), if_neg (by omega), if_neg (by omega), if_neg (by omega), if_neg (by omega), if_neg (by omega), if_neg (by omega), if_pos z] at tz
    obtain ⟨⟨y1, y2, y3⟩, e⟩ := onw_s tz
    have t0 := tp 0 (by decide) y1
    rw [Int.sub_zero] at t0
    exact ⟨by omega, (t0.k5 y2).2.1⟩
  · -- 40
    have tz := hLL (by omega)
    unfold tsL at tz
    rw [if_neg (by omega), if_neg (by omega), if_neg (by omega), if_neg (by omega), if_neg (by omega), if_neg (by omega), if_neg (by omega), if_neg (by omega), if_pos z] at tz
    obtain ⟨⟨y1, y2, y3⟩, e⟩ := onw_s tz
    have v0 := F4 (by omega)
    have v1 := F7 (by omega)
    obtain ⟨np0, np4, -⟩ := hS.2.2.2.2.2.2.2.2.2.2 v v0 v1
    obtain ⟨-, -, -, -, m1, m2, m3, m4, m5, m6⟩ := hMB
    have c1 : s 64 (10 * m + v) = nPar (T m) v := (m6 v v0 v1).1
    refine ⟨⟨v0, by omega⟩, c1, ⟨np0, by omega, by rw [hh]; exact y3.1⟩, fun k k0 k1 => ?_⟩
    have hx := y3.1
    have hi : pl s p (sk s p (hg s p - nPar (T m) v) + k) := ⟨ai s p, 10 + (X.1 - nPar (T m) v) + k, h1.a.1, Int.le_refl _, by omega, by rw [h6.1]; omega, by unfold sk; rw [hh]; omega⟩
    obtain ⟨t, ht⟩ := hP.any hi
    exact ⟨fun u => (ht.w2 u).2.1, fun u => (ht.w3 u).2.1⟩
  · -- 43
    have tz := hLL (by omega)
    unfold tsL at tz
    rw [if_neg (by omega), if_neg (by omega), if_neg (by omega), if_neg (by omega), if_neg (by omega), if_neg (by omega), if_neg (by omega), if_neg (by omega), if_neg (by omega), if_neg (by omega), if_neg (by omega)] at tz
    have := (onw_s tz).1
    exact ⟨by omega, hJ.1.2.2.2.1⟩
end SK6
