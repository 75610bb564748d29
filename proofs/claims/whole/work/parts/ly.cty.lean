/-! RUNNING, the class: what the types say of what an instruction finds -/
section CP0
variable {T : TXs} {s s' : HI} {p q m f v w t o x n k g e a : Int} {B : Int → Int} {X Y : Tst} {pc : Int} {fl : List (Int × Tst)}
theorem ty_ints (h : JJ T s p m f X) (ts9 : tstep (T m) f pc X = some fl) (ho : opA (T m) f pc = o) (hv : agA (T m) f pc = v) (z : 7 ≤ o ∧ o ≤ 18) : ts s p 0 = 0 ∧ ts s p 1 = 0 := by
  have tp : ∀ k, 0 ≤ k → k < X.1 → vOk T s p m (tv s p k) (ts s p k) (X.2.1 (X.1 - 1 - k)) := fun k a b => h.top a b
  unfold tstep at ts9; rw [ho, hv] at ts9
  rw [if_pos (by omega)] at ts9
  unfold tsP at ts9
  rw [if_neg (by omega), if_neg (by omega), if_neg (by omega), if_neg (by omega), if_neg (by omega), if_neg (by omega), if_neg (by omega), if_neg (by omega)] at ts9
  obtain ⟨⟨y1, y2, y3⟩, -⟩ := onw_s ts9
  have t0 := tp 0 (by decide) (by omega)
  have t1 := tp 1 (by decide) (by omega)
  rw [Int.sub_zero, y2] at t0
  rw [show X.1 - 1 - 1 = X.1 - 2 by omega, y3] at t1
  exact ⟨(t0.k0 rfl).1, (t1.k0 rfl).1⟩
theorem ty_get (h : JJ T s p m f X) (ts9 : tstep (T m) f pc X = some fl) (ho : opA (T m) f pc = o) (hv : agA (T m) f pc = v) (z : o = 23) : ts s p 0 = 1 ∧ (tv s p 0 ≠ 0 → kindM (s 302 (1025 * p + tv s p 0)) = 1) := by
  have tp : ∀ k, 0 ≤ k → k < X.1 → vOk T s p m (tv s p k) (ts s p k) (X.2.1 (X.1 - 1 - k)) := fun k a b => h.top a b
  unfold tstep at ts9; rw [ho, hv] at ts9
  rw [if_neg (by omega), if_pos (by omega)] at ts9
  unfold tsH at ts9
  rw [if_neg (by omega), if_neg (by omega), if_neg (by omega), if_pos z] at ts9
  obtain ⟨⟨y1, y2⟩, -⟩ := onw_s ts9
  have t0 := tp 0 (by decide) y1
  rw [Int.sub_zero] at t0
  rcases y2 with y2 | y2
  · rw [y2] at t0
    exact ⟨(t0.k6 rfl).1, fun u => absurd (t0.k6 rfl).2 u⟩
  · have hk := heapT_k (Or.inl y2.1)
    refine ⟨(t0.kh hk).1, fun u => ?_⟩
    obtain ⟨b1, b2, b3, b4⟩ := t0.bx (Or.inr hk) u
    rw [b4]; exact y2.1
theorem ty_put (h : JJ T s p m f X) (ts9 : tstep (T m) f pc X = some fl) (ho : opA (T m) f pc = o) (hv : agA (T m) f pc = v) (z : o = 24) (v0 : 0 ≤ v) : ts s p 1 = 1 ∧ (tv s p 1 ≠ 0 → ts s p 0 = s 301 (hx p (tv s p 1) v)) := by
  have tp : ∀ k, 0 ≤ k → k < X.1 → vOk T s p m (tv s p k) (ts s p k) (X.2.1 (X.1 - 1 - k)) := fun k a b => h.top a b
  have hN := h.mg.2.1.2.2.1
  unfold tstep at ts9; rw [ho, hv] at ts9
  rw [if_neg (by omega), if_pos (by omega)] at ts9
  unfold tsH at ts9
  rw [if_neg (by omega), if_neg (by omega), if_neg (by omega), if_neg (by omega), if_pos z] at ts9
  obtain ⟨⟨y1, y2⟩, -⟩ := onw_s ts9
  have t0 := tp 0 (by decide) (by omega)
  have t1 := tp 1 (by decide) y1
  rw [Int.sub_zero] at t0
  rw [show X.1 - 1 - 1 = X.1 - 2 by omega] at t1
  rcases y2 with y2 | ⟨y2, y3, y4⟩
  · rw [y2] at t1
    exact ⟨(t1.k6 rfl).1, fun u => absurd (t1.k6 rfl).2 u⟩
  · have hk := heapT_k (Or.inl y2)
    refine ⟨(t1.kh hk).1, fun u => ?_⟩
    obtain ⟨b1, b2, b3, b4⟩ := t1.bx (Or.inr hk) u
    obtain ⟨d1, d2, d3⟩ := h.box_ b2 b3
    rw [b4] at d1 d3
    have dn : s 100 (1025 * p + tv s p 1) = nFld (T m) (whichM (X.2.1 (X.1 - 2))) + 1 := by rcases d1 with u | u | u <;> omega
    have it := d3 v v0 (by omega)
    have ei : itT (T m) (X.2.1 (X.1 - 2)) v = fTy (T m) (whichM (X.2.1 (X.1 - 2))) v := by unfold itT; rw [if_pos y2]
    have kk := itT_k hN d1 v0 (show v < s 100 (1025 * p + tv s p 1) - 1 by omega)
    rw [ei] at it kk
    exact (t0.le y4).ws it kk
theorem ty_row (h : JJ T s p m f X) (ts9 : tstep (T m) f pc X = some fl) (ho : opA (T m) f pc = o) (hv : agA (T m) f pc = v) (z : o = 25 ∨ o = 26) : 1 ≤ X.1 ∧ ts s p 0 = 0 := by
  have tp : ∀ k, 0 ≤ k → k < X.1 → vOk T s p m (tv s p k) (ts s p k) (X.2.1 (X.1 - 1 - k)) := fun k a b => h.top a b
  unfold tstep at ts9; rw [ho, hv] at ts9
  rw [if_neg (by omega), if_pos (by omega)] at ts9
  unfold tsH at ts9
  rw [if_neg (by omega), if_neg (by omega), if_neg (by omega), if_neg (by omega), if_neg (by omega)] at ts9
  have y : 0 < X.1 ∧ X.2.1 (X.1 - 1) = 0 := by
    by_cases c : o = 25
    · rw [if_pos c] at ts9; exact (onw_s ts9).1
    · rw [if_neg c, if_pos (by omega)] at ts9; exact (onw_s ts9).1
  have t0 := tp 0 (by decide) y.1
  rw [Int.sub_zero, y.2] at t0
  exact ⟨by omega, (t0.k0 rfl).1⟩
theorem ty_len (h : JJ T s p m f X) (ts9 : tstep (T m) f pc X = some fl) (ho : opA (T m) f pc = o) (hv : agA (T m) f pc = v) (z : o = 27) : ts s p 0 = 1 := by
  have tp : ∀ k, 0 ≤ k → k < X.1 → vOk T s p m (tv s p k) (ts s p k) (X.2.1 (X.1 - 1 - k)) := fun k a b => h.top a b
  unfold tstep at ts9; rw [ho, hv] at ts9
  rw [if_neg (by omega), if_pos (by omega)] at ts9
  unfold tsH at ts9
  rw [if_neg (by omega), if_neg (by omega), if_neg (by omega), if_neg (by omega), if_neg (by omega), if_neg (by omega), if_neg (by omega), if_pos z] at ts9
  obtain ⟨⟨y1, y2⟩, -⟩ := onw_s ts9
  have t0 := tp 0 (by decide) y1
  rw [Int.sub_zero] at t0
  rcases y2 with y2 | y2
  · rw [y2] at t0; exact (t0.k6 rfl).1
  · exact (t0.kh (heapT_k (Or.inr y2))).1
theorem ty_take (h : JJ T s p m f X) (ts9 : tstep (T m) f pc X = some fl) (ho : opA (T m) f pc = o) (hv : agA (T m) f pc = v) (z : o = 28) : ts s p 0 = 0 ∧ ts s p 1 = 1 ∧ (tv s p 1 ≠ 0 → kindM (s 302 (1025 * p + tv s p 1)) = 2 ∨ kindM (s 302 (1025 * p + tv s p 1)) = 3) := by
  have tp : ∀ k, 0 ≤ k → k < X.1 → vOk T s p m (tv s p k) (ts s p k) (X.2.1 (X.1 - 1 - k)) := fun k a b => h.top a b
  unfold tstep at ts9; rw [ho, hv] at ts9
  rw [if_neg (by omega), if_pos (by omega)] at ts9
  unfold tsH at ts9
  rw [if_neg (by omega), if_neg (by omega), if_neg (by omega), if_neg (by omega), if_neg (by omega), if_neg (by omega), if_neg (by omega), if_neg (by omega), if_pos z] at ts9
  obtain ⟨⟨y1, y3, y2⟩, -⟩ := onw_s ts9
  have t0 := tp 0 (by decide) (by omega)
  have t1 := tp 1 (by decide) y1
  rw [Int.sub_zero, y3] at t0
  rw [show X.1 - 1 - 1 = X.1 - 2 by omega] at t1
  rcases y2 with y2 | y2
  · rw [y2] at t1
    exact ⟨(t0.k0 rfl).1, (t1.k6 rfl).1, fun u => absurd (t1.k6 rfl).2 u⟩
  · have hk := heapT_k (Or.inr y2)
    refine ⟨(t0.k0 rfl).1, (t1.kh hk).1, fun u => ?_⟩
    obtain ⟨b1, b2, b3, b4⟩ := t1.bx (Or.inr hk) u
    rw [b4]; exact y2
theorem ty_lay (h : JJ T s p m f X) (ts9 : tstep (T m) f pc X = some fl) (ho : opA (T m) f pc = o) (hv : agA (T m) f pc = v) (z : o = 29) : ts s p 1 = 0 ∧ ts s p 2 = 1 ∧ (tv s p 2 ≠ 0 → 0 ≤ tv s p 1 → tv s p 1 < s 100 (1025 * p + tv s p 2) - 1 → ts s p 0 = s 301 (hx p (tv s p 2) (tv s p 1))) := by
  have tp : ∀ k, 0 ≤ k → k < X.1 → vOk T s p m (tv s p k) (ts s p k) (X.2.1 (X.1 - 1 - k)) := fun k a b => h.top a b
  have hN := h.mg.2.1.2.2.1
  unfold tstep at ts9; rw [ho, hv] at ts9
  rw [if_neg (by omega), if_pos (by omega)] at ts9
  unfold tsH at ts9
  rw [if_neg (by omega), if_neg (by omega), if_neg (by omega), if_neg (by omega), if_neg (by omega), if_neg (by omega), if_neg (by omega), if_neg (by omega), if_neg (by omega), if_pos z] at ts9
  obtain ⟨⟨y1, y3, y2⟩, -⟩ := onw_s ts9
  have t0 := tp 0 (by decide) (by omega)
  have t1 := tp 1 (by decide) (by omega)
  have t2 := tp 2 (by decide) y1
  rw [Int.sub_zero] at t0
  rw [show X.1 - 1 - 1 = X.1 - 2 by omega, y3] at t1
  rw [show X.1 - 1 - 2 = X.1 - 3 by omega] at t2
  rcases y2 with y2 | ⟨y2, y4⟩
  · rw [y2] at t2
    exact ⟨(t1.k0 rfl).1, (t2.k6 rfl).1, fun u => absurd (t2.k6 rfl).2 u⟩
  · have hk := heapT_k (Or.inr y2)
    refine ⟨(t1.k0 rfl).1, (t2.kh hk).1, fun u i0 i1 => ?_⟩
    obtain ⟨b1, b2, b3, b4⟩ := t2.bx (Or.inr hk) u
    obtain ⟨d1, d2, d3⟩ := h.box_ b2 b3
    have it := d3 _ i0 i1
    have kk := itT_k hN d1 i0 i1
    rw [b4] at it kk
    have ei : itT (T m) (X.2.1 (X.1 - 3)) (tv s p 1) = itm (X.2.1 (X.1 - 3)) := by unfold itT; rw [if_neg (by omega)]
    rw [ei] at it kk
    exact (t0.le y4).ws it kk
theorem ty_blk {k : Int} (h : JJ T s p m f X) (k0 : 0 ≤ k ∧ k < X.1) (hk : kindM (X.2.1 (X.1 - 1 - k)) = 4) : ts s p k = 2 ∧ s 109 (tv s p k) ≠ -1 ∧ s 109 (tv s p k) = nFld (T m) (whichM (X.2.1 (X.1 - 1 - k))) := by
  have t0 : vOk T s p m (tv s p k) (ts s p k) (X.2.1 (X.1 - 1 - k)) := h.top k0.1 k0.2
  obtain ⟨y1, y2, y3, y4⟩ := t0.k4 hk
  exact ⟨y1, y4, y3⟩
theorem ty_see (h : JJ T s p m f X) (ts9 : tstep (T m) f pc X = some fl) (ho : opA (T m) f pc = o) (hv : agA (T m) f pc = v) (z : o = 33) : ts s p 0 = 2 ∧ s 109 (tv s p 0) ≠ -1 ∧ v < s 109 (tv s p 0) := by
  unfold tstep at ts9; rw [ho, hv] at ts9
  rw [if_neg (by omega), if_neg (by omega)] at ts9
  unfold tsL at ts9
  rw [if_neg (by omega), if_pos z] at ts9
  obtain ⟨⟨y1, y2, y3⟩, -⟩ := onw_s ts9
  have e : X.1 - 1 - 0 = X.1 - 1 := Int.sub_zero _
  obtain ⟨w1, w2, w3⟩ := ty_blk (k := 0) h ⟨by decide, y1⟩ (by rw [e]; exact y2)
  rw [e] at w3
  exact ⟨w1, w2, by omega⟩
theorem ty_set (h : JJ T s p m f X) (ts9 : tstep (T m) f pc X = some fl) (ho : opA (T m) f pc = o) (hv : agA (T m) f pc = v) (z : o = 34) : ts s p 0 = 0 ∧ ts s p 1 = 2 ∧ s 109 (tv s p 1) ≠ -1 ∧ v < s 109 (tv s p 1) := by
  have tp : ∀ k, 0 ≤ k → k < X.1 → vOk T s p m (tv s p k) (ts s p k) (X.2.1 (X.1 - 1 - k)) := fun k a b => h.top a b
  unfold tstep at ts9; rw [ho, hv] at ts9
  rw [if_neg (by omega), if_neg (by omega)] at ts9
  unfold tsL at ts9
  rw [if_neg (by omega), if_neg (by omega), if_pos z] at ts9
  obtain ⟨⟨y1, y4, y2, y3⟩, -⟩ := onw_s ts9
  have t0 := tp 0 (by decide) (by omega)
  rw [Int.sub_zero, y4] at t0
  have e : X.1 - 1 - 1 = X.1 - 2 := by omega
  obtain ⟨w1, w2, w3⟩ := ty_blk (k := 1) h ⟨by decide, y1⟩ (by rw [e]; exact y2)
  rw [e] at w3
  exact ⟨(t0.k0 rfl).1, w1, w2, by omega⟩
theorem ty_free (h : JJ T s p m f X) (ts9 : tstep (T m) f pc X = some fl) (ho : opA (T m) f pc = o) (hv : agA (T m) f pc = v) (z : o = 35) : ts s p 0 = 2 := by
  unfold tstep at ts9; rw [ho, hv] at ts9
  rw [if_neg (by omega), if_neg (by omega)] at ts9
  unfold tsL at ts9
  rw [if_neg (by omega), if_neg (by omega), if_neg (by omega), if_pos z] at ts9
  obtain ⟨⟨y1, y2⟩, -⟩ := onw_s ts9
  exact (ty_blk (k := 0) h ⟨by decide, y1⟩ (by rw [Int.sub_zero]; exact y2)).1
theorem ty_close (h : JJ T s p m f X) (ts9 : tstep (T m) f pc X = some fl) (ho : opA (T m) f pc = o) (hv : agA (T m) f pc = v) (z : o = 39) : ts s p 0 = 3 := by
  have tp : ∀ k, 0 ≤ k → k < X.1 → vOk T s p m (tv s p k) (ts s p k) (X.2.1 (X.1 - 1 - k)) := fun k a b => h.top a b
  unfold tstep at ts9; rw [ho, hv] at ts9
  rw [if_neg (by omega), if_neg (by omega)] at ts9
  unfold tsL at ts9
  rw [if_neg (by omega), if_neg (by omega), if_neg (by omega), if_neg (by omega), if_neg (by omega), if_neg (by omega), if_neg (by omega), if_pos z] at ts9
  obtain ⟨⟨y1, y2, y3⟩, -⟩ := onw_s ts9
  have t0 := tp 0 (by decide) y1
  rw [Int.sub_zero] at t0
  exact (t0.k5 y2).1
theorem ty_out (h : JJ T s p m f X) (ts9 : tstep (T m) f pc X = some fl) (ho : opA (T m) f pc = o) (hv : agA (T m) f pc = v) (z : o = 43) : ts s p 0 = 0 := by
  have tp : ∀ k, 0 ≤ k → k < X.1 → vOk T s p m (tv s p k) (ts s p k) (X.2.1 (X.1 - 1 - k)) := fun k a b => h.top a b
  unfold tstep at ts9; rw [ho, hv] at ts9
  rw [if_neg (by omega), if_neg (by omega)] at ts9
  unfold tsL at ts9
  rw [if_neg (by omega), if_neg (by omega), if_neg (by omega), if_neg (by omega), if_neg (by omega), if_neg (by omega), if_neg (by omega), if_neg (by omega), if_neg (by omega), if_neg (by omega), if_neg (by omega)] at ts9
  obtain ⟨⟨y1, y2⟩, -⟩ := onw_s ts9
  have t0 := tp 0 (by decide) y1
  rw [Int.sub_zero, y2] at t0
  exact (t0.k0 rfl).1
theorem ty_spawn (h : JJ T s p m f X) (ts9 : tstep (T m) f pc X = some fl) (ho : opA (T m) f pc = o) (hv : agA (T m) f pc = v) (z : o = 40) (v0 : 0 ≤ v ∧ v < nFn (T m)) : ∀ k, 0 ≤ k → k < nPar (T m) v → ts s p k ≠ 1 ∧ (ts s p k = 2 → 0 ≤ tv s p k ∧ tv s p k < 128) ∧ (ts s p k = 3 → 0 ≤ tv s p k ∧ tv s p k < 24) := by
  have tp : ∀ k, 0 ≤ k → k < X.1 → vOk T s p m (tv s p k) (ts s p k) (X.2.1 (X.1 - 1 - k)) := fun k a b => h.top a b
  have hN := h.mg.2.1.2.2.1
  unfold tstep at ts9; rw [ho, hv] at ts9
  rw [if_neg (by omega), if_neg (by omega)] at ts9
  unfold tsL at ts9
  rw [if_neg (by omega), if_neg (by omega), if_neg (by omega), if_neg (by omega), if_neg (by omega), if_neg (by omega), if_neg (by omega), if_neg (by omega), if_pos z] at ts9
  obtain ⟨⟨y1, y2, y3, y4⟩, -⟩ := onw_s ts9
  intro k k0 k1
  have tk := tp k k0 (by omega)
  have hl := y4 (nPar (T m) v - 1 - k) (by omega) (by omega)
  rw [show X.1 - nPar (T m) v + (nPar (T m) v - 1 - k) = X.1 - 1 - k by omega] at hl
  have tk2 := tk.le hl
  have nh := y2 (nPar (T m) v - 1 - k) (by omega) (by omega)
  have hp := ((hN.2.2 v v0.1 v0.2).1 (nPar (T m) v - 1 - k) (by omega) (by omega))
  have hk : kindM (pTy (T m) v (nPar (T m) v - 1 - k)) = 0 ∨ kindM (pTy (T m) v (nPar (T m) v - 1 - k)) = 4 ∨ kindM (pTy (T m) v (nPar (T m) v - 1 - k)) = 5 := by
    have p0 : 0 ≤ pTy (T m) v (nPar (T m) v - 1 - k) := hp.1.1
    have e : kindM (pTy (T m) v (nPar (T m) v - 1 - k)) = pTy (T m) v (nPar (T m) v - 1 - k) % 8 := by unfold kindM; rw [if_neg (by omega)]
    have h5 := hp.2
    unfold heapT at nh
    omega
  rcases hk with hk | hk | hk
  · have := (tk2.k0 hk).1
    exact ⟨by omega, fun u => by omega, fun u => by omega⟩
  · obtain ⟨u1, u2, -⟩ := tk2.k4 hk
    exact ⟨by omega, fun _ => u2, fun u => by omega⟩
  · obtain ⟨u1, u2, -⟩ := tk2.k5 hk
    exact ⟨by omega, fun u => by omega, fun _ => u2⟩
end CP0
