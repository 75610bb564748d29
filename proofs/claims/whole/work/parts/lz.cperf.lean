/-! RUNNING, the class: an instruction -/
section CP1
variable {d : Nat} {Q : QQ} {T : TXs} {al al' : AL} {hi hi' h1 : HI} {hr hr' r1 : HR} {s s' s1 s2 u sx sm S : HI} {A A' : Int → Int → Int} {NN : Int → Option Nat} {E E' : Int → Prop} {p m f q v w x y n k g qx i P e fr ty kd tt cvv o c9 z9 a : Int} {B : Int → Int} {X Y : Tst} {t t' N M c b : Nat} {al0 : AL} {hi0 : HI} {hr0 : HR} {V W ws : Int → Int} {pc : Int} {fl : List (Int × Tst)}
theorem ty_send (h : JJ T s p m f X) (ts9 : tstep (T m) f pc X = some fl) (ho : opA (T m) f pc = o) (hv : agA (T m) f pc = v) (z : o = 37) (v0 : 0 ≤ v) (hOk : OkI (T m) m f s p o v) : (1 ≤ hg s p ∧ (depS s p v = 1 → 2 ≤ hg s p)) ∧ (ts s p 0 = 3 → opn s (tv s p 0) ∧ QO T s (tv s p 0)) ∧ ts s p (depS s p v) = 3 ∧ (∀ s1 e, s1 = (if depS s p v = 1 then pp s p 1 else s) → e = tv s1 p 0 → opn s1 e ∧ QO T s1 e ∧ (0 ≤ v ∧ v < s1 61 (8 * s1 118 e + s1 112 e)) ∧ 0 ≤ s1 63 (4 * (8 * s1 118 e + s1 112 e) + v) ∧ (0 ≤ s1 114 (oth e) ∧ s1 114 (oth e) < 4) ∧ (s1 112 (oth e) = -1 → s1 114 (oth e) = 0)) ∧ (depS s p v = 1 → ts s p 0 = 0 ∨ (ts s p 0 = 2 ∧ 0 ≤ tv s p 0 ∧ tv s p 0 < 128) ∨ (ts s p 0 = 3 ∧ opn s (tv s p 0))) := by
  obtain ⟨hJ, hP⟩ := id h
  have hh := hP.hg_
  have hN := h.mg.2.1.2.2.1
  have tp : ∀ k, 0 ≤ k → k < X.1 → vOk T s p m (tv s p k) (ts s p k) (X.2.1 (X.1 - 1 - k)) := fun k a b => h.top a b
  have K37 := hOk.2.2.2.2.2.2.2.2.2.2.2.2.2.2.2.2.2.1 z
  obtain ⟨k1, k2, k3, k4, k5, k6⟩ := K37
  have h9 := hJ.1.2.2.2.2.2.2.2.2
  unfold tstep at ts9; rw [ho, hv] at ts9
  rw [if_neg (by omega), if_neg (by omega)] at ts9
  unfold tsL at ts9
  rw [if_neg (by omega), if_neg (by omega), if_neg (by omega), if_neg (by omega), if_neg (by omega), if_pos z] at ts9
  have X1 : 1 ≤ X.1 := by omega
  have hd := dep_c (t := v) h X1 v0
  have en : ∀ e a, enT T s m e a → opn s e ∧ QO T s e := fun e a he => ⟨(JJ.en hJ he).1, hJ.2.1 e (JJ.en hJ he).1⟩
  have t0 := tp 0 (by decide) (by omega)
  rw [Int.sub_zero] at t0
  have core : ∀ e a, e = tv s p (depS s p v) → enT T s m e a → endT (T m) a v → opn s e ∧ QO T s e ∧ (0 ≤ v ∧ v < s 61 (8 * s 118 e + s 112 e)) ∧ 0 ≤ s 63 (4 * (8 * s 118 e + s 112 e) + v) ∧ (0 ≤ s 114 (oth e) ∧ s 114 (oth e) < 4) ∧ (s 112 (oth e) = -1 → s 114 (oth e) = 0) := fun e a ee he hE => by
    obtain ⟨hop, me, ce, hF9⟩ := JJ.en hJ he
    have eo := enO_of hJ he
    have cl : s 112 (oth e) = -1 → s 114 (oth e) = 0 := fun y => h9 (oth e) (oth_b ⟨hop.1, hop.2.1⟩).1.1 (oth_b ⟨hop.1, hop.2.1⟩).1.2 y
    refine ⟨hop, hJ.2.1 e hop, ⟨v0, by rw [hF9.col.2.1]; exact hE.2.2⟩, k5 e ee eo, ?_, cl⟩
    by_cases c : s 112 (oth e) = -1
    · have := cl c; omega
    · exact k6 e ee eo c
  by_cases cb : endT (T m) (X.2.1 (X.1 - 1)) v ∧ ldT (T m) (X.2.1 (X.1 - 1)) v = -1
  · rw [if_pos cb] at hd
    have he := t0.k5 cb.1.1
    refine ⟨⟨k1, fun y => by omega⟩, fun y => en _ _ (t0.w3 y).2, by rw [hd]; exact he.1, fun s1 e e1 e2 => ?_, fun y => by omega⟩
    rw [if_neg (by omega)] at e1
    subst e1
    exact core e _ (by rw [hd]; exact e2) (by rw [e2]; exact he.2) cb.1
  · rw [if_neg cb] at hd
    rw [if_neg (fun u => cb u.2)] at ts9
    obtain ⟨⟨y1, y2, y3, y4⟩, -⟩ := onw_s ts9
    have t1 := tp 1 (by decide) (by omega)
    rw [show X.1 - 1 - 1 = X.1 - 2 by omega] at t1
    have he := t1.k5 y2.1
    refine ⟨⟨k1, fun _ => (k4 hd).1⟩, fun y => en _ _ (t0.w3 y).2, by rw [hd]; exact he.1, fun s1 e e1 e2 => ?_, fun _ => ?_⟩
    · rw [if_pos hd] at e1
      have e3 : e = tv s p 1 := by rw [e2, e1, tv_pp]; rfl
      obtain ⟨c1, c2, c3, c4, c5, c6⟩ := core e _ (by rw [hd]; exact e3) (by rw [e3]; exact he.2) y2
      have op1 : opn s1 e := by
        obtain ⟨w0, w1, w2⟩ := c1
        exact ⟨w0, w1, by rw [e1, ppz_n (by decide)]; exact w2⟩
      have hq1 : QO T s1 e := by
        have := (h.pp_ (n := 1) (by decide) X1).1.2.1 e (by rw [← e1]; exact op1)
        rw [← e1] at this; exact this
      refine ⟨op1, hq1, ?_⟩
      rw [e1, ppz_n (by decide), ppz_n (by decide), ppz_n (by decide), ppz_n (by decide), ppz_n (by decide), ppz_n (by decide)]
      exact ⟨c3, c4, c5, c6⟩
    · obtain ⟨hop, me, ce, f1, f2, f3, f4, f5, f6, f7⟩ := JJ.en hJ he.2
      obtain ⟨⟨-, d2⟩, d3, -⟩ := f4.st (st_b _).1 f6
      have lk := ldk hN d2.1 d2.2 (st_b _).1 (by rw [← d3]; exact f6) v0 y2.2.2
      have tl := t0.le y4
      rcases lk with lk | lk | lk | lk
      · exact absurd lk y3
      · exact Or.inl (tl.k0 lk).1
      · obtain ⟨u1, u2, -⟩ := tl.k4 lk
        exact Or.inr (Or.inl ⟨u1, u2⟩)
      · obtain ⟨u1, u2⟩ := tl.k5 lk
        exact Or.inr (Or.inr ⟨u1, (en _ _ u2).1⟩)
theorem ty_recv (h : JJ T s p m f X) (ts9 : tstep (T m) f pc X = some fl) (ho : opA (T m) f pc = o) (hv : agA (T m) f pc = v) (z : o = 38) (hOk : OkI (T m) m f s p o v) (cg : cgO s p o v) (hfl0 : ∀ q ∈ fl, 0 ≤ q.1) : ts s p 0 = 3 ∧ (opn s (tv s p 0) ∧ QO T s (tv s p 0)) ∧ 1 ≤ s 114 (tv s p 0) ∧ (0 ≤ s 115 (4 * tv s p 0) ∧ s 115 (4 * tv s p 0) < s 61 (8 * s 118 (tv s p 0) + s 112 (tv s p 0)) ∧ s 115 (4 * tv s p 0) < 4) ∧ 0 ≤ s 63 (4 * (8 * s 118 (tv s p 0) + s 112 (tv s p 0)) + s 115 (4 * tv s p 0)) ∧ (s 117 (4 * tv s p 0) = 0 ∨ s 117 (4 * tv s p 0) = 2 ∨ s 117 (4 * tv s p 0) = 3 ∨ s 117 (4 * tv s p 0) = 4) ∧ 0 ≤ (T m) (cAt (T m) f + pc + 2 + s 115 (4 * tv s p 0)) := by
  obtain ⟨hJ, hP⟩ := id h
  have tp : ∀ k, 0 ≤ k → k < X.1 → vOk T s p m (tv s p k) (ts s p k) (X.2.1 (X.1 - 1 - k)) := fun k a b => h.top a b
  have K38 := hOk.2.2.2.2.2.2.2.2.2.2.2.2.2.2.2.2.2.2.1 z
  obtain ⟨k1, k2, k3, k4, k5, k6⟩ := K38
  unfold tstep at ts9; rw [ho, hv] at ts9
  rw [if_neg (by omega), if_neg (by omega)] at ts9
  unfold tsL at ts9
  rw [if_neg (by omega), if_neg (by omega), if_neg (by omega), if_neg (by omega), if_neg (by omega), if_neg (by omega), if_pos z] at ts9
  obtain ⟨⟨y1, y2, y3, y4⟩, e⟩ := onw_s ts9
  unfold cgO at cg
  rw [if_pos z] at cg
  have t0 := tp 0 (by decide) y1
  rw [Int.sub_zero] at t0
  obtain ⟨w3, hen⟩ := t0.k5 y2
  obtain ⟨hop, me, ce, f1, f2, f3, f4, f5, f6, f7⟩ := JJ.en hJ hen
  obtain ⟨e9, he9⟩ : ∃ e, tv s p 0 = e := ⟨_, rfl⟩
  rw [he9] at cg hen hop f1 f5 f7 t0 k3 k4 ⊢
  obtain ⟨m', c', g1, g2, g3, g4, g5, g6, g7, g8⟩ := hJ.2.1 e9 hop
  have em : m' = me ∧ c' = ce := by omega
  obtain ⟨rfl, rfl⟩ := em
  have Q0 := g7 0 (by omega)
  have w0 : wk (T m') c' s e9 0 = s 112 e9 := rfl
  unfold QM at Q0
  rw [w0, show 4 * e9 + ((0 : Nat) : Int) = 4 * e9 by omega] at Q0
  obtain ⟨-, -, q3, q4, -⟩ := Q0
  have st := f4.st (st_b _).1 f6
  obtain ⟨d1, d2, d3⟩ := g4.2.1.1.ct g4.2.1.2.1 g2.1 g3 g5.1 g5.2
  have d5 : nMs (T m') c' (s 112 e9) = v := by rw [f5]; exact st.2.2.2.1.trans y4
  have hS' := g4.2.1.2.1
  have th0 := (((hS'.2.2.2.2.2.2.1 c' g2.1 g3).2.2.2.1 _ g5.1 g5.2).2.2.2.2.2.2.1 _ q3.1 q3.2).2.1
  refine ⟨w3, ⟨hop, m', c', g1, g2, g3, g4, g5, g6, g7, g8⟩, by omega, ⟨q3.1, by rw [g1, d2]; exact q3.2, k3.2⟩, by rw [g1, (d3 _ q3.1 q3.2).2]; exact th0, ?_, ?_⟩
  · have lk := ldk g4.2.1.2.2.1 g2.1 g3 g5.1 g5.2 q3.1 q3.2
    rcases q4 with ⟨-, u⟩ | ⟨u, u2⟩
    · omega
    · rcases lk.resolve_left u with lk | lk | lk
      · exact Or.inl (u2.k0 lk).1
      · exact Or.inr (Or.inl (u2.k4 lk).1)
      · exact Or.inr (Or.inr (Or.inl (u2.k5 lk).1))
  · have mem : ((T m) (cAt (T m) f + pc + 2 + s 115 (4 * e9)), rcv (T m) X (s 115 (4 * e9))) ∈ fl := by
      subst e
      rw [List.mem_map]
      exact ⟨(s 115 (4 * e9)).toNat, List.mem_range.mpr (by omega), by rw [Int.toNat_of_nonneg q3.1]⟩
    exact hfl0 _ mem
/-- where it goes on, and what is left -/
theorem x5_flow (hR : RelC T NN al0 hi0 hr0 (fun _ => False) A al hi hr s) (hO : OnP hr s p t) (hP : AllP s) (hBQ : BQ s) (hBs : Bs T NN al0 hi0 hr0) (hm : s 91 p = m) (hN : NV (T m)) (hz : o = 19 ∨ o = 20 ∨ o = 21 ∨ o = 31 ∨ o = 36 ∨ o = 39 ∨ o = 41 ∨ o = 42 ∨ o = 43) (hcv : o = 20 ∨ o = 21 ∨ o = 36 → cvv = v) (hf : o = 31 → s 95 (ai s p) = f ∧ (0 ≤ f ∧ f < nFn (T m)) ∧ (rTy (T m) f ≠ -1 → 1 ≤ hg s p) ∧ (rTy (T m) f ≠ -1 → 2 ≤ s 94 p → 0 ≤ s 97 (ai s p - 1) ∧ s 97 (ai s p - 1) < 16)) (h1 : o = 19 ∨ o = 21 ∨ o = 39 ∨ o = 43 → 1 ≤ hg s p) (hc : o = 36 → (0 ≤ v ∧ v < nCtr (T m)) ∧ nCtr (T m) ≤ 4 ∧ hg s p < 15) (k39 : o = 39 → ts s p 0 = 3) (k43 : o = 43 → ts s p 0 = 0 ∧ 0 ≤ s 49 55 ∧ s 49 55 ≤ 500) (hd : 5 ≤ d) (q : ∀ v' al' hi' hr', Pf T NN al0 hi0 hr0 p t (exS (T m) f s p o v qx) v' al' hi' hr' → Q (some (some (vI v'))) al' hi' hr') : Ev d 82 [vR (some 26), vR (some t), vI o, vI cvv] al hi hr Q := by
  have k26 : isK al 26 6 := hR.1.1.k (by decide) (by decide) rfl
  have T156 : o = 31 → Wp d 82 156 [vR (some 26), vR (some t), vI o, vI cvv] [] al hi hr Q := fun z => by
    obtain ⟨y1, y2, y3, y4⟩ := hf z
    have GB := x5_back (d := d - 1) (v := v) (qx := qx) (Q := kon d 82 158 161 [vR (some 26), vR (some t), vI o, vI cvv] [] Q) hR hO hP hBQ hBs hm y1 y2 z y3 y4 hN (by omega) (fun v' al' hi' hr' w => by
      have E0 := q v' al' hi' hr' w
      simp only [kon, knt_some, knt_none, Option.toList_some, Option.toList_none, List.cons_append, List.nil_append]
      refine (s82_161).mpr ?_
      exact E0
      )
    refine s82_156.mpr (s82_157.mpr ?_)
    refine (s82_158 (by first | decide | assumption | omega) (by first | decide | assumption | omega)).mpr ?_
    exact GB
  have T162 : o = 36 → Wp d 82 162 [vR (some 26), vR (some t), vI o, vI cvv] [] al hi hr Q := fun z => by
    obtain ⟨y1, y2, y3⟩ := hc z
    have GB := x5_chan (d := d - 1) (f := f) (qx := qx) (Q := kon d 82 165 168 [vR (some 26), vR (some t), vI o, vI cvv] [] Q) hR hO hP hBQ hBs hm z (hcv (by omega)) y1 y2 hN y3 (by omega) (fun v' al' hi' hr' w => by
      have E0 := q v' al' hi' hr' w
      simp only [kon, knt_some, knt_none, Option.toList_some, Option.toList_none, List.cons_append, List.nil_append]
      refine (s82_168).mpr ?_
      exact E0
      )
    refine s82_162.mpr (s82_163.mpr (s82_164.mpr ?_))
    refine (s82_165 (by first | decide | assumption | omega) (by first | decide | assumption | omega)).mpr ?_
    exact GB
  have T184 : o = 43 → Wp d 82 184 [vR (some 26), vR (some t), vI o, vI cvv] [] al hi hr Q := fun z => by
    obtain ⟨y1, y2⟩ := k43 z
    have GB := x5_out (d := d - 1) (m := m) (f := f) (v := v) (qx := qx) (Q := kon d 82 186 189 [vR (some 26), vR (some t), vI o, vI cvv] [] Q) hR hO hP hBQ z y1 (h1 (by omega)) y2 (by omega) (fun v' al' hi' hr' w => by
      have E0 := q v' al' hi' hr' w
      simp only [kon, knt_some, knt_none, Option.toList_some, Option.toList_none, List.cons_append, List.nil_append]
      refine (s82_189).mpr ?_
      exact E0
      )
    refine s82_184.mpr (s82_185.mpr ?_)
    refine (s82_186 (by first | decide | assumption | omega) (by first | decide | assumption | omega)).mpr ?_
    exact GB
  rw [e82]
  refine s82_0.mpr ?_
  refine g82_1 (fun c1 => ?_) (fun c1 => ?_) (fun c1 => ?_) (fun c1 => ?_) (fun c1 => ?_) (fun c1 => ?_) (fun c1 => ?_) (fun c1 => ?_) (fun c1 => ?_)
  · skip
    have c1 := List.mem_singleton.mp c1
    exact fl_19 hR hO hP hBQ c1 (h1 (by omega)) (by omega) q
  · skip
    have c1 := List.mem_singleton.mp c1
    exact fl_20 hR hO hP hBQ c1 (hcv (by omega)) (by omega) q
  · skip
    have c1 := List.mem_singleton.mp c1
    exact fl_21 hR hO hP hBQ c1 (hcv (by omega)) (by omega) (h1 (by omega)) q
  · skip
    have c1 := List.mem_singleton.mp c1
    exact T156 c1
  · skip
    have c1 := List.mem_singleton.mp c1
    exact T162 c1
  · skip
    have c1 := List.mem_singleton.mp c1
    exact fl_39 hR hO hP hBQ c1 (k39 c1) (h1 (by omega)) (by omega) q
  · skip
    have c1 := List.mem_singleton.mp c1
    exact fl_42 hR hO hP hBQ c1 q
  · skip
    have c1 := List.mem_singleton.mp c1
    exact T184 c1
  · skip
    by_cases z41 : o = 41
    · exact fl_41 hR hO hP hBQ z41 q
    · exfalso; rcases hz with z | z | z | z | z | z | z | z | z <;> first | exact z41 z | (rw [z] at c1; revert c1; decide)
end CP1
