/-! RUNNING, the class: an instruction, whole -/
section CP2
variable {d : Nat} {Q : QQ} {T : TXs} {al al' : AL} {hi hi' h1 : HI} {hr hr' r1 : HR} {s s' s1 s2 u sx sm S : HI} {A A' : Int → Int → Int} {NN : Int → Option Nat} {E E' : Int → Prop} {p m f q v w x y n k g qx i P e fr ty kd tt cvv o c9 z9 a : Int} {B : Int → Int} {X Y : Tst} {t t' N M c b : Nat} {al0 : AL} {hi0 : HI} {hr0 : HR} {V W ws : Int → Int} {pc : Int} {fl : List (Int × Tst)}
theorem ex_lo (z : 0 ≤ o ∧ o ≤ 6) {a : Nat} (ha : 109 ≤ a) : exS B f s p o v q a i = s a i ∨ 118 < a := by
  by_cases c : 118 < a
  · exact Or.inr c
  left
  have P : ∀ s v w, psh s p v w a i = s a i := fun s v w => psh_n (by omega)
  have PP : ∀ s n, pp s p n a i = s a i := fun s n => ppz_n (by omega)
  have S2 : ∀ s x v w, st2 s x v w a i = s a i := fun s x v w => st2_n (by omega) (by omega)
  rcases (show o = 0 ∨ o = 1 ∨ o = 2 ∨ o = 3 ∨ o = 4 ∨ o = 5 ∨ o = 6 by omega) with z | z | z | z | z | z | z
  · rw [exq_0 z, P]
  · rw [exq_1 z, P]
  · rw [exq_2 z]
    simp only []
    split
    · rw [S2, P]
    · rw [P]
  · rw [exq_3 z, S2, PP]
  · rw [exq_4 z, PP]
  · rw [exq_5 z, P]
  · rw [exq_6 z, S2, S2]
set_option maxRecDepth 8000 in
theorem x5_perform (hR : RelC T NN al0 hi0 hr0 (fun _ => False) A al hi hr s) (hO : OnP hr s p t) (hP : AllP s) (hBQ : BQ s) (hBs : Bs T NN al0 hi0 hr0) (h : JJ T s p m f X) (ts9 : tstep (T m) f pc X = some fl) (ho : opA (T m) f pc = o) (hv : agA (T m) f pc = v) (hvX : vX (T m) X) (hF : InsF (T m) o v) (h16 : ∀ q ∈ fl, q.2.1 ≤ 16) (hfl : ∀ q ∈ fl, 0 ≤ q.1 ∧ q.1 < cLen (T m) f) (cg : cgO s p o v) (hq : qx = cAt (T m) f + pc) (q9 : 0 ≤ cAt (T m) f ∧ cAt (T m) f + pc < 2000) (pc0 : 0 ≤ pc) (hd : 7 ≤ d) (q : ∀ v' al' hi' hr', Pf T NN al0 hi0 hr0 p t (exS (T m) f s p o v qx) v' al' hi' hr' → Q (some (some (vI v'))) al' hi' hr') : Ev d 78 [vR (some 26), vR (some t), vI o, vI qx] al hi hr Q := by
  have hOk := so_ok h ts9 ho hv hvX hF h16 cg
  obtain ⟨⟨g1, g2, g3, g4, g5, g6, g7, g8⟩, ⟨m1, m2, m3, m4⟩, k21, k22, k23, k24, k25, k27, k28, k29, k30, k31, k32, k33, k34, k35, k36, k37, k38, k39, k40, k43⟩ := id hOk
  obtain ⟨F1, F2, F3, F4, F5, F6, F7, F8, F9⟩ := hF
  have hS := h.mg.2.1.2.1
  have hN := h.mg.2.1.2.2.1
  have hPJ := h.2
  have f0 := hPJ.2.2.2.1.1
  have r8 : nRec (T m) ≤ 8 := hS.2.1
  have k26 : isK al 26 6 := hR.1.1.k (by decide) (by decide) rfl
  have k9 := (hR.tf hO).1.1.2
  obtain ⟨N, n, M, e1, -, hM, hT, -, kN⟩ := hR.cod hO hBs
  rw [g3] at hM hT
  have hv9 : (T m) (qx + 1) = v := by rw [hq]; exact hv
  have hcv : 0 ≤ v → bZ (T m) (qx + 1) = v := fun z => by rw [bZ_p (by rw [hv9]; exact z)]; exact hv9
  obtain ⟨cvv, hcv9⟩ : ∃ cvv, bZ (T m) (qx + 1) = cvv := ⟨_, rfl⟩
  rw [hcv9] at hcv
  have qx3 : 0 ≤ qx ∧ qx < 3000 := by omega
  -- the bytes of a number
  have hb : o = 0 → ∀ k, 0 ≤ k → k < 4 → 0 ≤ (T m) (qx + 1 + k) := fun z k k0 k1 => by
    obtain ⟨s1', s2', s3', s4', s5', s6', s7', s8', s9', s10', s11', s12', s13', s14'⟩ := hS.2.2.2.2.2.2.2.2.2.2 f f0.1 f0.2
    have hx := (cd_end _ _ _ (by omega) (by omega) s13').2 (by omega)
    have hl : cAt (T m) f + cLen (T m) f - 1 < n := by
      apply Classical.byContradiction
      intro y
      have := (hT.1.1 (cAt (T m) f + cLen (T m) f - 1)).2 (by omega)
      omega
    have p5 : pc + 5 < cLen (T m) f := by
      have t9 := ts9
      unfold tstep at t9
      rw [ho, hv, if_pos (by omega)] at t9
      unfold tsP at t9
      rw [if_pos z] at t9
      obtain ⟨-, e⟩ := onw_s t9
      subst e
      exact (hfl _ (List.mem_singleton.mpr rfl)).2
    exact ((hT.1.1 (qx + 1 + k)).1 (by omega)).1
  have RET : ∀ pc', (∀ v' al' hi' hr', Q (some (some (vI v'))) al' hi' hr' → Wp d 78 pc' [vR (some 26), vR (some t), vI o, vI qx, vI cvv, none] [vI v'] al' hi' hr' Q) → ∀ v' al' hi' hr', Pf T NN al0 hi0 hr0 p t (exS (T m) f s p o v qx) v' al' hi' hr' → kon d 78 (pc' - 3) pc' [vR (some 26), vR (some t), vI o, vI qx, vI cvv, none] [] Q (some (some (vI v'))) al' hi' hr' := fun pc' hW v' al' hi' hr' w => by
    have E0 := hW v' al' hi' hr' (q v' al' hi' hr' w)
    simp only [kon, knt_some, knt_none, Option.toList_some, Option.toList_none, List.cons_append, List.nil_append]
    exact E0
  have R41 := RET 41 (fun v' al' hi' hr' E0 => by
    refine (s78_41).mpr ?_
    exact E0
    )
  have R62 := RET 62 (fun v' al' hi' hr' E0 => by
    refine (s78_62).mpr ?_
    exact E0
    )
  have R214 := RET 214 (fun v' al' hi' hr' E0 => by
    refine (s78_214).mpr ?_
    exact E0
    )
  have R221 := RET 221 (fun v' al' hi' hr' E0 => by
    refine (s78_221).mpr ?_
    exact E0
    )
  have R229 := RET 229 (fun v' al' hi' hr' E0 => by
    refine (s78_229).mpr ?_
    exact E0
    )
  have R237 := RET 237 (fun v' al' hi' hr' E0 => by
    refine (s78_237).mpr ?_
    exact E0
    )
  have R244 := RET 244 (fun v' al' hi' hr' E0 => by
    refine (s78_244).mpr ?_
    exact E0
    )
  have R252 := RET 252 (fun v' al' hi' hr' E0 => by
    refine (s78_252).mpr ?_
    exact E0
    )
  have R261 := RET 261 (fun v' al' hi' hr' E0 => by
    refine (s78_261).mpr ?_
    exact E0
    )
  clear RET
  have T18 : o ≤ 6 → Wp d 78 18 [vR (some 26), vR (some t), vI o, vI qx, vI cvv, none] [] al hi hr Q := fun z => by
    have MV := x5_move (d := d - 1) (Q := kon d 78 24 27 [vR (some 26), vR (some t), vI o, vI qx, vI cvv, none] [] Q) (f := f) (v := v) hR hO hP hBs g3 ⟨F1.1, z⟩ qx3 hb (fun y => ⟨m1 y, hcv (m1 y).1⟩) m2 (fun y => m3 (by omega)) (fun y => m4 (by omega)) (by omega) (fun hi' y1 y2 y3 => by
      have E0 := q 0 _ _ _ (Pf.ok y1 y2 y3 (hBQ.eq (fun a i w => (ex_lo ⟨F1.1, z⟩ (by omega)).resolve_right (by omega))))
      simp only [kon, knt_some, knt_none, Option.toList_some, Option.toList_none, List.cons_append, List.nil_append]
      refine s78_27.mpr ?_
      refine (s78_28).mpr ?_
      exact E0
      )
    refine s78_18.mpr (s78_19.mpr (s78_20.mpr (s78_21.mpr (s78_23.mpr ?_))))
    refine (s78_24 (by first | decide | assumption | omega) (by first | decide | assumption | omega)).mpr ?_
    exact MV
  have T35 : 7 ≤ o ∧ o ≤ 18 → Wp d 78 35 [vR (some 26), vR (some t), vI o, vI qx, vI cvv, none] [] al hi hr Q := fun z => by
    obtain ⟨y1, y2⟩ := ty_ints h ts9 ho hv z
    have MV := x5_ints (d := d - 1) (Q := kon d 78 38 41 [vR (some 26), vR (some t), vI o, vI qx, vI cvv, none] [] Q) (m := m) (f := f) (v := v) (qx := qx) hR hO hP hBQ z y1 y2 (m4 (by omega)) (by omega) R41
    refine s78_35.mpr (s78_36.mpr (s78_37.mpr ?_))
    refine (s78_38 (by first | decide | assumption | omega) (by first | decide | assumption | omega)).mpr ?_
    exact MV
  have T54 : 32 ≤ o ∧ o ≤ 35 → Wp d 78 54 [vR (some 26), vR (some t), vI o, vI qx, vI cvv, none] [] al hi hr Q := fun z => by
    have MV : Ev (d - 1) 93 [vR (some 26), vR (some t), vI o, vI cvv] al hi hr (kon d 78 59 62 [vR (some 26), vR (some t), vI o, vI qx, vI cvv, none] [] Q) := by
      rcases (show o = 32 ∨ o = 33 ∨ o = 34 ∨ o = 35 by omega) with z | z | z | z
      · obtain ⟨c1, c2, -, c4, c5⟩ := k32 z
        have v1 := F5 (by omega)
        exact x5_block hR hO hP hBQ hBs g3 z (hcv c2.1) ⟨c2.1, v1⟩ r8 (hS.2.2.1 v c2.1 v1 |> fun y => ⟨y.1, y.2.1⟩) c1 (fun y => c5 _ (fun n hn => by rw [hn]) y) (by omega) R62
      · obtain ⟨c1, c2, c3⟩ := k33 z
        obtain ⟨y1, y2, y3⟩ := ty_see h ts9 ho hv z
        exact x5_see hR hO hP hBQ z (hcv c3.1) y1 c1 c2 c3 ⟨y2, y3⟩ (by omega) R62
      · obtain ⟨c1, c2, c3⟩ := k34 z
        obtain ⟨y0, y1, y2, y3⟩ := ty_set h ts9 ho hv z
        exact x5_set hR hO hP hBQ z (hcv c3.1) y0 y1 c1 c2 c3 ⟨y2, y3⟩ (by omega) R62
      · exact x5_free hR hO hP hBQ z (ty_free h ts9 ho hv z) (k35 z).1 (by omega) R62
    refine s78_54.mpr (s78_55.mpr (s78_56.mpr (s78_57.mpr ?_)))
    refine (s78_59 (by first | decide | assumption | omega) (by first | decide | assumption | omega)).mpr ?_
    exact MV
  have T206 : o = 23 ∨ o = 24 → Wp d 78 206 [vR (some 26), vR (some t), vI o, vI qx, vI cvv, none] [] al hi hr Q := fun z => by
    have MV : Ev (d - 1) 91 [vR (some 26), vR (some t), vI o, vI cvv] al hi hr (kon d 78 211 214 [vR (some 26), vR (some t), vI o, vI qx, vI cvv, none] [] Q) := by
      rcases z with z | z
      · obtain ⟨c1, -, c3⟩ := k23 z
        obtain ⟨y1, y2⟩ := ty_get h ts9 ho hv z
        exact x5_get hR hO hP hBQ hBs hPJ z c1 y1 (fun u => ⟨y2 u, c3 u⟩) (hcv (F4 (by omega))) (by omega) R214
      · obtain ⟨c1, -, c3⟩ := k24 z
        obtain ⟨y1, y2⟩ := ty_put h ts9 ho hv z (F4 (by omega))
        exact x5_put hR hO hP hBQ z c1 y1 (fun u => ⟨c3 u, y2 u⟩) (hcv (F4 (by omega))) (by omega) R214
    refine s78_206.mpr (s78_207.mpr (s78_208.mpr (s78_209.mpr ?_)))
    refine (s78_211 (by first | decide | assumption | omega) (by first | decide | assumption | omega)).mpr ?_
    exact MV
  have T215 : 27 ≤ o ∧ o ≤ 29 → Wp d 78 215 [vR (some 26), vR (some t), vI o, vI qx, vI cvv, none] [] al hi hr Q := fun z => by
    have MV : Ev (d - 1) 92 [vR (some 26), vR (some t), vI o] al hi hr (kon d 78 218 221 [vR (some 26), vR (some t), vI o, vI qx, vI cvv, none] [] Q) := by
      rcases (show o = 27 ∨ o = 28 ∨ o = 29 by omega) with z | z | z
      · exact x5_len hR hO hP hBQ z (k27 z).1 (ty_len h ts9 ho hv z) (by omega) R221
      · obtain ⟨y1, y2, y3⟩ := ty_take h ts9 ho hv z
        exact x5_take hR hO hP hBQ hPJ z (k28 z).1 y1 y2 y3 (by omega) R221
      · obtain ⟨y1, y2, y3⟩ := ty_lay h ts9 ho hv z
        exact x5_layr hR hO hP hBQ z (k29 z).1 y1 y2 y3 (by omega) R221
    refine s78_215.mpr (s78_216.mpr (s78_217.mpr ?_))
    refine (s78_218 (by first | decide | assumption | omega) (by first | decide | assumption | omega)).mpr ?_
    exact MV
  have npb : o = 30 ∨ o = 40 → (0 ≤ v ∧ v < nFn (T m)) ∧ 0 ≤ nPar (T m) v ∧ nPar (T m) v ≤ 4 := fun z => by
    have v0 := F4 (by omega)
    have v1 := F7 z
    obtain ⟨n1, n2, -⟩ := hS.2.2.2.2.2.2.2.2.2.2 v v0 v1
    exact ⟨⟨v0, v1⟩, n1, n2⟩
  have T222 : o = 30 → Wp d 78 222 [vR (some 26), vR (some t), vI o, vI qx, vI cvv, none] [] al hi hr Q := fun z => by
    obtain ⟨n1, n2⟩ := npb (by omega)
    have MV := x5_call (d := d - 1) (Q := kon d 78 226 229 [vR (some 26), vR (some t), vI o, vI qx, vI cvv, none] [] Q) (f := f) (qx := qx) hR hO hP hBQ hBs g3 z (hcv n1.1) n1 n2 (k30 z).2.2.2 (by omega) R229
    refine s78_222.mpr (s78_223.mpr (s78_224.mpr ?_))
    refine (s78_226 (by first | decide | assumption | omega) (by first | decide | assumption | omega)).mpr ?_
    exact MV
  have T230 : o = 37 → Wp d 78 230 [vR (some 26), vR (some t), vI o, vI qx, vI cvv, none] [] al hi hr Q := fun z => by
    have v0 := F4 (by omega)
    obtain ⟨⟨y1, y2⟩, y3, y4, y5, y6⟩ := ty_send h ts9 ho hv z v0 hOk
    have MV := x5_send (d := d - 1) (Q := kon d 78 234 237 [vR (some 26), vR (some t), vI o, vI qx, vI cvv, none] [] Q) (m := m) (f := f) (qx := qx) hR hO hP hBQ hBs z (hcv v0) y1 y2 y3 y4 y5 y6 v0 (by omega) R237
    refine s78_230.mpr (s78_231.mpr (s78_232.mpr ?_))
    refine (s78_234 (by first | decide | assumption | omega) (by first | decide | assumption | omega)).mpr ?_
    exact MV
  have T238 : o = 38 → Wp d 78 238 [vR (some 26), vR (some t), vI o, vI qx, vI cvv, none] [] al hi hr Q := fun z => by
    obtain ⟨y1, y2, y3, y4, y5, y6, y7⟩ := ty_recv h ts9 ho hv z hOk cg (fun q hq => (hfl q hq).1)
    rw [← hq] at y7
    have MV := x5_recv (d := d - 1) (Q := kon d 78 241 244 [vR (some 26), vR (some t), vI o, vI qx, vI cvv, none] [] Q) (f := f) (v := v) hR hO hP hBQ hBs g3 z (k38 z).1.1.1 (k38 z).1.2 y1 y2 y3 y4 y5 y6 qx3 y7 (by omega) R244
    refine s78_238.mpr (s78_239.mpr (s78_240.mpr ?_))
    refine (s78_241 (by first | decide | assumption | omega) (by first | decide | assumption | omega)).mpr ?_
    exact MV
  have T245 : o = 40 → Wp d 78 245 [vR (some 26), vR (some t), vI o, vI qx, vI cvv, none] [] al hi hr Q := fun z => by
    obtain ⟨n1, n2⟩ := npb (by omega)
    have hG := h.1.1
    have MV := x5_spawn (d := d - 1) (Q := kon d 78 249 252 [vR (some 26), vR (some t), vI o, vI qx, vI cvv, none] [] Q) (f := f) (qx := qx) hR hO hP hBQ hBs g3 z (hcv n1.1) n1 n2 (k40 z).2.2.1.2.2 (fun q q0 q1 => (hG.2.2.2.2.2.1 q q0 q1).1.1) hG.2.2.2.2.1.1 (ty_spawn h ts9 ho hv z n1) (by omega) R252
    refine s78_245.mpr (s78_246.mpr (s78_247.mpr ?_))
    refine (s78_249 (by first | decide | assumption | omega) (by first | decide | assumption | omega)).mpr ?_
    exact MV
  have T253 : (o = 19 ∨ o = 20 ∨ o = 21 ∨ o = 31 ∨ o = 36 ∨ o = 39 ∨ o = 41 ∨ o = 42 ∨ o = 43) → Wp d 78 253 [vR (some 26), vR (some t), vI o, vI qx, vI cvv, none] [] al hi hr Q := fun z => by
    have MV := x5_flow (d := d - 1) (Q := kon d 78 258 261 [vR (some 26), vR (some t), vI o, vI qx, vI cvv, none] [] Q) (m := m) (f := f) (v := v) (qx := qx) (cvv := cvv) hR hO hP hBQ hBs g3 hN z (fun y => hcv (F4 (by omega))) (fun y => ⟨(k31 y).2.1, f0, (k31 y).2.2.2.1, (k31 y).2.2.2.2⟩) (fun y => by
      rcases y with y | y | y | y
      · exact m3 (by omega)
      · exact k21 y
      · exact (k39 y).1
      · exact (k43 y).1) (fun y => ⟨⟨F4 (by omega), F6 y⟩, hS.2.2.2.2.2.1, (k36 y).1⟩) (fun y => ty_close h ts9 ho hv y) (fun y => ⟨ty_out h ts9 ho hv y, (k43 y).2⟩) (by omega) R261
    refine s78_253.mpr (s78_254.mpr (s78_255.mpr (s78_256.mpr ?_)))
    refine (s78_258 (by first | decide | assumption | omega) (by first | decide | assumption | omega)).mpr ?_
    exact MV
  have T156 : o = 22 → Wp d 78 156 [vR (some 26), vR (some t), vI o, vI qx, vI cvv, none] [] al hi hr Q := fun z => by
    obtain ⟨c1, c2, -, c4, -⟩ := k22 z
    exact pf_22 hR hO hP hBQ hBs hPJ g3 z (hcv c2.1) ⟨c2.1, F5 (by omega)⟩ r8 c4 c1 (by omega) q
  have T180 : o = 25 → Wp d 78 180 [vR (some 26), vR (some t), vI o, vI qx, vI cvv, none] [] al hi hr Q := fun z => by
    obtain ⟨y1, y2⟩ := ty_row h ts9 ho hv (Or.inl z)
    exact pf_25 hR hO hP hBQ hBs (h.pp_ (n := 1) (by decide) y1).2 z y2 (k25 (by omega)).1 (by omega) q
  have T193 : o = 26 → Wp d 78 193 [vR (some 26), vR (some t), vI o, vI qx, vI cvv, none] [] al hi hr Q := fun z => by
    obtain ⟨y1, y2⟩ := ty_row h ts9 ho hv (Or.inr z)
    exact pf_26 hR hO hP hBQ hBs (h.pp_ (n := 1) (by decide) y1).2 z (F4 (by omega)) y2 (k25 (by omega)).1 (by omega) q
  clear R41 R62 R214 R221 R229 R237 R244 R252 R261 k21 k22 k23 k24 k25 k27 k28 k29 k30 k31 k32 k33 k34 k35 k36 k37 k38 k39 k40 k43 m1 m2 m3 m4 F2 F3 F4 F5 F6 F7 F8 F9 g1 g2 g4 g5 g6 g7 g8 npb hb hcv hOk hfl h16
  rw [e78]
  have T63 : 19 ≤ o ∧ ¬ (32 ≤ o ∧ o ≤ 35) → Wp d 78 63 [vR (some 26), vR (some t), vI o, vI qx, vI cvv, none] [] al hi hr Q := fun z => by
    refine s78_63.mpr ?_
    refine g78_64 (fun c64 => ?_) (fun c64 => ?_) (fun c64 => ?_) (fun c64 => ?_) (fun c64 => ?_) (fun c64 => ?_) (fun c64 => ?_) (fun c64 => ?_) (fun c64 => ?_) (fun c64 => ?_)
    · skip
      have c64 := List.mem_singleton.mp c64
      exact T156 c64
    · skip
      have c64 := List.mem_singleton.mp c64
      exact T180 c64
    · skip
      have c64 := List.mem_singleton.mp c64
      exact T193 c64
    · skip
      exact T206 (by simp only [List.mem_cons, List.not_mem_nil, or_false] at c64; omega)
    · skip
      exact T215 (by simp only [List.mem_cons, List.not_mem_nil, or_false] at c64; omega)
    · skip
      have c64 := List.mem_singleton.mp c64
      exact T222 c64
    · skip
      have c64 := List.mem_singleton.mp c64
      exact T230 c64
    · skip
      have c64 := List.mem_singleton.mp c64
      exact T238 c64
    · skip
      have c64 := List.mem_singleton.mp c64
      exact T245 c64
    · skip
      exact T253 (by simp only [List.mem_cons, List.not_mem_nil, or_false, not_or] at c64; omega)
  refine s78_0.mpr ?_
  refine (s78_1 (by first | decide | assumption | omega)).mpr ?_
  refine s78_4.mpr (s78_5.mpr (s78_6.mpr ?_))
  try simp (disch := first | decide | assumption | omega) only [e1, fAdd_id, kon, knt_some, knt_none, Option.toList_some, Option.toList_none, List.cons_append, List.nil_append]
  refine (s78_7 (by first | decide | assumption | omega) (by first | decide | assumption | omega)).mpr ?_
  refine t_byteAt hM hT ?_
  simp only [kon, knt_some, knt_none, Option.toList_some, Option.toList_none, List.cons_append, List.nil_append, hcv9]
  refine s78_10.mpr (s78_12.mpr (s78_13.mpr ?_))
  refine s78_15.mpr (wif (fun c15 => ?_) (fun c15 => ?_))
  · skip
    refine s78_29.mpr (s78_30.mpr ?_)
    refine s78_32.mpr (wif (fun c32 => ?_) (fun c32 => ?_))
    · skip
      refine s78_42.mpr (s78_43.mpr ?_)
      refine s78_45.mpr (wif (fun c45 => ?_) (fun c45 => ?_))
      · skip
        exact T63 (by omega)
      · skip
        refine s78_48.mpr (s78_49.mpr ?_)
        refine s78_51.mpr (wif (fun c51 => ?_) (fun c51 => ?_))
        · skip
          exact T63 (by omega)
        · skip
          exact T54 (by omega)
    · skip
      exact T35 (by omega)
  · skip
    exact T18 (by omega)
end CP2
