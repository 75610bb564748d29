/-! RUNNING, the reference: a step -/
section RP8
variable {d : Nat} {al : AL} {hi : HI} {hr : HR} {Q : QQ} {s : HI} {p : Int} {B : Int → Int} {f o v qx m : Int}
theorem Sm.ex_ {h0 s0 h s : HI} (H : Sm h0 s0 h s) (ho : 0 ≤ o ∧ o < 20) : Sm h0 s0 (exS B f h p o v qx) (exS B f s p o v qx) := by
  by_cases c : 7 ≤ o ∧ o ≤ 18
  · have e : ∀ g, exS B f g p o v qx = if (o = 10 ∨ o = 11) ∧ tv g p 0 = 0 then trpS (pp g p 2) p 3 else psh (pp g p 2) p (rek o (tv g p 1) (tv g p 0)) 0 := fun g => by
      unfold exS
      rw [if_neg (by omega), if_neg (by omega), if_neg (by omega), if_neg (by omega), if_neg (by omega), if_neg (by omega), if_neg (by omega), if_neg (by omega), if_pos (by omega)]
    rw [e, e, H.tv_, H.tv_]
    split
    · exact H.pp_.trp_
    · exact H.pp_.psh_ rfl rfl
  · have : o = 0 ∨ o = 1 ∨ o = 2 ∨ o = 3 ∨ o = 4 ∨ o = 5 ∨ o = 6 ∨ o = 19 := by omega
    rcases this with z | z | z | z | z | z | z | z
    · subst z; exact H.psh_ rfl rfl
    · subst z; exact H.psh_ rfl rfl
    · subst z
      have e : ∀ g I, 26 * ai g p + v = I → exS B f g p 2 v qx = if g 99 I = 2 ∨ g 99 I = 3 then st2 (psh g p (g 98 I) (g 99 I)) I 0 4 else psh g p (g 98 I) (g 99 I) := fun g I z => by subst z; rfl
      rw [e h _ rfl, e s (26 * ai h p + v) (by rw [H.ai_]), H.e (a := 99) (by omega), H.e (a := 98) (by omega)]
      split
      · exact (H.psh_ rfl rfl).st2_ rfl rfl rfl
      · exact H.psh_ rfl rfl
    · subst z; exact H.pp_.st2_ (by rw [H.ai_]) H.tv_ H.ts_
    · subst z; exact H.pp_
    · subst z; exact H.psh_ H.tv_ H.ts_
    · subst z; exact (H.st2_ (by rw [H.sk_, H.hg_]) H.tv_ H.ts_).st2_ (by rw [H.sk_, H.hg_]) H.tv_ H.ts_
    · subst z; exact H.pp_.psh_ (by rw [H.tv_]) rfl
theorem goS_n {g : HI} {y : Int} {a : Nat} {i : Int} (h : a ≠ 96) : goS g p y a i = g a i := upI_a h
theorem yS_fw {g h : HI} (w : FW wRn hi g) (w2 : FW wRn (yS o g) h) : FW wRn (yS o hi) h := fun a i z => by
  rw [w2 a i z]
  unfold yS
  split
  · unfold upI; split
    · rfl
    · exact w a i z
  · exact w a i z
theorem yS_n {h : HI} (ho : o ≠ 41) : yS o h = h := if_neg ho
theorem r_act1 {x c : Int} (hA : SA al) (hR : MR hr) (hd : 60 ≤ d) (hE : RelR hi s) (hp : AP s p) (hm : s 91 p = m) (m0 : 0 ≤ m ∧ m < 12) (hf : s 95 (ai s p) = f) (f0 : 0 ≤ f ∧ f < 10) (hx : s 96 (ai s p) = x) (hc : s 69 (10 * m + f) = c) (c0 : 0 ≤ c) (x0 : 0 ≤ x) (q0 : c + x < 2000) (h52 : hi 52 m ≤ 2000) (hB : bAt hi m = B)
    (ho : 0 ≤ B (c + x) ∧ B (c + x) ≤ 43) (hO : OkI B m f (goS s p (x + ilen B (c + x))) p (B (c + x)) (B (c + x + 1))) (hl : 0 ≤ ilen B (c + x) ∧ ilen B (c + x) ≤ 300)
    (q : ∀ hi', RelR hi' (exS B f (goS s p (x + ilen B (c + x))) p (B (c + x)) (B (c + x + 1)) (c + x)) → FW wRn (yS (B (c + x)) hi) hi' → Q (some none) al hi' hr) : Ev d 309 [vR (some 49), vI p] al hi hr Q := by
  have kM : isK al 49 13 := hA.k (by decide) (by decide) rfl
  have H0 := Sm.rf hE.1
  have hp' : AP hi p := hp.n (H0.e (by omega))
  have l91 := SA.len (a := 91) (n := 12) hA (by decide) (by decide) rfl
  have l96 := SA.len (a := 96) (n := 192) hA (by decide) (by decide) rfl
  have k96 : isK al 96 15 := hA.k (by decide) (by decide) rfl
  have l96 : aln al 96 = 192 := hA.len (by decide) (by decide) rfl
  have hb := hp.b
  have hpb := hp.1
  have e91 : hi 91 p = m := (H0.e (by omega)).trans hm
  have eai : ai hi p = ai s p := H0.ai_
  have e95 : hi 95 (ai hi p) = f := by rw [eai]; exact (H0.e (by omega)).trans hf
  have e96 : hi 96 (ai hi p) = x := by rw [eai]; exact (H0.e (by omega)).trans hx
  have e69 : hi 69 (10 * m + f) = c := (H0.e (by omega)).trans hc
  obtain ⟨L, hL⟩ : ∃ L, ilen B (c + x) = L := ⟨_, rfl⟩
  rw [hL] at hO q hl
  obtain ⟨qx, hqx⟩ : ∃ qx, c + x = qx := ⟨_, rfl⟩
  rw [hqx] at hO q hL ho q0
  obtain ⟨o, hoe⟩ : ∃ o, B qx = o := ⟨_, rfl⟩
  obtain ⟨v, hve⟩ : ∃ v, B (qx + 1) = v := ⟨_, rfl⟩
  rw [hoe] at hO q ho
  rw [hve] at hO q
  have H1 := H0.go_ (p := p) (q := x + L)
  have hE1 := hE.sm H1
  obtain ⟨g, hge⟩ : ∃ g, goS hi p (x + L) = g := ⟨_, rfl⟩
  obtain ⟨r, hre⟩ : ∃ r, goS s p (x + L) = r := ⟨_, rfl⟩
  have g52 : g 52 m ≤ 2000 := by rw [← hge, goS_n (by decide)]; exact h52
  have gB : bAt g m = B := by
    rw [← hB]; funext k; unfold bAt; rw [← hge, goS_n (by decide), goS_n (by decide)]
  have rp : AP r p := hp.n (by rw [← hre]; exact goS_n (by decide))
  rw [hre] at hO q hE1 H1
  rw [hge] at hE1 H1
  have w1 := H1.fw
  have Hg := Sm.rf hE1.1
  have q0' : 0 ≤ qx ∧ qx < 3000 := by omega
  have ER : ∀ P : Prop, P → P := fun _ h => h
  have P1 : o < 20 → Ev (d - 1) 310 [vR (some 49), vI p, vI o, vI v, vI qx] al g hr (kon d 309 67 70 [vR (some 49), vI p, vI m, vI qx, vI o, vI v] [] Q) := fun z => by
    obtain ⟨⟨g1, g2, g3, g4, g5, g6, g7, g8⟩, ⟨k1, k2, k3, k4⟩, -⟩ := hO
    have eh : hg g p = hg r p := Hg.hg_
    refine r_plainly (m := m) (f := f) hA hR (by omega) (rp.n (Hg.e (by omega))) ⟨ho.1, z⟩ k1 (by rw [eh]; exact g1) (by rw [eh]; exact k2) (by rw [eh]; exact k3) (by rw [eh]; exact k4) (g2.eq (fun _ => Hg.e (by omega)) (fun _ => Hg.e (by omega)) (fun _ => Hg.e (by omega)) (fun _ => Hg.e (by omega))) ((Hg.e (by omega)).trans g3) g4 g52 q0' ?_
    rw [gB]
    have Hx := Hg.ex_ (B := B) (f := f) (p := p) (o := o) (v := v) (qx := qx) ⟨ho.1, z⟩
    have E := q _ (hE1.sm Hx) (by rw [yS_n (by omega)]; exact w1.tr Hx.fw)
    simp only [kon, knt_some, knt_none, Option.toList_some, Option.toList_none, List.cons_append, List.nil_append]
    refine s309_70.mpr ?_
    refine (s309_102).mpr ?_
    exact E
  have P2 : 20 ≤ o ∧ o ≤ 31 → Ev (d - 1) 312 [vR (some 49), vI p, vI o, vI v] al g hr (kon d 309 86 89 [vR (some 49), vI p, vI m, vI qx, vI o, vI v] [] Q) := fun z => by
    refine r_withHeap (qx := qx) hA hR (by omega) hE1 rp hO g52 gB q0' (fun hi' z1 z2 => ?_) z
    have E := q hi' z1 (by rw [yS_n (by omega)]; exact w1.tr z2)
    simp only [kon, knt_some, knt_none, Option.toList_some, Option.toList_none, List.cons_append, List.nil_append]
    refine s309_89.mpr ?_
    refine (s309_102).mpr ?_
    exact E
  have P3 : 32 ≤ o ∧ o ≤ 43 → Ev (d - 1) 316 [vR (some 49), vI p, vI o, vI v, vI qx] al g hr (kon d 309 99 102 [vR (some 49), vI p, vI m, vI qx, vI o, vI v] [] Q) := fun z => by
    refine r_linearly hA hR (by omega) hE1 rp hO g52 gB q0' (fun hi' z1 z2 => ?_) z
    have E := q hi' z1 (yS_fw w1 z2)
    simp only [kon, knt_some, knt_none, Option.toList_some, Option.toList_none, List.cons_append, List.nil_append]
    refine (s309_102).mpr ?_
    exact E
  clear q hO
  rw [e309]
  have e96' := e96
  refine s309_0.mpr ((s309_1 kM).mpr ?_)
  rw [mr_61 hR]
  refine s309_4.mpr ?_
  refine (s309_5 (hA.k (by decide) (by decide) rfl) (by first | assumption | omega) (by first | assumption | omega)).mpr ?_
  refine s309_6.mpr (s309_7.mpr (s309_8.mpr ?_))
  try simp (disch := first | decide | assumption | omega) only [kon, knt_some, knt_none, Option.toList_some, Option.toList_none, List.cons_append, List.nil_append, e91, hqx, hB, hoe, hve, e96, hge, fAdd_id]
  refine (s309_9 (by omega) kM).mpr ?_
  refine r_codePlace hA hR (by omega) hp' e91 e95 e96 m0 f0 e69 (by omega) (by omega) ?_
  try simp only [kon, knt_some, knt_none, Option.toList_some, Option.toList_none, List.cons_append, List.nil_append, hqx]
  refine s309_12.mpr (s309_13.mpr (s309_14.mpr (s309_15.mpr ?_)))
  refine (s309_16 (by omega) kM).mpr ?_
  refine (m_byteAt hA hR m0.1 (by omega) h52).mpr ?_
  try simp only [kon, knt_some, knt_none, Option.toList_some, Option.toList_none, List.cons_append, List.nil_append, hB, hoe, hve]
  refine s309_19.mpr (s309_21.mpr (s309_22.mpr (s309_23.mpr (s309_24.mpr (s309_25.mpr ?_)))))
  try simp (disch := first | decide | assumption | omega) only [kon, knt_some, knt_none, Option.toList_some, Option.toList_none, List.cons_append, List.nil_append, e91, hqx, hB, hoe, hve, e96, hge, fAdd_id]
  refine (s309_26 (by omega) kM).mpr ?_
  refine (m_byteAt hA hR m0.1 (by omega) h52).mpr ?_
  try simp only [kon, knt_some, knt_none, Option.toList_some, Option.toList_none, List.cons_append, List.nil_append, hB, hoe, hve]
  refine s309_29.mpr (s309_31.mpr (s309_32.mpr (s309_33.mpr ((s309_34 kM).mpr ?_))))
  rw [mr_66 hR]
  refine s309_37.mpr (s309_38.mpr ?_)
  refine (s309_39 (by omega) kM).mpr ?_
  refine r_act hA hR hp' ?_
  refine (s309_42 (hA.k (by decide) (by decide) rfl) (by first | assumption | omega) (by first | assumption | omega)).mpr ?_
  refine s309_43.mpr (s309_44.mpr (s309_45.mpr ?_))
  try simp (disch := first | decide | assumption | omega) only [kon, knt_some, knt_none, Option.toList_some, Option.toList_none, List.cons_append, List.nil_append, e91, hqx, hB, hoe, hve, e96, hge, fAdd_id]
  refine (s309_46 (by omega) kM).mpr ?_
  refine m_length hA hR (by omega) ⟨m0.1, by omega⟩ h52 hB (by omega) ?_
  try simp only [kon, knt_some, knt_none, Option.toList_some, Option.toList_none, List.cons_append, List.nil_append, hL]
  refine s309_49.mpr ?_
  try simp (disch := first | decide | assumption | omega) only [kon, knt_some, knt_none, Option.toList_some, Option.toList_none, List.cons_append, List.nil_append, e91, hqx, hB, hoe, hve, e96, hge, fAdd_id]
  refine (s309_50 (by omega) kM).mpr ?_
  refine r_goTo hA hR (by omega) hp' ?_
  try simp only [kon, knt_some, knt_none, Option.toList_some, Option.toList_none, List.cons_append, List.nil_append, hge]
  refine s309_53.mpr (s309_55.mpr ?_)
  refine s309_57.mpr (wif (fun c57 => ?_) (fun c57 => ?_))
  · first
    | (exfalso; omega)
    | skip
      refine s309_60.mpr (s309_61.mpr (s309_62.mpr (s309_64.mpr (s309_66.mpr ?_))))
      refine (s309_67 (by omega) kM).mpr ?_
      exact P1 (by omega)
  · first
    | (exfalso; omega)
    | skip
      refine s309_73.mpr (s309_75.mpr ?_)
      refine s309_77.mpr (wif (fun c77 => ?_) (fun c77 => ?_))
      · first
        | (exfalso; omega)
        | skip
          refine s309_80.mpr (s309_81.mpr (s309_82.mpr (s309_84.mpr ?_)))
          refine (s309_86 (by omega) kM).mpr ?_
          exact P2 (by omega)
      · first
        | (exfalso; omega)
        | skip
          refine s309_92.mpr (s309_93.mpr (s309_94.mpr (s309_96.mpr (s309_98.mpr ?_))))
          refine (s309_99 (by omega) kM).mpr ?_
          exact P3 (by omega)
end RP8
