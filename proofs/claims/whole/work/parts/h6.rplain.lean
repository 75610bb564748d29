/-! RUNNING, the reference: plain instructions -/
section RN0
variable {d : Nat} {al : AL} {hi : HI} {hr : HR} {Q : QQ}
theorem r_reckon {o x y : Int} (h : 7 ≤ o ∧ o ≤ 18) (hy : o = 10 ∨ o = 11 → y ≠ 0) (q : Q (some (some (vI (rek o x y)))) al hi hr) : Ev d 311 [vI o, vI x, vI y] al hi hr Q := by
  rw [e311]
  have L : (o = 7 → rek o x y = fAdd x y) ∧ (o = 8 → rek o x y = fSub x y) ∧ (o = 9 → rek o x y = fMul x y) ∧ (o = 10 → rek o x y = fDiv x y) ∧ (o = 11 → rek o x y = fRem x y) ∧ (o = 12 → rek o x y = fAnd x y) ∧ (o = 13 → rek o x y = fOr x y) ∧ (o = 14 → rek o x y = fXor x y) ∧ (o = 15 → rek o x y = fShl x (fAnd y 31)) ∧ (o = 16 → rek o x y = fShr x (fAnd y 31)) ∧ (o = 17 → rek o x y = if x < y then 1 else 0) ∧ (o = 18 → rek o x y = if x = y then 1 else 0) := by
    refine ⟨?_, ?_, ?_, ?_, ?_, ?_, ?_, ?_, ?_, ?_, ?_, ?_⟩ <;> intro z <;> subst z <;> rfl
  obtain ⟨l7, l8, l9, l10, l11, l12, l13, l14, l15, l16, l17, l18⟩ := L
  obtain ⟨r, hr9⟩ : ∃ r, rek o x y = r := ⟨_, rfl⟩
  rw [hr9] at q l7 l8 l9 l10 l11 l12 l13 l14 l15 l16 l17 l18
  have B60 : o = 7 → Wp d 311 60 [vI o, vI x, vI y] [] al hi hr Q := fun z => by
    rw [l7 z] at q
    refine s311_60.mpr (s311_61.mpr (s311_62.mpr ?_))
    refine (s311_63).mpr ?_
    exact q
  have B64 : o = 8 → Wp d 311 64 [vI o, vI x, vI y] [] al hi hr Q := fun z => by
    rw [l8 z] at q
    refine s311_64.mpr (s311_65.mpr (s311_66.mpr ?_))
    refine (s311_67).mpr ?_
    exact q
  have B68 : o = 9 → Wp d 311 68 [vI o, vI x, vI y] [] al hi hr Q := fun z => by
    rw [l9 z] at q
    refine s311_68.mpr (s311_69.mpr (s311_70.mpr ?_))
    refine (s311_71).mpr ?_
    exact q
  have B72 : o = 10 → Wp d 311 72 [vI o, vI x, vI y] [] al hi hr Q := fun z => by
    rw [l10 z] at q
    have hy0 := hy (Or.inl z)
    refine s311_72.mpr (s311_73.mpr ?_)
    refine (s311_74 (by first | assumption | omega)).mpr ?_
    refine (s311_75).mpr ?_
    exact q
  have B76 : o = 11 → Wp d 311 76 [vI o, vI x, vI y] [] al hi hr Q := fun z => by
    rw [l11 z] at q
    have hy0 := hy (Or.inr z)
    refine s311_76.mpr (s311_77.mpr ?_)
    refine (s311_78 (by first | assumption | omega)).mpr ?_
    refine (s311_79).mpr ?_
    exact q
  have B80 : o = 12 → Wp d 311 80 [vI o, vI x, vI y] [] al hi hr Q := fun z => by
    rw [l12 z] at q
    refine s311_80.mpr (s311_81.mpr (s311_82.mpr ?_))
    refine (s311_83).mpr ?_
    exact q
  have B84 : o = 13 → Wp d 311 84 [vI o, vI x, vI y] [] al hi hr Q := fun z => by
    rw [l13 z] at q
    refine s311_84.mpr (s311_85.mpr (s311_86.mpr ?_))
    refine (s311_87).mpr ?_
    exact q
  have B88 : o = 14 → Wp d 311 88 [vI o, vI x, vI y] [] al hi hr Q := fun z => by
    rw [l14 z] at q
    refine s311_88.mpr (s311_89.mpr (s311_90.mpr ?_))
    refine (s311_91).mpr ?_
    exact q
  have B92 : o = 15 → Wp d 311 92 [vI o, vI x, vI y] [] al hi hr Q := fun z => by
    rw [l15 z] at q
    refine s311_92.mpr (s311_93.mpr (s311_94.mpr (s311_96.mpr (s311_97.mpr ?_))))
    refine (s311_98).mpr ?_
    exact q
  have B99 : o = 16 → Wp d 311 99 [vI o, vI x, vI y] [] al hi hr Q := fun z => by
    rw [l16 z] at q
    refine s311_99.mpr (s311_100.mpr (s311_101.mpr (s311_103.mpr (s311_104.mpr ?_))))
    refine (s311_105).mpr ?_
    exact q
  have B106 : o = 17 → Wp d 311 106 [vI o, vI x, vI y] [] al hi hr Q := fun z => by
    rw [l17 z] at q
    refine s311_106.mpr (s311_107.mpr ?_)
    refine s311_108.mpr (wif (fun c108 => ?_) (fun c108 => ?_))
    · skip
      refine s311_111.mpr (s311_112.mpr ?_)
      refine (s311_116).mpr ?_
      first | (rw [if_pos (by omega)] at q; exact q) | (rw [if_neg (by omega)] at q; exact q)
    · skip
      refine s311_115.mpr ?_
      refine (s311_116).mpr ?_
      first | (rw [if_pos (by omega)] at q; exact q) | (rw [if_neg (by omega)] at q; exact q)
  have B117 : o = 18 → Wp d 311 117 [vI o, vI x, vI y] [] al hi hr Q := fun z => by
    rw [l18 z] at q
    refine s311_117.mpr (s311_118.mpr ?_)
    refine s311_119.mpr (wif (fun c119 => ?_) (fun c119 => ?_))
    · skip
      refine s311_122.mpr (s311_123.mpr ?_)
      refine (s311_127).mpr ?_
      first | (rw [if_pos (by assumption)] at q; exact q) | (rw [if_neg (by assumption)] at q; exact q)
    · skip
      refine s311_126.mpr ?_
      refine (s311_127).mpr ?_
      first | (rw [if_pos (by assumption)] at q; exact q) | (rw [if_neg (by assumption)] at q; exact q)
  refine s311_0.mpr ?_
  refine g311_1 (fun c1 => ?_) (fun c1 => ?_) (fun c1 => ?_) (fun c1 => ?_) (fun c1 => ?_) (fun c1 => ?_) (fun c1 => ?_) (fun c1 => ?_) (fun c1 => ?_) (fun c1 => ?_) (fun c1 => ?_) (fun c1 => ?_)
  · skip
    have c1 := List.mem_singleton.mp c1
    exact B60 (by assumption)
  · skip
    have c1 := List.mem_singleton.mp c1
    exact B64 (by assumption)
  · skip
    have c1 := List.mem_singleton.mp c1
    exact B68 (by assumption)
  · skip
    have c1 := List.mem_singleton.mp c1
    exact B72 (by assumption)
  · skip
    have c1 := List.mem_singleton.mp c1
    exact B76 (by assumption)
  · skip
    have c1 := List.mem_singleton.mp c1
    exact B80 (by assumption)
  · skip
    have c1 := List.mem_singleton.mp c1
    exact B84 (by assumption)
  · skip
    have c1 := List.mem_singleton.mp c1
    exact B88 (by assumption)
  · skip
    have c1 := List.mem_singleton.mp c1
    exact B92 (by assumption)
  · skip
    have c1 := List.mem_singleton.mp c1
    exact B99 (by assumption)
  · skip
    have c1 := List.mem_singleton.mp c1
    exact B106 (by assumption)
  · skip
    exact B117 (by simp only [List.mem_cons, List.not_mem_nil, or_false, not_or] at c1; omega)
theorem tv_pp {s : HI} {p n k : Int} : tv (pp s p n) p k = tv s p (k + n) := by
  unfold tv; rw [ppz_hg, ppz_sk, ppz_n (by decide), show hg s p - n - 1 - k = hg s p - 1 - (k + n) by omega]
theorem ts_pp {s : HI} {p n k : Int} : ts (pp s p n) p k = ts s p (k + n) := by
  unfold ts; rw [ppz_hg, ppz_sk, ppz_n (by decide), show hg s p - n - 1 - k = hg s p - 1 - (k + n) by omega]
theorem pp_pp {s : HI} {p n k : Int} : pp (pp s p n) p k = pp s p (n + k) := by
  have e : hg (pp s p n) p = hg s p - n := ppz_hg
  have e2 : ai (pp s p n) p = ai s p := ppz_ai
  unfold pp at e e2 ⊢
  rw [e, e2]
  funext a i
  unfold upI
  by_cases c : a = 97 ∧ i = ai s p
  · rw [if_pos c, if_pos c]; omega
  · rw [if_neg c, if_neg c, if_neg c]
set_option maxRecDepth 4000 in
theorem r_plainly {p o v qx m f : Int} (hA : SA al) (hR : MR hr) (hd : 54 ≤ d) (hp : AP hi p) (ho : 0 ≤ o ∧ o < 20) (hv : o = 2 ∨ o = 3 → 0 ≤ v ∧ v < 10) (hg0 : 0 ≤ hg hi p ∧ hg hi p ≤ 16)
    (hs1 : o = 0 ∨ o = 1 ∨ o = 2 ∨ o = 5 → hg hi p < 16) (hs2 : o = 3 ∨ o = 4 ∨ o = 5 ∨ o = 19 → 1 ≤ hg hi p) (hs3 : o = 6 ∨ (7 ≤ o ∧ o ≤ 18) → 2 ≤ hg hi p) (hq : QB hi)
    (hm : hi 91 p = m) (m0 : 0 ≤ m ∧ m < 12) (h52 : hi 52 m ≤ 2000) (q0 : 0 ≤ qx ∧ qx < 3000) (q : Q (some none) al (exS (bAt hi m) f hi p o v qx) hr) : Ev d 310 [vR (some 49), vI p, vI o, vI v, vI qx] al hi hr Q := by
  have kM : isK al 49 13 := hA.k (by decide) (by decide) rfl
  have k97 : isK al 97 15 := hA.k (by decide) (by decide) rfl
  have l97 : aln al 97 = 192 := hA.len (by decide) (by decide) rfl
  have hb := hp.b
  have hpb := hp.1
  have l91 := SA.len (a := 91) (n := 12) hA (by decide) (by decide) rfl
  have l98 := SA.len (a := 98) (n := 4992) hA (by decide) (by decide) rfl
  have l99 := SA.len (a := 99) (n := 4992) hA (by decide) (by decide) rfl
  have l97 := SA.len (a := 97) (n := 192) hA (by decide) (by decide) rfl
  have ehg : hi 97 (ai hi p) = hg hi p := rfl
  have B96 : o = 0 → Wp d 310 96 [vR (some 49), vI p, vI o, vI v, vI qx, none, none, none, none] [] al hi hr Q := fun z => by
    have hs := hs1 (Or.inl z)
    have e : exS (bAt hi m) f hi p o v qx = psh hi p (wdS (bAt hi m) (qx + 1) 4) 0 := by subst z; rfl
    rw [e] at q
    clear e
    have T : ∀ (j9 : Nat) (j : Nat) (i W : Int), j + j9 = 4 → i = j + 1 → wdS (bAt hi m) (qx + 1) j = W → Wp d 310 102 [vR (some 49), vI p, vI o, vI v, vI qx, vI W, none, vI i, none] [] al hi hr Q := by
      intro j9
      induction j9 with
      | zero =>
        intro j i W hj hi9 hW
        have e4 : j = 4 := by omega
        subst e4
        rw [hW] at q
        refine s310_102.mpr (s310_104.mpr ?_)
        refine s310_105.mpr (wif (fun c105 => ?_) (fun c105 => ?_))
        · skip
          exfalso; omega
        · skip
          refine s310_137.mpr (s310_138.mpr (s310_139.mpr (s310_141.mpr ?_)))
          refine (s310_142 (by omega) kM).mpr ?_
          refine r_push hA hR (by omega) hp ⟨hg0.1, hs⟩ ?_
          refine s310_145.mpr ?_
          refine (s310_463).mpr ?_
          exact q
      | succ j9 ih =>
        intro j i W hj hi9 hW
        have NX := ih (j + 1) (i + 1) (fOr (fShl W 8) (bAt hi m (qx + i))) (by omega) (by omega) (by rw [wdS_s, hW, show qx + 1 + (j : Int) = qx + i by omega])
        clear ih
        have hib : 1 ≤ i ∧ i < 5 := by omega
        clear hW hi9
        refine s310_102.mpr (s310_104.mpr ?_)
        refine s310_105.mpr (wif (fun c105 => ?_) (fun c105 => ?_))
        · skip
          refine s310_108.mpr (s310_110.mpr (s310_112.mpr (s310_113.mpr (s310_114.mpr ((s310_115 kM).mpr ?_)))))
          rw [mr_61 hR]
          refine s310_118.mpr ?_
          try simp (disch := first | decide | assumption | omega) only [kon, knt_some, knt_none, Option.toList_some, Option.toList_none, List.cons_append, List.nil_append, hm, fAdd_id]
          refine (s310_119 (hA.k (by decide) (by decide) rfl) (by first | assumption | omega) (by first | assumption | omega)).mpr ?_
          refine s310_120.mpr (s310_122.mpr (s310_124.mpr ?_))
          try simp (disch := first | decide | assumption | omega) only [kon, knt_some, knt_none, Option.toList_some, Option.toList_none, List.cons_append, List.nil_append, hm, fAdd_id]
          refine (s310_125 (by omega) kM).mpr ?_
          refine (m_byteAt hA hR m0.1 (by omega) h52).mpr ?_
          refine s310_128.mpr (s310_129.mpr (s310_131.mpr (s310_134.mpr ?_)))
          try simp (disch := first | decide | assumption | omega) only [kon, knt_some, knt_none, Option.toList_some, Option.toList_none, List.cons_append, List.nil_append, hm, fAdd_id]
          exact NX
        · skip
          exfalso; omega
    have NX := T 4 0 1 0 (by decide) (by decide) rfl
    clear T
    refine s310_96.mpr (s310_97.mpr (s310_99.mpr (s310_100.mpr ?_)))
    exact NX
  have B148 : o = 1 → Wp d 310 148 [vR (some 49), vI p, vI o, vI v, vI qx, none, none, none, none] [] al hi hr Q := fun z => by
    have hs := hs1 (Or.inr (Or.inl z))
    have e : exS (bAt hi m) f hi p o v qx = psh hi p 0 1 := by subst z; rfl
    rw [e] at q
    refine s310_148.mpr (s310_149.mpr (s310_150.mpr (s310_151.mpr ?_)))
    refine (s310_152 (by omega) kM).mpr ?_
    refine r_push hA hR (by omega) hp ⟨hg0.1, hs⟩ ?_
    refine s310_155.mpr ?_
    refine (s310_463).mpr ?_
    exact q
  have B260 : o = 4 → Wp d 310 260 [vR (some 49), vI p, vI o, vI v, vI qx, none, none, none, none] [] al hi hr Q := fun z => by
    have hs := hs2 (Or.inr (Or.inl z))
    have e : exS (bAt hi m) f hi p o v qx = pp hi p 1 := by subst z; rfl
    rw [e] at q
    refine s310_260.mpr (s310_261.mpr ?_)
    refine (s310_262 (by omega) kM).mpr ?_
    refine r_pop hA hR (by omega) hp ⟨hs, hg0.2⟩ ?_
    refine s310_265.mpr (s310_267.mpr ?_)
    refine (s310_463).mpr ?_
    exact q
  have B270 : o = 5 → Wp d 310 270 [vR (some 49), vI p, vI o, vI v, vI qx, none, none, none, none] [] al hi hr Q := fun z => by
    have hs := hs2 (Or.inr (Or.inr (Or.inl z)))
    have hs' := hs1 (Or.inr (Or.inr (Or.inr z)))
    have e : exS (bAt hi m) f hi p o v qx = psh hi p (tv hi p 0) (ts hi p 0) := by subst z; rfl
    rw [e] at q
    have hI := sk_b (k := hg hi p - 1) hp (by omega)
    refine s310_270.mpr (s310_271.mpr (s310_272.mpr ((s310_273 kM).mpr ?_)))
    rw [mr_67 hR]
    refine s310_276.mpr (s310_277.mpr ?_)
    refine (s310_278 (by omega) kM).mpr ?_
    refine r_act hA hR hp ?_
    refine (s310_281 (hA.k (by decide) (by decide) rfl) (by first | assumption | omega) (by first | assumption | omega)).mpr ?_
    refine s310_282.mpr (s310_283.mpr ?_)
    try simp (disch := first | decide | assumption | omega) only [kon, knt_some, knt_none, Option.toList_some, Option.toList_none, List.cons_append, List.nil_append, ehg, tv_e, ts_e, fSub_id]
    refine (s310_284 (by omega) kM).mpr ?_
    refine r_stack hA hR (by omega) hp (by omega) ?_
    refine s310_287.mpr (s310_289.mpr (s310_290.mpr (s310_291.mpr ((s310_292 kM).mpr ?_))))
    rw [mr_68 hR]
    refine s310_295.mpr ?_
    refine (s310_297 (hA.k (by decide) (by decide) rfl) (by first | assumption | omega) (by first | assumption | omega)).mpr ?_
    refine s310_298.mpr ((s310_299 kM).mpr ?_)
    rw [mr_69 hR]
    refine s310_302.mpr ?_
    try simp (disch := first | decide | assumption | omega) only [kon, knt_some, knt_none, Option.toList_some, Option.toList_none, List.cons_append, List.nil_append, ehg, tv_e, ts_e, fSub_id]
    refine (s310_304 (hA.k (by decide) (by decide) rfl) (by first | assumption | omega) (by first | assumption | omega)).mpr ?_
    try simp (disch := first | decide | assumption | omega) only [kon, knt_some, knt_none, Option.toList_some, Option.toList_none, List.cons_append, List.nil_append, ehg, tv_e, ts_e, fSub_id]
    refine (s310_305 (by omega) kM).mpr ?_
    refine r_push hA hR (by omega) hp ⟨hg0.1, hs'⟩ ?_
    refine s310_308.mpr ?_
    refine (s310_463).mpr ?_
    exact q
  have B222 : o = 3 → Wp d 310 222 [vR (some 49), vI p, vI o, vI v, vI qx, none, none, none, none] [] al hi hr Q := fun z => by
    have hs := hs2 (Or.inl z)
    have hv2 := hv (Or.inr z)
    have e : exS (bAt hi m) f hi p o v qx = st2 (pp hi p 1) (26 * ai hi p + v) (tv hi p 0) (ts hi p 0) := by subst z; rfl
    rw [e] at q
    have hI := sk_b (k := hg hi p - 1) hp (by omega)
    have e98 : pp hi p 1 98 (sk hi p (hg hi p - 1)) = tv hi p 0 := (ppz_n (by decide)).trans tv_e
    have e99 : pp hi p 1 99 (sk hi p (hg hi p - 1)) = ts hi p 0 := (ppz_n (by decide)).trans ts_e
    have eai : ai (pp hi p 1) p = ai hi p := ppz_ai
    have hp2 : AP (pp hi p 1) p := hp.po
    refine s310_222.mpr (s310_223.mpr ?_)
    refine (s310_224 (by omega) kM).mpr ?_
    refine r_pop hA hR (by omega) hp ⟨hs, hg0.2⟩ ?_
    refine s310_227.mpr (s310_229.mpr (s310_230.mpr (s310_232.mpr (s310_233.mpr ?_))))
    refine (s310_234 (by omega) kM).mpr ?_
    refine r_act hA hR hp2 ?_
    refine s310_237.mpr (s310_238.mpr (s310_239.mpr (s310_240.mpr ((s310_241 kM).mpr ?_))))
    rw [mr_68 hR]
    refine s310_244.mpr ?_
    try simp (disch := first | decide | assumption | omega) only [kon, knt_some, knt_none, Option.toList_some, Option.toList_none, List.cons_append, List.nil_append, e98, e99, eai, fAdd_id, fMul_id]
    refine (s310_246 (hA.k (by decide) (by decide) rfl) (by first | assumption | omega) (by first | assumption | omega)).mpr ?_
    refine s310_247.mpr ((s310_248 kM).mpr ?_)
    rw [mr_69 hR]
    refine s310_251.mpr ?_
    try simp (disch := first | decide | assumption | omega) only [kon, knt_some, knt_none, Option.toList_some, Option.toList_none, List.cons_append, List.nil_append, e98, e99, eai, fAdd_id, fMul_id]
    refine (s310_253 (hA.k (by decide) (by decide) rfl) (by first | assumption | omega) (by first | assumption | omega)).mpr ?_
    try simp (disch := first | decide | assumption | omega) only [kon, knt_some, knt_none, Option.toList_some, Option.toList_none, List.cons_append, List.nil_append, e98, e99, eai, fAdd_id, fMul_id]
    refine (s310_254 (by omega) kM).mpr ?_
    refine r_set hA hR (by omega) ?_
    refine s310_257.mpr ?_
    refine (s310_463).mpr ?_
    exact q
  have B158 : o = 2 → Wp d 310 158 [vR (some 49), vI p, vI o, vI v, vI qx, none, none, none, none] [] al hi hr Q := fun z => by
    have hs := hs1 (Or.inr (Or.inr (Or.inl z)))
    have hv2 := hv (Or.inl z)
    obtain ⟨I, hI⟩ : ∃ I, 26 * ai hi p + v = I := ⟨_, rfl⟩
    have hIb : 0 ≤ I ∧ I < 4992 := by omega
    have e : exS (bAt hi m) f hi p o v qx = if hi 99 I = 2 ∨ hi 99 I = 3 then st2 (psh hi p (hi 98 I) (hi 99 I)) I 0 4 else psh hi p (hi 98 I) (hi 99 I) := by subst z; subst hI; rfl
    rw [e] at q
    have hnI : I ≠ sk hi p (hg hi p) := by unfold sk; omega
    have e99 : psh hi p (hi 98 I) (hi 99 I) 99 I = hi 99 I := by unfold psh st2; rw [upI_a (by decide), upI_i hnI, upI_a (by decide)]
    by_cases c : hi 99 I = 2 ∨ hi 99 I = 3
    · rw [if_pos c] at q
      refine s310_158.mpr (s310_160.mpr (s310_161.mpr ?_))
      refine (s310_162 (by omega) kM).mpr ?_
      refine r_act hA hR hp ?_
      refine s310_165.mpr (s310_166.mpr (s310_167.mpr (s310_168.mpr (s310_170.mpr (s310_171.mpr ?_)))))
      refine s310_172.mpr ((s310_173 kM).mpr ?_)
      rw [mr_68 hR]
      refine s310_176.mpr ?_
      try simp (disch := first | decide | assumption | omega) only [kon, knt_some, knt_none, Option.toList_some, Option.toList_none, List.cons_append, List.nil_append, hI, e99, fAdd_id, fMul_id]
      refine (s310_178 (hA.k (by decide) (by decide) rfl) (by first | assumption | omega) (by first | assumption | omega)).mpr ?_
      refine s310_179.mpr ((s310_180 kM).mpr ?_)
      rw [mr_69 hR]
      refine s310_183.mpr ?_
      try simp (disch := first | decide | assumption | omega) only [kon, knt_some, knt_none, Option.toList_some, Option.toList_none, List.cons_append, List.nil_append, hI, e99, fAdd_id, fMul_id]
      refine (s310_185 (hA.k (by decide) (by decide) rfl) (by first | assumption | omega) (by first | assumption | omega)).mpr ?_
      try simp (disch := first | decide | assumption | omega) only [kon, knt_some, knt_none, Option.toList_some, Option.toList_none, List.cons_append, List.nil_append, hI, e99, fAdd_id, fMul_id]
      refine (s310_186 (by omega) kM).mpr ?_
      refine r_push hA hR (by omega) hp ⟨hg0.1, hs⟩ ?_
      refine s310_189.mpr ((s310_190 kM).mpr ?_)
      rw [mr_69 hR]
      refine s310_193.mpr ?_
      refine (s310_195 (hA.k (by decide) (by decide) rfl) (by first | assumption | omega) (by first | assumption | omega)).mpr ?_
      refine s310_196.mpr ?_
      try simp (disch := first | decide | assumption | omega) only [kon, knt_some, knt_none, Option.toList_some, Option.toList_none, List.cons_append, List.nil_append, hI, e99, fAdd_id, fMul_id]
      refine s310_197.mpr (wif (fun c197 => ?_) (fun c197 => ?_))
      · skip
        refine s310_211.mpr (s310_212.mpr (s310_214.mpr (s310_215.mpr ?_)))
        refine (s310_216 (by omega) kM).mpr ?_
        refine r_set hA hR hIb ?_
        refine s310_219.mpr ?_
        refine (s310_463).mpr ?_
        first | exact q | (exfalso; omega)
      · skip
        refine s310_200.mpr ((s310_201 kM).mpr ?_)
        rw [mr_69 hR]
        refine s310_204.mpr ?_
        refine (s310_206 (hA.k (by decide) (by decide) rfl) (by first | assumption | omega) (by first | assumption | omega)).mpr ?_
        refine s310_207.mpr ?_
        try simp (disch := first | decide | assumption | omega) only [kon, knt_some, knt_none, Option.toList_some, Option.toList_none, List.cons_append, List.nil_append, hI, e99, fAdd_id, fMul_id]
        refine s310_208.mpr (wif (fun c208 => ?_) (fun c208 => ?_))
        · skip
          refine s310_211.mpr (s310_212.mpr (s310_214.mpr (s310_215.mpr ?_)))
          refine (s310_216 (by omega) kM).mpr ?_
          refine r_set hA hR hIb ?_
          refine s310_219.mpr ?_
          refine (s310_463).mpr ?_
          first | exact q | (exfalso; omega)
        · skip
          refine (s310_463).mpr ?_
          first | exact q | (exfalso; omega)
    · rw [if_neg c] at q
      refine s310_158.mpr (s310_160.mpr (s310_161.mpr ?_))
      refine (s310_162 (by omega) kM).mpr ?_
      refine r_act hA hR hp ?_
      refine s310_165.mpr (s310_166.mpr (s310_167.mpr (s310_168.mpr (s310_170.mpr (s310_171.mpr ?_)))))
      refine s310_172.mpr ((s310_173 kM).mpr ?_)
      rw [mr_68 hR]
      refine s310_176.mpr ?_
      try simp (disch := first | decide | assumption | omega) only [kon, knt_some, knt_none, Option.toList_some, Option.toList_none, List.cons_append, List.nil_append, hI, e99, fAdd_id, fMul_id]
      refine (s310_178 (hA.k (by decide) (by decide) rfl) (by first | assumption | omega) (by first | assumption | omega)).mpr ?_
      refine s310_179.mpr ((s310_180 kM).mpr ?_)
      rw [mr_69 hR]
      refine s310_183.mpr ?_
      try simp (disch := first | decide | assumption | omega) only [kon, knt_some, knt_none, Option.toList_some, Option.toList_none, List.cons_append, List.nil_append, hI, e99, fAdd_id, fMul_id]
      refine (s310_185 (hA.k (by decide) (by decide) rfl) (by first | assumption | omega) (by first | assumption | omega)).mpr ?_
      try simp (disch := first | decide | assumption | omega) only [kon, knt_some, knt_none, Option.toList_some, Option.toList_none, List.cons_append, List.nil_append, hI, e99, fAdd_id, fMul_id]
      refine (s310_186 (by omega) kM).mpr ?_
      refine r_push hA hR (by omega) hp ⟨hg0.1, hs⟩ ?_
      refine s310_189.mpr ((s310_190 kM).mpr ?_)
      rw [mr_69 hR]
      refine s310_193.mpr ?_
      refine (s310_195 (hA.k (by decide) (by decide) rfl) (by first | assumption | omega) (by first | assumption | omega)).mpr ?_
      refine s310_196.mpr ?_
      try simp (disch := first | decide | assumption | omega) only [kon, knt_some, knt_none, Option.toList_some, Option.toList_none, List.cons_append, List.nil_append, hI, e99, fAdd_id, fMul_id]
      refine s310_197.mpr (wif (fun c197 => ?_) (fun c197 => ?_))
      · skip
        exfalso; omega
      · skip
        refine s310_200.mpr ((s310_201 kM).mpr ?_)
        rw [mr_69 hR]
        refine s310_204.mpr ?_
        refine (s310_206 (hA.k (by decide) (by decide) rfl) (by first | assumption | omega) (by first | assumption | omega)).mpr ?_
        refine s310_207.mpr ?_
        try simp (disch := first | decide | assumption | omega) only [kon, knt_some, knt_none, Option.toList_some, Option.toList_none, List.cons_append, List.nil_append, hI, e99, fAdd_id, fMul_id]
        refine s310_208.mpr (wif (fun c208 => ?_) (fun c208 => ?_))
        · skip
          exfalso; omega
        · skip
          refine (s310_463).mpr ?_
          exact q
  have B311 : o = 6 → Wp d 310 311 [vR (some 49), vI p, vI o, vI v, vI qx, none, none, none, none] [] al hi hr Q := fun z => by
    have hs := hs3 (Or.inl z)
    have e : exS (bAt hi m) f hi p o v qx = st2 (st2 hi (sk hi p (hg hi p - 1)) (tv hi p 1) (ts hi p 1)) (sk hi p (hg hi p - 1) - 1) (tv hi p 0) (ts hi p 0) := by subst z; rfl
    rw [e] at q
    have hI := sk_b (k := hg hi p - 1) hp (by omega)
    have hI2 : 0 ≤ sk hi p (hg hi p - 1) - 1 := by unfold sk; omega
    have e98 : hi 98 (sk hi p (hg hi p - 1) - 1) = tv hi p 1 := by unfold tv sk; rw [show 26 * ai hi p + 10 + (hg hi p - 1) - 1 = 26 * ai hi p + 10 + (hg hi p - 1 - 1) by omega]
    have e99 : hi 99 (sk hi p (hg hi p - 1) - 1) = ts hi p 1 := by unfold ts sk; rw [show 26 * ai hi p + 10 + (hg hi p - 1) - 1 = 26 * ai hi p + 10 + (hg hi p - 1 - 1) by omega]
    refine s310_311.mpr (s310_312.mpr (s310_313.mpr ((s310_314 kM).mpr ?_)))
    rw [mr_67 hR]
    refine s310_317.mpr (s310_318.mpr ?_)
    refine (s310_319 (by omega) kM).mpr ?_
    refine r_act hA hR hp ?_
    refine (s310_322 (hA.k (by decide) (by decide) rfl) (by first | assumption | omega) (by first | assumption | omega)).mpr ?_
    refine s310_323.mpr (s310_324.mpr ?_)
    try simp (disch := first | decide | assumption | omega) only [kon, knt_some, knt_none, Option.toList_some, Option.toList_none, List.cons_append, List.nil_append, ehg, tv_e, ts_e, e98, e99, fSub_id]
    refine (s310_325 (by omega) kM).mpr ?_
    refine r_stack hA hR (by omega) hp (by omega) ?_
    refine s310_328.mpr (s310_330.mpr ((s310_331 kM).mpr ?_))
    rw [mr_68 hR]
    refine s310_334.mpr ?_
    refine (s310_336 (hA.k (by decide) (by decide) rfl) (by first | assumption | omega) (by first | assumption | omega)).mpr ?_
    refine s310_337.mpr (s310_339.mpr ((s310_340 kM).mpr ?_))
    rw [mr_69 hR]
    refine s310_343.mpr ?_
    try simp (disch := first | decide | assumption | omega) only [kon, knt_some, knt_none, Option.toList_some, Option.toList_none, List.cons_append, List.nil_append, ehg, tv_e, ts_e, e98, e99, fSub_id]
    refine (s310_345 (hA.k (by decide) (by decide) rfl) (by first | assumption | omega) (by first | assumption | omega)).mpr ?_
    refine s310_346.mpr (s310_348.mpr (s310_349.mpr (s310_351.mpr ((s310_352 kM).mpr ?_))))
    rw [mr_68 hR]
    refine s310_355.mpr (s310_357.mpr (s310_358.mpr ?_))
    try simp (disch := first | decide | assumption | omega) only [kon, knt_some, knt_none, Option.toList_some, Option.toList_none, List.cons_append, List.nil_append, ehg, tv_e, ts_e, e98, e99, fSub_id]
    refine (s310_359 (hA.k (by decide) (by decide) rfl) (by first | assumption | omega) (by first | assumption | omega)).mpr ?_
    refine s310_360.mpr ((s310_361 kM).mpr ?_)
    rw [mr_69 hR]
    refine s310_364.mpr (s310_366.mpr (s310_367.mpr ?_))
    try simp (disch := first | decide | assumption | omega) only [kon, knt_some, knt_none, Option.toList_some, Option.toList_none, List.cons_append, List.nil_append, ehg, tv_e, ts_e, e98, e99, fSub_id]
    refine (s310_368 (hA.k (by decide) (by decide) rfl) (by first | assumption | omega) (by first | assumption | omega)).mpr ?_
    try simp (disch := first | decide | assumption | omega) only [kon, knt_some, knt_none, Option.toList_some, Option.toList_none, List.cons_append, List.nil_append, ehg, tv_e, ts_e, e98, e99, fSub_id]
    refine (s310_369 (by omega) kM).mpr ?_
    refine r_set hA hR (by omega) ?_
    refine s310_372.mpr (s310_373.mpr (s310_375.mpr (s310_376.mpr (s310_377.mpr (s310_379.mpr ?_)))))
    try simp (disch := first | decide | assumption | omega) only [kon, knt_some, knt_none, Option.toList_some, Option.toList_none, List.cons_append, List.nil_append, ehg, tv_e, ts_e, e98, e99, fSub_id]
    refine (s310_381 (by omega) kM).mpr ?_
    refine r_set hA hR (by omega) ?_
    refine s310_384.mpr ?_
    refine (s310_463).mpr ?_
    exact q
  have B387 : o = 19 → Wp d 310 387 [vR (some 49), vI p, vI o, vI v, vI qx, none, none, none, none] [] al hi hr Q := fun z => by
    have hs := hs2 (Or.inr (Or.inr (Or.inr z)))
    have e : exS (bAt hi m) f hi p o v qx = psh (pp hi p 1) p (if tv hi p 0 = 0 then 1 else 0) 0 := by subst z; rfl
    rw [e] at q
    have hp2 : AP (pp hi p 1) p := hp.po
    have hh2 : hg (pp hi p 1) p = hg hi p - 1 := ppz_hg
    by_cases c : tv hi p 0 = 0
    · rw [if_pos c] at q
      refine s310_387.mpr (s310_388.mpr (s310_389.mpr (s310_390.mpr ?_)))
      refine (s310_391 (by omega) kM).mpr ?_
      refine r_popValue hA hR (by omega) hp ⟨hs, hg0.2⟩ ?_
      refine s310_394.mpr (wif (fun c394 => ?_) (fun c394 => ?_))
      · skip
        refine s310_397.mpr (s310_398.mpr (s310_402.mpr ?_))
        refine (s310_403 (by omega) kM).mpr ?_
        refine r_push hA hR (by omega) hp2 (by rw [hh2]; omega) ?_
        refine s310_406.mpr ?_
        refine (s310_463).mpr ?_
        first | exact q | exact absurd c (by assumption)
      · skip
        refine s310_401.mpr (s310_402.mpr ?_)
        refine (s310_403 (by omega) kM).mpr ?_
        refine r_push hA hR (by omega) hp2 (by rw [hh2]; omega) ?_
        refine s310_406.mpr ?_
        refine (s310_463).mpr ?_
        first | exact q | exact absurd c (by assumption)
    · rw [if_neg c] at q
      refine s310_387.mpr (s310_388.mpr (s310_389.mpr (s310_390.mpr ?_)))
      refine (s310_391 (by omega) kM).mpr ?_
      refine r_popValue hA hR (by omega) hp ⟨hs, hg0.2⟩ ?_
      refine s310_394.mpr (wif (fun c394 => ?_) (fun c394 => ?_))
      · skip
        refine s310_397.mpr (s310_398.mpr (s310_402.mpr ?_))
        refine (s310_403 (by omega) kM).mpr ?_
        refine r_push hA hR (by omega) hp2 (by rw [hh2]; omega) ?_
        refine s310_406.mpr ?_
        refine (s310_463).mpr ?_
        first | exact q | exact absurd (by assumption) c
      · skip
        refine s310_401.mpr (s310_402.mpr ?_)
        refine (s310_403 (by omega) kM).mpr ?_
        refine r_push hA hR (by omega) hp2 (by rw [hh2]; omega) ?_
        refine s310_406.mpr ?_
        refine (s310_463).mpr ?_
        first | exact q | exact absurd (by assumption) c
  have B409 : 7 ≤ o ∧ o ≤ 18 → Wp d 310 409 [vR (some 49), vI p, vI o, vI v, vI qx, none, none, none, none] [] al hi hr Q := fun z => by
    have hs := hs3 (Or.inr z)
    have e : exS (bAt hi m) f hi p o v qx = if (o = 10 ∨ o = 11) ∧ tv hi p 0 = 0 then trpS (pp hi p 2) p 3 else psh (pp hi p 2) p (rek o (tv hi p 1) (tv hi p 0)) 0 := by
      unfold exS
      rw [if_neg (by omega), if_neg (by omega), if_neg (by omega), if_neg (by omega), if_neg (by omega), if_neg (by omega), if_neg (by omega), if_neg (by omega), if_pos (by omega)]
    rw [e] at q
    have hp1 : AP (pp hi p 1) p := hp.po
    have hh1 : hg (pp hi p 1) p = hg hi p - 1 := ppz_hg
    have hp2 : AP (pp hi p 2) p := hp.po
    have hh2 : hg (pp hi p 2) p = hg hi p - 2 := ppz_hg
    have ep : pp (pp hi p 1) p 1 = pp hi p 2 := pp_pp
    have et : tv (pp hi p 1) p 0 = tv hi p 1 := tv_pp
    have hq2 : QB (pp hi p 2) := hq.eq (fun _ => ppz_n (by decide)) (fun _ => ppz_n (by decide)) (fun _ => ppz_n (by decide)) (fun _ => ppz_n (by decide))
    by_cases c : (o = 10 ∨ o = 11) ∧ tv hi p 0 = 0
    · rw [if_pos c] at q
      refine s310_409.mpr (s310_410.mpr ?_)
      refine (s310_411 (by omega) kM).mpr ?_
      first | refine r_popValue hA hR (by omega) hp ⟨by omega, hg0.2⟩ ?_ | refine r_popValue hA hR (by omega) hp1 (by rw [hh1]; omega) ?_
      refine s310_414.mpr (s310_416.mpr (s310_417.mpr ?_))
      refine (s310_418 (by omega) kM).mpr ?_
      first | refine r_popValue hA hR (by omega) hp ⟨by omega, hg0.2⟩ ?_ | refine r_popValue hA hR (by omega) hp1 (by rw [hh1]; omega) ?_
      refine s310_421.mpr (s310_423.mpr (s310_424.mpr ?_))
      refine s310_426.mpr (wif (fun c426 => ?_) (fun c426 => ?_))
      · first
        | (exfalso; omega)
        | skip
          refine s310_435.mpr ?_
          refine s310_437.mpr (wif (fun c437 => ?_) (fun c437 => ?_))
          · first
            | (exfalso; omega)
            | skip
              refine s310_440.mpr (s310_441.mpr (s310_442.mpr ?_))
              refine (s310_443 (by omega) kM).mpr ?_
              (try rw [ep]); refine r_trap hA hR (by omega) hq2 hp.1 ?_
              refine s310_446.mpr ?_
              refine (s310_463).mpr ?_
              exact q
          · first
            | (exfalso; omega)
            | skip
              exfalso; omega
      · first
        | (exfalso; omega)
        | skip
          refine s310_429.mpr (s310_430.mpr ?_)
          refine s310_432.mpr (wif (fun c432 => ?_) (fun c432 => ?_))
          · first
            | (exfalso; omega)
            | skip
              refine s310_435.mpr ?_
              refine s310_437.mpr (wif (fun c437 => ?_) (fun c437 => ?_))
              · first
                | (exfalso; omega)
                | skip
                  refine s310_440.mpr (s310_441.mpr (s310_442.mpr ?_))
                  refine (s310_443 (by omega) kM).mpr ?_
                  (try rw [ep]); refine r_trap hA hR (by omega) hq2 hp.1 ?_
                  refine s310_446.mpr ?_
                  refine (s310_463).mpr ?_
                  exact q
              · first
                | (exfalso; omega)
                | skip
                  exfalso; omega
          · first
            | (exfalso; omega)
            | skip
              exfalso; omega
    · rw [if_neg c] at q
      have hy : o = 10 ∨ o = 11 → tv hi p 0 ≠ 0 := fun z1 z2 => c ⟨z1, z2⟩
      refine s310_409.mpr (s310_410.mpr ?_)
      refine (s310_411 (by omega) kM).mpr ?_
      first | refine r_popValue hA hR (by omega) hp ⟨by omega, hg0.2⟩ ?_ | refine r_popValue hA hR (by omega) hp1 (by rw [hh1]; omega) ?_
      refine s310_414.mpr (s310_416.mpr (s310_417.mpr ?_))
      refine (s310_418 (by omega) kM).mpr ?_
      first | refine r_popValue hA hR (by omega) hp ⟨by omega, hg0.2⟩ ?_ | refine r_popValue hA hR (by omega) hp1 (by rw [hh1]; omega) ?_
      refine s310_421.mpr (s310_423.mpr (s310_424.mpr ?_))
      refine s310_426.mpr (wif (fun c426 => ?_) (fun c426 => ?_))
      · first
        | (exfalso; omega)
        | skip
          refine s310_435.mpr ?_
          refine s310_437.mpr (wif (fun c437 => ?_) (fun c437 => ?_))
          · first
            | (exfalso; omega)
            | skip
              exfalso; omega
          · first
            | (exfalso; omega)
            | skip
              refine s310_449.mpr (s310_450.mpr (s310_451.mpr (s310_452.mpr (s310_454.mpr ?_))))
              refine (s310_456 (by omega)).mpr ?_
              refine r_reckon z hy ?_
              refine s310_459.mpr ?_
              refine (s310_460 (by omega) kM).mpr ?_
              (try rw [ep]); refine r_push hA hR (by omega) hp2 (by rw [hh2]; omega) ?_
              refine (s310_463).mpr ?_
              rw [et]; exact q
      · first
        | (exfalso; omega)
        | skip
          refine s310_429.mpr (s310_430.mpr ?_)
          refine s310_432.mpr (wif (fun c432 => ?_) (fun c432 => ?_))
          · first
            | (exfalso; omega)
            | skip
              refine s310_435.mpr ?_
              refine s310_437.mpr (wif (fun c437 => ?_) (fun c437 => ?_))
              · first
                | (exfalso; omega)
                | skip
                  exfalso; omega
              · first
                | (exfalso; omega)
                | skip
                  refine s310_449.mpr (s310_450.mpr (s310_451.mpr (s310_452.mpr (s310_454.mpr ?_))))
                  refine (s310_456 (by omega)).mpr ?_
                  refine r_reckon z hy ?_
                  refine s310_459.mpr ?_
                  refine (s310_460 (by omega) kM).mpr ?_
                  (try rw [ep]); refine r_push hA hR (by omega) hp2 (by rw [hh2]; omega) ?_
                  refine (s310_463).mpr ?_
                  rw [et]; exact q
          · first
            | (exfalso; omega)
            | skip
              refine s310_449.mpr (s310_450.mpr (s310_451.mpr (s310_452.mpr (s310_454.mpr ?_))))
              refine (s310_456 (by omega)).mpr ?_
              refine r_reckon z hy ?_
              refine s310_459.mpr ?_
              refine (s310_460 (by omega) kM).mpr ?_
              (try rw [ep]); refine r_push hA hR (by omega) hp2 (by rw [hh2]; omega) ?_
              refine (s310_463).mpr ?_
              rw [et]; exact q
  rw [e310]
  refine s310_0.mpr ?_
  refine g310_1 (fun c1 => ?_) (fun c1 => ?_) (fun c1 => ?_) (fun c1 => ?_) (fun c1 => ?_) (fun c1 => ?_) (fun c1 => ?_) (fun c1 => ?_) (fun c1 => ?_)
  · skip
    have c1 := List.mem_singleton.mp c1
    exact B96 (by assumption)
  · skip
    have c1 := List.mem_singleton.mp c1
    exact B148 (by assumption)
  · skip
    have c1 := List.mem_singleton.mp c1
    exact B158 (by assumption)
  · skip
    have c1 := List.mem_singleton.mp c1
    exact B222 (by assumption)
  · skip
    have c1 := List.mem_singleton.mp c1
    exact B260 (by assumption)
  · skip
    have c1 := List.mem_singleton.mp c1
    exact B270 (by assumption)
  · skip
    have c1 := List.mem_singleton.mp c1
    exact B311 (by assumption)
  · skip
    have c1 := List.mem_singleton.mp c1
    exact B387 (by assumption)
  · skip
    exact B409 (by simp only [List.mem_cons, List.not_mem_nil, or_false, not_or] at c1; omega)
end RN0
