section MT6
variable {d : Nat} {al : AL} {hi : HI} {hr : HR} {Q : QQ} {B : Int → Int}
theorem MB.fw {hi' : HI} {m : Int} (h : MB hi m B) (hu : ∀ a i, 51 ≤ a → a ≤ 69 → hi' a i = hi a i) : MB hi' m B := by
  obtain ⟨a, b, c, e, m1, m2, m3, m4, m5, m6⟩ := h
  have hB : bAt hi' m = bAt hi m := by
    funext k; unfold bAt; rw [hu 52 _ (by decide) (by decide), hu 51 _ (by decide) (by decide)]
  have u := fun a i (h1 : 51 ≤ a) (h2 : a ≤ 69) {x : Int} (hx : hi a i = x) => (hu a i h1 h2).trans hx
  refine ⟨a, b, by rw [hu 52 m (by decide) (by decide)]; exact c, hB.trans e, u _ _ (by decide) (by decide) m1, fun r r0 r1 => ⟨u _ _ (by decide) (by decide) (m2 r r0 r1).1, fun k k0 k1 => u _ _ (by decide) (by decide) ((m2 r r0 r1).2 k k0 k1)⟩, u _ _ (by decide) (by decide) m3, fun c c0 c1 => ?_, u _ _ (by decide) (by decide) m5, fun f f0 f1 => ?_⟩
  · obtain ⟨q1, q2⟩ := m4 c c0 c1
    exact ⟨u _ _ (by decide) (by decide) q1, fun s s0 s1 => ⟨u _ _ (by decide) (by decide) (q2 s s0 s1).1, u _ _ (by decide) (by decide) (q2 s s0 s1).2.1, fun t t0 t1 => ⟨u _ _ (by decide) (by decide) ((q2 s s0 s1).2.2 t t0 t1).1, u _ _ (by decide) (by decide) ((q2 s s0 s1).2.2 t t0 t1).2⟩⟩⟩
  · obtain ⟨q1, q2, q3, q4, q5, q6⟩ := m6 f f0 f1
    exact ⟨u _ _ (by decide) (by decide) q1, fun k k0 k1 => u _ _ (by decide) (by decide) (q2 k k0 k1), u _ _ (by decide) (by decide) q3, u _ _ (by decide) (by decide) q4, u _ _ (by decide) (by decide) q5, u _ _ (by decide) (by decide) q6⟩
theorem wS_n {a : Nat} {i : Int} (h1 : 51 ≤ a) (h2 : a ≤ 69) : ¬ wS a i := by unfold wS; omega
theorem MB.ws {hi' : HI} {m : Int} (h : MB hi m B) (hw : FW wS hi hi') : MB hi' m B := h.fw (fun a i h1 h2 => hw a i (wS_n h1 h2))
section
variable {op v p f : Int} {X : Tst}
theorem tsL_37a (h : op = 37) (hb : 0 < X.1 ∧ endT B (X.2.1 (X.1 - 1)) v ∧ ldT B (X.2.1 (X.1 - 1)) v = -1) : tsL B f op v p X = some [(p + 2, (X.1, up1 X.2.1 (X.1 - 1) (nxT B (X.2.1 (X.1 - 1)) v), X.2.2))] := by subst h; exact if_pos hb
theorem tsL_37b (h : op = 37) (hb : ¬ (0 < X.1 ∧ endT B (X.2.1 (X.1 - 1)) v ∧ ldT B (X.2.1 (X.1 - 1)) v = -1)) : tsL B f op v p X = onw (1 < X.1 ∧ endT B (X.2.1 (X.1 - 2)) v ∧ ldT B (X.2.1 (X.1 - 2)) v ≠ -1 ∧ leT (X.2.1 (X.1 - 1)) (ldT B (X.2.1 (X.1 - 2)) v)) [(p + 2, (X.1 - 1, up1 X.2.1 (X.1 - 2) (nxT B (X.2.1 (X.1 - 2)) v), X.2.2))] := by subst h; exact if_neg hb
end
theorem m_l40 {m g op v p t : Int} (hA : SA al) (hR : MR hr) (hd : 5 ≤ d) (hM : MB hi m B) (hS : Sh B) (h36 : hi 49 36 = 1) (h38 : hi 49 38 = 0) (ht : hi 49 35 = t) (ht0 : 0 ≤ t ∧ t ≤ 16) (hvX : vX B (t, hi 75, hi 76)) (c1 : op = 40) (hv0 : 0 ≤ v) (hvn : v < nFn B)
    (ok : ∀ L Y hi', tsL B g op v p (t, hi 75, hi 76) = some L → FLW op v p Y L → FW wS hi hi' → hi' 49 36 = 1 → hi' 49 38 = 0 → scX hi' = Y → Q (some none) al hi' hr)
    (no : ∀ hi', tsL B g op v p (t, hi 75, hi 76) = none → FW wS hi hi' → hi' 49 36 = 0 → Q (some none) al hi' hr) : Wp d 258 307 [vR (some 49), vI m, vI (10 * m + g), vI op, vI v, none, none, none] [] al hi hr Q := by
  have kM : isK al 49 13 := hA.k (by decide) (by decide) rfl
  obtain ⟨hm0, hm1, h52, hB, m1, m2, m3, m4, m5, m6⟩ := id hM
  have f1 : nFn B ≤ 10 := hS.2.2.2.2.2.2.2.2.2.1
  obtain ⟨n0, n4, -⟩ := hS.2.2.2.2.2.2.2.2.2.2 v hv0 hvn
  obtain ⟨q1, q2, q3, q4, q5, q6⟩ := m6 v hv0 hvn
  have q1 : hi 64 (10 * m + v) = nPar B v := q1
  have q3 : hi 66 (10 * m + v) = rTy B v := q3
  have l64 := SA.len (a := 64) (n := 130) hA (by decide) (by decide) rfl
  have l65 := SA.len (a := 65) (n := 520) hA (by decide) (by decide) rfl
  have l66 := SA.len (a := 66) (n := 130) hA (by decide) (by decide) rfl
  -- behind the loop
  have T384 : ∀ (C : Prop) (hi' : HI) (r : Int) l7, hi' = hi ∧ r = 1 ∨ hi' = upI hi 49 36 0 ∧ r = 0 → (r = 1 ↔ C) → (C ↔ (rTy B v = -1 ∧ ∀ k, 0 ≤ k → k < nPar B v → ¬ heapT (pTy B v k))) → Wp d 258 384 [vR (some 49), vI m, vI (10 * m + g), vI op, vI v, none, vI (10 * m + v), l7] [] al hi' hr Q := by
    intro C hi' r l7 h hr1 hC
    have hw : FW wS hi hi' := by
      rcases h with ⟨rfl, -⟩ | ⟨rfl, -⟩
      · exact FW.rf
      · exact FW.up FW.rf (by unfold wS; omega)
    have g36 : hi' 49 36 = r := by
      rcases h with ⟨rfl, rfl⟩ | ⟨rfl, rfl⟩
      · exact h36
      · exact upI_eq
    have g35 : hi' 49 35 = t := by
      rcases h with ⟨rfl, -⟩ | ⟨rfl, -⟩
      · exact ht
      · rw [upI_i (by decide)]; exact ht
    have g75 : hi' 75 = hi 75 := by
      rcases h with ⟨rfl, -⟩ | ⟨rfl, -⟩
      · rfl
      · exact upI_ro (by decide)
    have g76 : hi' 76 = hi 76 := by
      rcases h with ⟨rfl, -⟩ | ⟨rfl, -⟩
      · rfl
      · exact upI_ro (by decide)
    have g38 : hi' 49 38 = 0 := by
      rcases h with ⟨rfl, -⟩ | ⟨rfl, -⟩
      · exact h38
      · rw [upI_i (by decide)]; exact h38
    refine s258_384.mpr (s258_385.mpr ?_)
    refine (s258_387 (by omega) kM).mpr ?_
    refine m_takes (B := B) hA hR (by omega) (hM.ws hw) ⟨hv0, hvn⟩ hS g36 (by omega) g35 ht0 (fun y387 z387 x387 => ?_) (fun hi387 w387 z387 x387 => ?_)
    · skip
      refine s258_390.mpr ?_
      refine (s258_401).mpr ?_
      first | (exact ok _ _ _ ((tsL_40 c1).trans (onw_p ⟨(hC.mp (hr1.mp y387)).1, (hC.mp (hr1.mp y387)).2, z387, by rw [g75] at x387; exact x387⟩)) (flw1 (by rw [c1]; decide)) (FW.up hw (by unfold wS; omega)) (by rw [upI_i (by decide)]; omega) (by rw [upI_i (by decide)]; exact g38) (by simp (disch := decide) only [scX, upI_eq, upI_a, upI_i, upR_eq, upR_a, upR_i, upI_ro, g75, g76])) | (exact no _ ((tsL_40 c1).trans (onw_n (by intro h9; rcases x387 with h8 | h8; (have := hr1.mpr (hC.mpr ⟨h9.1, h9.2.1⟩); omega); (rw [g75] at h8; exact h8 h9.2.2)))) (hw.tr w387) z387)
    · skip
      refine s258_390.mpr ?_
      refine (s258_401).mpr ?_
      first | (exact ok _ _ _ ((tsL_40 c1).trans (onw_p ⟨(hC.mp (hr1.mp y387)).1, (hC.mp (hr1.mp y387)).2, z387, by rw [g75] at x387; exact x387⟩)) (flw1 (by rw [c1]; decide)) (FW.up hw (by unfold wS; omega)) (by rw [upI_i (by decide)]; omega) (by rw [upI_i (by decide)]; exact g38) (by simp (disch := decide) only [scX, upI_eq, upI_a, upI_i, upR_eq, upR_a, upR_i, upI_ro, g75, g76])) | (exact no _ ((tsL_40 c1).trans (onw_n (by intro h9; rcases x387 with h8 | h8; (have := hr1.mpr (hC.mpr ⟨h9.1, h9.2.1⟩); omega); (rw [g75] at h8; exact h8 h9.2.2)))) (hw.tr w387) z387)
  have T339 : ∀ (hi' : HI), (hi' = hi ∧ rTy B v = -1) ∨ (hi' = upI hi 49 36 0 ∧ ¬ rTy B v = -1) → Wp d 258 339 [vR (some 49), vI m, vI (10 * m + g), vI op, vI v, none, vI (10 * m + v), vI 0] [] al hi' hr Q := by
    intro hi' h0
    refine wp_cnt (N := (nPar B v).toNat) (fun k ls hi2 => ls = [vR (some 49), vI m, vI (10 * m + g), vI op, vI v, none, vI (10 * m + v), vI k] ∧ ((hi2 = hi ∧ (rTy B v = -1 ∧ ∀ j, 0 ≤ j → j < (k : Int) → ¬ heapT (pTy B v j))) ∨ (hi2 = upI hi 49 36 0 ∧ ¬ (rTy B v = -1 ∧ ∀ j, 0 ≤ j → j < (k : Int) → ¬ heapT (pTy B v j))))) ?_ ?_ _ _ ⟨rfl, by
      rcases h0 with ⟨a, b⟩ | ⟨a, b⟩
      · exact Or.inl ⟨a, b, fun j j0 j1 => by omega⟩
      · exact Or.inr ⟨a, fun q => b q.1⟩⟩
    · rintro k ls hi2 hk ⟨rfl, h⟩ nx
      have hp : hi 65 (4 * (10 * m + v) + k) = pTy B v k := q2 k (by omega) (by show (k : Int) < nPar B v; omega)
      have hu : ∀ a i, a ≠ 49 → hi2 a i = hi a i := by
        intro a i ha
        rcases h with ⟨rfl, -⟩ | ⟨rfl, -⟩
        · rfl
        · exact upI_a ha
      have e64 : hi2 64 (10 * m + v) = nPar B v := (hu _ _ (by decide)).trans q1
      have e65 : hi2 65 (4 * (10 * m + v) + k) = pTy B v k := (hu _ _ (by decide)).trans hp
      have g36 : hi2 49 36 = 0 ∨ hi2 49 36 = 1 := by
        rcases h with ⟨rfl, -⟩ | ⟨rfl, -⟩
        · exact Or.inr h36
        · exact Or.inl upI_eq
      refine s258_339.mpr (s258_341.mpr ((s258_342 kM).mpr ?_))
      rw [mr_16 hR]
      refine s258_345.mpr ?_
      refine (s258_347 (hA.k (by decide) (by decide) rfl) (by first | assumption | omega) (by first | assumption | omega)).mpr ?_
      try simp (disch := first | decide | assumption | omega) only [kon, knt_some, knt_none, Option.toList_some, Option.toList_none, List.cons_append, List.nil_append, e64, e65, fAdd_id, fMul_id]
      refine s258_348.mpr (wif (fun c348 => ?_) (fun c348 => ?_))
      · skip
        refine s258_351.mpr (s258_352.mpr ((s258_353 kM).mpr ?_))
        rw [mr_17 hR]
        refine s258_356.mpr (s258_357.mpr (s258_359.mpr (s258_360.mpr (s258_362.mpr ?_))))
        try simp (disch := first | decide | assumption | omega) only [kon, knt_some, knt_none, Option.toList_some, Option.toList_none, List.cons_append, List.nil_append, e64, e65, fAdd_id, fMul_id]
        refine (s258_363 (hA.k (by decide) (by decide) rfl) (by first | assumption | omega) (by first | assumption | omega)).mpr ?_
        try simp (disch := first | decide | assumption | omega) only [kon, knt_some, knt_none, Option.toList_some, Option.toList_none, List.cons_append, List.nil_append, e64, e65, fAdd_id, fMul_id]
        refine (s258_364 (by omega)).mpr ?_
        refine m_isHeap (by omega) (fun y364 => ?_) (fun y364 => ?_)
        · skip
          refine s258_367.mpr (wif (fun c367 => ?_) (fun c367 => ?_))
          · skip
            refine s258_370.mpr (s258_371.mpr ?_)
            refine (s258_375 (by omega) kM).mpr ?_
            refine m_wants hA (by omega) rfl g36 (fun y375 => ?_) (fun y375 => ?_)
            · skip
              refine s258_378.mpr (s258_381.mpr ?_)
              try simp (disch := first | decide | assumption | omega) only [kon, knt_some, knt_none, Option.toList_some, Option.toList_none, List.cons_append, List.nil_append, e64, e65, fAdd_id, fMul_id]
              first | (exfalso; omega) | (refine nx _ _ ⟨rfl, ?_⟩; rcases h with ⟨rfl, h1, h2⟩ | ⟨rfl, h1⟩; (exact Or.inl ⟨rfl, h1, fun j j0 j1 => by by_cases e : j = k; (subst e; assumption); exact h2 j j0 (by omega)⟩); (exfalso; rw [upI_eq] at y375; omega)) | (refine nx _ _ ⟨rfl, Or.inr ⟨?_, ?_⟩⟩; (rcases h with ⟨rfl, -⟩ | ⟨rfl, -⟩; rfl; exact upI_up); (rintro ⟨a, b⟩; rcases h with ⟨rfl, h1, h2⟩ | ⟨rfl, h1⟩; (first | exact b k (by omega) (by omega) (by assumption) | omega); exact h1 ⟨a, fun j j0 j1 => b j j0 (by omega)⟩))
            · skip
              refine s258_378.mpr (s258_381.mpr ?_)
              try simp (disch := first | decide | assumption | omega) only [kon, knt_some, knt_none, Option.toList_some, Option.toList_none, List.cons_append, List.nil_append, e64, e65, fAdd_id, fMul_id]
              first | (exfalso; omega) | (refine nx _ _ ⟨rfl, ?_⟩; rcases h with ⟨rfl, h1, h2⟩ | ⟨rfl, h1⟩; (exact Or.inl ⟨rfl, h1, fun j j0 j1 => by by_cases e : j = k; (subst e; assumption); exact h2 j j0 (by omega)⟩); (exfalso; rw [upI_eq] at y375; omega)) | (refine nx _ _ ⟨rfl, Or.inr ⟨?_, ?_⟩⟩; (rcases h with ⟨rfl, -⟩ | ⟨rfl, -⟩; rfl; exact upI_up); (rintro ⟨a, b⟩; rcases h with ⟨rfl, h1, h2⟩ | ⟨rfl, h1⟩; (first | exact b k (by omega) (by omega) (by assumption) | omega); exact h1 ⟨a, fun j j0 j1 => b j j0 (by omega)⟩))
          · skip
            refine s258_374.mpr ?_
            refine (s258_375 (by omega) kM).mpr ?_
            refine m_wants hA (by omega) rfl g36 (fun y375 => ?_) (fun y375 => ?_)
            · skip
              refine s258_378.mpr (s258_381.mpr ?_)
              try simp (disch := first | decide | assumption | omega) only [kon, knt_some, knt_none, Option.toList_some, Option.toList_none, List.cons_append, List.nil_append, e64, e65, fAdd_id, fMul_id]
              first | (exfalso; omega) | (refine nx _ _ ⟨rfl, ?_⟩; rcases h with ⟨rfl, h1, h2⟩ | ⟨rfl, h1⟩; (exact Or.inl ⟨rfl, h1, fun j j0 j1 => by by_cases e : j = k; (subst e; assumption); exact h2 j j0 (by omega)⟩); (exfalso; rw [upI_eq] at y375; omega)) | (refine nx _ _ ⟨rfl, Or.inr ⟨?_, ?_⟩⟩; (rcases h with ⟨rfl, -⟩ | ⟨rfl, -⟩; rfl; exact upI_up); (rintro ⟨a, b⟩; rcases h with ⟨rfl, h1, h2⟩ | ⟨rfl, h1⟩; (first | exact b k (by omega) (by omega) (by assumption) | omega); exact h1 ⟨a, fun j j0 j1 => b j j0 (by omega)⟩))
            · skip
              refine s258_378.mpr (s258_381.mpr ?_)
              try simp (disch := first | decide | assumption | omega) only [kon, knt_some, knt_none, Option.toList_some, Option.toList_none, List.cons_append, List.nil_append, e64, e65, fAdd_id, fMul_id]
              first | (exfalso; omega) | (refine nx _ _ ⟨rfl, ?_⟩; rcases h with ⟨rfl, h1, h2⟩ | ⟨rfl, h1⟩; (exact Or.inl ⟨rfl, h1, fun j j0 j1 => by by_cases e : j = k; (subst e; assumption); exact h2 j j0 (by omega)⟩); (exfalso; rw [upI_eq] at y375; omega)) | (refine nx _ _ ⟨rfl, Or.inr ⟨?_, ?_⟩⟩; (rcases h with ⟨rfl, -⟩ | ⟨rfl, -⟩; rfl; exact upI_up); (rintro ⟨a, b⟩; rcases h with ⟨rfl, h1, h2⟩ | ⟨rfl, h1⟩; (first | exact b k (by omega) (by omega) (by assumption) | omega); exact h1 ⟨a, fun j j0 j1 => b j j0 (by omega)⟩))
        · skip
          refine s258_367.mpr (wif (fun c367 => ?_) (fun c367 => ?_))
          · skip
            refine s258_370.mpr (s258_371.mpr ?_)
            refine (s258_375 (by omega) kM).mpr ?_
            refine m_wants hA (by omega) rfl g36 (fun y375 => ?_) (fun y375 => ?_)
            · skip
              refine s258_378.mpr (s258_381.mpr ?_)
              try simp (disch := first | decide | assumption | omega) only [kon, knt_some, knt_none, Option.toList_some, Option.toList_none, List.cons_append, List.nil_append, e64, e65, fAdd_id, fMul_id]
              first | (exfalso; omega) | (refine nx _ _ ⟨rfl, ?_⟩; rcases h with ⟨rfl, h1, h2⟩ | ⟨rfl, h1⟩; (exact Or.inl ⟨rfl, h1, fun j j0 j1 => by by_cases e : j = k; (subst e; assumption); exact h2 j j0 (by omega)⟩); (exfalso; rw [upI_eq] at y375; omega)) | (refine nx _ _ ⟨rfl, Or.inr ⟨?_, ?_⟩⟩; (rcases h with ⟨rfl, -⟩ | ⟨rfl, -⟩; rfl; exact upI_up); (rintro ⟨a, b⟩; rcases h with ⟨rfl, h1, h2⟩ | ⟨rfl, h1⟩; (first | exact b k (by omega) (by omega) (by assumption) | omega); exact h1 ⟨a, fun j j0 j1 => b j j0 (by omega)⟩))
            · skip
              refine s258_378.mpr (s258_381.mpr ?_)
              try simp (disch := first | decide | assumption | omega) only [kon, knt_some, knt_none, Option.toList_some, Option.toList_none, List.cons_append, List.nil_append, e64, e65, fAdd_id, fMul_id]
              first | (exfalso; omega) | (refine nx _ _ ⟨rfl, ?_⟩; rcases h with ⟨rfl, h1, h2⟩ | ⟨rfl, h1⟩; (exact Or.inl ⟨rfl, h1, fun j j0 j1 => by by_cases e : j = k; (subst e; assumption); exact h2 j j0 (by omega)⟩); (exfalso; rw [upI_eq] at y375; omega)) | (refine nx _ _ ⟨rfl, Or.inr ⟨?_, ?_⟩⟩; (rcases h with ⟨rfl, -⟩ | ⟨rfl, -⟩; rfl; exact upI_up); (rintro ⟨a, b⟩; rcases h with ⟨rfl, h1, h2⟩ | ⟨rfl, h1⟩; (first | exact b k (by omega) (by omega) (by assumption) | omega); exact h1 ⟨a, fun j j0 j1 => b j j0 (by omega)⟩))
          · skip
            refine s258_374.mpr ?_
            refine (s258_375 (by omega) kM).mpr ?_
            refine m_wants hA (by omega) rfl g36 (fun y375 => ?_) (fun y375 => ?_)
            · skip
              refine s258_378.mpr (s258_381.mpr ?_)
              try simp (disch := first | decide | assumption | omega) only [kon, knt_some, knt_none, Option.toList_some, Option.toList_none, List.cons_append, List.nil_append, e64, e65, fAdd_id, fMul_id]
              first | (exfalso; omega) | (refine nx _ _ ⟨rfl, ?_⟩; rcases h with ⟨rfl, h1, h2⟩ | ⟨rfl, h1⟩; (exact Or.inl ⟨rfl, h1, fun j j0 j1 => by by_cases e : j = k; (subst e; assumption); exact h2 j j0 (by omega)⟩); (exfalso; rw [upI_eq] at y375; omega)) | (refine nx _ _ ⟨rfl, Or.inr ⟨?_, ?_⟩⟩; (rcases h with ⟨rfl, -⟩ | ⟨rfl, -⟩; rfl; exact upI_up); (rintro ⟨a, b⟩; rcases h with ⟨rfl, h1, h2⟩ | ⟨rfl, h1⟩; (first | exact b k (by omega) (by omega) (by assumption) | omega); exact h1 ⟨a, fun j j0 j1 => b j j0 (by omega)⟩))
            · skip
              refine s258_378.mpr (s258_381.mpr ?_)
              try simp (disch := first | decide | assumption | omega) only [kon, knt_some, knt_none, Option.toList_some, Option.toList_none, List.cons_append, List.nil_append, e64, e65, fAdd_id, fMul_id]
              first | (exfalso; omega) | (refine nx _ _ ⟨rfl, ?_⟩; rcases h with ⟨rfl, h1, h2⟩ | ⟨rfl, h1⟩; (exact Or.inl ⟨rfl, h1, fun j j0 j1 => by by_cases e : j = k; (subst e; assumption); exact h2 j j0 (by omega)⟩); (exfalso; rw [upI_eq] at y375; omega)) | (refine nx _ _ ⟨rfl, Or.inr ⟨?_, ?_⟩⟩; (rcases h with ⟨rfl, -⟩ | ⟨rfl, -⟩; rfl; exact upI_up); (rintro ⟨a, b⟩; rcases h with ⟨rfl, h1, h2⟩ | ⟨rfl, h1⟩; (first | exact b k (by omega) (by omega) (by assumption) | omega); exact h1 ⟨a, fun j j0 j1 => b j j0 (by omega)⟩))
      · skip
        exfalso; omega
    · rintro ls hi2 ⟨rfl, h⟩
      have hu : ∀ a i, a ≠ 49 → hi2 a i = hi a i := by
        intro a i ha
        rcases h with ⟨rfl, -⟩ | ⟨rfl, -⟩
        · rfl
        · exact upI_a ha
      have e64 : hi2 64 (10 * m + v) = nPar B v := (hu _ _ (by decide)).trans q1
      rw [show ((nPar B v).toNat : Int) = nPar B v by omega] at h
      refine s258_339.mpr (s258_341.mpr ((s258_342 kM).mpr ?_))
      rw [mr_16 hR]
      refine s258_345.mpr ?_
      refine (s258_347 (hA.k (by decide) (by decide) rfl) (by first | assumption | omega) (by first | assumption | omega)).mpr ?_
      try simp (disch := first | decide | assumption | omega) only [e64]
      refine s258_348.mpr (wif (fun c348 => ?_) (fun c348 => ?_))
      · skip
        exfalso; omega
      · skip
        rcases h with ⟨e, h1⟩ | ⟨e, h1⟩
        · exact T384 (rTy B v = -1 ∧ ∀ k, 0 ≤ k → k < nPar B v → ¬ heapT (pTy B v k)) hi2 1 _ (Or.inl ⟨e, rfl⟩) ⟨fun _ => h1, fun _ => rfl⟩ Iff.rfl
        · exact T384 (rTy B v = -1 ∧ ∀ k, 0 ≤ k → k < nPar B v → ¬ heapT (pTy B v k)) hi2 0 _ (Or.inr ⟨e, rfl⟩) ⟨fun h => by omega, fun h => absurd h h1⟩ Iff.rfl
  refine s258_307.mpr (s258_309.mpr (s258_310.mpr (s258_311.mpr (s258_313.mpr (s258_314.mpr ?_)))))
  refine s258_316.mpr (s258_317.mpr ((s258_318 kM).mpr ?_))
  rw [mr_18 hR]
  refine s258_321.mpr ?_
  try simp (disch := first | decide | assumption | omega) only [kon, knt_some, knt_none, Option.toList_some, Option.toList_none, List.cons_append, List.nil_append, q3, fAdd_id, fMul_id]
  refine (s258_323 (hA.k (by decide) (by decide) rfl) (by first | assumption | omega) (by first | assumption | omega)).mpr ?_
  refine s258_324.mpr ?_
  try simp (disch := first | decide | assumption | omega) only [kon, knt_some, knt_none, Option.toList_some, Option.toList_none, List.cons_append, List.nil_append, q3, fAdd_id, fMul_id]
  refine s258_325.mpr (wif (fun c325 => ?_) (fun c325 => ?_))
  · skip
    refine s258_328.mpr (s258_329.mpr ?_)
    refine (s258_333 (by omega) kM).mpr ?_
    refine m_wants hA (by omega) h36 (by omega) (fun y333 => ?_) (fun y333 => ?_)
    · skip
      refine s258_336.mpr (s258_337.mpr ?_)
      first | (exfalso; omega) | exact T339 _ (Or.inl ⟨rfl, by omega⟩) | exact T339 _ (Or.inr ⟨rfl, by omega⟩)
    · skip
      refine s258_336.mpr (s258_337.mpr ?_)
      first | (exfalso; omega) | exact T339 _ (Or.inl ⟨rfl, by omega⟩) | exact T339 _ (Or.inr ⟨rfl, by omega⟩)
  · skip
    refine s258_332.mpr ?_
    refine (s258_333 (by omega) kM).mpr ?_
    refine m_wants hA (by omega) h36 (by omega) (fun y333 => ?_) (fun y333 => ?_)
    · skip
      refine s258_336.mpr (s258_337.mpr ?_)
      first | (exfalso; omega) | exact T339 _ (Or.inl ⟨rfl, by omega⟩) | exact T339 _ (Or.inr ⟨rfl, by omega⟩)
    · skip
      refine s258_336.mpr (s258_337.mpr ?_)
      first | (exfalso; omega) | exact T339 _ (Or.inl ⟨rfl, by omega⟩) | exact T339 _ (Or.inr ⟨rfl, by omega⟩)
end MT6
