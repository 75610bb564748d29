/-! THE REFERENCE: RECEIVE -/
section MRC
variable {d : Nat} {al : AL} {hi : HI} {hr : HR} {Q : QQ} {B : Int → Int}
def wT (a : Nat) (i : Int) : Prop := wS a i ∨ wFl a i
theorem wT_n {a : Nat} {i : Int} (h1 : 51 ≤ a) (h2 : a ≤ 69) : ¬ wT a i := by unfold wT wS wFl; omega
theorem MB.wt {hi' : HI} {m : Int} (h : MB hi m B) (hw : FW wT hi hi') : MB hi' m B := h.fw (fun a i h1 h2 => hw a i (wT_n h1 h2))
theorem FW.st {hi' : HI} (h : FW wS hi hi') : FW wT hi hi' := h.mn (fun _ _ q => Or.inl q)
theorem FW.ft {hi' : HI} (h : FW wFl hi hi') : FW wT hi hi' := h.mn (fun _ _ q => Or.inr q)
theorem memA_u {a : Nat} {i x : Int} (h : a ≠ 71 ∧ a ≠ 72 ∧ a ≠ 73 ∧ a ≠ 74) : memA (upI hi a i x) = memA hi := by
  funext q
  exact memA_q (upI_a (by omega)) (upI_a (by omega)) (fun k _ _ => upI_a (by omega)) (fun k _ _ => upI_a (by omega))
theorem memA_ws {hi' : HI} (h : FW wS hi hi') : memA hi' = memA hi := by
  funext q
  exact memA_q (h _ _ (by unfold wS; omega)) (h _ _ (by unfold wS; omega)) (fun k _ _ => h _ _ (by unfold wS; omega)) (fun k _ _ => h _ _ (by unfold wS; omega))
theorem m_receives {m g v p t n : Int} (hA : SA al) (hR : MR hr) (hd : 5 ≤ d) (hM : MB hi m B) (hS : Sh B) (hg : 0 ≤ g ∧ g < nFn B) (h68 : hi 68 (10 * m + g) = n) (hn : n ≤ 240) (hq0 : 0 ≤ cAt B g + p ∧ cAt B g + p ≤ 2000) (h36 : hi 49 36 = 1) (h37 : hi 49 37 = 0 ∨ hi 49 37 = 1) (ht : hi 49 35 = t) (ht0 : 0 ≤ t ∧ t ≤ 16) (hvX : vX B (t, hi 75, hi 76)) (hb : bool71 hi) (hv : vA B (memA hi)) (hv0 : 1 ≤ v ∧ v ≤ 4) (htg : ∀ k : Int, 0 ≤ k → k < v → 0 ≤ B (cAt B g + p + 2 + k))
    (hfl : ∀ fl, tsL B g 38 v p (t, hi 75, hi 76) = some fl → ∀ q ∈ fl, 0 ≤ q.1 ∧ vX B q.2)
    (ok : ∀ fl hi', tsL B g 38 v p (t, hi 75, hi 76) = some fl → FlR n (memA hi) fl (memA hi') → FW wT hi hi' → hi' 49 36 = 1 → (hi' 49 37 = 0 ∨ hi' 49 37 = 1) → CS hi hi' → bool71 hi' → Q (some none) al hi' hr)
    (no : ∀ hi', (tsL B g 38 v p (t, hi 75, hi 76) = none ∨ ∃ fl, tsL B g 38 v p (t, hi 75, hi 76) = some fl ∧ FlX n (memA hi) fl) → FW wT hi hi' → hi' 49 36 = 0 → Q (some none) al hi' hr) : Ev d 263 [vR (some 49), vI m, vI (10 * m + g), vI (cAt B g + p), vI v] al hi hr Q := by
  have kM : isK al 49 13 := hA.k (by decide) (by decide) rfl
  obtain ⟨hm0, hm1, h52, hB, -⟩ := id hM
  have f1 : nFn B ≤ 10 := hS.2.2.2.2.2.2.2.2.2.1
  have hv75 : ∀ k, 0 ≤ k → k < t → vT B (hi 75 k) := hvX.2.1
  have c8 : nCtr B ≤ 4 := hS.2.2.2.2.2.1
  have l60 := SA.len (a := 60) (n := 416) hA (by decide) (by decide) rfl
  have l61 := SA.len (a := 61) (n := 416) hA (by decide) (by decide) rfl
  have l63 := SA.len (a := 63) (n := 1664) hA (by decide) (by decide) rfl
  have l62 := SA.len (a := 62) (n := 1664) hA (by decide) (by decide) rfl
  -- wrong already
  have T69f : ∀ hi' k l5 l6 l8, (tsL B g 38 v p (t, hi 75, hi 76) = none ∨ ∃ fl, tsL B g 38 v p (t, hi 75, hi 76) = some fl ∧ FlX n (memA hi) fl) → FW wT hi hi' → hi' 49 36 = 0 → Wp d 263 69 [vR (some 49), vI m, vI (10 * m + g), vI (cAt B g + p), vI v, l5, l6, vI k, l8] [] al hi' hr Q := by
    intro hi' k l5 l6 l8 hx hw hz
    refine s263_69.mpr (s263_71.mpr ?_)
    refine s263_73.mpr (wif (fun c73 => ?_) (fun c73 => ?_))
    · skip
      refine s263_76.mpr ?_
      refine (s263_77 kM).mpr ?_
      refine s263_80.mpr (wif (fun c80 => ?_) (fun c80 => ?_))
      · skip
        refine (s263_162).mpr ?_
        exact no _ hx hw hz
      · skip
        exfalso; omega
    · skip
      refine (s263_162).mpr ?_
      exact no _ hx hw hz
  rw [e263]
  by_cases hk0 : 0 < t ∧ kindM (hi 75 (t - 1)) = 5
  · obtain ⟨h0t, hk⟩ := hk0
    obtain ⟨v1, v2, v3, v4⟩ := endV_of (hv75 (t - 1) (by omega) (by omega)) hk
    have hw := wh_b (hi 75 (t - 1))
    have hs := st_b (hi 75 (t - 1))
    have hsd := sd_b (hi 75 (t - 1))
    have s8 : nSt B (whichM (hi 75 (t - 1))) ≤ 8 := (hS.2.2.2.2.2.2.1 _ hw.1 v3).2.1
    have hr9 : rng (hi 75 (t - 1)) := ⟨by omega, by omega⟩
    obtain ⟨e60, e61, e62⟩ := hM.ct hS hw.1 v3 hs.1 v4
    by_cases hT : tnS B (whichM (hi 75 (t - 1))) (stateM (hi 75 (t - 1))) = 2 - sideM (hi 75 (t - 1)) ∧ nMs B (whichM (hi 75 (t - 1))) (stateM (hi 75 (t - 1))) = v
    · have hts := (tsL_38 (B := B) (f := g) (v := v) (p := p) (X := (t, hi 75, hi 76)) rfl).trans (onw_p ⟨h0t, hk, hT.1, hT.2⟩)
      have hfv := hfl _ hts
      have hth : ∀ k : Int, 0 ≤ k → k < v → 0 ≤ thM B (whichM (hi 75 (t - 1))) (stateM (hi 75 (t - 1))) k ∧ thM B (whichM (hi 75 (t - 1))) (stateM (hi 75 (t - 1))) k < 256 := fun k a b => by
        have := ((hS.2.2.2.2.2.2.1 _ hw.1 v3).2.2.2.1 _ hs.1 v4).2.2.2.2.2.2.1 k a (by omega)
        omega
      obtain ⟨N, hN⟩ := Int.eq_ofNat_of_zero_le (show 0 ≤ v by omega)
      have hNv : v.toNat = N := by omega
      rw [hNv] at hts hfv
      have T69 : ∀ l8, Wp d 263 69 [vR (some 49), vI m, vI (10 * m + g), vI (cAt B g + p), vI v, vI (hi 75 (t - 1)), vI (t - 1), vI 0, l8] [] al (upI hi 49 35 (t - 1)) hr Q := by
        intro l8
        refine wp_cnt (N := N) (fun k ls h2 => (∃ l8, ls = [vR (some 49), vI m, vI (10 * m + g), vI (cAt B g + p), vI v, vI (hi 75 (t - 1)), vI (t - 1), vI k, l8]) ∧ FW wT hi h2 ∧ h2 49 36 = 1 ∧ (h2 49 37 = 0 ∨ h2 49 37 = 1) ∧ FlR n (memA hi) ((List.range k).map fun (j : Nat) => (B (cAt B g + p + 2 + (j : Int)), rcv B (t, hi 75, hi 76) (j : Int))) (memA h2) ∧ CS hi h2 ∧ bool71 h2 ∧ vA B (memA h2) ∧ (∀ j, 0 ≤ j → j < t - 1 → h2 75 j = hi 75 j) ∧ h2 76 = hi 76) ?_ ?_ _ _ ⟨⟨l8, rfl⟩, (by repeat' (first | assumption | exact FW.rf | refine FW.up ?_ (by unfold wT wS wFl; omega))), by (try simp (disch := decide) only [upI_eq, upI_a, upI_i, upR_eq, upR_a, upR_i]); exact h36, by (try simp (disch := decide) only [upI_eq, upI_a, upI_i, upR_eq, upR_a, upR_i]); exact h37, by rw [memA_u (by omega)]; exact fun _ _ => rfl, by left; exact ⟨by (try simp (disch := decide) only [upI_eq, upI_a, upI_i, upR_eq, upR_a, upR_i]), by rw [memA_u (by omega)]; exact eqA.rf⟩, fun q q0 q1 => by rw [upI_a (by decide)]; exact hb q q0 q1, by rw [memA_u (by omega)]; exact hv, fun j _ _ => upI_a (by decide), upI_ro (by decide)⟩
        · rintro k ls h2 hkN ⟨⟨l8, rfl⟩, hw2, g36, g37, gF, gC, gb, gv, g75, g76⟩ nx
          have hM2 := hM.wt hw2
          have hkv : (k : Int) < v := by omega
          have e62k : h2 62 (4 * (8 * (4 * m + whichM (hi 75 (t - 1))) + stateM (hi 75 (t - 1))) + k) = ldT B (hi 75 (t - 1)) k := (hw2 62 _ (wT_n (by decide) (by decide))).trans (e62 k (by omega) (by omega)).1
          have e63k : h2 63 (4 * (8 * (4 * m + whichM (hi 75 (t - 1))) + stateM (hi 75 (t - 1))) + k) = thM B (whichM (hi 75 (t - 1))) (stateM (hi 75 (t - 1))) k := (hw2 63 _ (wT_n (by decide) (by decide))).trans (e62 k (by omega) (by omega)).2
          have h68' : h2 68 (10 * m + g) = n := (hw2 68 _ (wT_n (by decide) (by decide))).trans h68
          have hmem : (B (cAt B g + p + 2 + (k : Int)), rcv B (t, hi 75, hi 76) (k : Int)) ∈ (List.range N).map fun (j : Nat) => (B (cAt B g + p + 2 + (j : Int)), rcv B (t, hi 75, hi 76) (j : Int)) := List.mem_map.mpr ⟨k, List.mem_range.mpr hkN, rfl⟩
          have hvq := hfv _ hmem
          have hnx : nxT B (hi 75 (t - 1)) k = hi 75 (t - 1) - 2048 * stateM (hi 75 (t - 1)) + 2048 * thM B (whichM (hi 75 (t - 1))) (stateM (hi 75 (t - 1))) k := rfl
          have split : (List.range N).map (fun (j : Nat) => (B (cAt B g + p + 2 + (j : Int)), rcv B (t, hi 75, hi 76) (j : Int))) = ((List.range k).map fun (j : Nat) => (B (cAt B g + p + 2 + (j : Int)), rcv B (t, hi 75, hi 76) (j : Int))) ++ (B (cAt B g + p + 2 + (k : Int)), rcv B (t, hi 75, hi 76) (k : Int)) :: ((List.range (N - k - 1)).map fun (j : Nat) => (B (cAt B g + p + 2 + ((k + 1 + j : Nat) : Int)), rcv B (t, hi 75, hi 76) ((k + 1 + j : Nat) : Int))) := by
            have : List.range N = List.range k ++ (k :: (List.range (N - k - 1)).map (fun j => k + 1 + j)) := by
              rw [show N = k + (1 + (N - k - 1)) by omega, List.range_add, List.range_add]
              simp [List.map_map, Function.comp_def, Nat.add_assoc, show k + (1 + (N - k - 1)) - k - 1 = N - k - 1 by omega]
            rw [this, List.map_append, List.map_cons, List.map_map]
            rfl
          -- a state that flows
          have Tfl : ∀ h3 t3, t3 ≤ 18 → FW wS h2 h3 → h3 49 36 = 1 → h3 49 37 = h2 49 37 → h3 49 35 = t3 → 0 ≤ t3 → eqX (scX h3) (rcv B (t, hi 75, hi 76) (k : Int)) → (∀ j, 0 ≤ j → j < t - 1 → h3 75 j = hi 75 j) → h3 76 = hi 76 → ∀ l8, Ev (d - 1) 245 [vR (some 49), vI (10 * m + g), vI (B (cAt B g + p + 2 + (k : Int)))] al h3 hr (kon d 263 153 156 [vR (some 49), vI m, vI (10 * m + g), vI (cAt B g + p), vI v, vI (hi 75 (t - 1)), vI (t - 1), vI k, l8] [] Q) := by
            intro h3 t3 ht3 hw3 k36 k37 k35 k0 hE k75 k76 l8
            have eM : memA h3 = memA h2 := memA_ws hw3
            refine m_flow (B := B) hA hR (by omega) (by omega) ((hw3 68 _ (wS_n (by decide) (by decide))).trans h68') hn (htg k (by omega) hkv) k36 (by omega) k35 (by omega) (fun q q0 q1 => by rw [hw3 71 _ (by unfold wS; omega)]; exact gb q q0 q1) (by rw [eM]; exact gv) (fun h4 x1 x2 x3 x4 x5 x6 x7 x8 => ?_) (fun h4 x1 x3 x4 => ?_)
            · simp only [kon, knt_some, knt_none, Option.toList_some, Option.toList_none, List.cons_append, List.nil_append]
              rw [eM] at x6
              have x6' := ArrR_eq hE x6
              have hwT : FW wT hi h4 := (hw2.tr hw3.st).tr x3.ft
              have x7' : CS h2 h4 := by
                rcases x7 with ⟨z1, z2⟩ | ⟨z1, z2⟩
                · exact Or.inl ⟨z1.trans k37, by rw [eM] at z2; exact z2⟩
                · exact Or.inr ⟨z1, by rw [eM] at z2; exact z2⟩
              refine s263_156.mpr (s263_159.mpr ?_)
              rw [fAdd_id (by omega) (by omega)]
              refine nx _ _ ⟨⟨l8, rfl⟩, hwT, x4, x5, ?_, gC.tr hv gv (arr_le x6') x7', x8, arr_v x6' gv hvq.1 hvq.2, fun j j0 j1 => ?_, ?_⟩
              · rw [List.range_succ, List.map_append]
                exact FlR_sn _ _ _ _ gF x1 (by rw [← hE.1]; show h3 49 35 ≤ 16; omega) hvq.1 x6'
              · rw [x3 75 _ (by unfold wFl; omega)]; exact k75 j j0 j1
              · funext j; rw [x3 76 _ (by unfold wFl; omega), k76]
            · simp only [kon, knt_some, knt_none, Option.toList_some, Option.toList_none, List.cons_append, List.nil_append]
              refine s263_156.mpr (s263_159.mpr (T69f _ _ _ _ _ (Or.inr ⟨_, hts, ?_⟩) ((hw2.tr hw3.st).tr x3.ft) x4))
              rw [split]
              refine FlX_sn hvq.1 _ _ _ _ gF ?_
              rcases x1 with z | z
              · left; rw [← hE.1]; show ¬ (_ ∧ h3 49 35 ≤ 16); omega
              · right; rw [eM] at z; exact ArrX_eq hE z
          have Tn : ldT B (hi 75 (t - 1)) k = -1 → ∀ x h3, h3 = upI (upI (upI h2 49 35 (t - 1)) 75 (t - 1) (hi 75 (t - 1) - 2048 * stateM (hi 75 (t - 1)) + 2048 * thM B (whichM (hi 75 (t - 1))) (stateM (hi 75 (t - 1))) k)) 49 35 x → x = t - 1 + 1 → ∀ l8, Ev (d - 1) 245 [vR (some 49), vI (10 * m + g), vI (B (cAt B g + p + 2 + (k : Int)))] al h3 hr (kon d 263 153 156 [vR (some 49), vI m, vI (10 * m + g), vI (cAt B g + p), vI v, vI (hi 75 (t - 1)), vI (t - 1), vI k, l8] [] Q) := by
            rintro c _ _ rfl rfl l8
            refine Tfl _ (t - 1 + 1) (by omega) (by repeat' (first | assumption | exact FW.rf | refine FW.up ?_ (by unfold wS; omega) | (refine FW.tr ?_ (by assumption)))) (by (try simp (disch := decide) only [upI_eq, upI_a, upI_i, upR_eq, upR_a, upR_i]); exact g36) (by (try simp (disch := decide) only [upI_eq, upI_a, upI_i, upR_eq, upR_a, upR_i])) (by (try simp (disch := decide) only [upI_eq, upI_a, upI_i, upR_eq, upR_a, upR_i])) (by omega) ?_ (fun j j0 j1 => by simp (disch := first | decide | omega) only [upI_eq, upI_a, upI_i, upR_eq, upR_a, upR_i]; exact g75 j j0 j1) (by simp (disch := decide) only [upI_ro]; exact g76) l8
            rw [show rcv B (t, hi 75, hi 76) (k : Int) = (t, up1 (hi 75) (t - 1) (nxT B (hi 75 (t - 1)) k), hi 76) from if_pos c]
            refine ⟨by dsimp only [scX]; rw [upI_eq]; omega, fun j a b => ?_, fun j a b => ?_⟩
            · have b : j < (upI (upI (upI h2 49 35 (t - 1)) 75 (t - 1) (hi 75 (t - 1) - 2048 * stateM (hi 75 (t - 1)) + 2048 * thM B (whichM (hi 75 (t - 1))) (stateM (hi 75 (t - 1))) k)) 49 35 (t - 1 + 1)) 49 35 := b
              rw [upI_eq] at b
              show (upI (upI (upI h2 49 35 (t - 1)) 75 (t - 1) _) 49 35 (t - 1 + 1)) 75 j = up1 (hi 75) (t - 1) _ j
              rw [upI_a (by decide)]
              by_cases e : j = t - 1
              · subst e; rw [upI_eq, up1_eq]; rfl
              · rw [upI_i e, upI_a (by decide), up1_ne e]; exact g75 j a (by omega)
            · dsimp only [scX]; simp (disch := decide) only [upI_eq, upI_a, upI_i, upR_eq, upR_a, upR_i]; rw [g76]
          have Tl : ¬ ldT B (hi 75 (t - 1)) k = -1 → ∀ x h3, h3 = upI (upI (upI (upI (upI h2 49 35 (t - 1)) 75 (t - 1) (hi 75 (t - 1) - 2048 * stateM (hi 75 (t - 1)) + 2048 * thM B (whichM (hi 75 (t - 1))) (stateM (hi 75 (t - 1))) k)) 49 35 (t - 1 + 1)) 75 (t - 1 + 1) (ldT B (hi 75 (t - 1)) k)) 49 35 x → x = t - 1 + 1 + 1 → ∀ l8, Ev (d - 1) 245 [vR (some 49), vI (10 * m + g), vI (B (cAt B g + p + 2 + (k : Int)))] al h3 hr (kon d 263 153 156 [vR (some 49), vI m, vI (10 * m + g), vI (cAt B g + p), vI v, vI (hi 75 (t - 1)), vI (t - 1), vI k, l8] [] Q) := by
            rintro c _ _ rfl rfl l8
            refine Tfl _ (t - 1 + 1 + 1) (by omega) (by repeat' (first | assumption | exact FW.rf | refine FW.up ?_ (by unfold wS; omega) | (refine FW.tr ?_ (by assumption)))) (by (try simp (disch := decide) only [upI_eq, upI_a, upI_i, upR_eq, upR_a, upR_i]); exact g36) (by (try simp (disch := decide) only [upI_eq, upI_a, upI_i, upR_eq, upR_a, upR_i])) (by (try simp (disch := decide) only [upI_eq, upI_a, upI_i, upR_eq, upR_a, upR_i])) (by omega) ?_ (fun j j0 j1 => by simp (disch := first | decide | omega) only [upI_eq, upI_a, upI_i, upR_eq, upR_a, upR_i]; exact g75 j j0 j1) (by simp (disch := decide) only [upI_ro]; exact g76) l8
            rw [show rcv B (t, hi 75, hi 76) (k : Int) = (t + 1, up1 (up1 (hi 75) (t - 1) (nxT B (hi 75 (t - 1)) k)) t (ldT B (hi 75 (t - 1)) k), hi 76) from if_neg c]
            refine ⟨by dsimp only [scX]; rw [upI_eq]; omega, fun j a b => ?_, fun j a b => ?_⟩
            · have b : j < (upI (upI (upI (upI (upI h2 49 35 (t - 1)) 75 (t - 1) (hi 75 (t - 1) - 2048 * stateM (hi 75 (t - 1)) + 2048 * thM B (whichM (hi 75 (t - 1))) (stateM (hi 75 (t - 1))) k)) 49 35 (t - 1 + 1)) 75 (t - 1 + 1) (ldT B (hi 75 (t - 1)) k)) 49 35 (t - 1 + 1 + 1)) 49 35 := b
              rw [upI_eq] at b
              show (upI (upI (upI (upI (upI h2 49 35 (t - 1)) 75 (t - 1) _) 49 35 (t - 1 + 1)) 75 (t - 1 + 1) _) 49 35 (t - 1 + 1 + 1)) 75 j = up1 (up1 (hi 75) (t - 1) _) t _ j
              rw [upI_a (by decide), show t - 1 + 1 = t by omega]
              by_cases e0 : j = t
              · subst e0; rw [upI_eq, up1_eq]
              · rw [upI_i e0, upI_a (by decide), up1_ne e0]
                by_cases e : j = t - 1
                · subst e; rw [upI_eq, up1_eq]; rfl
                · rw [upI_i e, upI_a (by decide), up1_ne e]; exact g75 j a (by omega)
            · dsimp only [scX]; simp (disch := decide) only [upI_eq, upI_a, upI_i, upR_eq, upR_a, upR_i]; rw [g76]
          refine s263_69.mpr (s263_71.mpr ?_)
          refine s263_73.mpr (wif (fun c73 => ?_) (fun c73 => ?_))
          · first
            | (exfalso; omega)
            | skip
              refine s263_76.mpr ?_
              refine (s263_77 kM).mpr ?_
              try simp (disch := first | decide | assumption | omega) only [kon, knt_some, knt_none, Option.toList_some, Option.toList_none, List.cons_append, List.nil_append, upI_eq, upI_a, upI_i, upR_eq, upR_a, upR_i, g36, fAdd_id, fMul_id, e62k, e63k]
              refine s263_80.mpr (wif (fun c80 => ?_) (fun c80 => ?_))
              · first
                | (exfalso; omega)
                | skip
                  exfalso; omega
              · first
                | (exfalso; omega)
                | skip
                  refine s263_83.mpr (s263_84.mpr (s263_85.mpr ?_))
                  refine (s263_87 (by omega)).mpr ?_
                  refine m_stateOf (by omega) ⟨hm0, hm1⟩ hr9 ?_
                  refine s263_90.mpr (s263_91.mpr (s263_93.mpr (s263_94.mpr (s263_96.mpr (s263_97.mpr ?_)))))
                  try simp (disch := first | decide | assumption | omega) only [kon, knt_some, knt_none, Option.toList_some, Option.toList_none, List.cons_append, List.nil_append, upI_eq, upI_a, upI_i, upR_eq, upR_a, upR_i, g36, fAdd_id, fMul_id, e62k, e63k]
                  refine (s263_99 kM).mpr ?_
                  refine s263_102.mpr (s263_103.mpr (s263_105.mpr ((s263_106 kM).mpr ?_)))
                  rw [mr_15 hR]
                  refine s263_109.mpr ?_
                  try simp (disch := first | decide | assumption | omega) only [kon, knt_some, knt_none, Option.toList_some, Option.toList_none, List.cons_append, List.nil_append, upI_eq, upI_a, upI_i, upR_eq, upR_a, upR_i, g36, fAdd_id, fMul_id, e62k, e63k]
                  refine (s263_111 (hA.k (by decide) (by decide) rfl) (by first | assumption | omega) (by first | assumption | omega)).mpr ?_
                  try simp (disch := first | decide | assumption | omega) only [kon, knt_some, knt_none, Option.toList_some, Option.toList_none, List.cons_append, List.nil_append, upI_eq, upI_a, upI_i, upR_eq, upR_a, upR_i, g36, fAdd_id, fMul_id, e62k, e63k]
                  refine (s263_112 (by omega)).mpr ?_
                  refine m_inState ⟨v1, v2⟩ (hth k (by omega) hkv) ?_
                  refine (s263_115 (by omega) kM).mpr ?_
                  refine m_push hA hR (by (try simp (disch := decide) only [upI_eq, upI_a, upI_i, upR_eq, upR_a, upR_i]); first | assumption | rfl) (by omega) ?_
                  refine s263_118.mpr ((s263_119 kM).mpr ?_)
                  rw [mr_14 hR]
                  refine s263_122.mpr ?_
                  refine (s263_124 (hA.k (by decide) (by decide) rfl) (by first | assumption | omega) (by first | assumption | omega)).mpr ?_
                  refine s263_125.mpr ?_
                  try simp (disch := first | decide | assumption | omega) only [kon, knt_some, knt_none, Option.toList_some, Option.toList_none, List.cons_append, List.nil_append, upI_eq, upI_a, upI_i, upR_eq, upR_a, upR_i, g36, fAdd_id, fMul_id, e62k, e63k]
                  refine s263_126.mpr (wif (fun c126 => ?_) (fun c126 => ?_))
                  · first
                    | (exfalso; omega)
                    | skip
                      refine s263_140.mpr (s263_141.mpr (s263_142.mpr (s263_143.mpr (s263_144.mpr (s263_145.mpr ?_)))))
                      refine s263_146.mpr (s263_147.mpr (s263_149.mpr ?_))
                      try simp (disch := first | decide | assumption | omega) only [kon, knt_some, knt_none, Option.toList_some, Option.toList_none, List.cons_append, List.nil_append, upI_eq, upI_a, upI_i, upR_eq, upR_a, upR_i, g36, fAdd_id, fMul_id, e62k, e63k]
                      refine (s263_150 (by omega) kM).mpr ?_
                      refine (m_byteAt hA hR hm0 hm1 (by (try simp (disch := decide) only [upI_eq, upI_a, upI_i, upR_eq, upR_a, upR_i]); exact hM2.2.2.1)).mpr ?_
                      simp (disch := decide) only [bAt_up, hM2.2.2.2.1]
                      first | (exfalso; omega) | exact (s263_153 (by omega) kM).mpr (Tn c126 _ _ rfl rfl _) | exact (s263_153 (by omega) kM).mpr (Tl c126 _ _ rfl rfl _)
                  · first
                    | (exfalso; omega)
                    | skip
                      refine s263_129.mpr (s263_130.mpr ((s263_131 kM).mpr ?_))
                      rw [mr_14 hR]
                      refine s263_134.mpr ?_
                      refine (s263_136 (hA.k (by decide) (by decide) rfl) (by first | assumption | omega) (by first | assumption | omega)).mpr ?_
                      try simp (disch := first | decide | assumption | omega) only [kon, knt_some, knt_none, Option.toList_some, Option.toList_none, List.cons_append, List.nil_append, upI_eq, upI_a, upI_i, upR_eq, upR_a, upR_i, g36, fAdd_id, fMul_id, e62k, e63k]
                      refine (s263_137 (by omega) kM).mpr ?_
                      refine m_push hA hR (by (try simp (disch := decide) only [upI_eq, upI_a, upI_i, upR_eq, upR_a, upR_i]); first | assumption | rfl) (by omega) ?_
                      refine s263_140.mpr (s263_141.mpr (s263_142.mpr (s263_143.mpr (s263_144.mpr (s263_145.mpr ?_)))))
                      refine s263_146.mpr (s263_147.mpr (s263_149.mpr ?_))
                      try simp (disch := first | decide | assumption | omega) only [kon, knt_some, knt_none, Option.toList_some, Option.toList_none, List.cons_append, List.nil_append, upI_eq, upI_a, upI_i, upR_eq, upR_a, upR_i, g36, fAdd_id, fMul_id, e62k, e63k]
                      refine (s263_150 (by omega) kM).mpr ?_
                      refine (m_byteAt hA hR hm0 hm1 (by (try simp (disch := decide) only [upI_eq, upI_a, upI_i, upR_eq, upR_a, upR_i]); exact hM2.2.2.1)).mpr ?_
                      simp (disch := decide) only [bAt_up, hM2.2.2.2.1]
                      first | (exfalso; omega) | exact (s263_153 (by omega) kM).mpr (Tn c126 _ _ rfl rfl _) | exact (s263_153 (by omega) kM).mpr (Tl c126 _ _ rfl rfl _)
          · first
            | (exfalso; omega)
            | skip
              exfalso; omega
        · rintro ls h2 ⟨⟨l8, rfl⟩, hw2, g36, g37, gF, gC, gb, gv, g75, g76⟩
          refine s263_69.mpr (s263_71.mpr ?_)
          refine s263_73.mpr (wif (fun c73 => ?_) (fun c73 => ?_))
          · skip
            exfalso; omega
          · skip
            refine (s263_162).mpr ?_
            exact ok _ _ hts gF hw2 g36 g37 gC gb
      refine s263_0.mpr (s263_1.mpr ?_)
      refine (s263_2 (by omega) kM).mpr ?_
      refine m_popKind hA hR (by omega) h36 (by omega) ht (by omega) (fun y2 => ?_) (fun q2 hi2 t2 w2 z2 u2 v2 x2 => ?_)
      · skip
        refine s263_5.mpr (s263_7.mpr (s263_8.mpr ?_))
        refine (s263_9 kM).mpr ?_
        try simp (disch := first | decide | assumption | omega) only [kon, knt_some, knt_none, Option.toList_some, Option.toList_none, List.cons_append, List.nil_append, upI_eq, upI_a, upI_i, upR_eq, upR_a, upR_i, h36, ht, fAdd_id, fSub_id, fMul_id, e60, e61]
        refine s263_12.mpr (wif (fun c12 => ?_) (fun c12 => ?_))
        · first
          | (exfalso; omega)
          | skip
            exfalso; omega
        · first
          | (exfalso; omega)
          | skip
            refine s263_15.mpr ((s263_16 kM).mpr ?_)
            rw [mr_12 hR]
            refine s263_19.mpr (s263_20.mpr ?_)
            refine (s263_22 (by omega)).mpr ?_
            refine m_stateOf (by omega) ⟨hm0, hm1⟩ hr9 ?_
            refine (s263_25 (hA.k (by decide) (by decide) rfl) (by first | assumption | omega) (by first | assumption | omega)).mpr ?_
            refine s263_26.mpr (s263_27.mpr ?_)
            try simp (disch := first | decide | assumption | omega) only [kon, knt_some, knt_none, Option.toList_some, Option.toList_none, List.cons_append, List.nil_append, upI_eq, upI_a, upI_i, upR_eq, upR_a, upR_i, h36, ht, fAdd_id, fSub_id, fMul_id, e60, e61]
            refine (s263_29 (by omega)).mpr ?_
            refine (m_side hr9).mpr ?_
            refine s263_32.mpr ?_
            try simp (disch := first | decide | assumption | omega) only [kon, knt_some, knt_none, Option.toList_some, Option.toList_none, List.cons_append, List.nil_append, upI_eq, upI_a, upI_i, upR_eq, upR_a, upR_i, h36, ht, fAdd_id, fSub_id, fMul_id, e60, e61]
            refine s263_33.mpr (wif (fun c33 => ?_) (fun c33 => ?_))
            · first
              | (exfalso; omega)
              | skip
                refine s263_36.mpr ((s263_37 kM).mpr ?_)
                rw [mr_13 hR]
                refine s263_40.mpr (s263_41.mpr ?_)
                refine (s263_43 (by omega)).mpr ?_
                refine m_stateOf (by omega) ⟨hm0, hm1⟩ hr9 ?_
                refine (s263_46 (hA.k (by decide) (by decide) rfl) (by first | assumption | omega) (by first | assumption | omega)).mpr ?_
                refine s263_47.mpr ?_
                try simp (disch := first | decide | assumption | omega) only [kon, knt_some, knt_none, Option.toList_some, Option.toList_none, List.cons_append, List.nil_append, upI_eq, upI_a, upI_i, upR_eq, upR_a, upR_i, h36, ht, fAdd_id, fSub_id, fMul_id, e60, e61]
                refine s263_49.mpr (wif (fun c49 => ?_) (fun c49 => ?_))
                · first
                  | (exfalso; omega)
                  | skip
                    refine s263_52.mpr (s263_53.mpr ?_)
                    refine (s263_57 (by omega) kM).mpr ?_
                    refine m_wants hA (by omega) (by (try simp (disch := decide) only [upI_eq, upI_a, upI_i, upR_eq, upR_a, upR_i]); first | assumption | rfl) (by omega) (fun y57 => ?_) (fun y57 => ?_)
                    · skip
                      refine s263_60.mpr ?_
                      refine (s263_61 kM).mpr ?_
                      refine s263_64.mpr (s263_66.mpr (s263_67.mpr ?_))
                      try simp (disch := first | decide | assumption | omega) only [kon, knt_some, knt_none, Option.toList_some, Option.toList_none, List.cons_append, List.nil_append, upI_eq, upI_a, upI_i, upR_eq, upR_a, upR_i, h36, ht, fAdd_id, fSub_id, fMul_id, e60, e61]
                      first | (exfalso; omega) | exact T69 _
                    · skip
                      refine s263_60.mpr ?_
                      refine (s263_61 kM).mpr ?_
                      refine s263_64.mpr (s263_66.mpr (s263_67.mpr ?_))
                      try simp (disch := first | decide | assumption | omega) only [kon, knt_some, knt_none, Option.toList_some, Option.toList_none, List.cons_append, List.nil_append, upI_eq, upI_a, upI_i, upR_eq, upR_a, upR_i, h36, ht, fAdd_id, fSub_id, fMul_id, e60, e61]
                      first | (exfalso; omega) | exact T69 _
                · first
                  | (exfalso; omega)
                  | skip
                    exfalso; omega
            · first
              | (exfalso; omega)
              | skip
                exfalso; omega
      · skip
        refine s263_5.mpr (s263_7.mpr (s263_8.mpr ?_))
        refine (s263_9 kM).mpr ?_
        try simp (disch := first | decide | assumption | omega) only [kon, knt_some, knt_none, Option.toList_some, Option.toList_none, List.cons_append, List.nil_append, upI_eq, upI_a, upI_i, upR_eq, upR_a, upR_i, h36, ht, fAdd_id, fSub_id, fMul_id, e60, e61]
        refine s263_12.mpr (wif (fun c12 => ?_) (fun c12 => ?_))
        · first
          | (exfalso; omega)
          | skip
            exfalso; omega
        · first
          | (exfalso; omega)
          | skip
            refine s263_15.mpr ((s263_16 kM).mpr ?_)
            rw [mr_12 hR]
            refine s263_19.mpr (s263_20.mpr ?_)
            refine (s263_22 (by omega)).mpr ?_
            refine m_stateOf (by omega) ⟨hm0, hm1⟩ hr9 ?_
            refine (s263_25 (hA.k (by decide) (by decide) rfl) (by first | assumption | omega) (by first | assumption | omega)).mpr ?_
            refine s263_26.mpr (s263_27.mpr ?_)
            try simp (disch := first | decide | assumption | omega) only [kon, knt_some, knt_none, Option.toList_some, Option.toList_none, List.cons_append, List.nil_append, upI_eq, upI_a, upI_i, upR_eq, upR_a, upR_i, h36, ht, fAdd_id, fSub_id, fMul_id, e60, e61]
            refine (s263_29 (by omega)).mpr ?_
            refine (m_side hr9).mpr ?_
            refine s263_32.mpr ?_
            try simp (disch := first | decide | assumption | omega) only [kon, knt_some, knt_none, Option.toList_some, Option.toList_none, List.cons_append, List.nil_append, upI_eq, upI_a, upI_i, upR_eq, upR_a, upR_i, h36, ht, fAdd_id, fSub_id, fMul_id, e60, e61]
            refine s263_33.mpr (wif (fun c33 => ?_) (fun c33 => ?_))
            · first
              | (exfalso; omega)
              | skip
                refine s263_36.mpr ((s263_37 kM).mpr ?_)
                rw [mr_13 hR]
                refine s263_40.mpr (s263_41.mpr ?_)
                refine (s263_43 (by omega)).mpr ?_
                refine m_stateOf (by omega) ⟨hm0, hm1⟩ hr9 ?_
                refine (s263_46 (hA.k (by decide) (by decide) rfl) (by first | assumption | omega) (by first | assumption | omega)).mpr ?_
                refine s263_47.mpr ?_
                try simp (disch := first | decide | assumption | omega) only [kon, knt_some, knt_none, Option.toList_some, Option.toList_none, List.cons_append, List.nil_append, upI_eq, upI_a, upI_i, upR_eq, upR_a, upR_i, h36, ht, fAdd_id, fSub_id, fMul_id, e60, e61]
                refine s263_49.mpr (wif (fun c49 => ?_) (fun c49 => ?_))
                · first
                  | (exfalso; omega)
                  | skip
                    refine s263_52.mpr (s263_53.mpr ?_)
                    refine (s263_57 (by omega) kM).mpr ?_
                    refine m_wants hA (by omega) (by (try simp (disch := decide) only [upI_eq, upI_a, upI_i, upR_eq, upR_a, upR_i]); first | assumption | rfl) (by omega) (fun y57 => ?_) (fun y57 => ?_)
                    · skip
                      refine s263_60.mpr ?_
                      refine (s263_61 kM).mpr ?_
                      refine s263_64.mpr (s263_66.mpr (s263_67.mpr ?_))
                      try simp (disch := first | decide | assumption | omega) only [kon, knt_some, knt_none, Option.toList_some, Option.toList_none, List.cons_append, List.nil_append, upI_eq, upI_a, upI_i, upR_eq, upR_a, upR_i, h36, ht, fAdd_id, fSub_id, fMul_id, e60, e61]
                      first | (exfalso; omega) | exact T69 _
                    · skip
                      refine s263_60.mpr ?_
                      refine (s263_61 kM).mpr ?_
                      refine s263_64.mpr (s263_66.mpr (s263_67.mpr ?_))
                      try simp (disch := first | decide | assumption | omega) only [kon, knt_some, knt_none, Option.toList_some, Option.toList_none, List.cons_append, List.nil_append, upI_eq, upI_a, upI_i, upR_eq, upR_a, upR_i, h36, ht, fAdd_id, fSub_id, fMul_id, e60, e61]
                      first | (exfalso; omega) | exact T69 _
                · first
                  | (exfalso; omega)
                  | skip
                    exfalso; omega
            · first
              | (exfalso; omega)
              | skip
                exfalso; omega
    · have hts : tsL B g 38 v p (t, hi 75, hi 76) = none := (tsL_38 rfl).trans (onw_n (fun h => hT ⟨h.2.2.1, h.2.2.2⟩))
      refine s263_0.mpr (s263_1.mpr ?_)
      refine (s263_2 (by omega) kM).mpr ?_
      refine m_popKind hA hR (by omega) h36 (by omega) ht (by omega) (fun y2 => ?_) (fun q2 hi2 t2 w2 z2 u2 v2 x2 => ?_)
      · skip
        refine s263_5.mpr (s263_7.mpr (s263_8.mpr ?_))
        refine (s263_9 kM).mpr ?_
        try simp (disch := first | decide | assumption | omega) only [kon, knt_some, knt_none, Option.toList_some, Option.toList_none, List.cons_append, List.nil_append, upI_eq, upI_a, upI_i, upR_eq, upR_a, upR_i, h36, ht, fAdd_id, fSub_id, fMul_id, e60, e61]
        refine s263_12.mpr (wif (fun c12 => ?_) (fun c12 => ?_))
        · first
          | (exfalso; omega)
          | skip
            refine s263_56.mpr ?_
            refine (s263_57 (by omega) kM).mpr ?_
            refine m_wants hA (by omega) (by (try simp (disch := decide) only [upI_eq, upI_a, upI_i, upR_eq, upR_a, upR_i]); first | assumption | rfl) (by omega) (fun y57 => ?_) (fun y57 => ?_)
            · skip
              refine s263_60.mpr ?_
              refine (s263_61 kM).mpr ?_
              refine s263_64.mpr (s263_66.mpr (s263_67.mpr ?_))
              try simp (disch := first | decide | assumption | omega) only [kon, knt_some, knt_none, Option.toList_some, Option.toList_none, List.cons_append, List.nil_append, upI_eq, upI_a, upI_i, upR_eq, upR_a, upR_i, h36, ht, fAdd_id, fSub_id, fMul_id, e60, e61]
              first | (exfalso; omega) | exact T69f _ _ _ _ _ (Or.inl hts) (by repeat' (first | assumption | exact FW.rf | refine FW.up ?_ (by unfold wT wS wFl; omega))) (by (try simp (disch := decide) only [upI_eq, upI_a, upI_i, upR_eq, upR_a, upR_i]))
            · skip
              refine s263_60.mpr ?_
              refine (s263_61 kM).mpr ?_
              refine s263_64.mpr (s263_66.mpr (s263_67.mpr ?_))
              try simp (disch := first | decide | assumption | omega) only [kon, knt_some, knt_none, Option.toList_some, Option.toList_none, List.cons_append, List.nil_append, upI_eq, upI_a, upI_i, upR_eq, upR_a, upR_i, h36, ht, fAdd_id, fSub_id, fMul_id, e60, e61]
              first | (exfalso; omega) | exact T69f _ _ _ _ _ (Or.inl hts) (by repeat' (first | assumption | exact FW.rf | refine FW.up ?_ (by unfold wT wS wFl; omega))) (by (try simp (disch := decide) only [upI_eq, upI_a, upI_i, upR_eq, upR_a, upR_i]))
        · first
          | (exfalso; omega)
          | skip
            refine s263_15.mpr ((s263_16 kM).mpr ?_)
            rw [mr_12 hR]
            refine s263_19.mpr (s263_20.mpr ?_)
            refine (s263_22 (by omega)).mpr ?_
            refine m_stateOf (by omega) ⟨hm0, hm1⟩ hr9 ?_
            refine (s263_25 (hA.k (by decide) (by decide) rfl) (by first | assumption | omega) (by first | assumption | omega)).mpr ?_
            refine s263_26.mpr (s263_27.mpr ?_)
            try simp (disch := first | decide | assumption | omega) only [kon, knt_some, knt_none, Option.toList_some, Option.toList_none, List.cons_append, List.nil_append, upI_eq, upI_a, upI_i, upR_eq, upR_a, upR_i, h36, ht, fAdd_id, fSub_id, fMul_id, e60, e61]
            refine (s263_29 (by omega)).mpr ?_
            refine (m_side hr9).mpr ?_
            refine s263_32.mpr ?_
            try simp (disch := first | decide | assumption | omega) only [kon, knt_some, knt_none, Option.toList_some, Option.toList_none, List.cons_append, List.nil_append, upI_eq, upI_a, upI_i, upR_eq, upR_a, upR_i, h36, ht, fAdd_id, fSub_id, fMul_id, e60, e61]
            refine s263_33.mpr (wif (fun c33 => ?_) (fun c33 => ?_))
            · first
              | (exfalso; omega)
              | skip
                refine s263_36.mpr ((s263_37 kM).mpr ?_)
                rw [mr_13 hR]
                refine s263_40.mpr (s263_41.mpr ?_)
                refine (s263_43 (by omega)).mpr ?_
                refine m_stateOf (by omega) ⟨hm0, hm1⟩ hr9 ?_
                refine (s263_46 (hA.k (by decide) (by decide) rfl) (by first | assumption | omega) (by first | assumption | omega)).mpr ?_
                refine s263_47.mpr ?_
                try simp (disch := first | decide | assumption | omega) only [kon, knt_some, knt_none, Option.toList_some, Option.toList_none, List.cons_append, List.nil_append, upI_eq, upI_a, upI_i, upR_eq, upR_a, upR_i, h36, ht, fAdd_id, fSub_id, fMul_id, e60, e61]
                refine s263_49.mpr (wif (fun c49 => ?_) (fun c49 => ?_))
                · first
                  | (exfalso; omega)
                  | skip
                    refine s263_52.mpr (s263_53.mpr ?_)
                    refine (s263_57 (by omega) kM).mpr ?_
                    refine m_wants hA (by omega) (by (try simp (disch := decide) only [upI_eq, upI_a, upI_i, upR_eq, upR_a, upR_i]); first | assumption | rfl) (by omega) (fun y57 => ?_) (fun y57 => ?_)
                    · skip
                      refine s263_60.mpr ?_
                      refine (s263_61 kM).mpr ?_
                      refine s263_64.mpr (s263_66.mpr (s263_67.mpr ?_))
                      try simp (disch := first | decide | assumption | omega) only [kon, knt_some, knt_none, Option.toList_some, Option.toList_none, List.cons_append, List.nil_append, upI_eq, upI_a, upI_i, upR_eq, upR_a, upR_i, h36, ht, fAdd_id, fSub_id, fMul_id, e60, e61]
                      first | (exfalso; omega) | exact T69f _ _ _ _ _ (Or.inl hts) (by repeat' (first | assumption | exact FW.rf | refine FW.up ?_ (by unfold wT wS wFl; omega))) (by (try simp (disch := decide) only [upI_eq, upI_a, upI_i, upR_eq, upR_a, upR_i]))
                    · skip
                      refine s263_60.mpr ?_
                      refine (s263_61 kM).mpr ?_
                      refine s263_64.mpr (s263_66.mpr (s263_67.mpr ?_))
                      try simp (disch := first | decide | assumption | omega) only [kon, knt_some, knt_none, Option.toList_some, Option.toList_none, List.cons_append, List.nil_append, upI_eq, upI_a, upI_i, upR_eq, upR_a, upR_i, h36, ht, fAdd_id, fSub_id, fMul_id, e60, e61]
                      first | (exfalso; omega) | exact T69f _ _ _ _ _ (Or.inl hts) (by repeat' (first | assumption | exact FW.rf | refine FW.up ?_ (by unfold wT wS wFl; omega))) (by (try simp (disch := decide) only [upI_eq, upI_a, upI_i, upR_eq, upR_a, upR_i]))
                · first
                  | (exfalso; omega)
                  | skip
                    refine s263_56.mpr ?_
                    refine (s263_57 (by omega) kM).mpr ?_
                    refine m_wants hA (by omega) (by (try simp (disch := decide) only [upI_eq, upI_a, upI_i, upR_eq, upR_a, upR_i]); first | assumption | rfl) (by omega) (fun y57 => ?_) (fun y57 => ?_)
                    · skip
                      refine s263_60.mpr ?_
                      refine (s263_61 kM).mpr ?_
                      refine s263_64.mpr (s263_66.mpr (s263_67.mpr ?_))
                      try simp (disch := first | decide | assumption | omega) only [kon, knt_some, knt_none, Option.toList_some, Option.toList_none, List.cons_append, List.nil_append, upI_eq, upI_a, upI_i, upR_eq, upR_a, upR_i, h36, ht, fAdd_id, fSub_id, fMul_id, e60, e61]
                      first | (exfalso; omega) | exact T69f _ _ _ _ _ (Or.inl hts) (by repeat' (first | assumption | exact FW.rf | refine FW.up ?_ (by unfold wT wS wFl; omega))) (by (try simp (disch := decide) only [upI_eq, upI_a, upI_i, upR_eq, upR_a, upR_i]))
                    · skip
                      refine s263_60.mpr ?_
                      refine (s263_61 kM).mpr ?_
                      refine s263_64.mpr (s263_66.mpr (s263_67.mpr ?_))
                      try simp (disch := first | decide | assumption | omega) only [kon, knt_some, knt_none, Option.toList_some, Option.toList_none, List.cons_append, List.nil_append, upI_eq, upI_a, upI_i, upR_eq, upR_a, upR_i, h36, ht, fAdd_id, fSub_id, fMul_id, e60, e61]
                      first | (exfalso; omega) | exact T69f _ _ _ _ _ (Or.inl hts) (by repeat' (first | assumption | exact FW.rf | refine FW.up ?_ (by unfold wT wS wFl; omega))) (by (try simp (disch := decide) only [upI_eq, upI_a, upI_i, upR_eq, upR_a, upR_i]))
            · first
              | (exfalso; omega)
              | skip
                refine s263_56.mpr ?_
                refine (s263_57 (by omega) kM).mpr ?_
                refine m_wants hA (by omega) (by (try simp (disch := decide) only [upI_eq, upI_a, upI_i, upR_eq, upR_a, upR_i]); first | assumption | rfl) (by omega) (fun y57 => ?_) (fun y57 => ?_)
                · skip
                  refine s263_60.mpr ?_
                  refine (s263_61 kM).mpr ?_
                  refine s263_64.mpr (s263_66.mpr (s263_67.mpr ?_))
                  try simp (disch := first | decide | assumption | omega) only [kon, knt_some, knt_none, Option.toList_some, Option.toList_none, List.cons_append, List.nil_append, upI_eq, upI_a, upI_i, upR_eq, upR_a, upR_i, h36, ht, fAdd_id, fSub_id, fMul_id, e60, e61]
                  first | (exfalso; omega) | exact T69f _ _ _ _ _ (Or.inl hts) (by repeat' (first | assumption | exact FW.rf | refine FW.up ?_ (by unfold wT wS wFl; omega))) (by (try simp (disch := decide) only [upI_eq, upI_a, upI_i, upR_eq, upR_a, upR_i]))
                · skip
                  refine s263_60.mpr ?_
                  refine (s263_61 kM).mpr ?_
                  refine s263_64.mpr (s263_66.mpr (s263_67.mpr ?_))
                  try simp (disch := first | decide | assumption | omega) only [kon, knt_some, knt_none, Option.toList_some, Option.toList_none, List.cons_append, List.nil_append, upI_eq, upI_a, upI_i, upR_eq, upR_a, upR_i, h36, ht, fAdd_id, fSub_id, fMul_id, e60, e61]
                  first | (exfalso; omega) | exact T69f _ _ _ _ _ (Or.inl hts) (by repeat' (first | assumption | exact FW.rf | refine FW.up ?_ (by unfold wT wS wFl; omega))) (by (try simp (disch := decide) only [upI_eq, upI_a, upI_i, upR_eq, upR_a, upR_i]))
      · skip
        refine s263_5.mpr (s263_7.mpr (s263_8.mpr ?_))
        refine (s263_9 kM).mpr ?_
        try simp (disch := first | decide | assumption | omega) only [kon, knt_some, knt_none, Option.toList_some, Option.toList_none, List.cons_append, List.nil_append, upI_eq, upI_a, upI_i, upR_eq, upR_a, upR_i, h36, ht, fAdd_id, fSub_id, fMul_id, e60, e61]
        refine s263_12.mpr (wif (fun c12 => ?_) (fun c12 => ?_))
        · first
          | (exfalso; omega)
          | skip
            refine s263_56.mpr ?_
            refine (s263_57 (by omega) kM).mpr ?_
            refine m_wants hA (by omega) (by (try simp (disch := decide) only [upI_eq, upI_a, upI_i, upR_eq, upR_a, upR_i]); first | assumption | rfl) (by omega) (fun y57 => ?_) (fun y57 => ?_)
            · skip
              refine s263_60.mpr ?_
              refine (s263_61 kM).mpr ?_
              refine s263_64.mpr (s263_66.mpr (s263_67.mpr ?_))
              try simp (disch := first | decide | assumption | omega) only [kon, knt_some, knt_none, Option.toList_some, Option.toList_none, List.cons_append, List.nil_append, upI_eq, upI_a, upI_i, upR_eq, upR_a, upR_i, h36, ht, fAdd_id, fSub_id, fMul_id, e60, e61]
              first | (exfalso; omega) | exact T69f _ _ _ _ _ (Or.inl hts) (by repeat' (first | assumption | exact FW.rf | refine FW.up ?_ (by unfold wT wS wFl; omega))) (by (try simp (disch := decide) only [upI_eq, upI_a, upI_i, upR_eq, upR_a, upR_i]))
            · skip
              refine s263_60.mpr ?_
              refine (s263_61 kM).mpr ?_
              refine s263_64.mpr (s263_66.mpr (s263_67.mpr ?_))
              try simp (disch := first | decide | assumption | omega) only [kon, knt_some, knt_none, Option.toList_some, Option.toList_none, List.cons_append, List.nil_append, upI_eq, upI_a, upI_i, upR_eq, upR_a, upR_i, h36, ht, fAdd_id, fSub_id, fMul_id, e60, e61]
              first | (exfalso; omega) | exact T69f _ _ _ _ _ (Or.inl hts) (by repeat' (first | assumption | exact FW.rf | refine FW.up ?_ (by unfold wT wS wFl; omega))) (by (try simp (disch := decide) only [upI_eq, upI_a, upI_i, upR_eq, upR_a, upR_i]))
        · first
          | (exfalso; omega)
          | skip
            refine s263_15.mpr ((s263_16 kM).mpr ?_)
            rw [mr_12 hR]
            refine s263_19.mpr (s263_20.mpr ?_)
            refine (s263_22 (by omega)).mpr ?_
            refine m_stateOf (by omega) ⟨hm0, hm1⟩ hr9 ?_
            refine (s263_25 (hA.k (by decide) (by decide) rfl) (by first | assumption | omega) (by first | assumption | omega)).mpr ?_
            refine s263_26.mpr (s263_27.mpr ?_)
            try simp (disch := first | decide | assumption | omega) only [kon, knt_some, knt_none, Option.toList_some, Option.toList_none, List.cons_append, List.nil_append, upI_eq, upI_a, upI_i, upR_eq, upR_a, upR_i, h36, ht, fAdd_id, fSub_id, fMul_id, e60, e61]
            refine (s263_29 (by omega)).mpr ?_
            refine (m_side hr9).mpr ?_
            refine s263_32.mpr ?_
            try simp (disch := first | decide | assumption | omega) only [kon, knt_some, knt_none, Option.toList_some, Option.toList_none, List.cons_append, List.nil_append, upI_eq, upI_a, upI_i, upR_eq, upR_a, upR_i, h36, ht, fAdd_id, fSub_id, fMul_id, e60, e61]
            refine s263_33.mpr (wif (fun c33 => ?_) (fun c33 => ?_))
            · first
              | (exfalso; omega)
              | skip
                refine s263_36.mpr ((s263_37 kM).mpr ?_)
                rw [mr_13 hR]
                refine s263_40.mpr (s263_41.mpr ?_)
                refine (s263_43 (by omega)).mpr ?_
                refine m_stateOf (by omega) ⟨hm0, hm1⟩ hr9 ?_
                refine (s263_46 (hA.k (by decide) (by decide) rfl) (by first | assumption | omega) (by first | assumption | omega)).mpr ?_
                refine s263_47.mpr ?_
                try simp (disch := first | decide | assumption | omega) only [kon, knt_some, knt_none, Option.toList_some, Option.toList_none, List.cons_append, List.nil_append, upI_eq, upI_a, upI_i, upR_eq, upR_a, upR_i, h36, ht, fAdd_id, fSub_id, fMul_id, e60, e61]
                refine s263_49.mpr (wif (fun c49 => ?_) (fun c49 => ?_))
                · first
                  | (exfalso; omega)
                  | skip
                    refine s263_52.mpr (s263_53.mpr ?_)
                    refine (s263_57 (by omega) kM).mpr ?_
                    refine m_wants hA (by omega) (by (try simp (disch := decide) only [upI_eq, upI_a, upI_i, upR_eq, upR_a, upR_i]); first | assumption | rfl) (by omega) (fun y57 => ?_) (fun y57 => ?_)
                    · skip
                      refine s263_60.mpr ?_
                      refine (s263_61 kM).mpr ?_
                      refine s263_64.mpr (s263_66.mpr (s263_67.mpr ?_))
                      try simp (disch := first | decide | assumption | omega) only [kon, knt_some, knt_none, Option.toList_some, Option.toList_none, List.cons_append, List.nil_append, upI_eq, upI_a, upI_i, upR_eq, upR_a, upR_i, h36, ht, fAdd_id, fSub_id, fMul_id, e60, e61]
                      first | (exfalso; omega) | exact T69f _ _ _ _ _ (Or.inl hts) (by repeat' (first | assumption | exact FW.rf | refine FW.up ?_ (by unfold wT wS wFl; omega))) (by (try simp (disch := decide) only [upI_eq, upI_a, upI_i, upR_eq, upR_a, upR_i]))
                    · skip
                      refine s263_60.mpr ?_
                      refine (s263_61 kM).mpr ?_
                      refine s263_64.mpr (s263_66.mpr (s263_67.mpr ?_))
                      try simp (disch := first | decide | assumption | omega) only [kon, knt_some, knt_none, Option.toList_some, Option.toList_none, List.cons_append, List.nil_append, upI_eq, upI_a, upI_i, upR_eq, upR_a, upR_i, h36, ht, fAdd_id, fSub_id, fMul_id, e60, e61]
                      first | (exfalso; omega) | exact T69f _ _ _ _ _ (Or.inl hts) (by repeat' (first | assumption | exact FW.rf | refine FW.up ?_ (by unfold wT wS wFl; omega))) (by (try simp (disch := decide) only [upI_eq, upI_a, upI_i, upR_eq, upR_a, upR_i]))
                · first
                  | (exfalso; omega)
                  | skip
                    refine s263_56.mpr ?_
                    refine (s263_57 (by omega) kM).mpr ?_
                    refine m_wants hA (by omega) (by (try simp (disch := decide) only [upI_eq, upI_a, upI_i, upR_eq, upR_a, upR_i]); first | assumption | rfl) (by omega) (fun y57 => ?_) (fun y57 => ?_)
                    · skip
                      refine s263_60.mpr ?_
                      refine (s263_61 kM).mpr ?_
                      refine s263_64.mpr (s263_66.mpr (s263_67.mpr ?_))
                      try simp (disch := first | decide | assumption | omega) only [kon, knt_some, knt_none, Option.toList_some, Option.toList_none, List.cons_append, List.nil_append, upI_eq, upI_a, upI_i, upR_eq, upR_a, upR_i, h36, ht, fAdd_id, fSub_id, fMul_id, e60, e61]
                      first | (exfalso; omega) | exact T69f _ _ _ _ _ (Or.inl hts) (by repeat' (first | assumption | exact FW.rf | refine FW.up ?_ (by unfold wT wS wFl; omega))) (by (try simp (disch := decide) only [upI_eq, upI_a, upI_i, upR_eq, upR_a, upR_i]))
                    · skip
                      refine s263_60.mpr ?_
                      refine (s263_61 kM).mpr ?_
                      refine s263_64.mpr (s263_66.mpr (s263_67.mpr ?_))
                      try simp (disch := first | decide | assumption | omega) only [kon, knt_some, knt_none, Option.toList_some, Option.toList_none, List.cons_append, List.nil_append, upI_eq, upI_a, upI_i, upR_eq, upR_a, upR_i, h36, ht, fAdd_id, fSub_id, fMul_id, e60, e61]
                      first | (exfalso; omega) | exact T69f _ _ _ _ _ (Or.inl hts) (by repeat' (first | assumption | exact FW.rf | refine FW.up ?_ (by unfold wT wS wFl; omega))) (by (try simp (disch := decide) only [upI_eq, upI_a, upI_i, upR_eq, upR_a, upR_i]))
            · first
              | (exfalso; omega)
              | skip
                refine s263_56.mpr ?_
                refine (s263_57 (by omega) kM).mpr ?_
                refine m_wants hA (by omega) (by (try simp (disch := decide) only [upI_eq, upI_a, upI_i, upR_eq, upR_a, upR_i]); first | assumption | rfl) (by omega) (fun y57 => ?_) (fun y57 => ?_)
                · skip
                  refine s263_60.mpr ?_
                  refine (s263_61 kM).mpr ?_
                  refine s263_64.mpr (s263_66.mpr (s263_67.mpr ?_))
                  try simp (disch := first | decide | assumption | omega) only [kon, knt_some, knt_none, Option.toList_some, Option.toList_none, List.cons_append, List.nil_append, upI_eq, upI_a, upI_i, upR_eq, upR_a, upR_i, h36, ht, fAdd_id, fSub_id, fMul_id, e60, e61]
                  first | (exfalso; omega) | exact T69f _ _ _ _ _ (Or.inl hts) (by repeat' (first | assumption | exact FW.rf | refine FW.up ?_ (by unfold wT wS wFl; omega))) (by (try simp (disch := decide) only [upI_eq, upI_a, upI_i, upR_eq, upR_a, upR_i]))
                · skip
                  refine s263_60.mpr ?_
                  refine (s263_61 kM).mpr ?_
                  refine s263_64.mpr (s263_66.mpr (s263_67.mpr ?_))
                  try simp (disch := first | decide | assumption | omega) only [kon, knt_some, knt_none, Option.toList_some, Option.toList_none, List.cons_append, List.nil_append, upI_eq, upI_a, upI_i, upR_eq, upR_a, upR_i, h36, ht, fAdd_id, fSub_id, fMul_id, e60, e61]
                  first | (exfalso; omega) | exact T69f _ _ _ _ _ (Or.inl hts) (by repeat' (first | assumption | exact FW.rf | refine FW.up ?_ (by unfold wT wS wFl; omega))) (by (try simp (disch := decide) only [upI_eq, upI_a, upI_i, upR_eq, upR_a, upR_i]))
  · have hts : tsL B g 38 v p (t, hi 75, hi 76) = none := (tsL_38 rfl).trans (onw_n (fun h => hk0 ⟨h.1, h.2.1⟩))
    refine s263_0.mpr (s263_1.mpr ?_)
    refine (s263_2 (by omega) kM).mpr ?_
    refine m_popKind hA hR (by omega) h36 (by omega) ht (by omega) (fun y2 => ?_) (fun q2 hi2 t2 w2 z2 u2 v2 x2 => ?_)
    · skip
      refine s263_5.mpr (s263_7.mpr (s263_8.mpr ?_))
      refine (s263_9 kM).mpr ?_
      try simp (disch := first | decide | assumption | omega) only [kon, knt_some, knt_none, Option.toList_some, Option.toList_none, List.cons_append, List.nil_append, upI_eq, upI_a, upI_i, upR_eq, upR_a, upR_i, h36, ht]
      refine s263_12.mpr (wif (fun c12 => ?_) (fun c12 => ?_))
      · first
        | (exfalso; omega)
        | skip
          refine s263_56.mpr ?_
          refine (s263_57 (by omega) kM).mpr ?_
          refine m_wants hA (by omega) (by (try simp (disch := decide) only [upI_eq, upI_a, upI_i, upR_eq, upR_a, upR_i]); first | assumption | rfl) (by omega) (fun y57 => ?_) (fun y57 => ?_)
          · skip
            refine s263_60.mpr ?_
            refine (s263_61 kM).mpr ?_
            refine s263_64.mpr (s263_66.mpr (s263_67.mpr ?_))
            try simp (disch := first | decide | assumption | omega) only [kon, knt_some, knt_none, Option.toList_some, Option.toList_none, List.cons_append, List.nil_append, upI_eq, upI_a, upI_i, upR_eq, upR_a, upR_i, h36, ht]
            first | (exfalso; omega) | exact T69f _ _ _ _ _ (Or.inl hts) (by first | exact w2.st | exact FW.up w2.st (by unfold wT wS wFl; omega)) (by (try simp (disch := decide) only [upI_eq, upI_a, upI_i, upR_eq, upR_a, upR_i]); try assumption)
          · skip
            refine s263_60.mpr ?_
            refine (s263_61 kM).mpr ?_
            refine s263_64.mpr (s263_66.mpr (s263_67.mpr ?_))
            try simp (disch := first | decide | assumption | omega) only [kon, knt_some, knt_none, Option.toList_some, Option.toList_none, List.cons_append, List.nil_append, upI_eq, upI_a, upI_i, upR_eq, upR_a, upR_i, h36, ht]
            first | (exfalso; omega) | exact T69f _ _ _ _ _ (Or.inl hts) (by first | exact w2.st | exact FW.up w2.st (by unfold wT wS wFl; omega)) (by (try simp (disch := decide) only [upI_eq, upI_a, upI_i, upR_eq, upR_a, upR_i]); try assumption)
      · first
        | (exfalso; omega)
        | skip
          exfalso; omega
    · skip
      refine s263_5.mpr (s263_7.mpr (s263_8.mpr ?_))
      refine (s263_9 kM).mpr ?_
      try simp (disch := first | decide | assumption | omega) only [kon, knt_some, knt_none, Option.toList_some, Option.toList_none, List.cons_append, List.nil_append, upI_eq, upI_a, upI_i, upR_eq, upR_a, upR_i, h36, ht]
      refine s263_12.mpr (wif (fun c12 => ?_) (fun c12 => ?_))
      · first
        | (exfalso; omega)
        | skip
          refine s263_56.mpr ?_
          refine (s263_57 (by omega) kM).mpr ?_
          refine m_wants hA (by omega) (by (try simp (disch := decide) only [upI_eq, upI_a, upI_i, upR_eq, upR_a, upR_i]); first | assumption | rfl) (by omega) (fun y57 => ?_) (fun y57 => ?_)
          · skip
            refine s263_60.mpr ?_
            refine (s263_61 kM).mpr ?_
            refine s263_64.mpr (s263_66.mpr (s263_67.mpr ?_))
            try simp (disch := first | decide | assumption | omega) only [kon, knt_some, knt_none, Option.toList_some, Option.toList_none, List.cons_append, List.nil_append, upI_eq, upI_a, upI_i, upR_eq, upR_a, upR_i, h36, ht]
            first | (exfalso; omega) | exact T69f _ _ _ _ _ (Or.inl hts) (by first | exact w2.st | exact FW.up w2.st (by unfold wT wS wFl; omega)) (by (try simp (disch := decide) only [upI_eq, upI_a, upI_i, upR_eq, upR_a, upR_i]); try assumption)
          · skip
            refine s263_60.mpr ?_
            refine (s263_61 kM).mpr ?_
            refine s263_64.mpr (s263_66.mpr (s263_67.mpr ?_))
            try simp (disch := first | decide | assumption | omega) only [kon, knt_some, knt_none, Option.toList_some, Option.toList_none, List.cons_append, List.nil_append, upI_eq, upI_a, upI_i, upR_eq, upR_a, upR_i, h36, ht]
            first | (exfalso; omega) | exact T69f _ _ _ _ _ (Or.inl hts) (by first | exact w2.st | exact FW.up w2.st (by unfold wT wS wFl; omega)) (by (try simp (disch := decide) only [upI_eq, upI_a, upI_i, upR_eq, upR_a, upR_i]); try assumption)
      · first
        | (exfalso; omega)
        | skip
          exfalso; omega
end MRC
