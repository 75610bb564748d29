section MT8
variable {d : Nat} {al : AL} {hi : HI} {hr : HR} {Q : QQ} {B : Int → Int}
theorem m_linear {m g op v p t : Int} (hA : SA al) (hR : MR hr) (hd : 6 ≤ d) (hM : MB hi m B) (hS : Sh B) (h36 : hi 49 36 = 1) (h38 : hi 49 38 = 0) (ht : hi 49 35 = t) (ht0 : 0 ≤ t ∧ t ≤ 16) (hvX : vX B (t, hi 75, hi 76)) (hop : 32 ≤ op ∧ op ≤ 43 ∧ op ≠ 38) (hv0 : op = 32 ∨ op = 33 ∨ op = 34 ∨ op = 36 ∨ op = 37 ∨ op = 40 → 0 ≤ v ∧ v ≤ 255) (hv : op = 40 → v < nFn B) (hv5 : op = 33 ∨ op = 34 → v ≤ 5) (hv3 : op = 37 → v ≤ 3)
    (ok : ∀ L Y hi', tsL B g op v p (t, hi 75, hi 76) = some L → FLW op v p Y L → FW wS hi hi' → hi' 49 36 = 1 → hi' 49 38 = 0 → scX hi' = Y → Q (some none) al hi' hr)
    (no : ∀ hi', tsL B g op v p (t, hi 75, hi 76) = none → FW wS hi hi' → hi' 49 36 = 0 → Q (some none) al hi' hr) : Ev d 258 [vR (some 49), vI m, vI (10 * m + g), vI op, vI v] al hi hr Q := by
  have kM : isK al 49 13 := hA.k (by decide) (by decide) rfl
  rw [e258]
  refine s258_0.mpr ?_
  refine g258_1 (fun c1 => ?_) (fun c1 => ?_) (fun c1 => ?_) (fun c1 => ?_) (fun c1 => ?_) (fun c1 => ?_) (fun c1 => ?_) (fun c1 => ?_) (fun c1 => ?_) (fun c1 => ?_)
  · skip
    have c1 := List.mem_singleton.mp c1
    exact m_l32 hA hR (by omega) hM hS h36 h38 ht ht0 hvX c1 (hv0 (by omega)) ok no
  · skip
    have c1 := List.mem_singleton.mp c1
    exact m_l33 hA hR (by omega) hM hS h36 h38 ht ht0 hvX c1 ⟨(hv0 (by omega)).1, hv5 (by omega)⟩ ok no
  · skip
    have c1 := List.mem_singleton.mp c1
    exact m_l34 hA hR (by omega) hM hS h36 h38 ht ht0 hvX c1 ⟨(hv0 (by omega)).1, hv5 (by omega)⟩ ok no
  · skip
    have c1 := List.mem_singleton.mp c1
    exact m_l35 hA hR (by omega) hM hS h36 h38 ht ht0 hvX c1 ok no
  · skip
    have c1 := List.mem_singleton.mp c1
    exact m_l36 hA hR (by omega) hM hS h36 h38 ht ht0 hvX c1 (hv0 (by omega)) ok no
  · skip
    have c1 := List.mem_singleton.mp c1
    refine s258_245.mpr (s258_246.mpr (s258_247.mpr ?_))
    refine (s258_249 (by omega) kM).mpr ?_
    refine m_sends (g := g) (p := p) hA hR (d := d - 1) (by omega) hM hS h36 h38 ht ht0 hvX c1 ⟨(hv0 (by omega)).1, hv3 c1⟩ (fun L Y hi249 a249 b249 e249 f249 g249 k249 => ?_) (fun hi249 a249 e249 f249 => ?_)
    · skip
      refine s258_252.mpr ?_
      refine (s258_401).mpr ?_
      first | exact ok _ _ _ a249 b249 e249 f249 g249 k249 | exact no _ a249 e249 f249 | (simp only [List.mem_cons, List.not_mem_nil, or_false, not_or] at c1; rcases (show op = 41 ∨ op = 42 by omega) with c | c; (exact ok _ _ _ ((tsL_41 c).trans (onw_p trivial)) (flw1 (by rw [c]; decide)) FW.rf h36 h38 (by rw [scX, ht])); (exact ok _ (scX hi) _ ((tsL_42 c).trans (onw_p trivial)) (Or.inr (Or.inr (Or.inl ⟨Or.inr c, rfl⟩))) FW.rf h36 h38 rfl))
    · skip
      refine s258_252.mpr ?_
      refine (s258_401).mpr ?_
      first | exact ok _ _ _ a249 b249 e249 f249 g249 k249 | exact no _ a249 e249 f249 | (simp only [List.mem_cons, List.not_mem_nil, or_false, not_or] at c1; rcases (show op = 41 ∨ op = 42 by omega) with c | c; (exact ok _ _ _ ((tsL_41 c).trans (onw_p trivial)) (flw1 (by rw [c]; decide)) FW.rf h36 h38 (by rw [scX, ht])); (exact ok _ (scX hi) _ ((tsL_42 c).trans (onw_p trivial)) (Or.inr (Or.inr (Or.inl ⟨Or.inr c, rfl⟩))) FW.rf h36 h38 rfl))
  · skip
    have c1 := List.mem_singleton.mp c1
    exact m_l39 hA hR (by omega) hM hS h36 h38 ht ht0 hvX c1 ok no
  · skip
    have c1 := List.mem_singleton.mp c1
    exact m_l40 hA hR (by omega) hM hS h36 h38 ht ht0 hvX c1 (hv0 (by omega)).1 (hv c1) ok no
  · skip
    have c1 := List.mem_singleton.mp c1
    exact m_l43 hA hR (by omega) hM hS h36 h38 ht ht0 hvX c1 ok no
  · skip
    refine (s258_401).mpr ?_
    first | exact ok _ _ _ a249 b249 e249 f249 g249 k249 | exact no _ a249 e249 f249 | (simp only [List.mem_cons, List.not_mem_nil, or_false, not_or] at c1; rcases (show op = 41 ∨ op = 42 by omega) with c | c; (exact ok _ _ _ ((tsL_41 c).trans (onw_p trivial)) (flw1 (by rw [c]; decide)) FW.rf h36 h38 (by rw [scX, ht])); (exact ok _ (scX hi) _ ((tsL_42 c).trans (onw_p trivial)) (Or.inr (Or.inr (Or.inl ⟨Or.inr c, rfl⟩))) FW.rf h36 h38 rfl))
end MT8
