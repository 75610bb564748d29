section MT4
variable {d : Nat} {al : AL} {hi : HI} {hr : HR} {Q : QQ} {B : Int → Int}
theorem vT_rng {t : Int} (h : vT B t) : rng t := ⟨by have := h.1; omega, by have := h.2.1; omega⟩
theorem k6d (x : Int) : x ≠ 6 ∨ kindM x = 6 := by
  by_cases h : x = 6
  · right; rw [h]; rfl
  · exact Or.inl h
theorem wh_b (x : Int) : 0 ≤ whichM x ∧ whichM x < 256 := by unfold whichM; omega
theorem vW {s : Int → Int} {t : Int} (hv : ∀ k, 0 ≤ k → k < t → vT B (s k)) (k : Int) : k < 0 ∨ t ≤ k ∨ ¬ (kindM (s k) = 1 ∨ kindM (s k) = 3 ∨ kindM (s k) = 4) ∨ (0 ≤ whichM (s k) ∧ whichM (s k) < nRec B) := by
  by_cases h1 : k < 0
  · omega
  · by_cases h2 : t ≤ k
    · omega
    · have h3 := (hv k (by omega) (by omega)).2.2.2.2.2.2.1
      have h4 := wh_b (s k)
      by_cases h5 : kindM (s k) = 1 ∨ kindM (s k) = 3 ∨ kindM (s k) = 4
      · have := h3 h5; omega
      · omega
/-- where an instruction goes on -/
def opL (op : Int) : Int := if op ∈ ([25, 27, 28, 29, 35, 39, 41, 43] : List Int) then 1 else 2
def FLW (op v p : Int) (Y : Tst) (L : List (Int × Tst)) : Prop := (op = 20 ∧ L = [(v, Y)]) ∨ (op = 21 ∧ L = [(v, Y), (p + 2, Y)]) ∨ ((op = 31 ∨ op = 42) ∧ L = []) ∨ (op ≠ 20 ∧ op ≠ 21 ∧ op ≠ 31 ∧ op ≠ 42 ∧ L = [(p + opL op, Y)])
theorem flw1 {op v p j : Int} {Y : Tst} (h : (op ≠ 20 ∧ op ≠ 21 ∧ op ≠ 31 ∧ op ≠ 42) ∧ opL op = j) : FLW op v p Y [(p + j, Y)] := Or.inr (Or.inr (Or.inr ⟨h.1.1, h.1.2.1, h.1.2.2.1, h.1.2.2.2, by rw [h.2]⟩))
section
variable {op v p f : Int} {X : Tst}
theorem tsH_20 (h : op = 20) : tsH B f op v p X = onw True [(v, X)] := by subst h; rfl
theorem tsH_21 (h : op = 21) : tsH B f op v p X = onw (0 < X.1 ∧ X.2.1 (X.1 - 1) = 0) [(v, (X.1 - 1, X.2.1, X.2.2)), (p + 2, (X.1 - 1, X.2.1, X.2.2))] := by subst h; rfl
theorem tsH_22 (h : op = 22) : tsH B f op v p X = onw True [(p + 2, (X.1 + 1, up1 X.2.1 X.1 (1 + 8 * v), X.2.2))] := by subst h; rfl
theorem tsH_23 (h : op = 23) : tsH B f op v p X = onw (0 < X.1 ∧ (X.2.1 (X.1 - 1) = 6 ∨ (kindM (X.2.1 (X.1 - 1)) = 1 ∧ v < nFld B (whichM (X.2.1 (X.1 - 1)))))) (if X.2.1 (X.1 - 1) = 6 then [] else [(p + 2, (X.1, up1 X.2.1 (X.1 - 1) (fTy B (whichM (X.2.1 (X.1 - 1))) v), X.2.2))]) := by subst h; rfl
theorem tsH_23n (h : op = 23) (hn : X.2.1 (X.1 - 1) ≠ 6) : tsH B f op v p X = onw (0 < X.1 ∧ (X.2.1 (X.1 - 1) = 6 ∨ (kindM (X.2.1 (X.1 - 1)) = 1 ∧ v < nFld B (whichM (X.2.1 (X.1 - 1)))))) [(p + 2, (X.1, up1 X.2.1 (X.1 - 1) (fTy B (whichM (X.2.1 (X.1 - 1))) v), X.2.2))] := (tsH_23 h).trans (by rw [if_neg hn])
theorem tsH_23s (h : op = 23) (hn : X.2.1 (X.1 - 1) = 6) : tsH B f op v p X = onw (0 < X.1 ∧ (X.2.1 (X.1 - 1) = 6 ∨ (kindM (X.2.1 (X.1 - 1)) = 1 ∧ v < nFld B (whichM (X.2.1 (X.1 - 1)))))) [] := (tsH_23 h).trans (by rw [if_pos hn])
theorem tsH_24 (h : op = 24) : tsH B f op v p X = onw (1 < X.1 ∧ (X.2.1 (X.1 - 2) = 6 ∨ (kindM (X.2.1 (X.1 - 2)) = 1 ∧ v < nFld B (whichM (X.2.1 (X.1 - 2))) ∧ leT (X.2.1 (X.1 - 1)) (fTy B (whichM (X.2.1 (X.1 - 2))) v)))) (if X.2.1 (X.1 - 2) = 6 then [] else [(p + 2, (X.1 - 2, X.2.1, X.2.2))]) := by subst h; rfl
theorem tsH_24n (h : op = 24) (hn : X.2.1 (X.1 - 2) ≠ 6) : tsH B f op v p X = onw (1 < X.1 ∧ (X.2.1 (X.1 - 2) = 6 ∨ (kindM (X.2.1 (X.1 - 2)) = 1 ∧ v < nFld B (whichM (X.2.1 (X.1 - 2))) ∧ leT (X.2.1 (X.1 - 1)) (fTy B (whichM (X.2.1 (X.1 - 2))) v)))) [(p + 2, (X.1 - 2, X.2.1, X.2.2))] := (tsH_24 h).trans (by rw [if_neg hn])
theorem tsH_24s (h : op = 24) (hn : X.2.1 (X.1 - 2) = 6) : tsH B f op v p X = onw (1 < X.1 ∧ (X.2.1 (X.1 - 2) = 6 ∨ (kindM (X.2.1 (X.1 - 2)) = 1 ∧ v < nFld B (whichM (X.2.1 (X.1 - 2))) ∧ leT (X.2.1 (X.1 - 1)) (fTy B (whichM (X.2.1 (X.1 - 2))) v)))) [] := (tsH_24 h).trans (by rw [if_pos hn])
theorem tsH_25 (h : op = 25) : tsH B f op v p X = onw (0 < X.1 ∧ X.2.1 (X.1 - 1) = 0) [(p + 1, (X.1, up1 X.2.1 (X.1 - 1) 2, X.2.2))] := by subst h; rfl
theorem tsH_26 (h : op = 26) : tsH B f op v p X = onw (0 < X.1 ∧ X.2.1 (X.1 - 1) = 0) [(p + 2, (X.1, up1 X.2.1 (X.1 - 1) (3 + 8 * v), X.2.2))] := by subst h; rfl
theorem tsH_27 (h : op = 27) : tsH B f op v p X = onw (0 < X.1 ∧ (X.2.1 (X.1 - 1) = 6 ∨ kindM (X.2.1 (X.1 - 1)) = 2 ∨ kindM (X.2.1 (X.1 - 1)) = 3)) (if X.2.1 (X.1 - 1) = 6 then [] else [(p + 1, (X.1, up1 X.2.1 (X.1 - 1) 0, X.2.2))]) := by subst h; rfl
theorem tsH_27n (h : op = 27) (hn : X.2.1 (X.1 - 1) ≠ 6) : tsH B f op v p X = onw (0 < X.1 ∧ (X.2.1 (X.1 - 1) = 6 ∨ kindM (X.2.1 (X.1 - 1)) = 2 ∨ kindM (X.2.1 (X.1 - 1)) = 3)) [(p + 1, (X.1, up1 X.2.1 (X.1 - 1) 0, X.2.2))] := (tsH_27 h).trans (by rw [if_neg hn])
theorem tsH_27s (h : op = 27) (hn : X.2.1 (X.1 - 1) = 6) : tsH B f op v p X = onw (0 < X.1 ∧ (X.2.1 (X.1 - 1) = 6 ∨ kindM (X.2.1 (X.1 - 1)) = 2 ∨ kindM (X.2.1 (X.1 - 1)) = 3)) [] := (tsH_27 h).trans (by rw [if_pos hn])
theorem tsH_28 (h : op = 28) : tsH B f op v p X = onw (1 < X.1 ∧ X.2.1 (X.1 - 1) = 0 ∧ (X.2.1 (X.1 - 2) = 6 ∨ kindM (X.2.1 (X.1 - 2)) = 2 ∨ kindM (X.2.1 (X.1 - 2)) = 3)) (if X.2.1 (X.1 - 2) = 6 then [] else [(p + 1, (X.1 - 1, up1 X.2.1 (X.1 - 2) (itm (X.2.1 (X.1 - 2))), X.2.2))]) := by subst h; rfl
theorem tsH_28k {j : Int} (h : op = 28) (hn : X.2.1 (X.1 - 2) ≠ 6) (hj : itm (X.2.1 (X.1 - 2)) = j) : tsH B f op v p X = onw (1 < X.1 ∧ X.2.1 (X.1 - 1) = 0 ∧ (X.2.1 (X.1 - 2) = 6 ∨ kindM (X.2.1 (X.1 - 2)) = 2 ∨ kindM (X.2.1 (X.1 - 2)) = 3)) [(p + 1, (X.1 - 1, up1 X.2.1 (X.1 - 2) j, X.2.2))] := by subst hj; exact (tsH_28 h).trans (by rw [if_neg hn])
theorem tsH_28n (h : op = 28) (hn : X.2.1 (X.1 - 2) ≠ 6) : tsH B f op v p X = onw (1 < X.1 ∧ X.2.1 (X.1 - 1) = 0 ∧ (X.2.1 (X.1 - 2) = 6 ∨ kindM (X.2.1 (X.1 - 2)) = 2 ∨ kindM (X.2.1 (X.1 - 2)) = 3)) [(p + 1, (X.1 - 1, up1 X.2.1 (X.1 - 2) (itm (X.2.1 (X.1 - 2))), X.2.2))] := (tsH_28 h).trans (by rw [if_neg hn])
theorem tsH_28a (h : op = 28) (hn : X.2.1 (X.1 - 2) ≠ 6) (hk : kindM (X.2.1 (X.1 - 2)) = 2) : tsH B f op v p X = onw (1 < X.1 ∧ X.2.1 (X.1 - 1) = 0 ∧ (X.2.1 (X.1 - 2) = 6 ∨ kindM (X.2.1 (X.1 - 2)) = 2 ∨ kindM (X.2.1 (X.1 - 2)) = 3)) [(p + 1, (X.1 - 1, up1 X.2.1 (X.1 - 2) 0, X.2.2))] := tsH_28k h hn (if_pos hk)
theorem tsH_28b (h : op = 28) (hn : X.2.1 (X.1 - 2) ≠ 6) (hk : ¬ kindM (X.2.1 (X.1 - 2)) = 2) : tsH B f op v p X = onw (1 < X.1 ∧ X.2.1 (X.1 - 1) = 0 ∧ (X.2.1 (X.1 - 2) = 6 ∨ kindM (X.2.1 (X.1 - 2)) = 2 ∨ kindM (X.2.1 (X.1 - 2)) = 3)) [(p + 1, (X.1 - 1, up1 X.2.1 (X.1 - 2) (1 + 8 * whichM (X.2.1 (X.1 - 2))), X.2.2))] := tsH_28k h hn (if_neg hk)
theorem tsH_28s (h : op = 28) (hn : X.2.1 (X.1 - 2) = 6) : tsH B f op v p X = onw (1 < X.1 ∧ X.2.1 (X.1 - 1) = 0 ∧ (X.2.1 (X.1 - 2) = 6 ∨ kindM (X.2.1 (X.1 - 2)) = 2 ∨ kindM (X.2.1 (X.1 - 2)) = 3)) [] := (tsH_28 h).trans (by rw [if_pos hn])
theorem tsH_29 (h : op = 29) : tsH B f op v p X = onw (2 < X.1 ∧ X.2.1 (X.1 - 2) = 0 ∧ (X.2.1 (X.1 - 3) = 6 ∨ ((kindM (X.2.1 (X.1 - 3)) = 2 ∨ kindM (X.2.1 (X.1 - 3)) = 3) ∧ leT (X.2.1 (X.1 - 1)) (itm (X.2.1 (X.1 - 3)))))) (if X.2.1 (X.1 - 3) = 6 then [] else [(p + 1, (X.1 - 3, X.2.1, X.2.2))]) := by subst h; rfl
theorem tsH_29n (h : op = 29) (hn : X.2.1 (X.1 - 3) ≠ 6) : tsH B f op v p X = onw (2 < X.1 ∧ X.2.1 (X.1 - 2) = 0 ∧ (X.2.1 (X.1 - 3) = 6 ∨ ((kindM (X.2.1 (X.1 - 3)) = 2 ∨ kindM (X.2.1 (X.1 - 3)) = 3) ∧ leT (X.2.1 (X.1 - 1)) (itm (X.2.1 (X.1 - 3)))))) [(p + 1, (X.1 - 3, X.2.1, X.2.2))] := (tsH_29 h).trans (by rw [if_neg hn])
theorem tsH_29s (h : op = 29) (hn : X.2.1 (X.1 - 3) = 6) : tsH B f op v p X = onw (2 < X.1 ∧ X.2.1 (X.1 - 2) = 0 ∧ (X.2.1 (X.1 - 3) = 6 ∨ ((kindM (X.2.1 (X.1 - 3)) = 2 ∨ kindM (X.2.1 (X.1 - 3)) = 3) ∧ leT (X.2.1 (X.1 - 1)) (itm (X.2.1 (X.1 - 3)))))) [] := (tsH_29 h).trans (by rw [if_pos hn])
theorem tsH_30 (h : op = 30) : tsH B f op v p X = onw (parT B v X) [(p + 2, if rTy B v = -1 then (X.1 - nPar B v, X.2.1, X.2.2) else (X.1 - nPar B v + 1, up1 X.2.1 (X.1 - nPar B v) (rTy B v), X.2.2))] := by subst h; rfl
theorem tsH_31 (h : op = 31) : tsH B f op v p X = onw ((if rTy B f = -1 then X.1 = 0 else X.1 = 1 ∧ leT (X.2.1 0) (rTy B f)) ∧ ∀ k, 0 ≤ k → k < 10 → ¬ linT (X.2.2 k)) [] := by subst h; rfl
theorem tsL_32 (h : op = 32) : tsL B f op v p X = onw True [(p + 2, (X.1 + 1, up1 X.2.1 X.1 (4 + 8 * v), X.2.2))] := by subst h; rfl
theorem tsL_33 (h : op = 33) : tsL B f op v p X = onw (0 < X.1 ∧ kindM (X.2.1 (X.1 - 1)) = 4 ∧ v < nFld B (whichM (X.2.1 (X.1 - 1)))) [(p + 2, (X.1 + 1, up1 X.2.1 X.1 0, X.2.2))] := by subst h; rfl
theorem tsL_34 (h : op = 34) : tsL B f op v p X = onw (1 < X.1 ∧ X.2.1 (X.1 - 1) = 0 ∧ kindM (X.2.1 (X.1 - 2)) = 4 ∧ v < nFld B (whichM (X.2.1 (X.1 - 2)))) [(p + 2, (X.1 - 1, X.2.1, X.2.2))] := by subst h; rfl
theorem tsL_35 (h : op = 35) : tsL B f op v p X = onw (0 < X.1 ∧ kindM (X.2.1 (X.1 - 1)) = 4) [(p + 1, (X.1 - 1, X.2.1, X.2.2))] := by subst h; rfl
theorem tsL_36 (h : op = 36) : tsL B f op v p X = onw True [(p + 2, (X.1 + 2, up1 (up1 X.2.1 X.1 (5 + 8 * v)) (X.1 + 1) (5 + 8 * v + 524288), X.2.2))] := by subst h; rfl
theorem tsL_38 (h : op = 38) : tsL B f op v p X = onw (0 < X.1 ∧ kindM (X.2.1 (X.1 - 1)) = 5 ∧ tnS B (whichM (X.2.1 (X.1 - 1))) (stateM (X.2.1 (X.1 - 1))) = 2 - sideM (X.2.1 (X.1 - 1)) ∧ nMs B (whichM (X.2.1 (X.1 - 1))) (stateM (X.2.1 (X.1 - 1))) = v) ((List.range v.toNat).map fun (t : Nat) => (B (cAt B f + p + 2 + (t : Int)), rcv B X (t : Int))) := by subst h; rfl
theorem tsL_39 (h : op = 39) : tsL B f op v p X = onw (0 < X.1 ∧ kindM (X.2.1 (X.1 - 1)) = 5 ∧ tnS B (whichM (X.2.1 (X.1 - 1))) (stateM (X.2.1 (X.1 - 1))) = 0) [(p + 1, (X.1 - 1, X.2.1, X.2.2))] := by subst h; rfl
theorem tsL_40 (h : op = 40) : tsL B f op v p X = onw (rTy B v = -1 ∧ (∀ k, 0 ≤ k → k < nPar B v → ¬ heapT (pTy B v k)) ∧ parT B v X) [(p + 2, (X.1 - nPar B v, X.2.1, X.2.2))] := by subst h; rfl
theorem tsL_41 (h : op = 41) : tsL B f op v p X = onw True [(p + 1, X)] := by subst h; rfl
theorem tsL_42 (h : op = 42) : tsL B f op v p X = onw True [] := by subst h; rfl
theorem tsL_43 (h : op = 43) : tsL B f op v p X = onw (0 < X.1 ∧ X.2.1 (X.1 - 1) = 0) [(p + 1, (X.1 - 1, X.2.1, X.2.2))] := by subst h; rfl
end
theorem m_h20 {m g op v p t : Int} (hA : SA al) (hR : MR hr) (hd : 4 ≤ d) (hM : MB hi m B) (hS : Sh B) (hg : 0 ≤ g ∧ g < nFn B) (h36 : hi 49 36 = 1) (h38 : hi 49 38 = 0) (ht : hi 49 35 = t) (ht0 : 0 ≤ t ∧ t ≤ 16) (hvX : vX B (t, hi 75, hi 76)) (c1 : op = 20)
    (ok : ∀ L Y hi', tsH B g op v p (t, hi 75, hi 76) = some L → FLW op v p Y L → FW wS hi hi' → hi' 49 36 = 1 → hi' 49 38 = 0 → scX hi' = Y → Q (some none) al hi' hr)
    (st : ∀ hi', tsH B g op v p (t, hi 75, hi 76) = some [] → FW wS hi hi' → hi' 49 36 = 1 → hi' 49 38 = 1 → Q (some none) al hi' hr)
    (no : ∀ hi', tsH B g op v p (t, hi 75, hi 76) = none → FW wS hi hi' → hi' 49 36 = 0 → Q (some none) al hi' hr) : Wp d 255 60 [vR (some 49), vI m, vI (10 * m + g), vI op, vI v, none, none, none, none] [] al hi hr Q := by
  have kM : isK al 49 13 := hA.k (by decide) (by decide) rfl
  have E1 : t - 1 - 1 = t - 2 := by omega
  have E2 : t - 2 + 1 = t - 1 := by omega
  have E3 : t - 1 + 1 = t := by omega
  have E4 : t - 2 - 1 = t - 3 := by omega
  have E5 : t - 3 + 1 = t - 2 := by omega
  have E6 : t + 1 + 1 = t + 2 := by omega
  have E7 : t + 1 - 1 = t := by omega
  refine s255_60.mpr ?_
  refine (s255_583).mpr ?_
  first | (exfalso; omega) | (exact ok _ _ _ ((tsH_20 c1).trans (onw_p (trivial))) (Or.inl ⟨c1, rfl⟩) (by repeat' (first | assumption | exact FW.rf | refine FW.up ?_ (by unfold wS; omega) | (refine FW.tr ?_ (by assumption)))) (by (try simp (disch := decide) only [upI_eq, upI_a, upI_i, upR_eq, upR_a, upR_i]); try assumption) (by (try simp (disch := decide) only [upI_eq, upI_a, upI_i, upR_eq, upR_a, upR_i]); try assumption) (by simp (disch := decide) only [scX, upI_eq, upI_a, upI_i, upR_eq, upR_a, upR_i, upI_ro, upI_rw, up1_same, up1_eq, ht, E1, E2, E3, E4, E5, E6, E7]))
theorem m_h21 {m g op v p t : Int} (hA : SA al) (hR : MR hr) (hd : 4 ≤ d) (hM : MB hi m B) (hS : Sh B) (hg : 0 ≤ g ∧ g < nFn B) (h36 : hi 49 36 = 1) (h38 : hi 49 38 = 0) (ht : hi 49 35 = t) (ht0 : 0 ≤ t ∧ t ≤ 16) (hvX : vX B (t, hi 75, hi 76)) (c1 : op = 21)
    (ok : ∀ L Y hi', tsH B g op v p (t, hi 75, hi 76) = some L → FLW op v p Y L → FW wS hi hi' → hi' 49 36 = 1 → hi' 49 38 = 0 → scX hi' = Y → Q (some none) al hi' hr)
    (st : ∀ hi', tsH B g op v p (t, hi 75, hi 76) = some [] → FW wS hi hi' → hi' 49 36 = 1 → hi' 49 38 = 1 → Q (some none) al hi' hr)
    (no : ∀ hi', tsH B g op v p (t, hi 75, hi 76) = none → FW wS hi hi' → hi' 49 36 = 0 → Q (some none) al hi' hr) : Wp d 255 63 [vR (some 49), vI m, vI (10 * m + g), vI op, vI v, none, none, none, none] [] al hi hr Q := by
  have kM : isK al 49 13 := hA.k (by decide) (by decide) rfl
  have E1 : t - 1 - 1 = t - 2 := by omega
  have E2 : t - 2 + 1 = t - 1 := by omega
  have E3 : t - 1 + 1 = t := by omega
  have E4 : t - 2 - 1 = t - 3 := by omega
  have E5 : t - 3 + 1 = t - 2 := by omega
  have E6 : t + 1 + 1 = t + 2 := by omega
  have E7 : t + 1 - 1 = t := by omega
  refine s255_63.mpr (s255_64.mpr ?_)
  refine (s255_65 (by omega) kM).mpr ?_
  refine m_popFor hA hR (by omega) (by (try simp (disch := decide) only [upI_eq, upI_a, upI_i, upR_eq, upR_a, upR_i]); first | assumption | rfl) (by omega) (by (try simp (disch := decide) only [upI_eq, upI_a, upI_i, upR_eq, upR_a, upR_i]); first | assumption | rfl) (by omega) (fun y65 => ?_) (fun hi65 t65 w65 z65 u65 v65 x65 => ?_)
  · skip
    try simp (disch := decide) only [upI_eq, upI_a, upI_i, upR_eq, upR_a, upR_i, E1, E4] at y65
    try simp (disch := decide) only [upI_eq, upI_a, upI_i, upR_eq, upR_a, upR_i, E1, E4] at x65
    refine s255_68.mpr ?_
    refine (s255_583).mpr ?_
    first | (exfalso; omega) | (exact ok _ _ _ ((tsH_21 c1).trans (onw_p (by dsimp only; exact ⟨by omega, le0 y65.2.2 rfl⟩))) (Or.inr (Or.inl ⟨c1, rfl⟩)) (by repeat' (first | assumption | exact FW.rf | refine FW.up ?_ (by unfold wS; omega) | (refine FW.tr ?_ (by assumption)))) (by (try simp (disch := decide) only [upI_eq, upI_a, upI_i, upR_eq, upR_a, upR_i]); try assumption) (by (try simp (disch := decide) only [upI_eq, upI_a, upI_i, upR_eq, upR_a, upR_i]); try assumption) (by simp (disch := decide) only [scX, upI_eq, upI_a, upI_i, upR_eq, upR_a, upR_i, upI_ro, upI_rw, up1_same, up1_eq, ht, E1, E2, E3, E4, E5, E6, E7])) | (exact no _ ((tsH_21 c1).trans (onw_n (by intro h; dsimp only at h; omega))) (by repeat' (first | assumption | exact FW.rf | refine FW.up ?_ (by unfold wS; omega) | (refine FW.tr ?_ (by assumption)))) (by (try simp (disch := decide) only [upI_eq, upI_a, upI_i, upR_eq, upR_a, upR_i]); try assumption))
  · skip
    try simp (disch := decide) only [upI_eq, upI_a, upI_i, upR_eq, upR_a, upR_i, E1, E4] at y65
    try simp (disch := decide) only [upI_eq, upI_a, upI_i, upR_eq, upR_a, upR_i, E1, E4] at x65
    refine s255_68.mpr ?_
    refine (s255_583).mpr ?_
    first | (exfalso; omega) | (exact ok _ _ _ ((tsH_21 c1).trans (onw_p (by dsimp only; exact ⟨by omega, le0 y65.2.2 rfl⟩))) (Or.inr (Or.inl ⟨c1, rfl⟩)) (by repeat' (first | assumption | exact FW.rf | refine FW.up ?_ (by unfold wS; omega) | (refine FW.tr ?_ (by assumption)))) (by (try simp (disch := decide) only [upI_eq, upI_a, upI_i, upR_eq, upR_a, upR_i]); try assumption) (by (try simp (disch := decide) only [upI_eq, upI_a, upI_i, upR_eq, upR_a, upR_i]); try assumption) (by simp (disch := decide) only [scX, upI_eq, upI_a, upI_i, upR_eq, upR_a, upR_i, upI_ro, upI_rw, up1_same, up1_eq, ht, E1, E2, E3, E4, E5, E6, E7])) | (exact no _ ((tsH_21 c1).trans (onw_n (by intro h; dsimp only at h; omega))) (by repeat' (first | assumption | exact FW.rf | refine FW.up ?_ (by unfold wS; omega) | (refine FW.tr ?_ (by assumption)))) (by (try simp (disch := decide) only [upI_eq, upI_a, upI_i, upR_eq, upR_a, upR_i]); try assumption))
theorem m_h22 {m g op v p t : Int} (hA : SA al) (hR : MR hr) (hd : 4 ≤ d) (hM : MB hi m B) (hS : Sh B) (hg : 0 ≤ g ∧ g < nFn B) (h36 : hi 49 36 = 1) (h38 : hi 49 38 = 0) (ht : hi 49 35 = t) (ht0 : 0 ≤ t ∧ t ≤ 16) (hvX : vX B (t, hi 75, hi 76)) (c1 : op = 22) (hv0 : 0 ≤ v ∧ v ≤ 255)
    (ok : ∀ L Y hi', tsH B g op v p (t, hi 75, hi 76) = some L → FLW op v p Y L → FW wS hi hi' → hi' 49 36 = 1 → hi' 49 38 = 0 → scX hi' = Y → Q (some none) al hi' hr)
    (st : ∀ hi', tsH B g op v p (t, hi 75, hi 76) = some [] → FW wS hi hi' → hi' 49 36 = 1 → hi' 49 38 = 1 → Q (some none) al hi' hr)
    (no : ∀ hi', tsH B g op v p (t, hi 75, hi 76) = none → FW wS hi hi' → hi' 49 36 = 0 → Q (some none) al hi' hr) : Wp d 255 71 [vR (some 49), vI m, vI (10 * m + g), vI op, vI v, none, none, none, none] [] al hi hr Q := by
  have kM : isK al 49 13 := hA.k (by decide) (by decide) rfl
  have E1 : t - 1 - 1 = t - 2 := by omega
  have E2 : t - 2 + 1 = t - 1 := by omega
  have E3 : t - 1 + 1 = t := by omega
  have E4 : t - 2 - 1 = t - 3 := by omega
  have E5 : t - 3 + 1 = t - 2 := by omega
  have E6 : t + 1 + 1 = t + 2 := by omega
  have E7 : t + 1 - 1 = t := by omega
  refine s255_71.mpr (s255_72.mpr (s255_73.mpr (s255_75.mpr (s255_77.mpr (s255_78.mpr ?_)))))
  try simp (disch := first | decide | assumption | omega) only [kon, knt_some, knt_none, Option.toList_some, Option.toList_none, List.cons_append, List.nil_append, upI_eq, upI_a, upI_i, upR_eq, upR_a, upR_i, h36, ht, E1, E2, E3, E4, E5, E6, E7, fAdd_id, fSub_id, fMul_id]
  refine (s255_79 (by omega) kM).mpr ?_
  refine m_push hA hR (by (try simp (disch := decide) only [upI_eq, upI_a, upI_i, upR_eq, upR_a, upR_i]); first | assumption | rfl) (by omega) ?_
  refine s255_82.mpr ?_
  refine (s255_583).mpr ?_
  first | (exfalso; omega) | (exact ok _ _ _ ((tsH_22 c1).trans (onw_p (trivial))) (flw1 (by rw [c1]; decide)) (by repeat' (first | assumption | exact FW.rf | refine FW.up ?_ (by unfold wS; omega) | (refine FW.tr ?_ (by assumption)))) (by (try simp (disch := decide) only [upI_eq, upI_a, upI_i, upR_eq, upR_a, upR_i]); try assumption) (by (try simp (disch := decide) only [upI_eq, upI_a, upI_i, upR_eq, upR_a, upR_i]); try assumption) (by simp (disch := decide) only [scX, upI_eq, upI_a, upI_i, upR_eq, upR_a, upR_i, upI_ro, upI_rw, up1_same, up1_eq, ht, E1, E2, E3, E4, E5, E6, E7]))
theorem m_h25 {m g op v p t : Int} (hA : SA al) (hR : MR hr) (hd : 4 ≤ d) (hM : MB hi m B) (hS : Sh B) (hg : 0 ≤ g ∧ g < nFn B) (h36 : hi 49 36 = 1) (h38 : hi 49 38 = 0) (ht : hi 49 35 = t) (ht0 : 0 ≤ t ∧ t ≤ 16) (hvX : vX B (t, hi 75, hi 76)) (c1 : op = 25)
    (ok : ∀ L Y hi', tsH B g op v p (t, hi 75, hi 76) = some L → FLW op v p Y L → FW wS hi hi' → hi' 49 36 = 1 → hi' 49 38 = 0 → scX hi' = Y → Q (some none) al hi' hr)
    (st : ∀ hi', tsH B g op v p (t, hi 75, hi 76) = some [] → FW wS hi hi' → hi' 49 36 = 1 → hi' 49 38 = 1 → Q (some none) al hi' hr)
    (no : ∀ hi', tsH B g op v p (t, hi 75, hi 76) = none → FW wS hi hi' → hi' 49 36 = 0 → Q (some none) al hi' hr) : Wp d 255 267 [vR (some 49), vI m, vI (10 * m + g), vI op, vI v, none, none, none, none] [] al hi hr Q := by
  have kM : isK al 49 13 := hA.k (by decide) (by decide) rfl
  have E1 : t - 1 - 1 = t - 2 := by omega
  have E2 : t - 2 + 1 = t - 1 := by omega
  have E3 : t - 1 + 1 = t := by omega
  have E4 : t - 2 - 1 = t - 3 := by omega
  have E5 : t - 3 + 1 = t - 2 := by omega
  have E6 : t + 1 + 1 = t + 2 := by omega
  have E7 : t + 1 - 1 = t := by omega
  refine s255_267.mpr (s255_268.mpr ?_)
  refine (s255_269 (by omega) kM).mpr ?_
  refine m_popFor hA hR (by omega) (by (try simp (disch := decide) only [upI_eq, upI_a, upI_i, upR_eq, upR_a, upR_i]); first | assumption | rfl) (by omega) (by (try simp (disch := decide) only [upI_eq, upI_a, upI_i, upR_eq, upR_a, upR_i]); first | assumption | rfl) (by omega) (fun y269 => ?_) (fun hi269 t269 w269 z269 u269 v269 x269 => ?_)
  · skip
    try simp (disch := decide) only [upI_eq, upI_a, upI_i, upR_eq, upR_a, upR_i, E1, E4] at y269
    try simp (disch := decide) only [upI_eq, upI_a, upI_i, upR_eq, upR_a, upR_i, E1, E4] at x269
    refine s255_272.mpr ?_
    refine (s255_273 kM).mpr ?_
    try simp (disch := first | decide | assumption | omega) only [kon, knt_some, knt_none, Option.toList_some, Option.toList_none, List.cons_append, List.nil_append, upI_eq, upI_a, upI_i, upR_eq, upR_a, upR_i, h36, ht, E1, E2, E3, E4, E5, E6, E7, fAdd_id, fSub_id, fMul_id]
    refine s255_276.mpr (wif (fun c276 => ?_) (fun c276 => ?_))
    · first
      | (exfalso; omega)
      | skip
        refine (s255_583).mpr ?_
        first | (exfalso; omega) | (exact ok _ _ _ ((tsH_25 c1).trans (onw_p (by dsimp only; exact ⟨by omega, le0 y269.2.2 rfl⟩))) (flw1 (by rw [c1]; decide)) (by repeat' (first | assumption | exact FW.rf | refine FW.up ?_ (by unfold wS; omega) | (refine FW.tr ?_ (by assumption)))) (by (try simp (disch := decide) only [upI_eq, upI_a, upI_i, upR_eq, upR_a, upR_i]); try assumption) (by (try simp (disch := decide) only [upI_eq, upI_a, upI_i, upR_eq, upR_a, upR_i]); try assumption) (by simp (disch := decide) only [scX, upI_eq, upI_a, upI_i, upR_eq, upR_a, upR_i, upI_ro, upI_rw, up1_same, up1_eq, ht, E1, E2, E3, E4, E5, E6, E7])) | (exact no _ ((tsH_25 c1).trans (onw_n (by intro h; dsimp only at h; omega))) (by repeat' (first | assumption | exact FW.rf | refine FW.up ?_ (by unfold wS; omega) | (refine FW.tr ?_ (by assumption)))) (by (try simp (disch := decide) only [upI_eq, upI_a, upI_i, upR_eq, upR_a, upR_i]); try assumption))
    · first
      | (exfalso; omega)
      | skip
        refine s255_279.mpr (s255_280.mpr (s255_281.mpr ?_))
        refine s255_283.mpr (wif (fun c283 => ?_) (fun c283 => ?_))
        · first
          | (exfalso; omega)
          | skip
            refine s255_286.mpr (s255_287.mpr ?_)
            refine (s255_297 (by omega) kM).mpr ?_
            refine m_push hA hR (by (try simp (disch := decide) only [upI_eq, upI_a, upI_i, upR_eq, upR_a, upR_i]); first | assumption | rfl) (by omega) ?_
            refine s255_300.mpr ?_
            refine (s255_583).mpr ?_
            first | (exfalso; omega) | (exact ok _ _ _ ((tsH_25 c1).trans (onw_p (by dsimp only; exact ⟨by omega, le0 y269.2.2 rfl⟩))) (flw1 (by rw [c1]; decide)) (by repeat' (first | assumption | exact FW.rf | refine FW.up ?_ (by unfold wS; omega) | (refine FW.tr ?_ (by assumption)))) (by (try simp (disch := decide) only [upI_eq, upI_a, upI_i, upR_eq, upR_a, upR_i]); try assumption) (by (try simp (disch := decide) only [upI_eq, upI_a, upI_i, upR_eq, upR_a, upR_i]); try assumption) (by simp (disch := decide) only [scX, upI_eq, upI_a, upI_i, upR_eq, upR_a, upR_i, upI_ro, upI_rw, up1_same, up1_eq, ht, E1, E2, E3, E4, E5, E6, E7])) | (exact no _ ((tsH_25 c1).trans (onw_n (by intro h; dsimp only at h; omega))) (by repeat' (first | assumption | exact FW.rf | refine FW.up ?_ (by unfold wS; omega) | (refine FW.tr ?_ (by assumption)))) (by (try simp (disch := decide) only [upI_eq, upI_a, upI_i, upR_eq, upR_a, upR_i]); try assumption))
        · first
          | (exfalso; omega)
          | skip
            refine s255_290.mpr (s255_291.mpr (s255_293.mpr (s255_295.mpr (s255_296.mpr ?_))))
            try simp (disch := first | decide | assumption | omega) only [kon, knt_some, knt_none, Option.toList_some, Option.toList_none, List.cons_append, List.nil_append, upI_eq, upI_a, upI_i, upR_eq, upR_a, upR_i, h36, ht, E1, E2, E3, E4, E5, E6, E7, fAdd_id, fSub_id, fMul_id]
            refine (s255_297 (by omega) kM).mpr ?_
            refine m_push hA hR (by (try simp (disch := decide) only [upI_eq, upI_a, upI_i, upR_eq, upR_a, upR_i]); first | assumption | rfl) (by omega) ?_
            refine s255_300.mpr ?_
            refine (s255_583).mpr ?_
            first | (exfalso; omega) | (exact ok _ _ _ ((tsH_25 c1).trans (onw_p (by dsimp only; exact ⟨by omega, le0 y269.2.2 rfl⟩))) (flw1 (by rw [c1]; decide)) (by repeat' (first | assumption | exact FW.rf | refine FW.up ?_ (by unfold wS; omega) | (refine FW.tr ?_ (by assumption)))) (by (try simp (disch := decide) only [upI_eq, upI_a, upI_i, upR_eq, upR_a, upR_i]); try assumption) (by (try simp (disch := decide) only [upI_eq, upI_a, upI_i, upR_eq, upR_a, upR_i]); try assumption) (by simp (disch := decide) only [scX, upI_eq, upI_a, upI_i, upR_eq, upR_a, upR_i, upI_ro, upI_rw, up1_same, up1_eq, ht, E1, E2, E3, E4, E5, E6, E7])) | (exact no _ ((tsH_25 c1).trans (onw_n (by intro h; dsimp only at h; omega))) (by repeat' (first | assumption | exact FW.rf | refine FW.up ?_ (by unfold wS; omega) | (refine FW.tr ?_ (by assumption)))) (by (try simp (disch := decide) only [upI_eq, upI_a, upI_i, upR_eq, upR_a, upR_i]); try assumption))
  · skip
    try simp (disch := decide) only [upI_eq, upI_a, upI_i, upR_eq, upR_a, upR_i, E1, E4] at y269
    try simp (disch := decide) only [upI_eq, upI_a, upI_i, upR_eq, upR_a, upR_i, E1, E4] at x269
    refine s255_272.mpr ?_
    refine (s255_273 kM).mpr ?_
    try simp (disch := first | decide | assumption | omega) only [kon, knt_some, knt_none, Option.toList_some, Option.toList_none, List.cons_append, List.nil_append, upI_eq, upI_a, upI_i, upR_eq, upR_a, upR_i, h36, ht, E1, E2, E3, E4, E5, E6, E7, fAdd_id, fSub_id, fMul_id]
    refine s255_276.mpr (wif (fun c276 => ?_) (fun c276 => ?_))
    · first
      | (exfalso; omega)
      | skip
        refine (s255_583).mpr ?_
        first | (exfalso; omega) | (exact ok _ _ _ ((tsH_25 c1).trans (onw_p (by dsimp only; exact ⟨by omega, le0 y269.2.2 rfl⟩))) (flw1 (by rw [c1]; decide)) (by repeat' (first | assumption | exact FW.rf | refine FW.up ?_ (by unfold wS; omega) | (refine FW.tr ?_ (by assumption)))) (by (try simp (disch := decide) only [upI_eq, upI_a, upI_i, upR_eq, upR_a, upR_i]); try assumption) (by (try simp (disch := decide) only [upI_eq, upI_a, upI_i, upR_eq, upR_a, upR_i]); try assumption) (by simp (disch := decide) only [scX, upI_eq, upI_a, upI_i, upR_eq, upR_a, upR_i, upI_ro, upI_rw, up1_same, up1_eq, ht, E1, E2, E3, E4, E5, E6, E7])) | (exact no _ ((tsH_25 c1).trans (onw_n (by intro h; dsimp only at h; omega))) (by repeat' (first | assumption | exact FW.rf | refine FW.up ?_ (by unfold wS; omega) | (refine FW.tr ?_ (by assumption)))) (by (try simp (disch := decide) only [upI_eq, upI_a, upI_i, upR_eq, upR_a, upR_i]); try assumption))
    · first
      | (exfalso; omega)
      | skip
        refine s255_279.mpr (s255_280.mpr (s255_281.mpr ?_))
        refine s255_283.mpr (wif (fun c283 => ?_) (fun c283 => ?_))
        · first
          | (exfalso; omega)
          | skip
            refine s255_286.mpr (s255_287.mpr ?_)
            refine (s255_297 (by omega) kM).mpr ?_
            refine m_push hA hR (by (try simp (disch := decide) only [upI_eq, upI_a, upI_i, upR_eq, upR_a, upR_i]); first | assumption | rfl) (by omega) ?_
            refine s255_300.mpr ?_
            refine (s255_583).mpr ?_
            first | (exfalso; omega) | (exact ok _ _ _ ((tsH_25 c1).trans (onw_p (by dsimp only; exact ⟨by omega, le0 y269.2.2 rfl⟩))) (flw1 (by rw [c1]; decide)) (by repeat' (first | assumption | exact FW.rf | refine FW.up ?_ (by unfold wS; omega) | (refine FW.tr ?_ (by assumption)))) (by (try simp (disch := decide) only [upI_eq, upI_a, upI_i, upR_eq, upR_a, upR_i]); try assumption) (by (try simp (disch := decide) only [upI_eq, upI_a, upI_i, upR_eq, upR_a, upR_i]); try assumption) (by simp (disch := decide) only [scX, upI_eq, upI_a, upI_i, upR_eq, upR_a, upR_i, upI_ro, upI_rw, up1_same, up1_eq, ht, E1, E2, E3, E4, E5, E6, E7])) | (exact no _ ((tsH_25 c1).trans (onw_n (by intro h; dsimp only at h; omega))) (by repeat' (first | assumption | exact FW.rf | refine FW.up ?_ (by unfold wS; omega) | (refine FW.tr ?_ (by assumption)))) (by (try simp (disch := decide) only [upI_eq, upI_a, upI_i, upR_eq, upR_a, upR_i]); try assumption))
        · first
          | (exfalso; omega)
          | skip
            refine s255_290.mpr (s255_291.mpr (s255_293.mpr (s255_295.mpr (s255_296.mpr ?_))))
            try simp (disch := first | decide | assumption | omega) only [kon, knt_some, knt_none, Option.toList_some, Option.toList_none, List.cons_append, List.nil_append, upI_eq, upI_a, upI_i, upR_eq, upR_a, upR_i, h36, ht, E1, E2, E3, E4, E5, E6, E7, fAdd_id, fSub_id, fMul_id]
            refine (s255_297 (by omega) kM).mpr ?_
            refine m_push hA hR (by (try simp (disch := decide) only [upI_eq, upI_a, upI_i, upR_eq, upR_a, upR_i]); first | assumption | rfl) (by omega) ?_
            refine s255_300.mpr ?_
            refine (s255_583).mpr ?_
            first | (exfalso; omega) | (exact ok _ _ _ ((tsH_25 c1).trans (onw_p (by dsimp only; exact ⟨by omega, le0 y269.2.2 rfl⟩))) (flw1 (by rw [c1]; decide)) (by repeat' (first | assumption | exact FW.rf | refine FW.up ?_ (by unfold wS; omega) | (refine FW.tr ?_ (by assumption)))) (by (try simp (disch := decide) only [upI_eq, upI_a, upI_i, upR_eq, upR_a, upR_i]); try assumption) (by (try simp (disch := decide) only [upI_eq, upI_a, upI_i, upR_eq, upR_a, upR_i]); try assumption) (by simp (disch := decide) only [scX, upI_eq, upI_a, upI_i, upR_eq, upR_a, upR_i, upI_ro, upI_rw, up1_same, up1_eq, ht, E1, E2, E3, E4, E5, E6, E7])) | (exact no _ ((tsH_25 c1).trans (onw_n (by intro h; dsimp only at h; omega))) (by repeat' (first | assumption | exact FW.rf | refine FW.up ?_ (by unfold wS; omega) | (refine FW.tr ?_ (by assumption)))) (by (try simp (disch := decide) only [upI_eq, upI_a, upI_i, upR_eq, upR_a, upR_i]); try assumption))
theorem m_h26 {m g op v p t : Int} (hA : SA al) (hR : MR hr) (hd : 4 ≤ d) (hM : MB hi m B) (hS : Sh B) (hg : 0 ≤ g ∧ g < nFn B) (h36 : hi 49 36 = 1) (h38 : hi 49 38 = 0) (ht : hi 49 35 = t) (ht0 : 0 ≤ t ∧ t ≤ 16) (hvX : vX B (t, hi 75, hi 76)) (c1 : op = 26) (hv0 : 0 ≤ v ∧ v ≤ 255)
    (ok : ∀ L Y hi', tsH B g op v p (t, hi 75, hi 76) = some L → FLW op v p Y L → FW wS hi hi' → hi' 49 36 = 1 → hi' 49 38 = 0 → scX hi' = Y → Q (some none) al hi' hr)
    (st : ∀ hi', tsH B g op v p (t, hi 75, hi 76) = some [] → FW wS hi hi' → hi' 49 36 = 1 → hi' 49 38 = 1 → Q (some none) al hi' hr)
    (no : ∀ hi', tsH B g op v p (t, hi 75, hi 76) = none → FW wS hi hi' → hi' 49 36 = 0 → Q (some none) al hi' hr) : Wp d 255 267 [vR (some 49), vI m, vI (10 * m + g), vI op, vI v, none, none, none, none] [] al hi hr Q := by
  have kM : isK al 49 13 := hA.k (by decide) (by decide) rfl
  have E1 : t - 1 - 1 = t - 2 := by omega
  have E2 : t - 2 + 1 = t - 1 := by omega
  have E3 : t - 1 + 1 = t := by omega
  have E4 : t - 2 - 1 = t - 3 := by omega
  have E5 : t - 3 + 1 = t - 2 := by omega
  have E6 : t + 1 + 1 = t + 2 := by omega
  have E7 : t + 1 - 1 = t := by omega
  refine s255_267.mpr (s255_268.mpr ?_)
  refine (s255_269 (by omega) kM).mpr ?_
  refine m_popFor hA hR (by omega) (by (try simp (disch := decide) only [upI_eq, upI_a, upI_i, upR_eq, upR_a, upR_i]); first | assumption | rfl) (by omega) (by (try simp (disch := decide) only [upI_eq, upI_a, upI_i, upR_eq, upR_a, upR_i]); first | assumption | rfl) (by omega) (fun y269 => ?_) (fun hi269 t269 w269 z269 u269 v269 x269 => ?_)
  · skip
    try simp (disch := decide) only [upI_eq, upI_a, upI_i, upR_eq, upR_a, upR_i, E1, E4] at y269
    try simp (disch := decide) only [upI_eq, upI_a, upI_i, upR_eq, upR_a, upR_i, E1, E4] at x269
    refine s255_272.mpr ?_
    refine (s255_273 kM).mpr ?_
    try simp (disch := first | decide | assumption | omega) only [kon, knt_some, knt_none, Option.toList_some, Option.toList_none, List.cons_append, List.nil_append, upI_eq, upI_a, upI_i, upR_eq, upR_a, upR_i, h36, ht, E1, E2, E3, E4, E5, E6, E7, fAdd_id, fSub_id, fMul_id]
    refine s255_276.mpr (wif (fun c276 => ?_) (fun c276 => ?_))
    · first
      | (exfalso; omega)
      | skip
        refine (s255_583).mpr ?_
        first | (exfalso; omega) | (exact ok _ _ _ ((tsH_26 c1).trans (onw_p (by dsimp only; exact ⟨by omega, le0 y269.2.2 rfl⟩))) (flw1 (by rw [c1]; decide)) (by repeat' (first | assumption | exact FW.rf | refine FW.up ?_ (by unfold wS; omega) | (refine FW.tr ?_ (by assumption)))) (by (try simp (disch := decide) only [upI_eq, upI_a, upI_i, upR_eq, upR_a, upR_i]); try assumption) (by (try simp (disch := decide) only [upI_eq, upI_a, upI_i, upR_eq, upR_a, upR_i]); try assumption) (by simp (disch := decide) only [scX, upI_eq, upI_a, upI_i, upR_eq, upR_a, upR_i, upI_ro, upI_rw, up1_same, up1_eq, ht, E1, E2, E3, E4, E5, E6, E7])) | (exact no _ ((tsH_26 c1).trans (onw_n (by intro h; dsimp only at h; omega))) (by repeat' (first | assumption | exact FW.rf | refine FW.up ?_ (by unfold wS; omega) | (refine FW.tr ?_ (by assumption)))) (by (try simp (disch := decide) only [upI_eq, upI_a, upI_i, upR_eq, upR_a, upR_i]); try assumption))
    · first
      | (exfalso; omega)
      | skip
        refine s255_279.mpr (s255_280.mpr (s255_281.mpr ?_))
        refine s255_283.mpr (wif (fun c283 => ?_) (fun c283 => ?_))
        · first
          | (exfalso; omega)
          | skip
            refine s255_286.mpr (s255_287.mpr ?_)
            refine (s255_297 (by omega) kM).mpr ?_
            refine m_push hA hR (by (try simp (disch := decide) only [upI_eq, upI_a, upI_i, upR_eq, upR_a, upR_i]); first | assumption | rfl) (by omega) ?_
            refine s255_300.mpr ?_
            refine (s255_583).mpr ?_
            first | (exfalso; omega) | (exact ok _ _ _ ((tsH_26 c1).trans (onw_p (by dsimp only; exact ⟨by omega, le0 y269.2.2 rfl⟩))) (flw1 (by rw [c1]; decide)) (by repeat' (first | assumption | exact FW.rf | refine FW.up ?_ (by unfold wS; omega) | (refine FW.tr ?_ (by assumption)))) (by (try simp (disch := decide) only [upI_eq, upI_a, upI_i, upR_eq, upR_a, upR_i]); try assumption) (by (try simp (disch := decide) only [upI_eq, upI_a, upI_i, upR_eq, upR_a, upR_i]); try assumption) (by simp (disch := decide) only [scX, upI_eq, upI_a, upI_i, upR_eq, upR_a, upR_i, upI_ro, upI_rw, up1_same, up1_eq, ht, E1, E2, E3, E4, E5, E6, E7])) | (exact no _ ((tsH_26 c1).trans (onw_n (by intro h; dsimp only at h; omega))) (by repeat' (first | assumption | exact FW.rf | refine FW.up ?_ (by unfold wS; omega) | (refine FW.tr ?_ (by assumption)))) (by (try simp (disch := decide) only [upI_eq, upI_a, upI_i, upR_eq, upR_a, upR_i]); try assumption))
        · first
          | (exfalso; omega)
          | skip
            refine s255_290.mpr (s255_291.mpr (s255_293.mpr (s255_295.mpr (s255_296.mpr ?_))))
            try simp (disch := first | decide | assumption | omega) only [kon, knt_some, knt_none, Option.toList_some, Option.toList_none, List.cons_append, List.nil_append, upI_eq, upI_a, upI_i, upR_eq, upR_a, upR_i, h36, ht, E1, E2, E3, E4, E5, E6, E7, fAdd_id, fSub_id, fMul_id]
            refine (s255_297 (by omega) kM).mpr ?_
            refine m_push hA hR (by (try simp (disch := decide) only [upI_eq, upI_a, upI_i, upR_eq, upR_a, upR_i]); first | assumption | rfl) (by omega) ?_
            refine s255_300.mpr ?_
            refine (s255_583).mpr ?_
            first | (exfalso; omega) | (exact ok _ _ _ ((tsH_26 c1).trans (onw_p (by dsimp only; exact ⟨by omega, le0 y269.2.2 rfl⟩))) (flw1 (by rw [c1]; decide)) (by repeat' (first | assumption | exact FW.rf | refine FW.up ?_ (by unfold wS; omega) | (refine FW.tr ?_ (by assumption)))) (by (try simp (disch := decide) only [upI_eq, upI_a, upI_i, upR_eq, upR_a, upR_i]); try assumption) (by (try simp (disch := decide) only [upI_eq, upI_a, upI_i, upR_eq, upR_a, upR_i]); try assumption) (by simp (disch := decide) only [scX, upI_eq, upI_a, upI_i, upR_eq, upR_a, upR_i, upI_ro, upI_rw, up1_same, up1_eq, ht, E1, E2, E3, E4, E5, E6, E7])) | (exact no _ ((tsH_26 c1).trans (onw_n (by intro h; dsimp only at h; omega))) (by repeat' (first | assumption | exact FW.rf | refine FW.up ?_ (by unfold wS; omega) | (refine FW.tr ?_ (by assumption)))) (by (try simp (disch := decide) only [upI_eq, upI_a, upI_i, upR_eq, upR_a, upR_i]); try assumption))
  · skip
    try simp (disch := decide) only [upI_eq, upI_a, upI_i, upR_eq, upR_a, upR_i, E1, E4] at y269
    try simp (disch := decide) only [upI_eq, upI_a, upI_i, upR_eq, upR_a, upR_i, E1, E4] at x269
    refine s255_272.mpr ?_
    refine (s255_273 kM).mpr ?_
    try simp (disch := first | decide | assumption | omega) only [kon, knt_some, knt_none, Option.toList_some, Option.toList_none, List.cons_append, List.nil_append, upI_eq, upI_a, upI_i, upR_eq, upR_a, upR_i, h36, ht, E1, E2, E3, E4, E5, E6, E7, fAdd_id, fSub_id, fMul_id]
    refine s255_276.mpr (wif (fun c276 => ?_) (fun c276 => ?_))
    · first
      | (exfalso; omega)
      | skip
        refine (s255_583).mpr ?_
        first | (exfalso; omega) | (exact ok _ _ _ ((tsH_26 c1).trans (onw_p (by dsimp only; exact ⟨by omega, le0 y269.2.2 rfl⟩))) (flw1 (by rw [c1]; decide)) (by repeat' (first | assumption | exact FW.rf | refine FW.up ?_ (by unfold wS; omega) | (refine FW.tr ?_ (by assumption)))) (by (try simp (disch := decide) only [upI_eq, upI_a, upI_i, upR_eq, upR_a, upR_i]); try assumption) (by (try simp (disch := decide) only [upI_eq, upI_a, upI_i, upR_eq, upR_a, upR_i]); try assumption) (by simp (disch := decide) only [scX, upI_eq, upI_a, upI_i, upR_eq, upR_a, upR_i, upI_ro, upI_rw, up1_same, up1_eq, ht, E1, E2, E3, E4, E5, E6, E7])) | (exact no _ ((tsH_26 c1).trans (onw_n (by intro h; dsimp only at h; omega))) (by repeat' (first | assumption | exact FW.rf | refine FW.up ?_ (by unfold wS; omega) | (refine FW.tr ?_ (by assumption)))) (by (try simp (disch := decide) only [upI_eq, upI_a, upI_i, upR_eq, upR_a, upR_i]); try assumption))
    · first
      | (exfalso; omega)
      | skip
        refine s255_279.mpr (s255_280.mpr (s255_281.mpr ?_))
        refine s255_283.mpr (wif (fun c283 => ?_) (fun c283 => ?_))
        · first
          | (exfalso; omega)
          | skip
            refine s255_286.mpr (s255_287.mpr ?_)
            refine (s255_297 (by omega) kM).mpr ?_
            refine m_push hA hR (by (try simp (disch := decide) only [upI_eq, upI_a, upI_i, upR_eq, upR_a, upR_i]); first | assumption | rfl) (by omega) ?_
            refine s255_300.mpr ?_
            refine (s255_583).mpr ?_
            first | (exfalso; omega) | (exact ok _ _ _ ((tsH_26 c1).trans (onw_p (by dsimp only; exact ⟨by omega, le0 y269.2.2 rfl⟩))) (flw1 (by rw [c1]; decide)) (by repeat' (first | assumption | exact FW.rf | refine FW.up ?_ (by unfold wS; omega) | (refine FW.tr ?_ (by assumption)))) (by (try simp (disch := decide) only [upI_eq, upI_a, upI_i, upR_eq, upR_a, upR_i]); try assumption) (by (try simp (disch := decide) only [upI_eq, upI_a, upI_i, upR_eq, upR_a, upR_i]); try assumption) (by simp (disch := decide) only [scX, upI_eq, upI_a, upI_i, upR_eq, upR_a, upR_i, upI_ro, upI_rw, up1_same, up1_eq, ht, E1, E2, E3, E4, E5, E6, E7])) | (exact no _ ((tsH_26 c1).trans (onw_n (by intro h; dsimp only at h; omega))) (by repeat' (first | assumption | exact FW.rf | refine FW.up ?_ (by unfold wS; omega) | (refine FW.tr ?_ (by assumption)))) (by (try simp (disch := decide) only [upI_eq, upI_a, upI_i, upR_eq, upR_a, upR_i]); try assumption))
        · first
          | (exfalso; omega)
          | skip
            refine s255_290.mpr (s255_291.mpr (s255_293.mpr (s255_295.mpr (s255_296.mpr ?_))))
            try simp (disch := first | decide | assumption | omega) only [kon, knt_some, knt_none, Option.toList_some, Option.toList_none, List.cons_append, List.nil_append, upI_eq, upI_a, upI_i, upR_eq, upR_a, upR_i, h36, ht, E1, E2, E3, E4, E5, E6, E7, fAdd_id, fSub_id, fMul_id]
            refine (s255_297 (by omega) kM).mpr ?_
            refine m_push hA hR (by (try simp (disch := decide) only [upI_eq, upI_a, upI_i, upR_eq, upR_a, upR_i]); first | assumption | rfl) (by omega) ?_
            refine s255_300.mpr ?_
            refine (s255_583).mpr ?_
            first | (exfalso; omega) | (exact ok _ _ _ ((tsH_26 c1).trans (onw_p (by dsimp only; exact ⟨by omega, le0 y269.2.2 rfl⟩))) (flw1 (by rw [c1]; decide)) (by repeat' (first | assumption | exact FW.rf | refine FW.up ?_ (by unfold wS; omega) | (refine FW.tr ?_ (by assumption)))) (by (try simp (disch := decide) only [upI_eq, upI_a, upI_i, upR_eq, upR_a, upR_i]); try assumption) (by (try simp (disch := decide) only [upI_eq, upI_a, upI_i, upR_eq, upR_a, upR_i]); try assumption) (by simp (disch := decide) only [scX, upI_eq, upI_a, upI_i, upR_eq, upR_a, upR_i, upI_ro, upI_rw, up1_same, up1_eq, ht, E1, E2, E3, E4, E5, E6, E7])) | (exact no _ ((tsH_26 c1).trans (onw_n (by intro h; dsimp only at h; omega))) (by repeat' (first | assumption | exact FW.rf | refine FW.up ?_ (by unfold wS; omega) | (refine FW.tr ?_ (by assumption)))) (by (try simp (disch := decide) only [upI_eq, upI_a, upI_i, upR_eq, upR_a, upR_i]); try assumption))
theorem m_h27 {m g op v p t : Int} (hA : SA al) (hR : MR hr) (hd : 4 ≤ d) (hM : MB hi m B) (hS : Sh B) (hg : 0 ≤ g ∧ g < nFn B) (h36 : hi 49 36 = 1) (h38 : hi 49 38 = 0) (ht : hi 49 35 = t) (ht0 : 0 ≤ t ∧ t ≤ 16) (hvX : vX B (t, hi 75, hi 76)) (c1 : op = 27)
    (ok : ∀ L Y hi', tsH B g op v p (t, hi 75, hi 76) = some L → FLW op v p Y L → FW wS hi hi' → hi' 49 36 = 1 → hi' 49 38 = 0 → scX hi' = Y → Q (some none) al hi' hr)
    (st : ∀ hi', tsH B g op v p (t, hi 75, hi 76) = some [] → FW wS hi hi' → hi' 49 36 = 1 → hi' 49 38 = 1 → Q (some none) al hi' hr)
    (no : ∀ hi', tsH B g op v p (t, hi 75, hi 76) = none → FW wS hi hi' → hi' 49 36 = 0 → Q (some none) al hi' hr) : Wp d 255 303 [vR (some 49), vI m, vI (10 * m + g), vI op, vI v, none, none, none, none] [] al hi hr Q := by
  have kM : isK al 49 13 := hA.k (by decide) (by decide) rfl
  have E1 : t - 1 - 1 = t - 2 := by omega
  have E2 : t - 2 + 1 = t - 1 := by omega
  have E3 : t - 1 + 1 = t := by omega
  have E4 : t - 2 - 1 = t - 3 := by omega
  have E5 : t - 3 + 1 = t - 2 := by omega
  have E6 : t + 1 + 1 = t + 2 := by omega
  have E7 : t + 1 - 1 = t := by omega
  have K6 := k6d (hi 75 (t - 1))
  refine s255_303.mpr ?_
  refine (s255_304 (by omega) kM).mpr ?_
  refine m_popRow hA hR (by omega) (by (try simp (disch := decide) only [upI_eq, upI_a, upI_i, upR_eq, upR_a, upR_i]); first | assumption | rfl) (by omega) (by (try simp (disch := decide) only [upI_eq, upI_a, upI_i, upR_eq, upR_a, upR_i]); first | assumption | rfl) (by omega) (fun y304 => ?_) (fun y304 => ?_) (fun q304 hi304 t304 w304 z304 s304 u304 v304 x304 => ?_)
  · skip
    try simp (disch := decide) only [upI_eq, upI_a, upI_i, upR_eq, upR_a, upR_i, E1, E4] at y304
    try simp (disch := decide) only [upI_eq, upI_a, upI_i, upR_eq, upR_a, upR_i, E1, E4] at x304
    refine s255_307.mpr (s255_309.mpr ?_)
    refine (s255_310 kM).mpr ?_
    try simp (disch := first | decide | assumption | omega) only [kon, knt_some, knt_none, Option.toList_some, Option.toList_none, List.cons_append, List.nil_append, upI_eq, upI_a, upI_i, upR_eq, upR_a, upR_i, h36, ht, E1, E2, E3, E4, E5, E6, E7, fAdd_id, fSub_id, fMul_id]
    refine s255_313.mpr (wif (fun c313 => ?_) (fun c313 => ?_))
    · first
      | (exfalso; omega)
      | skip
        refine (s255_583).mpr ?_
        first | (exfalso; omega) | (exact ok _ _ _ ((tsH_27n c1 (by dsimp only; intro h6; rw [h6] at y304; exact absurd y304.2.2 (by decide))).trans (onw_p (by dsimp only; omega))) (flw1 (by rw [c1]; decide)) (by repeat' (first | assumption | exact FW.rf | refine FW.up ?_ (by unfold wS; omega) | (refine FW.tr ?_ (by assumption)))) (by (try simp (disch := decide) only [upI_eq, upI_a, upI_i, upR_eq, upR_a, upR_i]); try assumption) (by (try simp (disch := decide) only [upI_eq, upI_a, upI_i, upR_eq, upR_a, upR_i]); try assumption) (by simp (disch := decide) only [scX, upI_eq, upI_a, upI_i, upR_eq, upR_a, upR_i, upI_ro, upI_rw, up1_same, up1_eq, ht, E1, E2, E3, E4, E5, E6, E7])) | (exact st _ ((tsH_27s c1 (by dsimp only; omega)).trans (onw_p (by dsimp only; omega))) (by repeat' (first | assumption | exact FW.rf | refine FW.up ?_ (by unfold wS; omega) | (refine FW.tr ?_ (by assumption)))) (by (try simp (disch := decide) only [upI_eq, upI_a, upI_i, upR_eq, upR_a, upR_i]); try assumption) (by (try simp (disch := decide) only [upI_eq, upI_a, upI_i, upR_eq, upR_a, upR_i]); try assumption)) | (exact no _ ((tsH_27 c1).trans (onw_n (by intro h; dsimp only at h; omega))) (by repeat' (first | assumption | exact FW.rf | refine FW.up ?_ (by unfold wS; omega) | (refine FW.tr ?_ (by assumption)))) (by (try simp (disch := decide) only [upI_eq, upI_a, upI_i, upR_eq, upR_a, upR_i]); try assumption))
    · first
      | (exfalso; omega)
      | skip
        refine s255_316.mpr ?_
        refine (s255_317 kM).mpr ?_
        try simp (disch := first | decide | assumption | omega) only [kon, knt_some, knt_none, Option.toList_some, Option.toList_none, List.cons_append, List.nil_append, upI_eq, upI_a, upI_i, upR_eq, upR_a, upR_i, h36, ht, E1, E2, E3, E4, E5, E6, E7, fAdd_id, fSub_id, fMul_id]
        refine s255_320.mpr (wif (fun c320 => ?_) (fun c320 => ?_))
        · first
          | (exfalso; omega)
          | skip
            refine s255_323.mpr (s255_324.mpr ?_)
            refine (s255_325 (by omega) kM).mpr ?_
            refine m_push hA hR (by (try simp (disch := decide) only [upI_eq, upI_a, upI_i, upR_eq, upR_a, upR_i]); first | assumption | rfl) (by omega) ?_
            refine s255_328.mpr ?_
            refine (s255_583).mpr ?_
            first | (exfalso; omega) | (exact ok _ _ _ ((tsH_27n c1 (by dsimp only; intro h6; rw [h6] at y304; exact absurd y304.2.2 (by decide))).trans (onw_p (by dsimp only; omega))) (flw1 (by rw [c1]; decide)) (by repeat' (first | assumption | exact FW.rf | refine FW.up ?_ (by unfold wS; omega) | (refine FW.tr ?_ (by assumption)))) (by (try simp (disch := decide) only [upI_eq, upI_a, upI_i, upR_eq, upR_a, upR_i]); try assumption) (by (try simp (disch := decide) only [upI_eq, upI_a, upI_i, upR_eq, upR_a, upR_i]); try assumption) (by simp (disch := decide) only [scX, upI_eq, upI_a, upI_i, upR_eq, upR_a, upR_i, upI_ro, upI_rw, up1_same, up1_eq, ht, E1, E2, E3, E4, E5, E6, E7])) | (exact st _ ((tsH_27s c1 (by dsimp only; omega)).trans (onw_p (by dsimp only; omega))) (by repeat' (first | assumption | exact FW.rf | refine FW.up ?_ (by unfold wS; omega) | (refine FW.tr ?_ (by assumption)))) (by (try simp (disch := decide) only [upI_eq, upI_a, upI_i, upR_eq, upR_a, upR_i]); try assumption) (by (try simp (disch := decide) only [upI_eq, upI_a, upI_i, upR_eq, upR_a, upR_i]); try assumption)) | (exact no _ ((tsH_27 c1).trans (onw_n (by intro h; dsimp only at h; omega))) (by repeat' (first | assumption | exact FW.rf | refine FW.up ?_ (by unfold wS; omega) | (refine FW.tr ?_ (by assumption)))) (by (try simp (disch := decide) only [upI_eq, upI_a, upI_i, upR_eq, upR_a, upR_i]); try assumption))
        · first
          | (exfalso; omega)
          | skip
            refine (s255_583).mpr ?_
            first | (exfalso; omega) | (exact ok _ _ _ ((tsH_27n c1 (by dsimp only; intro h6; rw [h6] at y304; exact absurd y304.2.2 (by decide))).trans (onw_p (by dsimp only; omega))) (flw1 (by rw [c1]; decide)) (by repeat' (first | assumption | exact FW.rf | refine FW.up ?_ (by unfold wS; omega) | (refine FW.tr ?_ (by assumption)))) (by (try simp (disch := decide) only [upI_eq, upI_a, upI_i, upR_eq, upR_a, upR_i]); try assumption) (by (try simp (disch := decide) only [upI_eq, upI_a, upI_i, upR_eq, upR_a, upR_i]); try assumption) (by simp (disch := decide) only [scX, upI_eq, upI_a, upI_i, upR_eq, upR_a, upR_i, upI_ro, upI_rw, up1_same, up1_eq, ht, E1, E2, E3, E4, E5, E6, E7])) | (exact st _ ((tsH_27s c1 (by dsimp only; omega)).trans (onw_p (by dsimp only; omega))) (by repeat' (first | assumption | exact FW.rf | refine FW.up ?_ (by unfold wS; omega) | (refine FW.tr ?_ (by assumption)))) (by (try simp (disch := decide) only [upI_eq, upI_a, upI_i, upR_eq, upR_a, upR_i]); try assumption) (by (try simp (disch := decide) only [upI_eq, upI_a, upI_i, upR_eq, upR_a, upR_i]); try assumption)) | (exact no _ ((tsH_27 c1).trans (onw_n (by intro h; dsimp only at h; omega))) (by repeat' (first | assumption | exact FW.rf | refine FW.up ?_ (by unfold wS; omega) | (refine FW.tr ?_ (by assumption)))) (by (try simp (disch := decide) only [upI_eq, upI_a, upI_i, upR_eq, upR_a, upR_i]); try assumption))
  · skip
    try simp (disch := decide) only [upI_eq, upI_a, upI_i, upR_eq, upR_a, upR_i, E1, E4] at y304
    try simp (disch := decide) only [upI_eq, upI_a, upI_i, upR_eq, upR_a, upR_i, E1, E4] at x304
    refine s255_307.mpr (s255_309.mpr ?_)
    refine (s255_310 kM).mpr ?_
    try simp (disch := first | decide | assumption | omega) only [kon, knt_some, knt_none, Option.toList_some, Option.toList_none, List.cons_append, List.nil_append, upI_eq, upI_a, upI_i, upR_eq, upR_a, upR_i, h36, ht, E1, E2, E3, E4, E5, E6, E7, fAdd_id, fSub_id, fMul_id]
    refine s255_313.mpr (wif (fun c313 => ?_) (fun c313 => ?_))
    · first
      | (exfalso; omega)
      | skip
        refine (s255_583).mpr ?_
        first | (exfalso; omega) | (exact ok _ _ _ ((tsH_27n c1 (by dsimp only; intro h6; rw [h6] at y304; exact absurd y304.2.2 (by decide))).trans (onw_p (by dsimp only; omega))) (flw1 (by rw [c1]; decide)) (by repeat' (first | assumption | exact FW.rf | refine FW.up ?_ (by unfold wS; omega) | (refine FW.tr ?_ (by assumption)))) (by (try simp (disch := decide) only [upI_eq, upI_a, upI_i, upR_eq, upR_a, upR_i]); try assumption) (by (try simp (disch := decide) only [upI_eq, upI_a, upI_i, upR_eq, upR_a, upR_i]); try assumption) (by simp (disch := decide) only [scX, upI_eq, upI_a, upI_i, upR_eq, upR_a, upR_i, upI_ro, upI_rw, up1_same, up1_eq, ht, E1, E2, E3, E4, E5, E6, E7])) | (exact st _ ((tsH_27s c1 (by dsimp only; omega)).trans (onw_p (by dsimp only; omega))) (by repeat' (first | assumption | exact FW.rf | refine FW.up ?_ (by unfold wS; omega) | (refine FW.tr ?_ (by assumption)))) (by (try simp (disch := decide) only [upI_eq, upI_a, upI_i, upR_eq, upR_a, upR_i]); try assumption) (by (try simp (disch := decide) only [upI_eq, upI_a, upI_i, upR_eq, upR_a, upR_i]); try assumption)) | (exact no _ ((tsH_27 c1).trans (onw_n (by intro h; dsimp only at h; omega))) (by repeat' (first | assumption | exact FW.rf | refine FW.up ?_ (by unfold wS; omega) | (refine FW.tr ?_ (by assumption)))) (by (try simp (disch := decide) only [upI_eq, upI_a, upI_i, upR_eq, upR_a, upR_i]); try assumption))
    · first
      | (exfalso; omega)
      | skip
        refine s255_316.mpr ?_
        refine (s255_317 kM).mpr ?_
        try simp (disch := first | decide | assumption | omega) only [kon, knt_some, knt_none, Option.toList_some, Option.toList_none, List.cons_append, List.nil_append, upI_eq, upI_a, upI_i, upR_eq, upR_a, upR_i, h36, ht, E1, E2, E3, E4, E5, E6, E7, fAdd_id, fSub_id, fMul_id]
        refine s255_320.mpr (wif (fun c320 => ?_) (fun c320 => ?_))
        · first
          | (exfalso; omega)
          | skip
            refine s255_323.mpr (s255_324.mpr ?_)
            refine (s255_325 (by omega) kM).mpr ?_
            refine m_push hA hR (by (try simp (disch := decide) only [upI_eq, upI_a, upI_i, upR_eq, upR_a, upR_i]); first | assumption | rfl) (by omega) ?_
            refine s255_328.mpr ?_
            refine (s255_583).mpr ?_
            first | (exfalso; omega) | (exact ok _ _ _ ((tsH_27n c1 (by dsimp only; intro h6; rw [h6] at y304; exact absurd y304.2.2 (by decide))).trans (onw_p (by dsimp only; omega))) (flw1 (by rw [c1]; decide)) (by repeat' (first | assumption | exact FW.rf | refine FW.up ?_ (by unfold wS; omega) | (refine FW.tr ?_ (by assumption)))) (by (try simp (disch := decide) only [upI_eq, upI_a, upI_i, upR_eq, upR_a, upR_i]); try assumption) (by (try simp (disch := decide) only [upI_eq, upI_a, upI_i, upR_eq, upR_a, upR_i]); try assumption) (by simp (disch := decide) only [scX, upI_eq, upI_a, upI_i, upR_eq, upR_a, upR_i, upI_ro, upI_rw, up1_same, up1_eq, ht, E1, E2, E3, E4, E5, E6, E7])) | (exact st _ ((tsH_27s c1 (by dsimp only; omega)).trans (onw_p (by dsimp only; omega))) (by repeat' (first | assumption | exact FW.rf | refine FW.up ?_ (by unfold wS; omega) | (refine FW.tr ?_ (by assumption)))) (by (try simp (disch := decide) only [upI_eq, upI_a, upI_i, upR_eq, upR_a, upR_i]); try assumption) (by (try simp (disch := decide) only [upI_eq, upI_a, upI_i, upR_eq, upR_a, upR_i]); try assumption)) | (exact no _ ((tsH_27 c1).trans (onw_n (by intro h; dsimp only at h; omega))) (by repeat' (first | assumption | exact FW.rf | refine FW.up ?_ (by unfold wS; omega) | (refine FW.tr ?_ (by assumption)))) (by (try simp (disch := decide) only [upI_eq, upI_a, upI_i, upR_eq, upR_a, upR_i]); try assumption))
        · first
          | (exfalso; omega)
          | skip
            refine (s255_583).mpr ?_
            first | (exfalso; omega) | (exact ok _ _ _ ((tsH_27n c1 (by dsimp only; intro h6; rw [h6] at y304; exact absurd y304.2.2 (by decide))).trans (onw_p (by dsimp only; omega))) (flw1 (by rw [c1]; decide)) (by repeat' (first | assumption | exact FW.rf | refine FW.up ?_ (by unfold wS; omega) | (refine FW.tr ?_ (by assumption)))) (by (try simp (disch := decide) only [upI_eq, upI_a, upI_i, upR_eq, upR_a, upR_i]); try assumption) (by (try simp (disch := decide) only [upI_eq, upI_a, upI_i, upR_eq, upR_a, upR_i]); try assumption) (by simp (disch := decide) only [scX, upI_eq, upI_a, upI_i, upR_eq, upR_a, upR_i, upI_ro, upI_rw, up1_same, up1_eq, ht, E1, E2, E3, E4, E5, E6, E7])) | (exact st _ ((tsH_27s c1 (by dsimp only; omega)).trans (onw_p (by dsimp only; omega))) (by repeat' (first | assumption | exact FW.rf | refine FW.up ?_ (by unfold wS; omega) | (refine FW.tr ?_ (by assumption)))) (by (try simp (disch := decide) only [upI_eq, upI_a, upI_i, upR_eq, upR_a, upR_i]); try assumption) (by (try simp (disch := decide) only [upI_eq, upI_a, upI_i, upR_eq, upR_a, upR_i]); try assumption)) | (exact no _ ((tsH_27 c1).trans (onw_n (by intro h; dsimp only at h; omega))) (by repeat' (first | assumption | exact FW.rf | refine FW.up ?_ (by unfold wS; omega) | (refine FW.tr ?_ (by assumption)))) (by (try simp (disch := decide) only [upI_eq, upI_a, upI_i, upR_eq, upR_a, upR_i]); try assumption))
  · skip
    try simp (disch := decide) only [upI_eq, upI_a, upI_i, upR_eq, upR_a, upR_i, E1, E4] at y304
    try simp (disch := decide) only [upI_eq, upI_a, upI_i, upR_eq, upR_a, upR_i, E1, E4] at x304
    refine s255_307.mpr (s255_309.mpr ?_)
    refine (s255_310 kM).mpr ?_
    try simp (disch := first | decide | assumption | omega) only [kon, knt_some, knt_none, Option.toList_some, Option.toList_none, List.cons_append, List.nil_append, upI_eq, upI_a, upI_i, upR_eq, upR_a, upR_i, h36, ht, E1, E2, E3, E4, E5, E6, E7, fAdd_id, fSub_id, fMul_id]
    refine s255_313.mpr (wif (fun c313 => ?_) (fun c313 => ?_))
    · first
      | (exfalso; omega)
      | skip
        refine (s255_583).mpr ?_
        first | (exfalso; omega) | (exact ok _ _ _ ((tsH_27n c1 (by dsimp only; intro h6; rw [h6] at y304; exact absurd y304.2.2 (by decide))).trans (onw_p (by dsimp only; omega))) (flw1 (by rw [c1]; decide)) (by repeat' (first | assumption | exact FW.rf | refine FW.up ?_ (by unfold wS; omega) | (refine FW.tr ?_ (by assumption)))) (by (try simp (disch := decide) only [upI_eq, upI_a, upI_i, upR_eq, upR_a, upR_i]); try assumption) (by (try simp (disch := decide) only [upI_eq, upI_a, upI_i, upR_eq, upR_a, upR_i]); try assumption) (by simp (disch := decide) only [scX, upI_eq, upI_a, upI_i, upR_eq, upR_a, upR_i, upI_ro, upI_rw, up1_same, up1_eq, ht, E1, E2, E3, E4, E5, E6, E7])) | (exact st _ ((tsH_27s c1 (by dsimp only; omega)).trans (onw_p (by dsimp only; omega))) (by repeat' (first | assumption | exact FW.rf | refine FW.up ?_ (by unfold wS; omega) | (refine FW.tr ?_ (by assumption)))) (by (try simp (disch := decide) only [upI_eq, upI_a, upI_i, upR_eq, upR_a, upR_i]); try assumption) (by (try simp (disch := decide) only [upI_eq, upI_a, upI_i, upR_eq, upR_a, upR_i]); try assumption)) | (exact no _ ((tsH_27 c1).trans (onw_n (by intro h; dsimp only at h; omega))) (by repeat' (first | assumption | exact FW.rf | refine FW.up ?_ (by unfold wS; omega) | (refine FW.tr ?_ (by assumption)))) (by (try simp (disch := decide) only [upI_eq, upI_a, upI_i, upR_eq, upR_a, upR_i]); try assumption))
    · first
      | (exfalso; omega)
      | skip
        refine s255_316.mpr ?_
        refine (s255_317 kM).mpr ?_
        try simp (disch := first | decide | assumption | omega) only [kon, knt_some, knt_none, Option.toList_some, Option.toList_none, List.cons_append, List.nil_append, upI_eq, upI_a, upI_i, upR_eq, upR_a, upR_i, h36, ht, E1, E2, E3, E4, E5, E6, E7, fAdd_id, fSub_id, fMul_id]
        refine s255_320.mpr (wif (fun c320 => ?_) (fun c320 => ?_))
        · first
          | (exfalso; omega)
          | skip
            refine s255_323.mpr (s255_324.mpr ?_)
            refine (s255_325 (by omega) kM).mpr ?_
            refine m_push hA hR (by (try simp (disch := decide) only [upI_eq, upI_a, upI_i, upR_eq, upR_a, upR_i]); first | assumption | rfl) (by omega) ?_
            refine s255_328.mpr ?_
            refine (s255_583).mpr ?_
            first | (exfalso; omega) | (exact ok _ _ _ ((tsH_27n c1 (by dsimp only; intro h6; rw [h6] at y304; exact absurd y304.2.2 (by decide))).trans (onw_p (by dsimp only; omega))) (flw1 (by rw [c1]; decide)) (by repeat' (first | assumption | exact FW.rf | refine FW.up ?_ (by unfold wS; omega) | (refine FW.tr ?_ (by assumption)))) (by (try simp (disch := decide) only [upI_eq, upI_a, upI_i, upR_eq, upR_a, upR_i]); try assumption) (by (try simp (disch := decide) only [upI_eq, upI_a, upI_i, upR_eq, upR_a, upR_i]); try assumption) (by simp (disch := decide) only [scX, upI_eq, upI_a, upI_i, upR_eq, upR_a, upR_i, upI_ro, upI_rw, up1_same, up1_eq, ht, E1, E2, E3, E4, E5, E6, E7])) | (exact st _ ((tsH_27s c1 (by dsimp only; omega)).trans (onw_p (by dsimp only; omega))) (by repeat' (first | assumption | exact FW.rf | refine FW.up ?_ (by unfold wS; omega) | (refine FW.tr ?_ (by assumption)))) (by (try simp (disch := decide) only [upI_eq, upI_a, upI_i, upR_eq, upR_a, upR_i]); try assumption) (by (try simp (disch := decide) only [upI_eq, upI_a, upI_i, upR_eq, upR_a, upR_i]); try assumption)) | (exact no _ ((tsH_27 c1).trans (onw_n (by intro h; dsimp only at h; omega))) (by repeat' (first | assumption | exact FW.rf | refine FW.up ?_ (by unfold wS; omega) | (refine FW.tr ?_ (by assumption)))) (by (try simp (disch := decide) only [upI_eq, upI_a, upI_i, upR_eq, upR_a, upR_i]); try assumption))
        · first
          | (exfalso; omega)
          | skip
            refine (s255_583).mpr ?_
            first | (exfalso; omega) | (exact ok _ _ _ ((tsH_27n c1 (by dsimp only; intro h6; rw [h6] at y304; exact absurd y304.2.2 (by decide))).trans (onw_p (by dsimp only; omega))) (flw1 (by rw [c1]; decide)) (by repeat' (first | assumption | exact FW.rf | refine FW.up ?_ (by unfold wS; omega) | (refine FW.tr ?_ (by assumption)))) (by (try simp (disch := decide) only [upI_eq, upI_a, upI_i, upR_eq, upR_a, upR_i]); try assumption) (by (try simp (disch := decide) only [upI_eq, upI_a, upI_i, upR_eq, upR_a, upR_i]); try assumption) (by simp (disch := decide) only [scX, upI_eq, upI_a, upI_i, upR_eq, upR_a, upR_i, upI_ro, upI_rw, up1_same, up1_eq, ht, E1, E2, E3, E4, E5, E6, E7])) | (exact st _ ((tsH_27s c1 (by dsimp only; omega)).trans (onw_p (by dsimp only; omega))) (by repeat' (first | assumption | exact FW.rf | refine FW.up ?_ (by unfold wS; omega) | (refine FW.tr ?_ (by assumption)))) (by (try simp (disch := decide) only [upI_eq, upI_a, upI_i, upR_eq, upR_a, upR_i]); try assumption) (by (try simp (disch := decide) only [upI_eq, upI_a, upI_i, upR_eq, upR_a, upR_i]); try assumption)) | (exact no _ ((tsH_27 c1).trans (onw_n (by intro h; dsimp only at h; omega))) (by repeat' (first | assumption | exact FW.rf | refine FW.up ?_ (by unfold wS; omega) | (refine FW.tr ?_ (by assumption)))) (by (try simp (disch := decide) only [upI_eq, upI_a, upI_i, upR_eq, upR_a, upR_i]); try assumption))
theorem m_h23 {m g op v p t : Int} (hA : SA al) (hR : MR hr) (hd : 4 ≤ d) (hM : MB hi m B) (hS : Sh B) (hg : 0 ≤ g ∧ g < nFn B) (h36 : hi 49 36 = 1) (h38 : hi 49 38 = 0) (ht : hi 49 35 = t) (ht0 : 0 ≤ t ∧ t ≤ 16) (hvX : vX B (t, hi 75, hi 76)) (c1 : op = 23) (hv0 : 0 ≤ v ∧ v ≤ 5)
    (ok : ∀ L Y hi', tsH B g op v p (t, hi 75, hi 76) = some L → FLW op v p Y L → FW wS hi hi' → hi' 49 36 = 1 → hi' 49 38 = 0 → scX hi' = Y → Q (some none) al hi' hr)
    (st : ∀ hi', tsH B g op v p (t, hi 75, hi 76) = some [] → FW wS hi hi' → hi' 49 36 = 1 → hi' 49 38 = 1 → Q (some none) al hi' hr)
    (no : ∀ hi', tsH B g op v p (t, hi 75, hi 76) = none → FW wS hi hi' → hi' 49 36 = 0 → Q (some none) al hi' hr) : Wp d 255 85 [vR (some 49), vI m, vI (10 * m + g), vI op, vI v, none, none, none, none] [] al hi hr Q := by
  have kM : isK al 49 13 := hA.k (by decide) (by decide) rfl
  have E1 : t - 1 - 1 = t - 2 := by omega
  have E2 : t - 2 + 1 = t - 1 := by omega
  have E3 : t - 1 + 1 = t := by omega
  have E4 : t - 2 - 1 = t - 3 := by omega
  have E5 : t - 3 + 1 = t - 2 := by omega
  have E6 : t + 1 + 1 = t + 2 := by omega
  have E7 : t + 1 - 1 = t := by omega
  obtain ⟨hm0, hm1, h52, hB, m1, m2, m3, m4, m5, m6⟩ := id hM
  have hv75 : ∀ k, 0 ≤ k → k < t → vT B (hi 75 k) := hvX.2.1
  clear m3 m4 m5 m6 hB h52
  have r1 : nRec B ≤ 8 := hS.2.1
  have l57 := SA.len (a := 57) (n := 104) hA (by decide) (by decide) rfl
  have l58 := SA.len (a := 58) (n := 624) hA (by decide) (by decide) rfl
  have W1 := vW hv75 (t - 1)
  have m2a : ∀ r, 0 ≤ r → r < nRec B → hi 57 (8 * m + r) = nFld B r := fun r a b => (m2 r a b).1
  have m2b : ∀ r k, 0 ≤ r → r < nRec B → 0 ≤ k → k < nFld B r → hi 58 (48 * m + 6 * r + k) = fTy B r k := fun r k a b => (m2 r a b).2 k
  have K6 := k6d (hi 75 (t - 1))
  refine s255_85.mpr ?_
  refine (s255_86 (by omega) kM).mpr ?_
  refine m_popNode hA hR (by omega) (by (try simp (disch := decide) only [upI_eq, upI_a, upI_i, upR_eq, upR_a, upR_i]); first | assumption | rfl) (by omega) (by (try simp (disch := decide) only [upI_eq, upI_a, upI_i, upR_eq, upR_a, upR_i]); first | assumption | rfl) (by omega) (fun y86 => ?_) (fun y86 => ?_) (fun q86 hi86 t86 w86 z86 s86 u86 v86 x86 => ?_)
  · skip
    try simp (disch := decide) only [upI_eq, upI_a, upI_i, upR_eq, upR_a, upR_i, E1, E4] at y86
    try simp (disch := decide) only [upI_eq, upI_a, upI_i, upR_eq, upR_a, upR_i, E1, E4] at x86
    refine s255_89.mpr (s255_91.mpr ?_)
    refine (s255_92 kM).mpr ?_
    try simp (disch := first | decide | assumption | omega) only [kon, knt_some, knt_none, Option.toList_some, Option.toList_none, List.cons_append, List.nil_append, upI_eq, upI_a, upI_i, upR_eq, upR_a, upR_i, h36, ht, E1, E2, E3, E4, E5, E6, E7, fAdd_id, fSub_id, fMul_id, m2a, m2b]
    refine s255_95.mpr (wif (fun c95 => ?_) (fun c95 => ?_))
    · first
      | (exfalso; omega)
      | skip
        refine s255_101.mpr (s255_102.mpr ?_)
        refine (s255_103 kM).mpr ?_
        try simp (disch := first | decide | assumption | omega) only [kon, knt_some, knt_none, Option.toList_some, Option.toList_none, List.cons_append, List.nil_append, upI_eq, upI_a, upI_i, upR_eq, upR_a, upR_i, h36, ht, E1, E2, E3, E4, E5, E6, E7, fAdd_id, fSub_id, fMul_id, m2a, m2b]
        refine s255_106.mpr (wif (fun c106 => ?_) (fun c106 => ?_))
        · first
          | (exfalso; omega)
          | skip
            refine s255_133.mpr ?_
            refine (s255_134 (by omega) kM).mpr ?_
            refine m_wants hA (by omega) (by (try simp (disch := decide) only [upI_eq, upI_a, upI_i, upR_eq, upR_a, upR_i]); first | assumption | rfl) (by omega) (fun y134 => ?_) (fun y134 => ?_)
            · skip
              refine s255_137.mpr ?_
              refine (s255_138 kM).mpr ?_
              try simp (disch := first | decide | assumption | omega) only [kon, knt_some, knt_none, Option.toList_some, Option.toList_none, List.cons_append, List.nil_append, upI_eq, upI_a, upI_i, upR_eq, upR_a, upR_i, h36, ht, E1, E2, E3, E4, E5, E6, E7, fAdd_id, fSub_id, fMul_id, m2a, m2b]
              refine s255_141.mpr (wif (fun c141 => ?_) (fun c141 => ?_))
              · first
                | (exfalso; omega)
                | skip
                  refine (s255_583).mpr ?_
                  first | (exfalso; omega) | (exact ok _ _ _ ((tsH_23n c1 (by dsimp only; intro h6; rw [h6] at y86; exact absurd y86.2.2 (by decide))).trans (onw_p (by dsimp only; omega))) (flw1 (by rw [c1]; decide)) (by repeat' (first | assumption | exact FW.rf | refine FW.up ?_ (by unfold wS; omega) | (refine FW.tr ?_ (by assumption)))) (by (try simp (disch := decide) only [upI_eq, upI_a, upI_i, upR_eq, upR_a, upR_i]); try assumption) (by (try simp (disch := decide) only [upI_eq, upI_a, upI_i, upR_eq, upR_a, upR_i]); try assumption) (by simp (disch := decide) only [scX, upI_eq, upI_a, upI_i, upR_eq, upR_a, upR_i, upI_ro, upI_rw, up1_same, up1_eq, ht, E1, E2, E3, E4, E5, E6, E7])) | (exact st _ ((tsH_23s c1 (by dsimp only; omega)).trans (onw_p (by dsimp only; omega))) (by repeat' (first | assumption | exact FW.rf | refine FW.up ?_ (by unfold wS; omega) | (refine FW.tr ?_ (by assumption)))) (by (try simp (disch := decide) only [upI_eq, upI_a, upI_i, upR_eq, upR_a, upR_i]); try assumption) (by (try simp (disch := decide) only [upI_eq, upI_a, upI_i, upR_eq, upR_a, upR_i]); try assumption)) | (exact no _ ((tsH_23 c1).trans (onw_n (by intro h; dsimp only at h; omega))) (by repeat' (first | assumption | exact FW.rf | refine FW.up ?_ (by unfold wS; omega) | (refine FW.tr ?_ (by assumption)))) (by (try simp (disch := decide) only [upI_eq, upI_a, upI_i, upR_eq, upR_a, upR_i]); try assumption))
              · first
                | (exfalso; omega)
                | skip
                  refine s255_144.mpr (s255_145.mpr ((s255_146 kM).mpr ?_))
                  rw [mr_10 hR]
                  refine s255_149.mpr (s255_151.mpr (s255_152.mpr (s255_153.mpr (s255_155.mpr ?_))))
                  try simp (disch := first | decide | assumption | omega) only [kon, knt_some, knt_none, Option.toList_some, Option.toList_none, List.cons_append, List.nil_append, upI_eq, upI_a, upI_i, upR_eq, upR_a, upR_i, h36, ht, E1, E2, E3, E4, E5, E6, E7, fAdd_id, fSub_id, fMul_id, m2a, m2b]
                  refine (s255_157 (by omega)).mpr ?_
                  refine (m_which (vT_rng (hv75 _ (by omega) (by omega)))).mpr ?_
                  refine s255_160.mpr (s255_161.mpr (s255_162.mpr (s255_164.mpr ?_)))
                  try simp (disch := first | decide | assumption | omega) only [kon, knt_some, knt_none, Option.toList_some, Option.toList_none, List.cons_append, List.nil_append, upI_eq, upI_a, upI_i, upR_eq, upR_a, upR_i, h36, ht, E1, E2, E3, E4, E5, E6, E7, fAdd_id, fSub_id, fMul_id, m2a, m2b]
                  refine (s255_165 (hA.k (by decide) (by decide) rfl) (by first | assumption | omega) (by first | assumption | omega)).mpr ?_
                  try simp (disch := first | decide | assumption | omega) only [kon, knt_some, knt_none, Option.toList_some, Option.toList_none, List.cons_append, List.nil_append, upI_eq, upI_a, upI_i, upR_eq, upR_a, upR_i, h36, ht, E1, E2, E3, E4, E5, E6, E7, fAdd_id, fSub_id, fMul_id, m2a, m2b]
                  refine (s255_166 (by omega) kM).mpr ?_
                  refine m_push hA hR (by (try simp (disch := decide) only [upI_eq, upI_a, upI_i, upR_eq, upR_a, upR_i]); first | assumption | rfl) (by omega) ?_
                  refine s255_169.mpr ?_
                  refine (s255_583).mpr ?_
                  first | (exfalso; omega) | (exact ok _ _ _ ((tsH_23n c1 (by dsimp only; intro h6; rw [h6] at y86; exact absurd y86.2.2 (by decide))).trans (onw_p (by dsimp only; omega))) (flw1 (by rw [c1]; decide)) (by repeat' (first | assumption | exact FW.rf | refine FW.up ?_ (by unfold wS; omega) | (refine FW.tr ?_ (by assumption)))) (by (try simp (disch := decide) only [upI_eq, upI_a, upI_i, upR_eq, upR_a, upR_i]); try assumption) (by (try simp (disch := decide) only [upI_eq, upI_a, upI_i, upR_eq, upR_a, upR_i]); try assumption) (by simp (disch := decide) only [scX, upI_eq, upI_a, upI_i, upR_eq, upR_a, upR_i, upI_ro, upI_rw, up1_same, up1_eq, ht, E1, E2, E3, E4, E5, E6, E7])) | (exact st _ ((tsH_23s c1 (by dsimp only; omega)).trans (onw_p (by dsimp only; omega))) (by repeat' (first | assumption | exact FW.rf | refine FW.up ?_ (by unfold wS; omega) | (refine FW.tr ?_ (by assumption)))) (by (try simp (disch := decide) only [upI_eq, upI_a, upI_i, upR_eq, upR_a, upR_i]); try assumption) (by (try simp (disch := decide) only [upI_eq, upI_a, upI_i, upR_eq, upR_a, upR_i]); try assumption)) | (exact no _ ((tsH_23 c1).trans (onw_n (by intro h; dsimp only at h; omega))) (by repeat' (first | assumption | exact FW.rf | refine FW.up ?_ (by unfold wS; omega) | (refine FW.tr ?_ (by assumption)))) (by (try simp (disch := decide) only [upI_eq, upI_a, upI_i, upR_eq, upR_a, upR_i]); try assumption))
            · skip
              refine s255_137.mpr ?_
              refine (s255_138 kM).mpr ?_
              try simp (disch := first | decide | assumption | omega) only [kon, knt_some, knt_none, Option.toList_some, Option.toList_none, List.cons_append, List.nil_append, upI_eq, upI_a, upI_i, upR_eq, upR_a, upR_i, h36, ht, E1, E2, E3, E4, E5, E6, E7, fAdd_id, fSub_id, fMul_id, m2a, m2b]
              refine s255_141.mpr (wif (fun c141 => ?_) (fun c141 => ?_))
              · first
                | (exfalso; omega)
                | skip
                  refine (s255_583).mpr ?_
                  first | (exfalso; omega) | (exact ok _ _ _ ((tsH_23n c1 (by dsimp only; intro h6; rw [h6] at y86; exact absurd y86.2.2 (by decide))).trans (onw_p (by dsimp only; omega))) (flw1 (by rw [c1]; decide)) (by repeat' (first | assumption | exact FW.rf | refine FW.up ?_ (by unfold wS; omega) | (refine FW.tr ?_ (by assumption)))) (by (try simp (disch := decide) only [upI_eq, upI_a, upI_i, upR_eq, upR_a, upR_i]); try assumption) (by (try simp (disch := decide) only [upI_eq, upI_a, upI_i, upR_eq, upR_a, upR_i]); try assumption) (by simp (disch := decide) only [scX, upI_eq, upI_a, upI_i, upR_eq, upR_a, upR_i, upI_ro, upI_rw, up1_same, up1_eq, ht, E1, E2, E3, E4, E5, E6, E7])) | (exact st _ ((tsH_23s c1 (by dsimp only; omega)).trans (onw_p (by dsimp only; omega))) (by repeat' (first | assumption | exact FW.rf | refine FW.up ?_ (by unfold wS; omega) | (refine FW.tr ?_ (by assumption)))) (by (try simp (disch := decide) only [upI_eq, upI_a, upI_i, upR_eq, upR_a, upR_i]); try assumption) (by (try simp (disch := decide) only [upI_eq, upI_a, upI_i, upR_eq, upR_a, upR_i]); try assumption)) | (exact no _ ((tsH_23 c1).trans (onw_n (by intro h; dsimp only at h; omega))) (by repeat' (first | assumption | exact FW.rf | refine FW.up ?_ (by unfold wS; omega) | (refine FW.tr ?_ (by assumption)))) (by (try simp (disch := decide) only [upI_eq, upI_a, upI_i, upR_eq, upR_a, upR_i]); try assumption))
              · first
                | (exfalso; omega)
                | skip
                  refine s255_144.mpr (s255_145.mpr ((s255_146 kM).mpr ?_))
                  rw [mr_10 hR]
                  refine s255_149.mpr (s255_151.mpr (s255_152.mpr (s255_153.mpr (s255_155.mpr ?_))))
                  try simp (disch := first | decide | assumption | omega) only [kon, knt_some, knt_none, Option.toList_some, Option.toList_none, List.cons_append, List.nil_append, upI_eq, upI_a, upI_i, upR_eq, upR_a, upR_i, h36, ht, E1, E2, E3, E4, E5, E6, E7, fAdd_id, fSub_id, fMul_id, m2a, m2b]
                  refine (s255_157 (by omega)).mpr ?_
                  refine (m_which (vT_rng (hv75 _ (by omega) (by omega)))).mpr ?_
                  refine s255_160.mpr (s255_161.mpr (s255_162.mpr (s255_164.mpr ?_)))
                  try simp (disch := first | decide | assumption | omega) only [kon, knt_some, knt_none, Option.toList_some, Option.toList_none, List.cons_append, List.nil_append, upI_eq, upI_a, upI_i, upR_eq, upR_a, upR_i, h36, ht, E1, E2, E3, E4, E5, E6, E7, fAdd_id, fSub_id, fMul_id, m2a, m2b]
                  refine (s255_165 (hA.k (by decide) (by decide) rfl) (by first | assumption | omega) (by first | assumption | omega)).mpr ?_
                  try simp (disch := first | decide | assumption | omega) only [kon, knt_some, knt_none, Option.toList_some, Option.toList_none, List.cons_append, List.nil_append, upI_eq, upI_a, upI_i, upR_eq, upR_a, upR_i, h36, ht, E1, E2, E3, E4, E5, E6, E7, fAdd_id, fSub_id, fMul_id, m2a, m2b]
                  refine (s255_166 (by omega) kM).mpr ?_
                  refine m_push hA hR (by (try simp (disch := decide) only [upI_eq, upI_a, upI_i, upR_eq, upR_a, upR_i]); first | assumption | rfl) (by omega) ?_
                  refine s255_169.mpr ?_
                  refine (s255_583).mpr ?_
                  first | (exfalso; omega) | (exact ok _ _ _ ((tsH_23n c1 (by dsimp only; intro h6; rw [h6] at y86; exact absurd y86.2.2 (by decide))).trans (onw_p (by dsimp only; omega))) (flw1 (by rw [c1]; decide)) (by repeat' (first | assumption | exact FW.rf | refine FW.up ?_ (by unfold wS; omega) | (refine FW.tr ?_ (by assumption)))) (by (try simp (disch := decide) only [upI_eq, upI_a, upI_i, upR_eq, upR_a, upR_i]); try assumption) (by (try simp (disch := decide) only [upI_eq, upI_a, upI_i, upR_eq, upR_a, upR_i]); try assumption) (by simp (disch := decide) only [scX, upI_eq, upI_a, upI_i, upR_eq, upR_a, upR_i, upI_ro, upI_rw, up1_same, up1_eq, ht, E1, E2, E3, E4, E5, E6, E7])) | (exact st _ ((tsH_23s c1 (by dsimp only; omega)).trans (onw_p (by dsimp only; omega))) (by repeat' (first | assumption | exact FW.rf | refine FW.up ?_ (by unfold wS; omega) | (refine FW.tr ?_ (by assumption)))) (by (try simp (disch := decide) only [upI_eq, upI_a, upI_i, upR_eq, upR_a, upR_i]); try assumption) (by (try simp (disch := decide) only [upI_eq, upI_a, upI_i, upR_eq, upR_a, upR_i]); try assumption)) | (exact no _ ((tsH_23 c1).trans (onw_n (by intro h; dsimp only at h; omega))) (by repeat' (first | assumption | exact FW.rf | refine FW.up ?_ (by unfold wS; omega) | (refine FW.tr ?_ (by assumption)))) (by (try simp (disch := decide) only [upI_eq, upI_a, upI_i, upR_eq, upR_a, upR_i]); try assumption))
        · first
          | (exfalso; omega)
          | skip
            refine s255_109.mpr (s255_111.mpr ((s255_112 kM).mpr ?_))
            rw [mr_9 hR]
            refine s255_115.mpr (s255_117.mpr (s255_118.mpr (s255_119.mpr ?_)))
            try simp (disch := first | decide | assumption | omega) only [kon, knt_some, knt_none, Option.toList_some, Option.toList_none, List.cons_append, List.nil_append, upI_eq, upI_a, upI_i, upR_eq, upR_a, upR_i, h36, ht, E1, E2, E3, E4, E5, E6, E7, fAdd_id, fSub_id, fMul_id, m2a, m2b]
            refine (s255_121 (by omega)).mpr ?_
            refine (m_which (vT_rng (hv75 _ (by omega) (by omega)))).mpr ?_
            refine s255_124.mpr ?_
            try simp (disch := first | decide | assumption | omega) only [kon, knt_some, knt_none, Option.toList_some, Option.toList_none, List.cons_append, List.nil_append, upI_eq, upI_a, upI_i, upR_eq, upR_a, upR_i, h36, ht, E1, E2, E3, E4, E5, E6, E7, fAdd_id, fSub_id, fMul_id, m2a, m2b]
            refine (s255_125 (hA.k (by decide) (by decide) rfl) (by first | assumption | omega) (by first | assumption | omega)).mpr ?_
            try simp (disch := first | decide | assumption | omega) only [kon, knt_some, knt_none, Option.toList_some, Option.toList_none, List.cons_append, List.nil_append, upI_eq, upI_a, upI_i, upR_eq, upR_a, upR_i, h36, ht, E1, E2, E3, E4, E5, E6, E7, fAdd_id, fSub_id, fMul_id, m2a, m2b]
            refine s255_126.mpr (wif (fun c126 => ?_) (fun c126 => ?_))
            · first
              | (exfalso; omega)
              | skip
                refine s255_129.mpr (s255_130.mpr ?_)
                refine (s255_134 (by omega) kM).mpr ?_
                refine m_wants hA (by omega) (by (try simp (disch := decide) only [upI_eq, upI_a, upI_i, upR_eq, upR_a, upR_i]); first | assumption | rfl) (by omega) (fun y134 => ?_) (fun y134 => ?_)
                · skip
                  refine s255_137.mpr ?_
                  refine (s255_138 kM).mpr ?_
                  try simp (disch := first | decide | assumption | omega) only [kon, knt_some, knt_none, Option.toList_some, Option.toList_none, List.cons_append, List.nil_append, upI_eq, upI_a, upI_i, upR_eq, upR_a, upR_i, h36, ht, E1, E2, E3, E4, E5, E6, E7, fAdd_id, fSub_id, fMul_id, m2a, m2b]
                  refine s255_141.mpr (wif (fun c141 => ?_) (fun c141 => ?_))
                  · first
                    | (exfalso; omega)
                    | skip
                      refine (s255_583).mpr ?_
                      first | (exfalso; omega) | (exact ok _ _ _ ((tsH_23n c1 (by dsimp only; intro h6; rw [h6] at y86; exact absurd y86.2.2 (by decide))).trans (onw_p (by dsimp only; omega))) (flw1 (by rw [c1]; decide)) (by repeat' (first | assumption | exact FW.rf | refine FW.up ?_ (by unfold wS; omega) | (refine FW.tr ?_ (by assumption)))) (by (try simp (disch := decide) only [upI_eq, upI_a, upI_i, upR_eq, upR_a, upR_i]); try assumption) (by (try simp (disch := decide) only [upI_eq, upI_a, upI_i, upR_eq, upR_a, upR_i]); try assumption) (by simp (disch := decide) only [scX, upI_eq, upI_a, upI_i, upR_eq, upR_a, upR_i, upI_ro, upI_rw, up1_same, up1_eq, ht, E1, E2, E3, E4, E5, E6, E7])) | (exact st _ ((tsH_23s c1 (by dsimp only; omega)).trans (onw_p (by dsimp only; omega))) (by repeat' (first | assumption | exact FW.rf | refine FW.up ?_ (by unfold wS; omega) | (refine FW.tr ?_ (by assumption)))) (by (try simp (disch := decide) only [upI_eq, upI_a, upI_i, upR_eq, upR_a, upR_i]); try assumption) (by (try simp (disch := decide) only [upI_eq, upI_a, upI_i, upR_eq, upR_a, upR_i]); try assumption)) | (exact no _ ((tsH_23 c1).trans (onw_n (by intro h; dsimp only at h; omega))) (by repeat' (first | assumption | exact FW.rf | refine FW.up ?_ (by unfold wS; omega) | (refine FW.tr ?_ (by assumption)))) (by (try simp (disch := decide) only [upI_eq, upI_a, upI_i, upR_eq, upR_a, upR_i]); try assumption))
                  · first
                    | (exfalso; omega)
                    | skip
                      refine s255_144.mpr (s255_145.mpr ((s255_146 kM).mpr ?_))
                      rw [mr_10 hR]
                      refine s255_149.mpr (s255_151.mpr (s255_152.mpr (s255_153.mpr (s255_155.mpr ?_))))
                      try simp (disch := first | decide | assumption | omega) only [kon, knt_some, knt_none, Option.toList_some, Option.toList_none, List.cons_append, List.nil_append, upI_eq, upI_a, upI_i, upR_eq, upR_a, upR_i, h36, ht, E1, E2, E3, E4, E5, E6, E7, fAdd_id, fSub_id, fMul_id, m2a, m2b]
                      refine (s255_157 (by omega)).mpr ?_
                      refine (m_which (vT_rng (hv75 _ (by omega) (by omega)))).mpr ?_
                      refine s255_160.mpr (s255_161.mpr (s255_162.mpr (s255_164.mpr ?_)))
                      try simp (disch := first | decide | assumption | omega) only [kon, knt_some, knt_none, Option.toList_some, Option.toList_none, List.cons_append, List.nil_append, upI_eq, upI_a, upI_i, upR_eq, upR_a, upR_i, h36, ht, E1, E2, E3, E4, E5, E6, E7, fAdd_id, fSub_id, fMul_id, m2a, m2b]
                      refine (s255_165 (hA.k (by decide) (by decide) rfl) (by first | assumption | omega) (by first | assumption | omega)).mpr ?_
                      try simp (disch := first | decide | assumption | omega) only [kon, knt_some, knt_none, Option.toList_some, Option.toList_none, List.cons_append, List.nil_append, upI_eq, upI_a, upI_i, upR_eq, upR_a, upR_i, h36, ht, E1, E2, E3, E4, E5, E6, E7, fAdd_id, fSub_id, fMul_id, m2a, m2b]
                      refine (s255_166 (by omega) kM).mpr ?_
                      refine m_push hA hR (by (try simp (disch := decide) only [upI_eq, upI_a, upI_i, upR_eq, upR_a, upR_i]); first | assumption | rfl) (by omega) ?_
                      refine s255_169.mpr ?_
                      refine (s255_583).mpr ?_
                      first | (exfalso; omega) | (exact ok _ _ _ ((tsH_23n c1 (by dsimp only; intro h6; rw [h6] at y86; exact absurd y86.2.2 (by decide))).trans (onw_p (by dsimp only; omega))) (flw1 (by rw [c1]; decide)) (by repeat' (first | assumption | exact FW.rf | refine FW.up ?_ (by unfold wS; omega) | (refine FW.tr ?_ (by assumption)))) (by (try simp (disch := decide) only [upI_eq, upI_a, upI_i, upR_eq, upR_a, upR_i]); try assumption) (by (try simp (disch := decide) only [upI_eq, upI_a, upI_i, upR_eq, upR_a, upR_i]); try assumption) (by simp (disch := decide) only [scX, upI_eq, upI_a, upI_i, upR_eq, upR_a, upR_i, upI_ro, upI_rw, up1_same, up1_eq, ht, E1, E2, E3, E4, E5, E6, E7])) | (exact st _ ((tsH_23s c1 (by dsimp only; omega)).trans (onw_p (by dsimp only; omega))) (by repeat' (first | assumption | exact FW.rf | refine FW.up ?_ (by unfold wS; omega) | (refine FW.tr ?_ (by assumption)))) (by (try simp (disch := decide) only [upI_eq, upI_a, upI_i, upR_eq, upR_a, upR_i]); try assumption) (by (try simp (disch := decide) only [upI_eq, upI_a, upI_i, upR_eq, upR_a, upR_i]); try assumption)) | (exact no _ ((tsH_23 c1).trans (onw_n (by intro h; dsimp only at h; omega))) (by repeat' (first | assumption | exact FW.rf | refine FW.up ?_ (by unfold wS; omega) | (refine FW.tr ?_ (by assumption)))) (by (try simp (disch := decide) only [upI_eq, upI_a, upI_i, upR_eq, upR_a, upR_i]); try assumption))
                · skip
                  refine s255_137.mpr ?_
                  refine (s255_138 kM).mpr ?_
                  try simp (disch := first | decide | assumption | omega) only [kon, knt_some, knt_none, Option.toList_some, Option.toList_none, List.cons_append, List.nil_append, upI_eq, upI_a, upI_i, upR_eq, upR_a, upR_i, h36, ht, E1, E2, E3, E4, E5, E6, E7, fAdd_id, fSub_id, fMul_id, m2a, m2b]
                  refine s255_141.mpr (wif (fun c141 => ?_) (fun c141 => ?_))
                  · first
                    | (exfalso; omega)
                    | skip
                      refine (s255_583).mpr ?_
                      first | (exfalso; omega) | (exact ok _ _ _ ((tsH_23n c1 (by dsimp only; intro h6; rw [h6] at y86; exact absurd y86.2.2 (by decide))).trans (onw_p (by dsimp only; omega))) (flw1 (by rw [c1]; decide)) (by repeat' (first | assumption | exact FW.rf | refine FW.up ?_ (by unfold wS; omega) | (refine FW.tr ?_ (by assumption)))) (by (try simp (disch := decide) only [upI_eq, upI_a, upI_i, upR_eq, upR_a, upR_i]); try assumption) (by (try simp (disch := decide) only [upI_eq, upI_a, upI_i, upR_eq, upR_a, upR_i]); try assumption) (by simp (disch := decide) only [scX, upI_eq, upI_a, upI_i, upR_eq, upR_a, upR_i, upI_ro, upI_rw, up1_same, up1_eq, ht, E1, E2, E3, E4, E5, E6, E7])) | (exact st _ ((tsH_23s c1 (by dsimp only; omega)).trans (onw_p (by dsimp only; omega))) (by repeat' (first | assumption | exact FW.rf | refine FW.up ?_ (by unfold wS; omega) | (refine FW.tr ?_ (by assumption)))) (by (try simp (disch := decide) only [upI_eq, upI_a, upI_i, upR_eq, upR_a, upR_i]); try assumption) (by (try simp (disch := decide) only [upI_eq, upI_a, upI_i, upR_eq, upR_a, upR_i]); try assumption)) | (exact no _ ((tsH_23 c1).trans (onw_n (by intro h; dsimp only at h; omega))) (by repeat' (first | assumption | exact FW.rf | refine FW.up ?_ (by unfold wS; omega) | (refine FW.tr ?_ (by assumption)))) (by (try simp (disch := decide) only [upI_eq, upI_a, upI_i, upR_eq, upR_a, upR_i]); try assumption))
                  · first
                    | (exfalso; omega)
                    | skip
                      refine s255_144.mpr (s255_145.mpr ((s255_146 kM).mpr ?_))
                      rw [mr_10 hR]
                      refine s255_149.mpr (s255_151.mpr (s255_152.mpr (s255_153.mpr (s255_155.mpr ?_))))
                      try simp (disch := first | decide | assumption | omega) only [kon, knt_some, knt_none, Option.toList_some, Option.toList_none, List.cons_append, List.nil_append, upI_eq, upI_a, upI_i, upR_eq, upR_a, upR_i, h36, ht, E1, E2, E3, E4, E5, E6, E7, fAdd_id, fSub_id, fMul_id, m2a, m2b]
                      refine (s255_157 (by omega)).mpr ?_
                      refine (m_which (vT_rng (hv75 _ (by omega) (by omega)))).mpr ?_
                      refine s255_160.mpr (s255_161.mpr (s255_162.mpr (s255_164.mpr ?_)))
                      try simp (disch := first | decide | assumption | omega) only [kon, knt_some, knt_none, Option.toList_some, Option.toList_none, List.cons_append, List.nil_append, upI_eq, upI_a, upI_i, upR_eq, upR_a, upR_i, h36, ht, E1, E2, E3, E4, E5, E6, E7, fAdd_id, fSub_id, fMul_id, m2a, m2b]
                      refine (s255_165 (hA.k (by decide) (by decide) rfl) (by first | assumption | omega) (by first | assumption | omega)).mpr ?_
                      try simp (disch := first | decide | assumption | omega) only [kon, knt_some, knt_none, Option.toList_some, Option.toList_none, List.cons_append, List.nil_append, upI_eq, upI_a, upI_i, upR_eq, upR_a, upR_i, h36, ht, E1, E2, E3, E4, E5, E6, E7, fAdd_id, fSub_id, fMul_id, m2a, m2b]
                      refine (s255_166 (by omega) kM).mpr ?_
                      refine m_push hA hR (by (try simp (disch := decide) only [upI_eq, upI_a, upI_i, upR_eq, upR_a, upR_i]); first | assumption | rfl) (by omega) ?_
                      refine s255_169.mpr ?_
                      refine (s255_583).mpr ?_
                      first | (exfalso; omega) | (exact ok _ _ _ ((tsH_23n c1 (by dsimp only; intro h6; rw [h6] at y86; exact absurd y86.2.2 (by decide))).trans (onw_p (by dsimp only; omega))) (flw1 (by rw [c1]; decide)) (by repeat' (first | assumption | exact FW.rf | refine FW.up ?_ (by unfold wS; omega) | (refine FW.tr ?_ (by assumption)))) (by (try simp (disch := decide) only [upI_eq, upI_a, upI_i, upR_eq, upR_a, upR_i]); try assumption) (by (try simp (disch := decide) only [upI_eq, upI_a, upI_i, upR_eq, upR_a, upR_i]); try assumption) (by simp (disch := decide) only [scX, upI_eq, upI_a, upI_i, upR_eq, upR_a, upR_i, upI_ro, upI_rw, up1_same, up1_eq, ht, E1, E2, E3, E4, E5, E6, E7])) | (exact st _ ((tsH_23s c1 (by dsimp only; omega)).trans (onw_p (by dsimp only; omega))) (by repeat' (first | assumption | exact FW.rf | refine FW.up ?_ (by unfold wS; omega) | (refine FW.tr ?_ (by assumption)))) (by (try simp (disch := decide) only [upI_eq, upI_a, upI_i, upR_eq, upR_a, upR_i]); try assumption) (by (try simp (disch := decide) only [upI_eq, upI_a, upI_i, upR_eq, upR_a, upR_i]); try assumption)) | (exact no _ ((tsH_23 c1).trans (onw_n (by intro h; dsimp only at h; omega))) (by repeat' (first | assumption | exact FW.rf | refine FW.up ?_ (by unfold wS; omega) | (refine FW.tr ?_ (by assumption)))) (by (try simp (disch := decide) only [upI_eq, upI_a, upI_i, upR_eq, upR_a, upR_i]); try assumption))
            · first
              | (exfalso; omega)
              | skip
                refine s255_133.mpr ?_
                refine (s255_134 (by omega) kM).mpr ?_
                refine m_wants hA (by omega) (by (try simp (disch := decide) only [upI_eq, upI_a, upI_i, upR_eq, upR_a, upR_i]); first | assumption | rfl) (by omega) (fun y134 => ?_) (fun y134 => ?_)
                · skip
                  refine s255_137.mpr ?_
                  refine (s255_138 kM).mpr ?_
                  try simp (disch := first | decide | assumption | omega) only [kon, knt_some, knt_none, Option.toList_some, Option.toList_none, List.cons_append, List.nil_append, upI_eq, upI_a, upI_i, upR_eq, upR_a, upR_i, h36, ht, E1, E2, E3, E4, E5, E6, E7, fAdd_id, fSub_id, fMul_id, m2a, m2b]
                  refine s255_141.mpr (wif (fun c141 => ?_) (fun c141 => ?_))
                  · first
                    | (exfalso; omega)
                    | skip
                      refine (s255_583).mpr ?_
                      first | (exfalso; omega) | (exact ok _ _ _ ((tsH_23n c1 (by dsimp only; intro h6; rw [h6] at y86; exact absurd y86.2.2 (by decide))).trans (onw_p (by dsimp only; omega))) (flw1 (by rw [c1]; decide)) (by repeat' (first | assumption | exact FW.rf | refine FW.up ?_ (by unfold wS; omega) | (refine FW.tr ?_ (by assumption)))) (by (try simp (disch := decide) only [upI_eq, upI_a, upI_i, upR_eq, upR_a, upR_i]); try assumption) (by (try simp (disch := decide) only [upI_eq, upI_a, upI_i, upR_eq, upR_a, upR_i]); try assumption) (by simp (disch := decide) only [scX, upI_eq, upI_a, upI_i, upR_eq, upR_a, upR_i, upI_ro, upI_rw, up1_same, up1_eq, ht, E1, E2, E3, E4, E5, E6, E7])) | (exact st _ ((tsH_23s c1 (by dsimp only; omega)).trans (onw_p (by dsimp only; omega))) (by repeat' (first | assumption | exact FW.rf | refine FW.up ?_ (by unfold wS; omega) | (refine FW.tr ?_ (by assumption)))) (by (try simp (disch := decide) only [upI_eq, upI_a, upI_i, upR_eq, upR_a, upR_i]); try assumption) (by (try simp (disch := decide) only [upI_eq, upI_a, upI_i, upR_eq, upR_a, upR_i]); try assumption)) | (exact no _ ((tsH_23 c1).trans (onw_n (by intro h; dsimp only at h; omega))) (by repeat' (first | assumption | exact FW.rf | refine FW.up ?_ (by unfold wS; omega) | (refine FW.tr ?_ (by assumption)))) (by (try simp (disch := decide) only [upI_eq, upI_a, upI_i, upR_eq, upR_a, upR_i]); try assumption))
                  · first
                    | (exfalso; omega)
                    | skip
                      refine s255_144.mpr (s255_145.mpr ((s255_146 kM).mpr ?_))
                      rw [mr_10 hR]
                      refine s255_149.mpr (s255_151.mpr (s255_152.mpr (s255_153.mpr (s255_155.mpr ?_))))
                      try simp (disch := first | decide | assumption | omega) only [kon, knt_some, knt_none, Option.toList_some, Option.toList_none, List.cons_append, List.nil_append, upI_eq, upI_a, upI_i, upR_eq, upR_a, upR_i, h36, ht, E1, E2, E3, E4, E5, E6, E7, fAdd_id, fSub_id, fMul_id, m2a, m2b]
                      refine (s255_157 (by omega)).mpr ?_
                      refine (m_which (vT_rng (hv75 _ (by omega) (by omega)))).mpr ?_
                      refine s255_160.mpr (s255_161.mpr (s255_162.mpr (s255_164.mpr ?_)))
                      try simp (disch := first | decide | assumption | omega) only [kon, knt_some, knt_none, Option.toList_some, Option.toList_none, List.cons_append, List.nil_append, upI_eq, upI_a, upI_i, upR_eq, upR_a, upR_i, h36, ht, E1, E2, E3, E4, E5, E6, E7, fAdd_id, fSub_id, fMul_id, m2a, m2b]
                      refine (s255_165 (hA.k (by decide) (by decide) rfl) (by first | assumption | omega) (by first | assumption | omega)).mpr ?_
                      try simp (disch := first | decide | assumption | omega) only [kon, knt_some, knt_none, Option.toList_some, Option.toList_none, List.cons_append, List.nil_append, upI_eq, upI_a, upI_i, upR_eq, upR_a, upR_i, h36, ht, E1, E2, E3, E4, E5, E6, E7, fAdd_id, fSub_id, fMul_id, m2a, m2b]
                      refine (s255_166 (by omega) kM).mpr ?_
                      refine m_push hA hR (by (try simp (disch := decide) only [upI_eq, upI_a, upI_i, upR_eq, upR_a, upR_i]); first | assumption | rfl) (by omega) ?_
                      refine s255_169.mpr ?_
                      refine (s255_583).mpr ?_
                      first | (exfalso; omega) | (exact ok _ _ _ ((tsH_23n c1 (by dsimp only; intro h6; rw [h6] at y86; exact absurd y86.2.2 (by decide))).trans (onw_p (by dsimp only; omega))) (flw1 (by rw [c1]; decide)) (by repeat' (first | assumption | exact FW.rf | refine FW.up ?_ (by unfold wS; omega) | (refine FW.tr ?_ (by assumption)))) (by (try simp (disch := decide) only [upI_eq, upI_a, upI_i, upR_eq, upR_a, upR_i]); try assumption) (by (try simp (disch := decide) only [upI_eq, upI_a, upI_i, upR_eq, upR_a, upR_i]); try assumption) (by simp (disch := decide) only [scX, upI_eq, upI_a, upI_i, upR_eq, upR_a, upR_i, upI_ro, upI_rw, up1_same, up1_eq, ht, E1, E2, E3, E4, E5, E6, E7])) | (exact st _ ((tsH_23s c1 (by dsimp only; omega)).trans (onw_p (by dsimp only; omega))) (by repeat' (first | assumption | exact FW.rf | refine FW.up ?_ (by unfold wS; omega) | (refine FW.tr ?_ (by assumption)))) (by (try simp (disch := decide) only [upI_eq, upI_a, upI_i, upR_eq, upR_a, upR_i]); try assumption) (by (try simp (disch := decide) only [upI_eq, upI_a, upI_i, upR_eq, upR_a, upR_i]); try assumption)) | (exact no _ ((tsH_23 c1).trans (onw_n (by intro h; dsimp only at h; omega))) (by repeat' (first | assumption | exact FW.rf | refine FW.up ?_ (by unfold wS; omega) | (refine FW.tr ?_ (by assumption)))) (by (try simp (disch := decide) only [upI_eq, upI_a, upI_i, upR_eq, upR_a, upR_i]); try assumption))
                · skip
                  refine s255_137.mpr ?_
                  refine (s255_138 kM).mpr ?_
                  try simp (disch := first | decide | assumption | omega) only [kon, knt_some, knt_none, Option.toList_some, Option.toList_none, List.cons_append, List.nil_append, upI_eq, upI_a, upI_i, upR_eq, upR_a, upR_i, h36, ht, E1, E2, E3, E4, E5, E6, E7, fAdd_id, fSub_id, fMul_id, m2a, m2b]
                  refine s255_141.mpr (wif (fun c141 => ?_) (fun c141 => ?_))
                  · first
                    | (exfalso; omega)
                    | skip
                      refine (s255_583).mpr ?_
                      first | (exfalso; omega) | (exact ok _ _ _ ((tsH_23n c1 (by dsimp only; intro h6; rw [h6] at y86; exact absurd y86.2.2 (by decide))).trans (onw_p (by dsimp only; omega))) (flw1 (by rw [c1]; decide)) (by repeat' (first | assumption | exact FW.rf | refine FW.up ?_ (by unfold wS; omega) | (refine FW.tr ?_ (by assumption)))) (by (try simp (disch := decide) only [upI_eq, upI_a, upI_i, upR_eq, upR_a, upR_i]); try assumption) (by (try simp (disch := decide) only [upI_eq, upI_a, upI_i, upR_eq, upR_a, upR_i]); try assumption) (by simp (disch := decide) only [scX, upI_eq, upI_a, upI_i, upR_eq, upR_a, upR_i, upI_ro, upI_rw, up1_same, up1_eq, ht, E1, E2, E3, E4, E5, E6, E7])) | (exact st _ ((tsH_23s c1 (by dsimp only; omega)).trans (onw_p (by dsimp only; omega))) (by repeat' (first | assumption | exact FW.rf | refine FW.up ?_ (by unfold wS; omega) | (refine FW.tr ?_ (by assumption)))) (by (try simp (disch := decide) only [upI_eq, upI_a, upI_i, upR_eq, upR_a, upR_i]); try assumption) (by (try simp (disch := decide) only [upI_eq, upI_a, upI_i, upR_eq, upR_a, upR_i]); try assumption)) | (exact no _ ((tsH_23 c1).trans (onw_n (by intro h; dsimp only at h; omega))) (by repeat' (first | assumption | exact FW.rf | refine FW.up ?_ (by unfold wS; omega) | (refine FW.tr ?_ (by assumption)))) (by (try simp (disch := decide) only [upI_eq, upI_a, upI_i, upR_eq, upR_a, upR_i]); try assumption))
                  · first
                    | (exfalso; omega)
                    | skip
                      refine s255_144.mpr (s255_145.mpr ((s255_146 kM).mpr ?_))
                      rw [mr_10 hR]
                      refine s255_149.mpr (s255_151.mpr (s255_152.mpr (s255_153.mpr (s255_155.mpr ?_))))
                      try simp (disch := first | decide | assumption | omega) only [kon, knt_some, knt_none, Option.toList_some, Option.toList_none, List.cons_append, List.nil_append, upI_eq, upI_a, upI_i, upR_eq, upR_a, upR_i, h36, ht, E1, E2, E3, E4, E5, E6, E7, fAdd_id, fSub_id, fMul_id, m2a, m2b]
                      refine (s255_157 (by omega)).mpr ?_
                      refine (m_which (vT_rng (hv75 _ (by omega) (by omega)))).mpr ?_
                      refine s255_160.mpr (s255_161.mpr (s255_162.mpr (s255_164.mpr ?_)))
                      try simp (disch := first | decide | assumption | omega) only [kon, knt_some, knt_none, Option.toList_some, Option.toList_none, List.cons_append, List.nil_append, upI_eq, upI_a, upI_i, upR_eq, upR_a, upR_i, h36, ht, E1, E2, E3, E4, E5, E6, E7, fAdd_id, fSub_id, fMul_id, m2a, m2b]
                      refine (s255_165 (hA.k (by decide) (by decide) rfl) (by first | assumption | omega) (by first | assumption | omega)).mpr ?_
                      try simp (disch := first | decide | assumption | omega) only [kon, knt_some, knt_none, Option.toList_some, Option.toList_none, List.cons_append, List.nil_append, upI_eq, upI_a, upI_i, upR_eq, upR_a, upR_i, h36, ht, E1, E2, E3, E4, E5, E6, E7, fAdd_id, fSub_id, fMul_id, m2a, m2b]
                      refine (s255_166 (by omega) kM).mpr ?_
                      refine m_push hA hR (by (try simp (disch := decide) only [upI_eq, upI_a, upI_i, upR_eq, upR_a, upR_i]); first | assumption | rfl) (by omega) ?_
                      refine s255_169.mpr ?_
                      refine (s255_583).mpr ?_
                      first | (exfalso; omega) | (exact ok _ _ _ ((tsH_23n c1 (by dsimp only; intro h6; rw [h6] at y86; exact absurd y86.2.2 (by decide))).trans (onw_p (by dsimp only; omega))) (flw1 (by rw [c1]; decide)) (by repeat' (first | assumption | exact FW.rf | refine FW.up ?_ (by unfold wS; omega) | (refine FW.tr ?_ (by assumption)))) (by (try simp (disch := decide) only [upI_eq, upI_a, upI_i, upR_eq, upR_a, upR_i]); try assumption) (by (try simp (disch := decide) only [upI_eq, upI_a, upI_i, upR_eq, upR_a, upR_i]); try assumption) (by simp (disch := decide) only [scX, upI_eq, upI_a, upI_i, upR_eq, upR_a, upR_i, upI_ro, upI_rw, up1_same, up1_eq, ht, E1, E2, E3, E4, E5, E6, E7])) | (exact st _ ((tsH_23s c1 (by dsimp only; omega)).trans (onw_p (by dsimp only; omega))) (by repeat' (first | assumption | exact FW.rf | refine FW.up ?_ (by unfold wS; omega) | (refine FW.tr ?_ (by assumption)))) (by (try simp (disch := decide) only [upI_eq, upI_a, upI_i, upR_eq, upR_a, upR_i]); try assumption) (by (try simp (disch := decide) only [upI_eq, upI_a, upI_i, upR_eq, upR_a, upR_i]); try assumption)) | (exact no _ ((tsH_23 c1).trans (onw_n (by intro h; dsimp only at h; omega))) (by repeat' (first | assumption | exact FW.rf | refine FW.up ?_ (by unfold wS; omega) | (refine FW.tr ?_ (by assumption)))) (by (try simp (disch := decide) only [upI_eq, upI_a, upI_i, upR_eq, upR_a, upR_i]); try assumption))
    · first
      | (exfalso; omega)
      | skip
        refine s255_98.mpr ?_
        refine (s255_583).mpr ?_
        first | (exfalso; omega) | (exact ok _ _ _ ((tsH_23n c1 (by dsimp only; intro h6; rw [h6] at y86; exact absurd y86.2.2 (by decide))).trans (onw_p (by dsimp only; omega))) (flw1 (by rw [c1]; decide)) (by repeat' (first | assumption | exact FW.rf | refine FW.up ?_ (by unfold wS; omega) | (refine FW.tr ?_ (by assumption)))) (by (try simp (disch := decide) only [upI_eq, upI_a, upI_i, upR_eq, upR_a, upR_i]); try assumption) (by (try simp (disch := decide) only [upI_eq, upI_a, upI_i, upR_eq, upR_a, upR_i]); try assumption) (by simp (disch := decide) only [scX, upI_eq, upI_a, upI_i, upR_eq, upR_a, upR_i, upI_ro, upI_rw, up1_same, up1_eq, ht, E1, E2, E3, E4, E5, E6, E7])) | (exact st _ ((tsH_23s c1 (by dsimp only; omega)).trans (onw_p (by dsimp only; omega))) (by repeat' (first | assumption | exact FW.rf | refine FW.up ?_ (by unfold wS; omega) | (refine FW.tr ?_ (by assumption)))) (by (try simp (disch := decide) only [upI_eq, upI_a, upI_i, upR_eq, upR_a, upR_i]); try assumption) (by (try simp (disch := decide) only [upI_eq, upI_a, upI_i, upR_eq, upR_a, upR_i]); try assumption)) | (exact no _ ((tsH_23 c1).trans (onw_n (by intro h; dsimp only at h; omega))) (by repeat' (first | assumption | exact FW.rf | refine FW.up ?_ (by unfold wS; omega) | (refine FW.tr ?_ (by assumption)))) (by (try simp (disch := decide) only [upI_eq, upI_a, upI_i, upR_eq, upR_a, upR_i]); try assumption))
  · skip
    try simp (disch := decide) only [upI_eq, upI_a, upI_i, upR_eq, upR_a, upR_i, E1, E4] at y86
    try simp (disch := decide) only [upI_eq, upI_a, upI_i, upR_eq, upR_a, upR_i, E1, E4] at x86
    refine s255_89.mpr (s255_91.mpr ?_)
    refine (s255_92 kM).mpr ?_
    try simp (disch := first | decide | assumption | omega) only [kon, knt_some, knt_none, Option.toList_some, Option.toList_none, List.cons_append, List.nil_append, upI_eq, upI_a, upI_i, upR_eq, upR_a, upR_i, h36, ht, E1, E2, E3, E4, E5, E6, E7, fAdd_id, fSub_id, fMul_id, m2a, m2b]
    refine s255_95.mpr (wif (fun c95 => ?_) (fun c95 => ?_))
    · first
      | (exfalso; omega)
      | skip
        refine s255_101.mpr (s255_102.mpr ?_)
        refine (s255_103 kM).mpr ?_
        try simp (disch := first | decide | assumption | omega) only [kon, knt_some, knt_none, Option.toList_some, Option.toList_none, List.cons_append, List.nil_append, upI_eq, upI_a, upI_i, upR_eq, upR_a, upR_i, h36, ht, E1, E2, E3, E4, E5, E6, E7, fAdd_id, fSub_id, fMul_id, m2a, m2b]
        refine s255_106.mpr (wif (fun c106 => ?_) (fun c106 => ?_))
        · first
          | (exfalso; omega)
          | skip
            refine s255_133.mpr ?_
            refine (s255_134 (by omega) kM).mpr ?_
            refine m_wants hA (by omega) (by (try simp (disch := decide) only [upI_eq, upI_a, upI_i, upR_eq, upR_a, upR_i]); first | assumption | rfl) (by omega) (fun y134 => ?_) (fun y134 => ?_)
            · skip
              refine s255_137.mpr ?_
              refine (s255_138 kM).mpr ?_
              try simp (disch := first | decide | assumption | omega) only [kon, knt_some, knt_none, Option.toList_some, Option.toList_none, List.cons_append, List.nil_append, upI_eq, upI_a, upI_i, upR_eq, upR_a, upR_i, h36, ht, E1, E2, E3, E4, E5, E6, E7, fAdd_id, fSub_id, fMul_id, m2a, m2b]
              refine s255_141.mpr (wif (fun c141 => ?_) (fun c141 => ?_))
              · first
                | (exfalso; omega)
                | skip
                  refine (s255_583).mpr ?_
                  first | (exfalso; omega) | (exact ok _ _ _ ((tsH_23n c1 (by dsimp only; intro h6; rw [h6] at y86; exact absurd y86.2.2 (by decide))).trans (onw_p (by dsimp only; omega))) (flw1 (by rw [c1]; decide)) (by repeat' (first | assumption | exact FW.rf | refine FW.up ?_ (by unfold wS; omega) | (refine FW.tr ?_ (by assumption)))) (by (try simp (disch := decide) only [upI_eq, upI_a, upI_i, upR_eq, upR_a, upR_i]); try assumption) (by (try simp (disch := decide) only [upI_eq, upI_a, upI_i, upR_eq, upR_a, upR_i]); try assumption) (by simp (disch := decide) only [scX, upI_eq, upI_a, upI_i, upR_eq, upR_a, upR_i, upI_ro, upI_rw, up1_same, up1_eq, ht, E1, E2, E3, E4, E5, E6, E7])) | (exact st _ ((tsH_23s c1 (by dsimp only; omega)).trans (onw_p (by dsimp only; omega))) (by repeat' (first | assumption | exact FW.rf | refine FW.up ?_ (by unfold wS; omega) | (refine FW.tr ?_ (by assumption)))) (by (try simp (disch := decide) only [upI_eq, upI_a, upI_i, upR_eq, upR_a, upR_i]); try assumption) (by (try simp (disch := decide) only [upI_eq, upI_a, upI_i, upR_eq, upR_a, upR_i]); try assumption)) | (exact no _ ((tsH_23 c1).trans (onw_n (by intro h; dsimp only at h; omega))) (by repeat' (first | assumption | exact FW.rf | refine FW.up ?_ (by unfold wS; omega) | (refine FW.tr ?_ (by assumption)))) (by (try simp (disch := decide) only [upI_eq, upI_a, upI_i, upR_eq, upR_a, upR_i]); try assumption))
              · first
                | (exfalso; omega)
                | skip
                  refine s255_144.mpr (s255_145.mpr ((s255_146 kM).mpr ?_))
                  rw [mr_10 hR]
                  refine s255_149.mpr (s255_151.mpr (s255_152.mpr (s255_153.mpr (s255_155.mpr ?_))))
                  try simp (disch := first | decide | assumption | omega) only [kon, knt_some, knt_none, Option.toList_some, Option.toList_none, List.cons_append, List.nil_append, upI_eq, upI_a, upI_i, upR_eq, upR_a, upR_i, h36, ht, E1, E2, E3, E4, E5, E6, E7, fAdd_id, fSub_id, fMul_id, m2a, m2b]
                  refine (s255_157 (by omega)).mpr ?_
                  refine (m_which (vT_rng (hv75 _ (by omega) (by omega)))).mpr ?_
                  refine s255_160.mpr (s255_161.mpr (s255_162.mpr (s255_164.mpr ?_)))
                  try simp (disch := first | decide | assumption | omega) only [kon, knt_some, knt_none, Option.toList_some, Option.toList_none, List.cons_append, List.nil_append, upI_eq, upI_a, upI_i, upR_eq, upR_a, upR_i, h36, ht, E1, E2, E3, E4, E5, E6, E7, fAdd_id, fSub_id, fMul_id, m2a, m2b]
                  refine (s255_165 (hA.k (by decide) (by decide) rfl) (by first | assumption | omega) (by first | assumption | omega)).mpr ?_
                  try simp (disch := first | decide | assumption | omega) only [kon, knt_some, knt_none, Option.toList_some, Option.toList_none, List.cons_append, List.nil_append, upI_eq, upI_a, upI_i, upR_eq, upR_a, upR_i, h36, ht, E1, E2, E3, E4, E5, E6, E7, fAdd_id, fSub_id, fMul_id, m2a, m2b]
                  refine (s255_166 (by omega) kM).mpr ?_
                  refine m_push hA hR (by (try simp (disch := decide) only [upI_eq, upI_a, upI_i, upR_eq, upR_a, upR_i]); first | assumption | rfl) (by omega) ?_
                  refine s255_169.mpr ?_
                  refine (s255_583).mpr ?_
                  first | (exfalso; omega) | (exact ok _ _ _ ((tsH_23n c1 (by dsimp only; intro h6; rw [h6] at y86; exact absurd y86.2.2 (by decide))).trans (onw_p (by dsimp only; omega))) (flw1 (by rw [c1]; decide)) (by repeat' (first | assumption | exact FW.rf | refine FW.up ?_ (by unfold wS; omega) | (refine FW.tr ?_ (by assumption)))) (by (try simp (disch := decide) only [upI_eq, upI_a, upI_i, upR_eq, upR_a, upR_i]); try assumption) (by (try simp (disch := decide) only [upI_eq, upI_a, upI_i, upR_eq, upR_a, upR_i]); try assumption) (by simp (disch := decide) only [scX, upI_eq, upI_a, upI_i, upR_eq, upR_a, upR_i, upI_ro, upI_rw, up1_same, up1_eq, ht, E1, E2, E3, E4, E5, E6, E7])) | (exact st _ ((tsH_23s c1 (by dsimp only; omega)).trans (onw_p (by dsimp only; omega))) (by repeat' (first | assumption | exact FW.rf | refine FW.up ?_ (by unfold wS; omega) | (refine FW.tr ?_ (by assumption)))) (by (try simp (disch := decide) only [upI_eq, upI_a, upI_i, upR_eq, upR_a, upR_i]); try assumption) (by (try simp (disch := decide) only [upI_eq, upI_a, upI_i, upR_eq, upR_a, upR_i]); try assumption)) | (exact no _ ((tsH_23 c1).trans (onw_n (by intro h; dsimp only at h; omega))) (by repeat' (first | assumption | exact FW.rf | refine FW.up ?_ (by unfold wS; omega) | (refine FW.tr ?_ (by assumption)))) (by (try simp (disch := decide) only [upI_eq, upI_a, upI_i, upR_eq, upR_a, upR_i]); try assumption))
            · skip
              refine s255_137.mpr ?_
              refine (s255_138 kM).mpr ?_
              try simp (disch := first | decide | assumption | omega) only [kon, knt_some, knt_none, Option.toList_some, Option.toList_none, List.cons_append, List.nil_append, upI_eq, upI_a, upI_i, upR_eq, upR_a, upR_i, h36, ht, E1, E2, E3, E4, E5, E6, E7, fAdd_id, fSub_id, fMul_id, m2a, m2b]
              refine s255_141.mpr (wif (fun c141 => ?_) (fun c141 => ?_))
              · first
                | (exfalso; omega)
                | skip
                  refine (s255_583).mpr ?_
                  first | (exfalso; omega) | (exact ok _ _ _ ((tsH_23n c1 (by dsimp only; intro h6; rw [h6] at y86; exact absurd y86.2.2 (by decide))).trans (onw_p (by dsimp only; omega))) (flw1 (by rw [c1]; decide)) (by repeat' (first | assumption | exact FW.rf | refine FW.up ?_ (by unfold wS; omega) | (refine FW.tr ?_ (by assumption)))) (by (try simp (disch := decide) only [upI_eq, upI_a, upI_i, upR_eq, upR_a, upR_i]); try assumption) (by (try simp (disch := decide) only [upI_eq, upI_a, upI_i, upR_eq, upR_a, upR_i]); try assumption) (by simp (disch := decide) only [scX, upI_eq, upI_a, upI_i, upR_eq, upR_a, upR_i, upI_ro, upI_rw, up1_same, up1_eq, ht, E1, E2, E3, E4, E5, E6, E7])) | (exact st _ ((tsH_23s c1 (by dsimp only; omega)).trans (onw_p (by dsimp only; omega))) (by repeat' (first | assumption | exact FW.rf | refine FW.up ?_ (by unfold wS; omega) | (refine FW.tr ?_ (by assumption)))) (by (try simp (disch := decide) only [upI_eq, upI_a, upI_i, upR_eq, upR_a, upR_i]); try assumption) (by (try simp (disch := decide) only [upI_eq, upI_a, upI_i, upR_eq, upR_a, upR_i]); try assumption)) | (exact no _ ((tsH_23 c1).trans (onw_n (by intro h; dsimp only at h; omega))) (by repeat' (first | assumption | exact FW.rf | refine FW.up ?_ (by unfold wS; omega) | (refine FW.tr ?_ (by assumption)))) (by (try simp (disch := decide) only [upI_eq, upI_a, upI_i, upR_eq, upR_a, upR_i]); try assumption))
              · first
                | (exfalso; omega)
                | skip
                  refine s255_144.mpr (s255_145.mpr ((s255_146 kM).mpr ?_))
                  rw [mr_10 hR]
                  refine s255_149.mpr (s255_151.mpr (s255_152.mpr (s255_153.mpr (s255_155.mpr ?_))))
                  try simp (disch := first | decide | assumption | omega) only [kon, knt_some, knt_none, Option.toList_some, Option.toList_none, List.cons_append, List.nil_append, upI_eq, upI_a, upI_i, upR_eq, upR_a, upR_i, h36, ht, E1, E2, E3, E4, E5, E6, E7, fAdd_id, fSub_id, fMul_id, m2a, m2b]
                  refine (s255_157 (by omega)).mpr ?_
                  refine (m_which (vT_rng (hv75 _ (by omega) (by omega)))).mpr ?_
                  refine s255_160.mpr (s255_161.mpr (s255_162.mpr (s255_164.mpr ?_)))
                  try simp (disch := first | decide | assumption | omega) only [kon, knt_some, knt_none, Option.toList_some, Option.toList_none, List.cons_append, List.nil_append, upI_eq, upI_a, upI_i, upR_eq, upR_a, upR_i, h36, ht, E1, E2, E3, E4, E5, E6, E7, fAdd_id, fSub_id, fMul_id, m2a, m2b]
                  refine (s255_165 (hA.k (by decide) (by decide) rfl) (by first | assumption | omega) (by first | assumption | omega)).mpr ?_
                  try simp (disch := first | decide | assumption | omega) only [kon, knt_some, knt_none, Option.toList_some, Option.toList_none, List.cons_append, List.nil_append, upI_eq, upI_a, upI_i, upR_eq, upR_a, upR_i, h36, ht, E1, E2, E3, E4, E5, E6, E7, fAdd_id, fSub_id, fMul_id, m2a, m2b]
                  refine (s255_166 (by omega) kM).mpr ?_
                  refine m_push hA hR (by (try simp (disch := decide) only [upI_eq, upI_a, upI_i, upR_eq, upR_a, upR_i]); first | assumption | rfl) (by omega) ?_
                  refine s255_169.mpr ?_
                  refine (s255_583).mpr ?_
                  first | (exfalso; omega) | (exact ok _ _ _ ((tsH_23n c1 (by dsimp only; intro h6; rw [h6] at y86; exact absurd y86.2.2 (by decide))).trans (onw_p (by dsimp only; omega))) (flw1 (by rw [c1]; decide)) (by repeat' (first | assumption | exact FW.rf | refine FW.up ?_ (by unfold wS; omega) | (refine FW.tr ?_ (by assumption)))) (by (try simp (disch := decide) only [upI_eq, upI_a, upI_i, upR_eq, upR_a, upR_i]); try assumption) (by (try simp (disch := decide) only [upI_eq, upI_a, upI_i, upR_eq, upR_a, upR_i]); try assumption) (by simp (disch := decide) only [scX, upI_eq, upI_a, upI_i, upR_eq, upR_a, upR_i, upI_ro, upI_rw, up1_same, up1_eq, ht, E1, E2, E3, E4, E5, E6, E7])) | (exact st _ ((tsH_23s c1 (by dsimp only; omega)).trans (onw_p (by dsimp only; omega))) (by repeat' (first | assumption | exact FW.rf | refine FW.up ?_ (by unfold wS; omega) | (refine FW.tr ?_ (by assumption)))) (by (try simp (disch := decide) only [upI_eq, upI_a, upI_i, upR_eq, upR_a, upR_i]); try assumption) (by (try simp (disch := decide) only [upI_eq, upI_a, upI_i, upR_eq, upR_a, upR_i]); try assumption)) | (exact no _ ((tsH_23 c1).trans (onw_n (by intro h; dsimp only at h; omega))) (by repeat' (first | assumption | exact FW.rf | refine FW.up ?_ (by unfold wS; omega) | (refine FW.tr ?_ (by assumption)))) (by (try simp (disch := decide) only [upI_eq, upI_a, upI_i, upR_eq, upR_a, upR_i]); try assumption))
        · first
          | (exfalso; omega)
          | skip
            refine s255_109.mpr (s255_111.mpr ((s255_112 kM).mpr ?_))
            rw [mr_9 hR]
            refine s255_115.mpr (s255_117.mpr (s255_118.mpr (s255_119.mpr ?_)))
            try simp (disch := first | decide | assumption | omega) only [kon, knt_some, knt_none, Option.toList_some, Option.toList_none, List.cons_append, List.nil_append, upI_eq, upI_a, upI_i, upR_eq, upR_a, upR_i, h36, ht, E1, E2, E3, E4, E5, E6, E7, fAdd_id, fSub_id, fMul_id, m2a, m2b]
            refine (s255_121 (by omega)).mpr ?_
            refine (m_which (vT_rng (hv75 _ (by omega) (by omega)))).mpr ?_
            refine s255_124.mpr ?_
            try simp (disch := first | decide | assumption | omega) only [kon, knt_some, knt_none, Option.toList_some, Option.toList_none, List.cons_append, List.nil_append, upI_eq, upI_a, upI_i, upR_eq, upR_a, upR_i, h36, ht, E1, E2, E3, E4, E5, E6, E7, fAdd_id, fSub_id, fMul_id, m2a, m2b]
            refine (s255_125 (hA.k (by decide) (by decide) rfl) (by first | assumption | omega) (by first | assumption | omega)).mpr ?_
            try simp (disch := first | decide | assumption | omega) only [kon, knt_some, knt_none, Option.toList_some, Option.toList_none, List.cons_append, List.nil_append, upI_eq, upI_a, upI_i, upR_eq, upR_a, upR_i, h36, ht, E1, E2, E3, E4, E5, E6, E7, fAdd_id, fSub_id, fMul_id, m2a, m2b]
            refine s255_126.mpr (wif (fun c126 => ?_) (fun c126 => ?_))
            · first
              | (exfalso; omega)
              | skip
                refine s255_129.mpr (s255_130.mpr ?_)
                refine (s255_134 (by omega) kM).mpr ?_
                refine m_wants hA (by omega) (by (try simp (disch := decide) only [upI_eq, upI_a, upI_i, upR_eq, upR_a, upR_i]); first | assumption | rfl) (by omega) (fun y134 => ?_) (fun y134 => ?_)
                · skip
                  refine s255_137.mpr ?_
                  refine (s255_138 kM).mpr ?_
                  try simp (disch := first | decide | assumption | omega) only [kon, knt_some, knt_none, Option.toList_some, Option.toList_none, List.cons_append, List.nil_append, upI_eq, upI_a, upI_i, upR_eq, upR_a, upR_i, h36, ht, E1, E2, E3, E4, E5, E6, E7, fAdd_id, fSub_id, fMul_id, m2a, m2b]
                  refine s255_141.mpr (wif (fun c141 => ?_) (fun c141 => ?_))
                  · first
                    | (exfalso; omega)
                    | skip
                      refine (s255_583).mpr ?_
                      first | (exfalso; omega) | (exact ok _ _ _ ((tsH_23n c1 (by dsimp only; intro h6; rw [h6] at y86; exact absurd y86.2.2 (by decide))).trans (onw_p (by dsimp only; omega))) (flw1 (by rw [c1]; decide)) (by repeat' (first | assumption | exact FW.rf | refine FW.up ?_ (by unfold wS; omega) | (refine FW.tr ?_ (by assumption)))) (by (try simp (disch := decide) only [upI_eq, upI_a, upI_i, upR_eq, upR_a, upR_i]); try assumption) (by (try simp (disch := decide) only [upI_eq, upI_a, upI_i, upR_eq, upR_a, upR_i]); try assumption) (by simp (disch := decide) only [scX, upI_eq, upI_a, upI_i, upR_eq, upR_a, upR_i, upI_ro, upI_rw, up1_same, up1_eq, ht, E1, E2, E3, E4, E5, E6, E7])) | (exact st _ ((tsH_23s c1 (by dsimp only; omega)).trans (onw_p (by dsimp only; omega))) (by repeat' (first | assumption | exact FW.rf | refine FW.up ?_ (by unfold wS; omega) | (refine FW.tr ?_ (by assumption)))) (by (try simp (disch := decide) only [upI_eq, upI_a, upI_i, upR_eq, upR_a, upR_i]); try assumption) (by (try simp (disch := decide) only [upI_eq, upI_a, upI_i, upR_eq, upR_a, upR_i]); try assumption)) | (exact no _ ((tsH_23 c1).trans (onw_n (by intro h; dsimp only at h; omega))) (by repeat' (first | assumption | exact FW.rf | refine FW.up ?_ (by unfold wS; omega) | (refine FW.tr ?_ (by assumption)))) (by (try simp (disch := decide) only [upI_eq, upI_a, upI_i, upR_eq, upR_a, upR_i]); try assumption))
                  · first
                    | (exfalso; omega)
                    | skip
                      refine s255_144.mpr (s255_145.mpr ((s255_146 kM).mpr ?_))
                      rw [mr_10 hR]
                      refine s255_149.mpr (s255_151.mpr (s255_152.mpr (s255_153.mpr (s255_155.mpr ?_))))
                      try simp (disch := first | decide | assumption | omega) only [kon, knt_some, knt_none, Option.toList_some, Option.toList_none, List.cons_append, List.nil_append, upI_eq, upI_a, upI_i, upR_eq, upR_a, upR_i, h36, ht, E1, E2, E3, E4, E5, E6, E7, fAdd_id, fSub_id, fMul_id, m2a, m2b]
                      refine (s255_157 (by omega)).mpr ?_
                      refine (m_which (vT_rng (hv75 _ (by omega) (by omega)))).mpr ?_
                      refine s255_160.mpr (s255_161.mpr (s255_162.mpr (s255_164.mpr ?_)))
                      try simp (disch := first | decide | assumption | omega) only [kon, knt_some, knt_none, Option.toList_some, Option.toList_none, List.cons_append, List.nil_append, upI_eq, upI_a, upI_i, upR_eq, upR_a, upR_i, h36, ht, E1, E2, E3, E4, E5, E6, E7, fAdd_id, fSub_id, fMul_id, m2a, m2b]
                      refine (s255_165 (hA.k (by decide) (by decide) rfl) (by first | assumption | omega) (by first | assumption | omega)).mpr ?_
                      try simp (disch := first | decide | assumption | omega) only [kon, knt_some, knt_none, Option.toList_some, Option.toList_none, List.cons_append, List.nil_append, upI_eq, upI_a, upI_i, upR_eq, upR_a, upR_i, h36, ht, E1, E2, E3, E4, E5, E6, E7, fAdd_id, fSub_id, fMul_id, m2a, m2b]
                      refine (s255_166 (by omega) kM).mpr ?_
                      refine m_push hA hR (by (try simp (disch := decide) only [upI_eq, upI_a, upI_i, upR_eq, upR_a, upR_i]); first | assumption | rfl) (by omega) ?_
                      refine s255_169.mpr ?_
                      refine (s255_583).mpr ?_
                      first | (exfalso; omega) | (exact ok _ _ _ ((tsH_23n c1 (by dsimp only; intro h6; rw [h6] at y86; exact absurd y86.2.2 (by decide))).trans (onw_p (by dsimp only; omega))) (flw1 (by rw [c1]; decide)) (by repeat' (first | assumption | exact FW.rf | refine FW.up ?_ (by unfold wS; omega) | (refine FW.tr ?_ (by assumption)))) (by (try simp (disch := decide) only [upI_eq, upI_a, upI_i, upR_eq, upR_a, upR_i]); try assumption) (by (try simp (disch := decide) only [upI_eq, upI_a, upI_i, upR_eq, upR_a, upR_i]); try assumption) (by simp (disch := decide) only [scX, upI_eq, upI_a, upI_i, upR_eq, upR_a, upR_i, upI_ro, upI_rw, up1_same, up1_eq, ht, E1, E2, E3, E4, E5, E6, E7])) | (exact st _ ((tsH_23s c1 (by dsimp only; omega)).trans (onw_p (by dsimp only; omega))) (by repeat' (first | assumption | exact FW.rf | refine FW.up ?_ (by unfold wS; omega) | (refine FW.tr ?_ (by assumption)))) (by (try simp (disch := decide) only [upI_eq, upI_a, upI_i, upR_eq, upR_a, upR_i]); try assumption) (by (try simp (disch := decide) only [upI_eq, upI_a, upI_i, upR_eq, upR_a, upR_i]); try assumption)) | (exact no _ ((tsH_23 c1).trans (onw_n (by intro h; dsimp only at h; omega))) (by repeat' (first | assumption | exact FW.rf | refine FW.up ?_ (by unfold wS; omega) | (refine FW.tr ?_ (by assumption)))) (by (try simp (disch := decide) only [upI_eq, upI_a, upI_i, upR_eq, upR_a, upR_i]); try assumption))
                · skip
                  refine s255_137.mpr ?_
                  refine (s255_138 kM).mpr ?_
                  try simp (disch := first | decide | assumption | omega) only [kon, knt_some, knt_none, Option.toList_some, Option.toList_none, List.cons_append, List.nil_append, upI_eq, upI_a, upI_i, upR_eq, upR_a, upR_i, h36, ht, E1, E2, E3, E4, E5, E6, E7, fAdd_id, fSub_id, fMul_id, m2a, m2b]
                  refine s255_141.mpr (wif (fun c141 => ?_) (fun c141 => ?_))
                  · first
                    | (exfalso; omega)
                    | skip
                      refine (s255_583).mpr ?_
                      first | (exfalso; omega) | (exact ok _ _ _ ((tsH_23n c1 (by dsimp only; intro h6; rw [h6] at y86; exact absurd y86.2.2 (by decide))).trans (onw_p (by dsimp only; omega))) (flw1 (by rw [c1]; decide)) (by repeat' (first | assumption | exact FW.rf | refine FW.up ?_ (by unfold wS; omega) | (refine FW.tr ?_ (by assumption)))) (by (try simp (disch := decide) only [upI_eq, upI_a, upI_i, upR_eq, upR_a, upR_i]); try assumption) (by (try simp (disch := decide) only [upI_eq, upI_a, upI_i, upR_eq, upR_a, upR_i]); try assumption) (by simp (disch := decide) only [scX, upI_eq, upI_a, upI_i, upR_eq, upR_a, upR_i, upI_ro, upI_rw, up1_same, up1_eq, ht, E1, E2, E3, E4, E5, E6, E7])) | (exact st _ ((tsH_23s c1 (by dsimp only; omega)).trans (onw_p (by dsimp only; omega))) (by repeat' (first | assumption | exact FW.rf | refine FW.up ?_ (by unfold wS; omega) | (refine FW.tr ?_ (by assumption)))) (by (try simp (disch := decide) only [upI_eq, upI_a, upI_i, upR_eq, upR_a, upR_i]); try assumption) (by (try simp (disch := decide) only [upI_eq, upI_a, upI_i, upR_eq, upR_a, upR_i]); try assumption)) | (exact no _ ((tsH_23 c1).trans (onw_n (by intro h; dsimp only at h; omega))) (by repeat' (first | assumption | exact FW.rf | refine FW.up ?_ (by unfold wS; omega) | (refine FW.tr ?_ (by assumption)))) (by (try simp (disch := decide) only [upI_eq, upI_a, upI_i, upR_eq, upR_a, upR_i]); try assumption))
                  · first
                    | (exfalso; omega)
                    | skip
                      refine s255_144.mpr (s255_145.mpr ((s255_146 kM).mpr ?_))
                      rw [mr_10 hR]
                      refine s255_149.mpr (s255_151.mpr (s255_152.mpr (s255_153.mpr (s255_155.mpr ?_))))
                      try simp (disch := first | decide | assumption | omega) only [kon, knt_some, knt_none, Option.toList_some, Option.toList_none, List.cons_append, List.nil_append, upI_eq, upI_a, upI_i, upR_eq, upR_a, upR_i, h36, ht, E1, E2, E3, E4, E5, E6, E7, fAdd_id, fSub_id, fMul_id, m2a, m2b]
                      refine (s255_157 (by omega)).mpr ?_
                      refine (m_which (vT_rng (hv75 _ (by omega) (by omega)))).mpr ?_
                      refine s255_160.mpr (s255_161.mpr (s255_162.mpr (s255_164.mpr ?_)))
                      try simp (disch := first | decide | assumption | omega) only [kon, knt_some, knt_none, Option.toList_some, Option.toList_none, List.cons_append, List.nil_append, upI_eq, upI_a, upI_i, upR_eq, upR_a, upR_i, h36, ht, E1, E2, E3, E4, E5, E6, E7, fAdd_id, fSub_id, fMul_id, m2a, m2b]
                      refine (s255_165 (hA.k (by decide) (by decide) rfl) (by first | assumption | omega) (by first | assumption | omega)).mpr ?_
                      try simp (disch := first | decide | assumption | omega) only [kon, knt_some, knt_none, Option.toList_some, Option.toList_none, List.cons_append, List.nil_append, upI_eq, upI_a, upI_i, upR_eq, upR_a, upR_i, h36, ht, E1, E2, E3, E4, E5, E6, E7, fAdd_id, fSub_id, fMul_id, m2a, m2b]
                      refine (s255_166 (by omega) kM).mpr ?_
                      refine m_push hA hR (by (try simp (disch := decide) only [upI_eq, upI_a, upI_i, upR_eq, upR_a, upR_i]); first | assumption | rfl) (by omega) ?_
                      refine s255_169.mpr ?_
                      refine (s255_583).mpr ?_
                      first | (exfalso; omega) | (exact ok _ _ _ ((tsH_23n c1 (by dsimp only; intro h6; rw [h6] at y86; exact absurd y86.2.2 (by decide))).trans (onw_p (by dsimp only; omega))) (flw1 (by rw [c1]; decide)) (by repeat' (first | assumption | exact FW.rf | refine FW.up ?_ (by unfold wS; omega) | (refine FW.tr ?_ (by assumption)))) (by (try simp (disch := decide) only [upI_eq, upI_a, upI_i, upR_eq, upR_a, upR_i]); try assumption) (by (try simp (disch := decide) only [upI_eq, upI_a, upI_i, upR_eq, upR_a, upR_i]); try assumption) (by simp (disch := decide) only [scX, upI_eq, upI_a, upI_i, upR_eq, upR_a, upR_i, upI_ro, upI_rw, up1_same, up1_eq, ht, E1, E2, E3, E4, E5, E6, E7])) | (exact st _ ((tsH_23s c1 (by dsimp only; omega)).trans (onw_p (by dsimp only; omega))) (by repeat' (first | assumption | exact FW.rf | refine FW.up ?_ (by unfold wS; omega) | (refine FW.tr ?_ (by assumption)))) (by (try simp (disch := decide) only [upI_eq, upI_a, upI_i, upR_eq, upR_a, upR_i]); try assumption) (by (try simp (disch := decide) only [upI_eq, upI_a, upI_i, upR_eq, upR_a, upR_i]); try assumption)) | (exact no _ ((tsH_23 c1).trans (onw_n (by intro h; dsimp only at h; omega))) (by repeat' (first | assumption | exact FW.rf | refine FW.up ?_ (by unfold wS; omega) | (refine FW.tr ?_ (by assumption)))) (by (try simp (disch := decide) only [upI_eq, upI_a, upI_i, upR_eq, upR_a, upR_i]); try assumption))
            · first
              | (exfalso; omega)
              | skip
                refine s255_133.mpr ?_
                refine (s255_134 (by omega) kM).mpr ?_
                refine m_wants hA (by omega) (by (try simp (disch := decide) only [upI_eq, upI_a, upI_i, upR_eq, upR_a, upR_i]); first | assumption | rfl) (by omega) (fun y134 => ?_) (fun y134 => ?_)
                · skip
                  refine s255_137.mpr ?_
                  refine (s255_138 kM).mpr ?_
                  try simp (disch := first | decide | assumption | omega) only [kon, knt_some, knt_none, Option.toList_some, Option.toList_none, List.cons_append, List.nil_append, upI_eq, upI_a, upI_i, upR_eq, upR_a, upR_i, h36, ht, E1, E2, E3, E4, E5, E6, E7, fAdd_id, fSub_id, fMul_id, m2a, m2b]
                  refine s255_141.mpr (wif (fun c141 => ?_) (fun c141 => ?_))
                  · first
                    | (exfalso; omega)
                    | skip
                      refine (s255_583).mpr ?_
                      first | (exfalso; omega) | (exact ok _ _ _ ((tsH_23n c1 (by dsimp only; intro h6; rw [h6] at y86; exact absurd y86.2.2 (by decide))).trans (onw_p (by dsimp only; omega))) (flw1 (by rw [c1]; decide)) (by repeat' (first | assumption | exact FW.rf | refine FW.up ?_ (by unfold wS; omega) | (refine FW.tr ?_ (by assumption)))) (by (try simp (disch := decide) only [upI_eq, upI_a, upI_i, upR_eq, upR_a, upR_i]); try assumption) (by (try simp (disch := decide) only [upI_eq, upI_a, upI_i, upR_eq, upR_a, upR_i]); try assumption) (by simp (disch := decide) only [scX, upI_eq, upI_a, upI_i, upR_eq, upR_a, upR_i, upI_ro, upI_rw, up1_same, up1_eq, ht, E1, E2, E3, E4, E5, E6, E7])) | (exact st _ ((tsH_23s c1 (by dsimp only; omega)).trans (onw_p (by dsimp only; omega))) (by repeat' (first | assumption | exact FW.rf | refine FW.up ?_ (by unfold wS; omega) | (refine FW.tr ?_ (by assumption)))) (by (try simp (disch := decide) only [upI_eq, upI_a, upI_i, upR_eq, upR_a, upR_i]); try assumption) (by (try simp (disch := decide) only [upI_eq, upI_a, upI_i, upR_eq, upR_a, upR_i]); try assumption)) | (exact no _ ((tsH_23 c1).trans (onw_n (by intro h; dsimp only at h; omega))) (by repeat' (first | assumption | exact FW.rf | refine FW.up ?_ (by unfold wS; omega) | (refine FW.tr ?_ (by assumption)))) (by (try simp (disch := decide) only [upI_eq, upI_a, upI_i, upR_eq, upR_a, upR_i]); try assumption))
                  · first
                    | (exfalso; omega)
                    | skip
                      refine s255_144.mpr (s255_145.mpr ((s255_146 kM).mpr ?_))
                      rw [mr_10 hR]
                      refine s255_149.mpr (s255_151.mpr (s255_152.mpr (s255_153.mpr (s255_155.mpr ?_))))
                      try simp (disch := first | decide | assumption | omega) only [kon, knt_some, knt_none, Option.toList_some, Option.toList_none, List.cons_append, List.nil_append, upI_eq, upI_a, upI_i, upR_eq, upR_a, upR_i, h36, ht, E1, E2, E3, E4, E5, E6, E7, fAdd_id, fSub_id, fMul_id, m2a, m2b]
                      refine (s255_157 (by omega)).mpr ?_
                      refine (m_which (vT_rng (hv75 _ (by omega) (by omega)))).mpr ?_
                      refine s255_160.mpr (s255_161.mpr (s255_162.mpr (s255_164.mpr ?_)))
                      try simp (disch := first | decide | assumption | omega) only [kon, knt_some, knt_none, Option.toList_some, Option.toList_none, List.cons_append, List.nil_append, upI_eq, upI_a, upI_i, upR_eq, upR_a, upR_i, h36, ht, E1, E2, E3, E4, E5, E6, E7, fAdd_id, fSub_id, fMul_id, m2a, m2b]
                      refine (s255_165 (hA.k (by decide) (by decide) rfl) (by first | assumption | omega) (by first | assumption | omega)).mpr ?_
                      try simp (disch := first | decide | assumption | omega) only [kon, knt_some, knt_none, Option.toList_some, Option.toList_none, List.cons_append, List.nil_append, upI_eq, upI_a, upI_i, upR_eq, upR_a, upR_i, h36, ht, E1, E2, E3, E4, E5, E6, E7, fAdd_id, fSub_id, fMul_id, m2a, m2b]
                      refine (s255_166 (by omega) kM).mpr ?_
                      refine m_push hA hR (by (try simp (disch := decide) only [upI_eq, upI_a, upI_i, upR_eq, upR_a, upR_i]); first | assumption | rfl) (by omega) ?_
                      refine s255_169.mpr ?_
                      refine (s255_583).mpr ?_
                      first | (exfalso; omega) | (exact ok _ _ _ ((tsH_23n c1 (by dsimp only; intro h6; rw [h6] at y86; exact absurd y86.2.2 (by decide))).trans (onw_p (by dsimp only; omega))) (flw1 (by rw [c1]; decide)) (by repeat' (first | assumption | exact FW.rf | refine FW.up ?_ (by unfold wS; omega) | (refine FW.tr ?_ (by assumption)))) (by (try simp (disch := decide) only [upI_eq, upI_a, upI_i, upR_eq, upR_a, upR_i]); try assumption) (by (try simp (disch := decide) only [upI_eq, upI_a, upI_i, upR_eq, upR_a, upR_i]); try assumption) (by simp (disch := decide) only [scX, upI_eq, upI_a, upI_i, upR_eq, upR_a, upR_i, upI_ro, upI_rw, up1_same, up1_eq, ht, E1, E2, E3, E4, E5, E6, E7])) | (exact st _ ((tsH_23s c1 (by dsimp only; omega)).trans (onw_p (by dsimp only; omega))) (by repeat' (first | assumption | exact FW.rf | refine FW.up ?_ (by unfold wS; omega) | (refine FW.tr ?_ (by assumption)))) (by (try simp (disch := decide) only [upI_eq, upI_a, upI_i, upR_eq, upR_a, upR_i]); try assumption) (by (try simp (disch := decide) only [upI_eq, upI_a, upI_i, upR_eq, upR_a, upR_i]); try assumption)) | (exact no _ ((tsH_23 c1).trans (onw_n (by intro h; dsimp only at h; omega))) (by repeat' (first | assumption | exact FW.rf | refine FW.up ?_ (by unfold wS; omega) | (refine FW.tr ?_ (by assumption)))) (by (try simp (disch := decide) only [upI_eq, upI_a, upI_i, upR_eq, upR_a, upR_i]); try assumption))
                · skip
                  refine s255_137.mpr ?_
                  refine (s255_138 kM).mpr ?_
                  try simp (disch := first | decide | assumption | omega) only [kon, knt_some, knt_none, Option.toList_some, Option.toList_none, List.cons_append, List.nil_append, upI_eq, upI_a, upI_i, upR_eq, upR_a, upR_i, h36, ht, E1, E2, E3, E4, E5, E6, E7, fAdd_id, fSub_id, fMul_id, m2a, m2b]
                  refine s255_141.mpr (wif (fun c141 => ?_) (fun c141 => ?_))
                  · first
                    | (exfalso; omega)
                    | skip
                      refine (s255_583).mpr ?_
                      first | (exfalso; omega) | (exact ok _ _ _ ((tsH_23n c1 (by dsimp only; intro h6; rw [h6] at y86; exact absurd y86.2.2 (by decide))).trans (onw_p (by dsimp only; omega))) (flw1 (by rw [c1]; decide)) (by repeat' (first | assumption | exact FW.rf | refine FW.up ?_ (by unfold wS; omega) | (refine FW.tr ?_ (by assumption)))) (by (try simp (disch := decide) only [upI_eq, upI_a, upI_i, upR_eq, upR_a, upR_i]); try assumption) (by (try simp (disch := decide) only [upI_eq, upI_a, upI_i, upR_eq, upR_a, upR_i]); try assumption) (by simp (disch := decide) only [scX, upI_eq, upI_a, upI_i, upR_eq, upR_a, upR_i, upI_ro, upI_rw, up1_same, up1_eq, ht, E1, E2, E3, E4, E5, E6, E7])) | (exact st _ ((tsH_23s c1 (by dsimp only; omega)).trans (onw_p (by dsimp only; omega))) (by repeat' (first | assumption | exact FW.rf | refine FW.up ?_ (by unfold wS; omega) | (refine FW.tr ?_ (by assumption)))) (by (try simp (disch := decide) only [upI_eq, upI_a, upI_i, upR_eq, upR_a, upR_i]); try assumption) (by (try simp (disch := decide) only [upI_eq, upI_a, upI_i, upR_eq, upR_a, upR_i]); try assumption)) | (exact no _ ((tsH_23 c1).trans (onw_n (by intro h; dsimp only at h; omega))) (by repeat' (first | assumption | exact FW.rf | refine FW.up ?_ (by unfold wS; omega) | (refine FW.tr ?_ (by assumption)))) (by (try simp (disch := decide) only [upI_eq, upI_a, upI_i, upR_eq, upR_a, upR_i]); try assumption))
                  · first
                    | (exfalso; omega)
                    | skip
                      refine s255_144.mpr (s255_145.mpr ((s255_146 kM).mpr ?_))
                      rw [mr_10 hR]
                      refine s255_149.mpr (s255_151.mpr (s255_152.mpr (s255_153.mpr (s255_155.mpr ?_))))
                      try simp (disch := first | decide | assumption | omega) only [kon, knt_some, knt_none, Option.toList_some, Option.toList_none, List.cons_append, List.nil_append, upI_eq, upI_a, upI_i, upR_eq, upR_a, upR_i, h36, ht, E1, E2, E3, E4, E5, E6, E7, fAdd_id, fSub_id, fMul_id, m2a, m2b]
                      refine (s255_157 (by omega)).mpr ?_
                      refine (m_which (vT_rng (hv75 _ (by omega) (by omega)))).mpr ?_
                      refine s255_160.mpr (s255_161.mpr (s255_162.mpr (s255_164.mpr ?_)))
                      try simp (disch := first | decide | assumption | omega) only [kon, knt_some, knt_none, Option.toList_some, Option.toList_none, List.cons_append, List.nil_append, upI_eq, upI_a, upI_i, upR_eq, upR_a, upR_i, h36, ht, E1, E2, E3, E4, E5, E6, E7, fAdd_id, fSub_id, fMul_id, m2a, m2b]
                      refine (s255_165 (hA.k (by decide) (by decide) rfl) (by first | assumption | omega) (by first | assumption | omega)).mpr ?_
                      try simp (disch := first | decide | assumption | omega) only [kon, knt_some, knt_none, Option.toList_some, Option.toList_none, List.cons_append, List.nil_append, upI_eq, upI_a, upI_i, upR_eq, upR_a, upR_i, h36, ht, E1, E2, E3, E4, E5, E6, E7, fAdd_id, fSub_id, fMul_id, m2a, m2b]
                      refine (s255_166 (by omega) kM).mpr ?_
                      refine m_push hA hR (by (try simp (disch := decide) only [upI_eq, upI_a, upI_i, upR_eq, upR_a, upR_i]); first | assumption | rfl) (by omega) ?_
                      refine s255_169.mpr ?_
                      refine (s255_583).mpr ?_
                      first | (exfalso; omega) | (exact ok _ _ _ ((tsH_23n c1 (by dsimp only; intro h6; rw [h6] at y86; exact absurd y86.2.2 (by decide))).trans (onw_p (by dsimp only; omega))) (flw1 (by rw [c1]; decide)) (by repeat' (first | assumption | exact FW.rf | refine FW.up ?_ (by unfold wS; omega) | (refine FW.tr ?_ (by assumption)))) (by (try simp (disch := decide) only [upI_eq, upI_a, upI_i, upR_eq, upR_a, upR_i]); try assumption) (by (try simp (disch := decide) only [upI_eq, upI_a, upI_i, upR_eq, upR_a, upR_i]); try assumption) (by simp (disch := decide) only [scX, upI_eq, upI_a, upI_i, upR_eq, upR_a, upR_i, upI_ro, upI_rw, up1_same, up1_eq, ht, E1, E2, E3, E4, E5, E6, E7])) | (exact st _ ((tsH_23s c1 (by dsimp only; omega)).trans (onw_p (by dsimp only; omega))) (by repeat' (first | assumption | exact FW.rf | refine FW.up ?_ (by unfold wS; omega) | (refine FW.tr ?_ (by assumption)))) (by (try simp (disch := decide) only [upI_eq, upI_a, upI_i, upR_eq, upR_a, upR_i]); try assumption) (by (try simp (disch := decide) only [upI_eq, upI_a, upI_i, upR_eq, upR_a, upR_i]); try assumption)) | (exact no _ ((tsH_23 c1).trans (onw_n (by intro h; dsimp only at h; omega))) (by repeat' (first | assumption | exact FW.rf | refine FW.up ?_ (by unfold wS; omega) | (refine FW.tr ?_ (by assumption)))) (by (try simp (disch := decide) only [upI_eq, upI_a, upI_i, upR_eq, upR_a, upR_i]); try assumption))
    · first
      | (exfalso; omega)
      | skip
        refine s255_98.mpr ?_
        refine (s255_583).mpr ?_
        first | (exfalso; omega) | (exact ok _ _ _ ((tsH_23n c1 (by dsimp only; intro h6; rw [h6] at y86; exact absurd y86.2.2 (by decide))).trans (onw_p (by dsimp only; omega))) (flw1 (by rw [c1]; decide)) (by repeat' (first | assumption | exact FW.rf | refine FW.up ?_ (by unfold wS; omega) | (refine FW.tr ?_ (by assumption)))) (by (try simp (disch := decide) only [upI_eq, upI_a, upI_i, upR_eq, upR_a, upR_i]); try assumption) (by (try simp (disch := decide) only [upI_eq, upI_a, upI_i, upR_eq, upR_a, upR_i]); try assumption) (by simp (disch := decide) only [scX, upI_eq, upI_a, upI_i, upR_eq, upR_a, upR_i, upI_ro, upI_rw, up1_same, up1_eq, ht, E1, E2, E3, E4, E5, E6, E7])) | (exact st _ ((tsH_23s c1 (by dsimp only; omega)).trans (onw_p (by dsimp only; omega))) (by repeat' (first | assumption | exact FW.rf | refine FW.up ?_ (by unfold wS; omega) | (refine FW.tr ?_ (by assumption)))) (by (try simp (disch := decide) only [upI_eq, upI_a, upI_i, upR_eq, upR_a, upR_i]); try assumption) (by (try simp (disch := decide) only [upI_eq, upI_a, upI_i, upR_eq, upR_a, upR_i]); try assumption)) | (exact no _ ((tsH_23 c1).trans (onw_n (by intro h; dsimp only at h; omega))) (by repeat' (first | assumption | exact FW.rf | refine FW.up ?_ (by unfold wS; omega) | (refine FW.tr ?_ (by assumption)))) (by (try simp (disch := decide) only [upI_eq, upI_a, upI_i, upR_eq, upR_a, upR_i]); try assumption))
  · skip
    try simp (disch := decide) only [upI_eq, upI_a, upI_i, upR_eq, upR_a, upR_i, E1, E4] at y86
    try simp (disch := decide) only [upI_eq, upI_a, upI_i, upR_eq, upR_a, upR_i, E1, E4] at x86
    refine s255_89.mpr (s255_91.mpr ?_)
    refine (s255_92 kM).mpr ?_
    try simp (disch := first | decide | assumption | omega) only [kon, knt_some, knt_none, Option.toList_some, Option.toList_none, List.cons_append, List.nil_append, upI_eq, upI_a, upI_i, upR_eq, upR_a, upR_i, h36, ht, E1, E2, E3, E4, E5, E6, E7, fAdd_id, fSub_id, fMul_id, m2a, m2b]
    refine s255_95.mpr (wif (fun c95 => ?_) (fun c95 => ?_))
    · first
      | (exfalso; omega)
      | skip
        refine s255_101.mpr (s255_102.mpr ?_)
        refine (s255_103 kM).mpr ?_
        try simp (disch := first | decide | assumption | omega) only [kon, knt_some, knt_none, Option.toList_some, Option.toList_none, List.cons_append, List.nil_append, upI_eq, upI_a, upI_i, upR_eq, upR_a, upR_i, h36, ht, E1, E2, E3, E4, E5, E6, E7, fAdd_id, fSub_id, fMul_id, m2a, m2b]
        refine s255_106.mpr (wif (fun c106 => ?_) (fun c106 => ?_))
        · first
          | (exfalso; omega)
          | skip
            refine s255_133.mpr ?_
            refine (s255_134 (by omega) kM).mpr ?_
            refine m_wants hA (by omega) (by (try simp (disch := decide) only [upI_eq, upI_a, upI_i, upR_eq, upR_a, upR_i]); first | assumption | rfl) (by omega) (fun y134 => ?_) (fun y134 => ?_)
            · skip
              refine s255_137.mpr ?_
              refine (s255_138 kM).mpr ?_
              try simp (disch := first | decide | assumption | omega) only [kon, knt_some, knt_none, Option.toList_some, Option.toList_none, List.cons_append, List.nil_append, upI_eq, upI_a, upI_i, upR_eq, upR_a, upR_i, h36, ht, E1, E2, E3, E4, E5, E6, E7, fAdd_id, fSub_id, fMul_id, m2a, m2b]
              refine s255_141.mpr (wif (fun c141 => ?_) (fun c141 => ?_))
              · first
                | (exfalso; omega)
                | skip
                  refine (s255_583).mpr ?_
                  first | (exfalso; omega) | (exact ok _ _ _ ((tsH_23n c1 (by dsimp only; intro h6; rw [h6] at y86; exact absurd y86.2.2 (by decide))).trans (onw_p (by dsimp only; omega))) (flw1 (by rw [c1]; decide)) (by repeat' (first | assumption | exact FW.rf | refine FW.up ?_ (by unfold wS; omega) | (refine FW.tr ?_ (by assumption)))) (by (try simp (disch := decide) only [upI_eq, upI_a, upI_i, upR_eq, upR_a, upR_i]); try assumption) (by (try simp (disch := decide) only [upI_eq, upI_a, upI_i, upR_eq, upR_a, upR_i]); try assumption) (by simp (disch := decide) only [scX, upI_eq, upI_a, upI_i, upR_eq, upR_a, upR_i, upI_ro, upI_rw, up1_same, up1_eq, ht, E1, E2, E3, E4, E5, E6, E7])) | (exact st _ ((tsH_23s c1 (by dsimp only; omega)).trans (onw_p (by dsimp only; omega))) (by repeat' (first | assumption | exact FW.rf | refine FW.up ?_ (by unfold wS; omega) | (refine FW.tr ?_ (by assumption)))) (by (try simp (disch := decide) only [upI_eq, upI_a, upI_i, upR_eq, upR_a, upR_i]); try assumption) (by (try simp (disch := decide) only [upI_eq, upI_a, upI_i, upR_eq, upR_a, upR_i]); try assumption)) | (exact no _ ((tsH_23 c1).trans (onw_n (by intro h; dsimp only at h; omega))) (by repeat' (first | assumption | exact FW.rf | refine FW.up ?_ (by unfold wS; omega) | (refine FW.tr ?_ (by assumption)))) (by (try simp (disch := decide) only [upI_eq, upI_a, upI_i, upR_eq, upR_a, upR_i]); try assumption))
              · first
                | (exfalso; omega)
                | skip
                  refine s255_144.mpr (s255_145.mpr ((s255_146 kM).mpr ?_))
                  rw [mr_10 hR]
                  refine s255_149.mpr (s255_151.mpr (s255_152.mpr (s255_153.mpr (s255_155.mpr ?_))))
                  try simp (disch := first | decide | assumption | omega) only [kon, knt_some, knt_none, Option.toList_some, Option.toList_none, List.cons_append, List.nil_append, upI_eq, upI_a, upI_i, upR_eq, upR_a, upR_i, h36, ht, E1, E2, E3, E4, E5, E6, E7, fAdd_id, fSub_id, fMul_id, m2a, m2b]
                  refine (s255_157 (by omega)).mpr ?_
                  refine (m_which (vT_rng (hv75 _ (by omega) (by omega)))).mpr ?_
                  refine s255_160.mpr (s255_161.mpr (s255_162.mpr (s255_164.mpr ?_)))
                  try simp (disch := first | decide | assumption | omega) only [kon, knt_some, knt_none, Option.toList_some, Option.toList_none, List.cons_append, List.nil_append, upI_eq, upI_a, upI_i, upR_eq, upR_a, upR_i, h36, ht, E1, E2, E3, E4, E5, E6, E7, fAdd_id, fSub_id, fMul_id, m2a, m2b]
                  refine (s255_165 (hA.k (by decide) (by decide) rfl) (by first | assumption | omega) (by first | assumption | omega)).mpr ?_
                  try simp (disch := first | decide | assumption | omega) only [kon, knt_some, knt_none, Option.toList_some, Option.toList_none, List.cons_append, List.nil_append, upI_eq, upI_a, upI_i, upR_eq, upR_a, upR_i, h36, ht, E1, E2, E3, E4, E5, E6, E7, fAdd_id, fSub_id, fMul_id, m2a, m2b]
                  refine (s255_166 (by omega) kM).mpr ?_
                  refine m_push hA hR (by (try simp (disch := decide) only [upI_eq, upI_a, upI_i, upR_eq, upR_a, upR_i]); first | assumption | rfl) (by omega) ?_
                  refine s255_169.mpr ?_
                  refine (s255_583).mpr ?_
                  first | (exfalso; omega) | (exact ok _ _ _ ((tsH_23n c1 (by dsimp only; intro h6; rw [h6] at y86; exact absurd y86.2.2 (by decide))).trans (onw_p (by dsimp only; omega))) (flw1 (by rw [c1]; decide)) (by repeat' (first | assumption | exact FW.rf | refine FW.up ?_ (by unfold wS; omega) | (refine FW.tr ?_ (by assumption)))) (by (try simp (disch := decide) only [upI_eq, upI_a, upI_i, upR_eq, upR_a, upR_i]); try assumption) (by (try simp (disch := decide) only [upI_eq, upI_a, upI_i, upR_eq, upR_a, upR_i]); try assumption) (by simp (disch := decide) only [scX, upI_eq, upI_a, upI_i, upR_eq, upR_a, upR_i, upI_ro, upI_rw, up1_same, up1_eq, ht, E1, E2, E3, E4, E5, E6, E7])) | (exact st _ ((tsH_23s c1 (by dsimp only; omega)).trans (onw_p (by dsimp only; omega))) (by repeat' (first | assumption | exact FW.rf | refine FW.up ?_ (by unfold wS; omega) | (refine FW.tr ?_ (by assumption)))) (by (try simp (disch := decide) only [upI_eq, upI_a, upI_i, upR_eq, upR_a, upR_i]); try assumption) (by (try simp (disch := decide) only [upI_eq, upI_a, upI_i, upR_eq, upR_a, upR_i]); try assumption)) | (exact no _ ((tsH_23 c1).trans (onw_n (by intro h; dsimp only at h; omega))) (by repeat' (first | assumption | exact FW.rf | refine FW.up ?_ (by unfold wS; omega) | (refine FW.tr ?_ (by assumption)))) (by (try simp (disch := decide) only [upI_eq, upI_a, upI_i, upR_eq, upR_a, upR_i]); try assumption))
            · skip
              refine s255_137.mpr ?_
              refine (s255_138 kM).mpr ?_
              try simp (disch := first | decide | assumption | omega) only [kon, knt_some, knt_none, Option.toList_some, Option.toList_none, List.cons_append, List.nil_append, upI_eq, upI_a, upI_i, upR_eq, upR_a, upR_i, h36, ht, E1, E2, E3, E4, E5, E6, E7, fAdd_id, fSub_id, fMul_id, m2a, m2b]
              refine s255_141.mpr (wif (fun c141 => ?_) (fun c141 => ?_))
              · first
                | (exfalso; omega)
                | skip
                  refine (s255_583).mpr ?_
                  first | (exfalso; omega) | (exact ok _ _ _ ((tsH_23n c1 (by dsimp only; intro h6; rw [h6] at y86; exact absurd y86.2.2 (by decide))).trans (onw_p (by dsimp only; omega))) (flw1 (by rw [c1]; decide)) (by repeat' (first | assumption | exact FW.rf | refine FW.up ?_ (by unfold wS; omega) | (refine FW.tr ?_ (by assumption)))) (by (try simp (disch := decide) only [upI_eq, upI_a, upI_i, upR_eq, upR_a, upR_i]); try assumption) (by (try simp (disch := decide) only [upI_eq, upI_a, upI_i, upR_eq, upR_a, upR_i]); try assumption) (by simp (disch := decide) only [scX, upI_eq, upI_a, upI_i, upR_eq, upR_a, upR_i, upI_ro, upI_rw, up1_same, up1_eq, ht, E1, E2, E3, E4, E5, E6, E7])) | (exact st _ ((tsH_23s c1 (by dsimp only; omega)).trans (onw_p (by dsimp only; omega))) (by repeat' (first | assumption | exact FW.rf | refine FW.up ?_ (by unfold wS; omega) | (refine FW.tr ?_ (by assumption)))) (by (try simp (disch := decide) only [upI_eq, upI_a, upI_i, upR_eq, upR_a, upR_i]); try assumption) (by (try simp (disch := decide) only [upI_eq, upI_a, upI_i, upR_eq, upR_a, upR_i]); try assumption)) | (exact no _ ((tsH_23 c1).trans (onw_n (by intro h; dsimp only at h; omega))) (by repeat' (first | assumption | exact FW.rf | refine FW.up ?_ (by unfold wS; omega) | (refine FW.tr ?_ (by assumption)))) (by (try simp (disch := decide) only [upI_eq, upI_a, upI_i, upR_eq, upR_a, upR_i]); try assumption))
              · first
                | (exfalso; omega)
                | skip
                  refine s255_144.mpr (s255_145.mpr ((s255_146 kM).mpr ?_))
                  rw [mr_10 hR]
                  refine s255_149.mpr (s255_151.mpr (s255_152.mpr (s255_153.mpr (s255_155.mpr ?_))))
                  try simp (disch := first | decide | assumption | omega) only [kon, knt_some, knt_none, Option.toList_some, Option.toList_none, List.cons_append, List.nil_append, upI_eq, upI_a, upI_i, upR_eq, upR_a, upR_i, h36, ht, E1, E2, E3, E4, E5, E6, E7, fAdd_id, fSub_id, fMul_id, m2a, m2b]
                  refine (s255_157 (by omega)).mpr ?_
                  refine (m_which (vT_rng (hv75 _ (by omega) (by omega)))).mpr ?_
                  refine s255_160.mpr (s255_161.mpr (s255_162.mpr (s255_164.mpr ?_)))
                  try simp (disch := first | decide | assumption | omega) only [kon, knt_some, knt_none, Option.toList_some, Option.toList_none, List.cons_append, List.nil_append, upI_eq, upI_a, upI_i, upR_eq, upR_a, upR_i, h36, ht, E1, E2, E3, E4, E5, E6, E7, fAdd_id, fSub_id, fMul_id, m2a, m2b]
                  refine (s255_165 (hA.k (by decide) (by decide) rfl) (by first | assumption | omega) (by first | assumption | omega)).mpr ?_
                  try simp (disch := first | decide | assumption | omega) only [kon, knt_some, knt_none, Option.toList_some, Option.toList_none, List.cons_append, List.nil_append, upI_eq, upI_a, upI_i, upR_eq, upR_a, upR_i, h36, ht, E1, E2, E3, E4, E5, E6, E7, fAdd_id, fSub_id, fMul_id, m2a, m2b]
                  refine (s255_166 (by omega) kM).mpr ?_
                  refine m_push hA hR (by (try simp (disch := decide) only [upI_eq, upI_a, upI_i, upR_eq, upR_a, upR_i]); first | assumption | rfl) (by omega) ?_
                  refine s255_169.mpr ?_
                  refine (s255_583).mpr ?_
                  first | (exfalso; omega) | (exact ok _ _ _ ((tsH_23n c1 (by dsimp only; intro h6; rw [h6] at y86; exact absurd y86.2.2 (by decide))).trans (onw_p (by dsimp only; omega))) (flw1 (by rw [c1]; decide)) (by repeat' (first | assumption | exact FW.rf | refine FW.up ?_ (by unfold wS; omega) | (refine FW.tr ?_ (by assumption)))) (by (try simp (disch := decide) only [upI_eq, upI_a, upI_i, upR_eq, upR_a, upR_i]); try assumption) (by (try simp (disch := decide) only [upI_eq, upI_a, upI_i, upR_eq, upR_a, upR_i]); try assumption) (by simp (disch := decide) only [scX, upI_eq, upI_a, upI_i, upR_eq, upR_a, upR_i, upI_ro, upI_rw, up1_same, up1_eq, ht, E1, E2, E3, E4, E5, E6, E7])) | (exact st _ ((tsH_23s c1 (by dsimp only; omega)).trans (onw_p (by dsimp only; omega))) (by repeat' (first | assumption | exact FW.rf | refine FW.up ?_ (by unfold wS; omega) | (refine FW.tr ?_ (by assumption)))) (by (try simp (disch := decide) only [upI_eq, upI_a, upI_i, upR_eq, upR_a, upR_i]); try assumption) (by (try simp (disch := decide) only [upI_eq, upI_a, upI_i, upR_eq, upR_a, upR_i]); try assumption)) | (exact no _ ((tsH_23 c1).trans (onw_n (by intro h; dsimp only at h; omega))) (by repeat' (first | assumption | exact FW.rf | refine FW.up ?_ (by unfold wS; omega) | (refine FW.tr ?_ (by assumption)))) (by (try simp (disch := decide) only [upI_eq, upI_a, upI_i, upR_eq, upR_a, upR_i]); try assumption))
        · first
          | (exfalso; omega)
          | skip
            refine s255_109.mpr (s255_111.mpr ((s255_112 kM).mpr ?_))
            rw [mr_9 hR]
            refine s255_115.mpr (s255_117.mpr (s255_118.mpr (s255_119.mpr ?_)))
            try simp (disch := first | decide | assumption | omega) only [kon, knt_some, knt_none, Option.toList_some, Option.toList_none, List.cons_append, List.nil_append, upI_eq, upI_a, upI_i, upR_eq, upR_a, upR_i, h36, ht, E1, E2, E3, E4, E5, E6, E7, fAdd_id, fSub_id, fMul_id, m2a, m2b]
            refine (s255_121 (by omega)).mpr ?_
            refine (m_which (vT_rng (hv75 _ (by omega) (by omega)))).mpr ?_
            refine s255_124.mpr ?_
            try simp (disch := first | decide | assumption | omega) only [kon, knt_some, knt_none, Option.toList_some, Option.toList_none, List.cons_append, List.nil_append, upI_eq, upI_a, upI_i, upR_eq, upR_a, upR_i, h36, ht, E1, E2, E3, E4, E5, E6, E7, fAdd_id, fSub_id, fMul_id, m2a, m2b]
            refine (s255_125 (hA.k (by decide) (by decide) rfl) (by first | assumption | omega) (by first | assumption | omega)).mpr ?_
            try simp (disch := first | decide | assumption | omega) only [kon, knt_some, knt_none, Option.toList_some, Option.toList_none, List.cons_append, List.nil_append, upI_eq, upI_a, upI_i, upR_eq, upR_a, upR_i, h36, ht, E1, E2, E3, E4, E5, E6, E7, fAdd_id, fSub_id, fMul_id, m2a, m2b]
            refine s255_126.mpr (wif (fun c126 => ?_) (fun c126 => ?_))
            · first
              | (exfalso; omega)
              | skip
                refine s255_129.mpr (s255_130.mpr ?_)
                refine (s255_134 (by omega) kM).mpr ?_
                refine m_wants hA (by omega) (by (try simp (disch := decide) only [upI_eq, upI_a, upI_i, upR_eq, upR_a, upR_i]); first | assumption | rfl) (by omega) (fun y134 => ?_) (fun y134 => ?_)
                · skip
                  refine s255_137.mpr ?_
                  refine (s255_138 kM).mpr ?_
                  try simp (disch := first | decide | assumption | omega) only [kon, knt_some, knt_none, Option.toList_some, Option.toList_none, List.cons_append, List.nil_append, upI_eq, upI_a, upI_i, upR_eq, upR_a, upR_i, h36, ht, E1, E2, E3, E4, E5, E6, E7, fAdd_id, fSub_id, fMul_id, m2a, m2b]
                  refine s255_141.mpr (wif (fun c141 => ?_) (fun c141 => ?_))
                  · first
                    | (exfalso; omega)
                    | skip
                      refine (s255_583).mpr ?_
                      first | (exfalso; omega) | (exact ok _ _ _ ((tsH_23n c1 (by dsimp only; intro h6; rw [h6] at y86; exact absurd y86.2.2 (by decide))).trans (onw_p (by dsimp only; omega))) (flw1 (by rw [c1]; decide)) (by repeat' (first | assumption | exact FW.rf | refine FW.up ?_ (by unfold wS; omega) | (refine FW.tr ?_ (by assumption)))) (by (try simp (disch := decide) only [upI_eq, upI_a, upI_i, upR_eq, upR_a, upR_i]); try assumption) (by (try simp (disch := decide) only [upI_eq, upI_a, upI_i, upR_eq, upR_a, upR_i]); try assumption) (by simp (disch := decide) only [scX, upI_eq, upI_a, upI_i, upR_eq, upR_a, upR_i, upI_ro, upI_rw, up1_same, up1_eq, ht, E1, E2, E3, E4, E5, E6, E7])) | (exact st _ ((tsH_23s c1 (by dsimp only; omega)).trans (onw_p (by dsimp only; omega))) (by repeat' (first | assumption | exact FW.rf | refine FW.up ?_ (by unfold wS; omega) | (refine FW.tr ?_ (by assumption)))) (by (try simp (disch := decide) only [upI_eq, upI_a, upI_i, upR_eq, upR_a, upR_i]); try assumption) (by (try simp (disch := decide) only [upI_eq, upI_a, upI_i, upR_eq, upR_a, upR_i]); try assumption)) | (exact no _ ((tsH_23 c1).trans (onw_n (by intro h; dsimp only at h; omega))) (by repeat' (first | assumption | exact FW.rf | refine FW.up ?_ (by unfold wS; omega) | (refine FW.tr ?_ (by assumption)))) (by (try simp (disch := decide) only [upI_eq, upI_a, upI_i, upR_eq, upR_a, upR_i]); try assumption))
                  · first
                    | (exfalso; omega)
                    | skip
                      refine s255_144.mpr (s255_145.mpr ((s255_146 kM).mpr ?_))
                      rw [mr_10 hR]
                      refine s255_149.mpr (s255_151.mpr (s255_152.mpr (s255_153.mpr (s255_155.mpr ?_))))
                      try simp (disch := first | decide | assumption | omega) only [kon, knt_some, knt_none, Option.toList_some, Option.toList_none, List.cons_append, List.nil_append, upI_eq, upI_a, upI_i, upR_eq, upR_a, upR_i, h36, ht, E1, E2, E3, E4, E5, E6, E7, fAdd_id, fSub_id, fMul_id, m2a, m2b]
                      refine (s255_157 (by omega)).mpr ?_
                      refine (m_which (vT_rng (hv75 _ (by omega) (by omega)))).mpr ?_
                      refine s255_160.mpr (s255_161.mpr (s255_162.mpr (s255_164.mpr ?_)))
                      try simp (disch := first | decide | assumption | omega) only [kon, knt_some, knt_none, Option.toList_some, Option.toList_none, List.cons_append, List.nil_append, upI_eq, upI_a, upI_i, upR_eq, upR_a, upR_i, h36, ht, E1, E2, E3, E4, E5, E6, E7, fAdd_id, fSub_id, fMul_id, m2a, m2b]
                      refine (s255_165 (hA.k (by decide) (by decide) rfl) (by first | assumption | omega) (by first | assumption | omega)).mpr ?_
                      try simp (disch := first | decide | assumption | omega) only [kon, knt_some, knt_none, Option.toList_some, Option.toList_none, List.cons_append, List.nil_append, upI_eq, upI_a, upI_i, upR_eq, upR_a, upR_i, h36, ht, E1, E2, E3, E4, E5, E6, E7, fAdd_id, fSub_id, fMul_id, m2a, m2b]
                      refine (s255_166 (by omega) kM).mpr ?_
                      refine m_push hA hR (by (try simp (disch := decide) only [upI_eq, upI_a, upI_i, upR_eq, upR_a, upR_i]); first | assumption | rfl) (by omega) ?_
                      refine s255_169.mpr ?_
                      refine (s255_583).mpr ?_
                      first | (exfalso; omega) | (exact ok _ _ _ ((tsH_23n c1 (by dsimp only; intro h6; rw [h6] at y86; exact absurd y86.2.2 (by decide))).trans (onw_p (by dsimp only; omega))) (flw1 (by rw [c1]; decide)) (by repeat' (first | assumption | exact FW.rf | refine FW.up ?_ (by unfold wS; omega) | (refine FW.tr ?_ (by assumption)))) (by (try simp (disch := decide) only [upI_eq, upI_a, upI_i, upR_eq, upR_a, upR_i]); try assumption) (by (try simp (disch := decide) only [upI_eq, upI_a, upI_i, upR_eq, upR_a, upR_i]); try assumption) (by simp (disch := decide) only [scX, upI_eq, upI_a, upI_i, upR_eq, upR_a, upR_i, upI_ro, upI_rw, up1_same, up1_eq, ht, E1, E2, E3, E4, E5, E6, E7])) | (exact st _ ((tsH_23s c1 (by dsimp only; omega)).trans (onw_p (by dsimp only; omega))) (by repeat' (first | assumption | exact FW.rf | refine FW.up ?_ (by unfold wS; omega) | (refine FW.tr ?_ (by assumption)))) (by (try simp (disch := decide) only [upI_eq, upI_a, upI_i, upR_eq, upR_a, upR_i]); try assumption) (by (try simp (disch := decide) only [upI_eq, upI_a, upI_i, upR_eq, upR_a, upR_i]); try assumption)) | (exact no _ ((tsH_23 c1).trans (onw_n (by intro h; dsimp only at h; omega))) (by repeat' (first | assumption | exact FW.rf | refine FW.up ?_ (by unfold wS; omega) | (refine FW.tr ?_ (by assumption)))) (by (try simp (disch := decide) only [upI_eq, upI_a, upI_i, upR_eq, upR_a, upR_i]); try assumption))
                · skip
                  refine s255_137.mpr ?_
                  refine (s255_138 kM).mpr ?_
                  try simp (disch := first | decide | assumption | omega) only [kon, knt_some, knt_none, Option.toList_some, Option.toList_none, List.cons_append, List.nil_append, upI_eq, upI_a, upI_i, upR_eq, upR_a, upR_i, h36, ht, E1, E2, E3, E4, E5, E6, E7, fAdd_id, fSub_id, fMul_id, m2a, m2b]
                  refine s255_141.mpr (wif (fun c141 => ?_) (fun c141 => ?_))
                  · first
                    | (exfalso; omega)
                    | skip
                      refine (s255_583).mpr ?_
                      first | (exfalso; omega) | (exact ok _ _ _ ((tsH_23n c1 (by dsimp only; intro h6; rw [h6] at y86; exact absurd y86.2.2 (by decide))).trans (onw_p (by dsimp only; omega))) (flw1 (by rw [c1]; decide)) (by repeat' (first | assumption | exact FW.rf | refine FW.up ?_ (by unfold wS; omega) | (refine FW.tr ?_ (by assumption)))) (by (try simp (disch := decide) only [upI_eq, upI_a, upI_i, upR_eq, upR_a, upR_i]); try assumption) (by (try simp (disch := decide) only [upI_eq, upI_a, upI_i, upR_eq, upR_a, upR_i]); try assumption) (by simp (disch := decide) only [scX, upI_eq, upI_a, upI_i, upR_eq, upR_a, upR_i, upI_ro, upI_rw, up1_same, up1_eq, ht, E1, E2, E3, E4, E5, E6, E7])) | (exact st _ ((tsH_23s c1 (by dsimp only; omega)).trans (onw_p (by dsimp only; omega))) (by repeat' (first | assumption | exact FW.rf | refine FW.up ?_ (by unfold wS; omega) | (refine FW.tr ?_ (by assumption)))) (by (try simp (disch := decide) only [upI_eq, upI_a, upI_i, upR_eq, upR_a, upR_i]); try assumption) (by (try simp (disch := decide) only [upI_eq, upI_a, upI_i, upR_eq, upR_a, upR_i]); try assumption)) | (exact no _ ((tsH_23 c1).trans (onw_n (by intro h; dsimp only at h; omega))) (by repeat' (first | assumption | exact FW.rf | refine FW.up ?_ (by unfold wS; omega) | (refine FW.tr ?_ (by assumption)))) (by (try simp (disch := decide) only [upI_eq, upI_a, upI_i, upR_eq, upR_a, upR_i]); try assumption))
                  · first
                    | (exfalso; omega)
                    | skip
                      refine s255_144.mpr (s255_145.mpr ((s255_146 kM).mpr ?_))
                      rw [mr_10 hR]
                      refine s255_149.mpr (s255_151.mpr (s255_152.mpr (s255_153.mpr (s255_155.mpr ?_))))
                      try simp (disch := first | decide | assumption | omega) only [kon, knt_some, knt_none, Option.toList_some, Option.toList_none, List.cons_append, List.nil_append, upI_eq, upI_a, upI_i, upR_eq, upR_a, upR_i, h36, ht, E1, E2, E3, E4, E5, E6, E7, fAdd_id, fSub_id, fMul_id, m2a, m2b]
                      refine (s255_157 (by omega)).mpr ?_
                      refine (m_which (vT_rng (hv75 _ (by omega) (by omega)))).mpr ?_
                      refine s255_160.mpr (s255_161.mpr (s255_162.mpr (s255_164.mpr ?_)))
                      try simp (disch := first | decide | assumption | omega) only [kon, knt_some, knt_none, Option.toList_some, Option.toList_none, List.cons_append, List.nil_append, upI_eq, upI_a, upI_i, upR_eq, upR_a, upR_i, h36, ht, E1, E2, E3, E4, E5, E6, E7, fAdd_id, fSub_id, fMul_id, m2a, m2b]
                      refine (s255_165 (hA.k (by decide) (by decide) rfl) (by first | assumption | omega) (by first | assumption | omega)).mpr ?_
                      try simp (disch := first | decide | assumption | omega) only [kon, knt_some, knt_none, Option.toList_some, Option.toList_none, List.cons_append, List.nil_append, upI_eq, upI_a, upI_i, upR_eq, upR_a, upR_i, h36, ht, E1, E2, E3, E4, E5, E6, E7, fAdd_id, fSub_id, fMul_id, m2a, m2b]
                      refine (s255_166 (by omega) kM).mpr ?_
                      refine m_push hA hR (by (try simp (disch := decide) only [upI_eq, upI_a, upI_i, upR_eq, upR_a, upR_i]); first | assumption | rfl) (by omega) ?_
                      refine s255_169.mpr ?_
                      refine (s255_583).mpr ?_
                      first | (exfalso; omega) | (exact ok _ _ _ ((tsH_23n c1 (by dsimp only; intro h6; rw [h6] at y86; exact absurd y86.2.2 (by decide))).trans (onw_p (by dsimp only; omega))) (flw1 (by rw [c1]; decide)) (by repeat' (first | assumption | exact FW.rf | refine FW.up ?_ (by unfold wS; omega) | (refine FW.tr ?_ (by assumption)))) (by (try simp (disch := decide) only [upI_eq, upI_a, upI_i, upR_eq, upR_a, upR_i]); try assumption) (by (try simp (disch := decide) only [upI_eq, upI_a, upI_i, upR_eq, upR_a, upR_i]); try assumption) (by simp (disch := decide) only [scX, upI_eq, upI_a, upI_i, upR_eq, upR_a, upR_i, upI_ro, upI_rw, up1_same, up1_eq, ht, E1, E2, E3, E4, E5, E6, E7])) | (exact st _ ((tsH_23s c1 (by dsimp only; omega)).trans (onw_p (by dsimp only; omega))) (by repeat' (first | assumption | exact FW.rf | refine FW.up ?_ (by unfold wS; omega) | (refine FW.tr ?_ (by assumption)))) (by (try simp (disch := decide) only [upI_eq, upI_a, upI_i, upR_eq, upR_a, upR_i]); try assumption) (by (try simp (disch := decide) only [upI_eq, upI_a, upI_i, upR_eq, upR_a, upR_i]); try assumption)) | (exact no _ ((tsH_23 c1).trans (onw_n (by intro h; dsimp only at h; omega))) (by repeat' (first | assumption | exact FW.rf | refine FW.up ?_ (by unfold wS; omega) | (refine FW.tr ?_ (by assumption)))) (by (try simp (disch := decide) only [upI_eq, upI_a, upI_i, upR_eq, upR_a, upR_i]); try assumption))
            · first
              | (exfalso; omega)
              | skip
                refine s255_133.mpr ?_
                refine (s255_134 (by omega) kM).mpr ?_
                refine m_wants hA (by omega) (by (try simp (disch := decide) only [upI_eq, upI_a, upI_i, upR_eq, upR_a, upR_i]); first | assumption | rfl) (by omega) (fun y134 => ?_) (fun y134 => ?_)
                · skip
                  refine s255_137.mpr ?_
                  refine (s255_138 kM).mpr ?_
                  try simp (disch := first | decide | assumption | omega) only [kon, knt_some, knt_none, Option.toList_some, Option.toList_none, List.cons_append, List.nil_append, upI_eq, upI_a, upI_i, upR_eq, upR_a, upR_i, h36, ht, E1, E2, E3, E4, E5, E6, E7, fAdd_id, fSub_id, fMul_id, m2a, m2b]
                  refine s255_141.mpr (wif (fun c141 => ?_) (fun c141 => ?_))
                  · first
                    | (exfalso; omega)
                    | skip
                      refine (s255_583).mpr ?_
                      first | (exfalso; omega) | (exact ok _ _ _ ((tsH_23n c1 (by dsimp only; intro h6; rw [h6] at y86; exact absurd y86.2.2 (by decide))).trans (onw_p (by dsimp only; omega))) (flw1 (by rw [c1]; decide)) (by repeat' (first | assumption | exact FW.rf | refine FW.up ?_ (by unfold wS; omega) | (refine FW.tr ?_ (by assumption)))) (by (try simp (disch := decide) only [upI_eq, upI_a, upI_i, upR_eq, upR_a, upR_i]); try assumption) (by (try simp (disch := decide) only [upI_eq, upI_a, upI_i, upR_eq, upR_a, upR_i]); try assumption) (by simp (disch := decide) only [scX, upI_eq, upI_a, upI_i, upR_eq, upR_a, upR_i, upI_ro, upI_rw, up1_same, up1_eq, ht, E1, E2, E3, E4, E5, E6, E7])) | (exact st _ ((tsH_23s c1 (by dsimp only; omega)).trans (onw_p (by dsimp only; omega))) (by repeat' (first | assumption | exact FW.rf | refine FW.up ?_ (by unfold wS; omega) | (refine FW.tr ?_ (by assumption)))) (by (try simp (disch := decide) only [upI_eq, upI_a, upI_i, upR_eq, upR_a, upR_i]); try assumption) (by (try simp (disch := decide) only [upI_eq, upI_a, upI_i, upR_eq, upR_a, upR_i]); try assumption)) | (exact no _ ((tsH_23 c1).trans (onw_n (by intro h; dsimp only at h; omega))) (by repeat' (first | assumption | exact FW.rf | refine FW.up ?_ (by unfold wS; omega) | (refine FW.tr ?_ (by assumption)))) (by (try simp (disch := decide) only [upI_eq, upI_a, upI_i, upR_eq, upR_a, upR_i]); try assumption))
                  · first
                    | (exfalso; omega)
                    | skip
                      refine s255_144.mpr (s255_145.mpr ((s255_146 kM).mpr ?_))
                      rw [mr_10 hR]
                      refine s255_149.mpr (s255_151.mpr (s255_152.mpr (s255_153.mpr (s255_155.mpr ?_))))
                      try simp (disch := first | decide | assumption | omega) only [kon, knt_some, knt_none, Option.toList_some, Option.toList_none, List.cons_append, List.nil_append, upI_eq, upI_a, upI_i, upR_eq, upR_a, upR_i, h36, ht, E1, E2, E3, E4, E5, E6, E7, fAdd_id, fSub_id, fMul_id, m2a, m2b]
                      refine (s255_157 (by omega)).mpr ?_
                      refine (m_which (vT_rng (hv75 _ (by omega) (by omega)))).mpr ?_
                      refine s255_160.mpr (s255_161.mpr (s255_162.mpr (s255_164.mpr ?_)))
                      try simp (disch := first | decide | assumption | omega) only [kon, knt_some, knt_none, Option.toList_some, Option.toList_none, List.cons_append, List.nil_append, upI_eq, upI_a, upI_i, upR_eq, upR_a, upR_i, h36, ht, E1, E2, E3, E4, E5, E6, E7, fAdd_id, fSub_id, fMul_id, m2a, m2b]
                      refine (s255_165 (hA.k (by decide) (by decide) rfl) (by first | assumption | omega) (by first | assumption | omega)).mpr ?_
                      try simp (disch := first | decide | assumption | omega) only [kon, knt_some, knt_none, Option.toList_some, Option.toList_none, List.cons_append, List.nil_append, upI_eq, upI_a, upI_i, upR_eq, upR_a, upR_i, h36, ht, E1, E2, E3, E4, E5, E6, E7, fAdd_id, fSub_id, fMul_id, m2a, m2b]
                      refine (s255_166 (by omega) kM).mpr ?_
                      refine m_push hA hR (by (try simp (disch := decide) only [upI_eq, upI_a, upI_i, upR_eq, upR_a, upR_i]); first | assumption | rfl) (by omega) ?_
                      refine s255_169.mpr ?_
                      refine (s255_583).mpr ?_
                      first | (exfalso; omega) | (exact ok _ _ _ ((tsH_23n c1 (by dsimp only; intro h6; rw [h6] at y86; exact absurd y86.2.2 (by decide))).trans (onw_p (by dsimp only; omega))) (flw1 (by rw [c1]; decide)) (by repeat' (first | assumption | exact FW.rf | refine FW.up ?_ (by unfold wS; omega) | (refine FW.tr ?_ (by assumption)))) (by (try simp (disch := decide) only [upI_eq, upI_a, upI_i, upR_eq, upR_a, upR_i]); try assumption) (by (try simp (disch := decide) only [upI_eq, upI_a, upI_i, upR_eq, upR_a, upR_i]); try assumption) (by simp (disch := decide) only [scX, upI_eq, upI_a, upI_i, upR_eq, upR_a, upR_i, upI_ro, upI_rw, up1_same, up1_eq, ht, E1, E2, E3, E4, E5, E6, E7])) | (exact st _ ((tsH_23s c1 (by dsimp only; omega)).trans (onw_p (by dsimp only; omega))) (by repeat' (first | assumption | exact FW.rf | refine FW.up ?_ (by unfold wS; omega) | (refine FW.tr ?_ (by assumption)))) (by (try simp (disch := decide) only [upI_eq, upI_a, upI_i, upR_eq, upR_a, upR_i]); try assumption) (by (try simp (disch := decide) only [upI_eq, upI_a, upI_i, upR_eq, upR_a, upR_i]); try assumption)) | (exact no _ ((tsH_23 c1).trans (onw_n (by intro h; dsimp only at h; omega))) (by repeat' (first | assumption | exact FW.rf | refine FW.up ?_ (by unfold wS; omega) | (refine FW.tr ?_ (by assumption)))) (by (try simp (disch := decide) only [upI_eq, upI_a, upI_i, upR_eq, upR_a, upR_i]); try assumption))
                · skip
                  refine s255_137.mpr ?_
                  refine (s255_138 kM).mpr ?_
                  try simp (disch := first | decide | assumption | omega) only [kon, knt_some, knt_none, Option.toList_some, Option.toList_none, List.cons_append, List.nil_append, upI_eq, upI_a, upI_i, upR_eq, upR_a, upR_i, h36, ht, E1, E2, E3, E4, E5, E6, E7, fAdd_id, fSub_id, fMul_id, m2a, m2b]
                  refine s255_141.mpr (wif (fun c141 => ?_) (fun c141 => ?_))
                  · first
                    | (exfalso; omega)
                    | skip
                      refine (s255_583).mpr ?_
                      first | (exfalso; omega) | (exact ok _ _ _ ((tsH_23n c1 (by dsimp only; intro h6; rw [h6] at y86; exact absurd y86.2.2 (by decide))).trans (onw_p (by dsimp only; omega))) (flw1 (by rw [c1]; decide)) (by repeat' (first | assumption | exact FW.rf | refine FW.up ?_ (by unfold wS; omega) | (refine FW.tr ?_ (by assumption)))) (by (try simp (disch := decide) only [upI_eq, upI_a, upI_i, upR_eq, upR_a, upR_i]); try assumption) (by (try simp (disch := decide) only [upI_eq, upI_a, upI_i, upR_eq, upR_a, upR_i]); try assumption) (by simp (disch := decide) only [scX, upI_eq, upI_a, upI_i, upR_eq, upR_a, upR_i, upI_ro, upI_rw, up1_same, up1_eq, ht, E1, E2, E3, E4, E5, E6, E7])) | (exact st _ ((tsH_23s c1 (by dsimp only; omega)).trans (onw_p (by dsimp only; omega))) (by repeat' (first | assumption | exact FW.rf | refine FW.up ?_ (by unfold wS; omega) | (refine FW.tr ?_ (by assumption)))) (by (try simp (disch := decide) only [upI_eq, upI_a, upI_i, upR_eq, upR_a, upR_i]); try assumption) (by (try simp (disch := decide) only [upI_eq, upI_a, upI_i, upR_eq, upR_a, upR_i]); try assumption)) | (exact no _ ((tsH_23 c1).trans (onw_n (by intro h; dsimp only at h; omega))) (by repeat' (first | assumption | exact FW.rf | refine FW.up ?_ (by unfold wS; omega) | (refine FW.tr ?_ (by assumption)))) (by (try simp (disch := decide) only [upI_eq, upI_a, upI_i, upR_eq, upR_a, upR_i]); try assumption))
                  · first
                    | (exfalso; omega)
                    | skip
                      refine s255_144.mpr (s255_145.mpr ((s255_146 kM).mpr ?_))
                      rw [mr_10 hR]
                      refine s255_149.mpr (s255_151.mpr (s255_152.mpr (s255_153.mpr (s255_155.mpr ?_))))
                      try simp (disch := first | decide | assumption | omega) only [kon, knt_some, knt_none, Option.toList_some, Option.toList_none, List.cons_append, List.nil_append, upI_eq, upI_a, upI_i, upR_eq, upR_a, upR_i, h36, ht, E1, E2, E3, E4, E5, E6, E7, fAdd_id, fSub_id, fMul_id, m2a, m2b]
                      refine (s255_157 (by omega)).mpr ?_
                      refine (m_which (vT_rng (hv75 _ (by omega) (by omega)))).mpr ?_
                      refine s255_160.mpr (s255_161.mpr (s255_162.mpr (s255_164.mpr ?_)))
                      try simp (disch := first | decide | assumption | omega) only [kon, knt_some, knt_none, Option.toList_some, Option.toList_none, List.cons_append, List.nil_append, upI_eq, upI_a, upI_i, upR_eq, upR_a, upR_i, h36, ht, E1, E2, E3, E4, E5, E6, E7, fAdd_id, fSub_id, fMul_id, m2a, m2b]
                      refine (s255_165 (hA.k (by decide) (by decide) rfl) (by first | assumption | omega) (by first | assumption | omega)).mpr ?_
                      try simp (disch := first | decide | assumption | omega) only [kon, knt_some, knt_none, Option.toList_some, Option.toList_none, List.cons_append, List.nil_append, upI_eq, upI_a, upI_i, upR_eq, upR_a, upR_i, h36, ht, E1, E2, E3, E4, E5, E6, E7, fAdd_id, fSub_id, fMul_id, m2a, m2b]
                      refine (s255_166 (by omega) kM).mpr ?_
                      refine m_push hA hR (by (try simp (disch := decide) only [upI_eq, upI_a, upI_i, upR_eq, upR_a, upR_i]); first | assumption | rfl) (by omega) ?_
                      refine s255_169.mpr ?_
                      refine (s255_583).mpr ?_
                      first | (exfalso; omega) | (exact ok _ _ _ ((tsH_23n c1 (by dsimp only; intro h6; rw [h6] at y86; exact absurd y86.2.2 (by decide))).trans (onw_p (by dsimp only; omega))) (flw1 (by rw [c1]; decide)) (by repeat' (first | assumption | exact FW.rf | refine FW.up ?_ (by unfold wS; omega) | (refine FW.tr ?_ (by assumption)))) (by (try simp (disch := decide) only [upI_eq, upI_a, upI_i, upR_eq, upR_a, upR_i]); try assumption) (by (try simp (disch := decide) only [upI_eq, upI_a, upI_i, upR_eq, upR_a, upR_i]); try assumption) (by simp (disch := decide) only [scX, upI_eq, upI_a, upI_i, upR_eq, upR_a, upR_i, upI_ro, upI_rw, up1_same, up1_eq, ht, E1, E2, E3, E4, E5, E6, E7])) | (exact st _ ((tsH_23s c1 (by dsimp only; omega)).trans (onw_p (by dsimp only; omega))) (by repeat' (first | assumption | exact FW.rf | refine FW.up ?_ (by unfold wS; omega) | (refine FW.tr ?_ (by assumption)))) (by (try simp (disch := decide) only [upI_eq, upI_a, upI_i, upR_eq, upR_a, upR_i]); try assumption) (by (try simp (disch := decide) only [upI_eq, upI_a, upI_i, upR_eq, upR_a, upR_i]); try assumption)) | (exact no _ ((tsH_23 c1).trans (onw_n (by intro h; dsimp only at h; omega))) (by repeat' (first | assumption | exact FW.rf | refine FW.up ?_ (by unfold wS; omega) | (refine FW.tr ?_ (by assumption)))) (by (try simp (disch := decide) only [upI_eq, upI_a, upI_i, upR_eq, upR_a, upR_i]); try assumption))
    · first
      | (exfalso; omega)
      | skip
        refine s255_98.mpr ?_
        refine (s255_583).mpr ?_
        first | (exfalso; omega) | (exact ok _ _ _ ((tsH_23n c1 (by dsimp only; intro h6; rw [h6] at y86; exact absurd y86.2.2 (by decide))).trans (onw_p (by dsimp only; omega))) (flw1 (by rw [c1]; decide)) (by repeat' (first | assumption | exact FW.rf | refine FW.up ?_ (by unfold wS; omega) | (refine FW.tr ?_ (by assumption)))) (by (try simp (disch := decide) only [upI_eq, upI_a, upI_i, upR_eq, upR_a, upR_i]); try assumption) (by (try simp (disch := decide) only [upI_eq, upI_a, upI_i, upR_eq, upR_a, upR_i]); try assumption) (by simp (disch := decide) only [scX, upI_eq, upI_a, upI_i, upR_eq, upR_a, upR_i, upI_ro, upI_rw, up1_same, up1_eq, ht, E1, E2, E3, E4, E5, E6, E7])) | (exact st _ ((tsH_23s c1 (by dsimp only; omega)).trans (onw_p (by dsimp only; omega))) (by repeat' (first | assumption | exact FW.rf | refine FW.up ?_ (by unfold wS; omega) | (refine FW.tr ?_ (by assumption)))) (by (try simp (disch := decide) only [upI_eq, upI_a, upI_i, upR_eq, upR_a, upR_i]); try assumption) (by (try simp (disch := decide) only [upI_eq, upI_a, upI_i, upR_eq, upR_a, upR_i]); try assumption)) | (exact no _ ((tsH_23 c1).trans (onw_n (by intro h; dsimp only at h; omega))) (by repeat' (first | assumption | exact FW.rf | refine FW.up ?_ (by unfold wS; omega) | (refine FW.tr ?_ (by assumption)))) (by (try simp (disch := decide) only [upI_eq, upI_a, upI_i, upR_eq, upR_a, upR_i]); try assumption))
theorem m_h24 {m g op v p t : Int} (hA : SA al) (hR : MR hr) (hd : 4 ≤ d) (hM : MB hi m B) (hS : Sh B) (hg : 0 ≤ g ∧ g < nFn B) (h36 : hi 49 36 = 1) (h38 : hi 49 38 = 0) (ht : hi 49 35 = t) (ht0 : 0 ≤ t ∧ t ≤ 16) (hvX : vX B (t, hi 75, hi 76)) (c1 : op = 24) (hv0 : 0 ≤ v ∧ v ≤ 5)
    (ok : ∀ L Y hi', tsH B g op v p (t, hi 75, hi 76) = some L → FLW op v p Y L → FW wS hi hi' → hi' 49 36 = 1 → hi' 49 38 = 0 → scX hi' = Y → Q (some none) al hi' hr)
    (st : ∀ hi', tsH B g op v p (t, hi 75, hi 76) = some [] → FW wS hi hi' → hi' 49 36 = 1 → hi' 49 38 = 1 → Q (some none) al hi' hr)
    (no : ∀ hi', tsH B g op v p (t, hi 75, hi 76) = none → FW wS hi hi' → hi' 49 36 = 0 → Q (some none) al hi' hr) : Wp d 255 172 [vR (some 49), vI m, vI (10 * m + g), vI op, vI v, none, none, none, none] [] al hi hr Q := by
  have kM : isK al 49 13 := hA.k (by decide) (by decide) rfl
  have E1 : t - 1 - 1 = t - 2 := by omega
  have E2 : t - 2 + 1 = t - 1 := by omega
  have E3 : t - 1 + 1 = t := by omega
  have E4 : t - 2 - 1 = t - 3 := by omega
  have E5 : t - 3 + 1 = t - 2 := by omega
  have E6 : t + 1 + 1 = t + 2 := by omega
  have E7 : t + 1 - 1 = t := by omega
  obtain ⟨hm0, hm1, h52, hB, m1, m2, m3, m4, m5, m6⟩ := id hM
  have hv75 : ∀ k, 0 ≤ k → k < t → vT B (hi 75 k) := hvX.2.1
  clear m3 m4 m5 m6 hB h52
  have r1 : nRec B ≤ 8 := hS.2.1
  have l57 := SA.len (a := 57) (n := 104) hA (by decide) (by decide) rfl
  have l58 := SA.len (a := 58) (n := 624) hA (by decide) (by decide) rfl
  have W1 := vW hv75 (t - 2)
  have m2a : ∀ r, 0 ≤ r → r < nRec B → hi 57 (8 * m + r) = nFld B r := fun r a b => (m2 r a b).1
  have m2b : ∀ r k, 0 ≤ r → r < nRec B → 0 ≤ k → k < nFld B r → hi 58 (48 * m + 6 * r + k) = fTy B r k := fun r k a b => (m2 r a b).2 k
  have K6 := k6d (hi 75 (t - 2))
  refine s255_172.mpr ?_
  refine (s255_173 (by omega) kM).mpr ?_
  refine m_pop hA hR (by omega) (by (try simp (disch := decide) only [upI_eq, upI_a, upI_i, upR_eq, upR_a, upR_i]); first | assumption | rfl) (by omega) (by (try simp (disch := decide) only [upI_eq, upI_a, upI_i, upR_eq, upR_a, upR_i]); first | assumption | rfl) (by omega) (fun y173 => ?_) (fun v173 hi173 w173 z173 u173 x173 => ?_)
  · skip
    refine s255_176.mpr (s255_178.mpr ?_)
    refine (s255_179 (by omega) kM).mpr ?_
    refine m_popNode hA hR (by omega) (by (try simp (disch := decide) only [upI_eq, upI_a, upI_i, upR_eq, upR_a, upR_i]); first | assumption | rfl) (by omega) (by (try simp (disch := decide) only [upI_eq, upI_a, upI_i, upR_eq, upR_a, upR_i]); first | assumption | rfl) (by omega) (fun y179 => ?_) (fun y179 => ?_) (fun q179 hi179 t179 w179 z179 s179 u179 v179 x179 => ?_)
    · skip
      try simp (disch := decide) only [upI_eq, upI_a, upI_i, upR_eq, upR_a, upR_i, E1, E4] at y179
      try simp (disch := decide) only [upI_eq, upI_a, upI_i, upR_eq, upR_a, upR_i, E1, E4] at x179
      refine s255_182.mpr (s255_184.mpr ?_)
      refine (s255_185 kM).mpr ?_
      try simp (disch := first | decide | assumption | omega) only [kon, knt_some, knt_none, Option.toList_some, Option.toList_none, List.cons_append, List.nil_append, upI_eq, upI_a, upI_i, upR_eq, upR_a, upR_i, h36, ht, E1, E2, E3, E4, E5, E6, E7, fAdd_id, fSub_id, fMul_id, m2a, m2b]
      refine s255_188.mpr (wif (fun c188 => ?_) (fun c188 => ?_))
      · first
        | (exfalso; omega)
        | skip
          refine s255_194.mpr (s255_195.mpr ?_)
          refine (s255_196 kM).mpr ?_
          try simp (disch := first | decide | assumption | omega) only [kon, knt_some, knt_none, Option.toList_some, Option.toList_none, List.cons_append, List.nil_append, upI_eq, upI_a, upI_i, upR_eq, upR_a, upR_i, h36, ht, E1, E2, E3, E4, E5, E6, E7, fAdd_id, fSub_id, fMul_id, m2a, m2b]
          refine s255_199.mpr (wif (fun c199 => ?_) (fun c199 => ?_))
          · first
            | (exfalso; omega)
            | skip
              refine s255_226.mpr ?_
              refine (s255_227 (by omega) kM).mpr ?_
              refine m_wants hA (by omega) (by (try simp (disch := decide) only [upI_eq, upI_a, upI_i, upR_eq, upR_a, upR_i]); first | assumption | rfl) (by omega) (fun y227 => ?_) (fun y227 => ?_)
              · skip
                refine s255_230.mpr ?_
                refine (s255_231 kM).mpr ?_
                try simp (disch := first | decide | assumption | omega) only [kon, knt_some, knt_none, Option.toList_some, Option.toList_none, List.cons_append, List.nil_append, upI_eq, upI_a, upI_i, upR_eq, upR_a, upR_i, h36, ht, E1, E2, E3, E4, E5, E6, E7, fAdd_id, fSub_id, fMul_id, m2a, m2b]
                refine s255_234.mpr (wif (fun c234 => ?_) (fun c234 => ?_))
                · first
                  | (exfalso; omega)
                  | skip
                    refine (s255_583).mpr ?_
                    first | (exfalso; omega) | (exact ok _ _ _ ((tsH_24n c1 (by dsimp only; intro h6; rw [h6] at y179; exact absurd y179.2.2 (by decide))).trans (onw_p (by dsimp only; exact ⟨by omega, Or.inr ⟨by omega, by omega, y261.2⟩⟩))) (flw1 (by rw [c1]; decide)) (by repeat' (first | assumption | exact FW.rf | refine FW.up ?_ (by unfold wS; omega) | (refine FW.tr ?_ (by assumption)))) (by (try simp (disch := decide) only [upI_eq, upI_a, upI_i, upR_eq, upR_a, upR_i]); try assumption) (by (try simp (disch := decide) only [upI_eq, upI_a, upI_i, upR_eq, upR_a, upR_i]); try assumption) (by simp (disch := decide) only [scX, upI_eq, upI_a, upI_i, upR_eq, upR_a, upR_i, upI_ro, upI_rw, up1_same, up1_eq, ht, E1, E2, E3, E4, E5, E6, E7])) | (exact st _ ((tsH_24s c1 (by dsimp only; omega)).trans (onw_p (by dsimp only; omega))) (by repeat' (first | assumption | exact FW.rf | refine FW.up ?_ (by unfold wS; omega) | (refine FW.tr ?_ (by assumption)))) (by (try simp (disch := decide) only [upI_eq, upI_a, upI_i, upR_eq, upR_a, upR_i]); try assumption) (by (try simp (disch := decide) only [upI_eq, upI_a, upI_i, upR_eq, upR_a, upR_i]); try assumption)) | (exact no _ ((tsH_24 c1).trans (onw_n (by intro h; dsimp only at h; omega))) (by repeat' (first | assumption | exact FW.rf | refine FW.up ?_ (by unfold wS; omega) | (refine FW.tr ?_ (by assumption)))) (by (try simp (disch := decide) only [upI_eq, upI_a, upI_i, upR_eq, upR_a, upR_i]); try assumption))
                · first
                  | (exfalso; omega)
                  | skip
                    refine s255_237.mpr (s255_238.mpr (s255_240.mpr ((s255_241 kM).mpr ?_)))
                    rw [mr_10 hR]
                    refine s255_244.mpr (s255_246.mpr (s255_247.mpr (s255_248.mpr (s255_250.mpr ?_))))
                    try simp (disch := first | decide | assumption | omega) only [kon, knt_some, knt_none, Option.toList_some, Option.toList_none, List.cons_append, List.nil_append, upI_eq, upI_a, upI_i, upR_eq, upR_a, upR_i, h36, ht, E1, E2, E3, E4, E5, E6, E7, fAdd_id, fSub_id, fMul_id, m2a, m2b]
                    refine (s255_252 (by omega)).mpr ?_
                    refine (m_which (vT_rng (hv75 _ (by omega) (by omega)))).mpr ?_
                    refine s255_255.mpr (s255_256.mpr (s255_257.mpr (s255_259.mpr ?_)))
                    try simp (disch := first | decide | assumption | omega) only [kon, knt_some, knt_none, Option.toList_some, Option.toList_none, List.cons_append, List.nil_append, upI_eq, upI_a, upI_i, upR_eq, upR_a, upR_i, h36, ht, E1, E2, E3, E4, E5, E6, E7, fAdd_id, fSub_id, fMul_id, m2a, m2b]
                    refine (s255_260 (hA.k (by decide) (by decide) rfl) (by first | assumption | omega) (by first | assumption | omega)).mpr ?_
                    try simp (disch := first | decide | assumption | omega) only [kon, knt_some, knt_none, Option.toList_some, Option.toList_none, List.cons_append, List.nil_append, upI_eq, upI_a, upI_i, upR_eq, upR_a, upR_i, h36, ht, E1, E2, E3, E4, E5, E6, E7, fAdd_id, fSub_id, fMul_id, m2a, m2b]
                    refine (s255_261 (by omega) kM).mpr ?_
                    refine m_fits hA hR (by omega) (by (try simp (disch := decide) only [upI_eq, upI_a, upI_i, upR_eq, upR_a, upR_i]); first | assumption | rfl) (by omega) (fun y261 => ?_) (fun y261 => ?_)
                    · skip
                      refine s255_264.mpr ?_
                      refine (s255_583).mpr ?_
                      first | (exfalso; omega) | (exact ok _ _ _ ((tsH_24n c1 (by dsimp only; intro h6; rw [h6] at y179; exact absurd y179.2.2 (by decide))).trans (onw_p (by dsimp only; exact ⟨by omega, Or.inr ⟨by omega, by omega, y261.2⟩⟩))) (flw1 (by rw [c1]; decide)) (by repeat' (first | assumption | exact FW.rf | refine FW.up ?_ (by unfold wS; omega) | (refine FW.tr ?_ (by assumption)))) (by (try simp (disch := decide) only [upI_eq, upI_a, upI_i, upR_eq, upR_a, upR_i]); try assumption) (by (try simp (disch := decide) only [upI_eq, upI_a, upI_i, upR_eq, upR_a, upR_i]); try assumption) (by simp (disch := decide) only [scX, upI_eq, upI_a, upI_i, upR_eq, upR_a, upR_i, upI_ro, upI_rw, up1_same, up1_eq, ht, E1, E2, E3, E4, E5, E6, E7])) | (exact st _ ((tsH_24s c1 (by dsimp only; omega)).trans (onw_p (by dsimp only; omega))) (by repeat' (first | assumption | exact FW.rf | refine FW.up ?_ (by unfold wS; omega) | (refine FW.tr ?_ (by assumption)))) (by (try simp (disch := decide) only [upI_eq, upI_a, upI_i, upR_eq, upR_a, upR_i]); try assumption) (by (try simp (disch := decide) only [upI_eq, upI_a, upI_i, upR_eq, upR_a, upR_i]); try assumption)) | (exact no _ ((tsH_24 c1).trans (onw_n (by intro h; dsimp only at h; omega))) (by repeat' (first | assumption | exact FW.rf | refine FW.up ?_ (by unfold wS; omega) | (refine FW.tr ?_ (by assumption)))) (by (try simp (disch := decide) only [upI_eq, upI_a, upI_i, upR_eq, upR_a, upR_i]); try assumption))
                    · skip
                      refine s255_264.mpr ?_
                      refine (s255_583).mpr ?_
                      first | (exfalso; omega) | (exact ok _ _ _ ((tsH_24n c1 (by dsimp only; intro h6; rw [h6] at y179; exact absurd y179.2.2 (by decide))).trans (onw_p (by dsimp only; exact ⟨by omega, Or.inr ⟨by omega, by omega, y261.2⟩⟩))) (flw1 (by rw [c1]; decide)) (by repeat' (first | assumption | exact FW.rf | refine FW.up ?_ (by unfold wS; omega) | (refine FW.tr ?_ (by assumption)))) (by (try simp (disch := decide) only [upI_eq, upI_a, upI_i, upR_eq, upR_a, upR_i]); try assumption) (by (try simp (disch := decide) only [upI_eq, upI_a, upI_i, upR_eq, upR_a, upR_i]); try assumption) (by simp (disch := decide) only [scX, upI_eq, upI_a, upI_i, upR_eq, upR_a, upR_i, upI_ro, upI_rw, up1_same, up1_eq, ht, E1, E2, E3, E4, E5, E6, E7])) | (exact st _ ((tsH_24s c1 (by dsimp only; omega)).trans (onw_p (by dsimp only; omega))) (by repeat' (first | assumption | exact FW.rf | refine FW.up ?_ (by unfold wS; omega) | (refine FW.tr ?_ (by assumption)))) (by (try simp (disch := decide) only [upI_eq, upI_a, upI_i, upR_eq, upR_a, upR_i]); try assumption) (by (try simp (disch := decide) only [upI_eq, upI_a, upI_i, upR_eq, upR_a, upR_i]); try assumption)) | (exact no _ ((tsH_24 c1).trans (onw_n (by intro h; dsimp only at h; omega))) (by repeat' (first | assumption | exact FW.rf | refine FW.up ?_ (by unfold wS; omega) | (refine FW.tr ?_ (by assumption)))) (by (try simp (disch := decide) only [upI_eq, upI_a, upI_i, upR_eq, upR_a, upR_i]); try assumption))
              · skip
                refine s255_230.mpr ?_
                refine (s255_231 kM).mpr ?_
                try simp (disch := first | decide | assumption | omega) only [kon, knt_some, knt_none, Option.toList_some, Option.toList_none, List.cons_append, List.nil_append, upI_eq, upI_a, upI_i, upR_eq, upR_a, upR_i, h36, ht, E1, E2, E3, E4, E5, E6, E7, fAdd_id, fSub_id, fMul_id, m2a, m2b]
                refine s255_234.mpr (wif (fun c234 => ?_) (fun c234 => ?_))
                · first
                  | (exfalso; omega)
                  | skip
                    refine (s255_583).mpr ?_
                    first | (exfalso; omega) | (exact ok _ _ _ ((tsH_24n c1 (by dsimp only; intro h6; rw [h6] at y179; exact absurd y179.2.2 (by decide))).trans (onw_p (by dsimp only; exact ⟨by omega, Or.inr ⟨by omega, by omega, y261.2⟩⟩))) (flw1 (by rw [c1]; decide)) (by repeat' (first | assumption | exact FW.rf | refine FW.up ?_ (by unfold wS; omega) | (refine FW.tr ?_ (by assumption)))) (by (try simp (disch := decide) only [upI_eq, upI_a, upI_i, upR_eq, upR_a, upR_i]); try assumption) (by (try simp (disch := decide) only [upI_eq, upI_a, upI_i, upR_eq, upR_a, upR_i]); try assumption) (by simp (disch := decide) only [scX, upI_eq, upI_a, upI_i, upR_eq, upR_a, upR_i, upI_ro, upI_rw, up1_same, up1_eq, ht, E1, E2, E3, E4, E5, E6, E7])) | (exact st _ ((tsH_24s c1 (by dsimp only; omega)).trans (onw_p (by dsimp only; omega))) (by repeat' (first | assumption | exact FW.rf | refine FW.up ?_ (by unfold wS; omega) | (refine FW.tr ?_ (by assumption)))) (by (try simp (disch := decide) only [upI_eq, upI_a, upI_i, upR_eq, upR_a, upR_i]); try assumption) (by (try simp (disch := decide) only [upI_eq, upI_a, upI_i, upR_eq, upR_a, upR_i]); try assumption)) | (exact no _ ((tsH_24 c1).trans (onw_n (by intro h; dsimp only at h; omega))) (by repeat' (first | assumption | exact FW.rf | refine FW.up ?_ (by unfold wS; omega) | (refine FW.tr ?_ (by assumption)))) (by (try simp (disch := decide) only [upI_eq, upI_a, upI_i, upR_eq, upR_a, upR_i]); try assumption))
                · first
                  | (exfalso; omega)
                  | skip
                    refine s255_237.mpr (s255_238.mpr (s255_240.mpr ((s255_241 kM).mpr ?_)))
                    rw [mr_10 hR]
                    refine s255_244.mpr (s255_246.mpr (s255_247.mpr (s255_248.mpr (s255_250.mpr ?_))))
                    try simp (disch := first | decide | assumption | omega) only [kon, knt_some, knt_none, Option.toList_some, Option.toList_none, List.cons_append, List.nil_append, upI_eq, upI_a, upI_i, upR_eq, upR_a, upR_i, h36, ht, E1, E2, E3, E4, E5, E6, E7, fAdd_id, fSub_id, fMul_id, m2a, m2b]
                    refine (s255_252 (by omega)).mpr ?_
                    refine (m_which (vT_rng (hv75 _ (by omega) (by omega)))).mpr ?_
                    refine s255_255.mpr (s255_256.mpr (s255_257.mpr (s255_259.mpr ?_)))
                    try simp (disch := first | decide | assumption | omega) only [kon, knt_some, knt_none, Option.toList_some, Option.toList_none, List.cons_append, List.nil_append, upI_eq, upI_a, upI_i, upR_eq, upR_a, upR_i, h36, ht, E1, E2, E3, E4, E5, E6, E7, fAdd_id, fSub_id, fMul_id, m2a, m2b]
                    refine (s255_260 (hA.k (by decide) (by decide) rfl) (by first | assumption | omega) (by first | assumption | omega)).mpr ?_
                    try simp (disch := first | decide | assumption | omega) only [kon, knt_some, knt_none, Option.toList_some, Option.toList_none, List.cons_append, List.nil_append, upI_eq, upI_a, upI_i, upR_eq, upR_a, upR_i, h36, ht, E1, E2, E3, E4, E5, E6, E7, fAdd_id, fSub_id, fMul_id, m2a, m2b]
                    refine (s255_261 (by omega) kM).mpr ?_
                    refine m_fits hA hR (by omega) (by (try simp (disch := decide) only [upI_eq, upI_a, upI_i, upR_eq, upR_a, upR_i]); first | assumption | rfl) (by omega) (fun y261 => ?_) (fun y261 => ?_)
                    · skip
                      refine s255_264.mpr ?_
                      refine (s255_583).mpr ?_
                      first | (exfalso; omega) | (exact ok _ _ _ ((tsH_24n c1 (by dsimp only; intro h6; rw [h6] at y179; exact absurd y179.2.2 (by decide))).trans (onw_p (by dsimp only; exact ⟨by omega, Or.inr ⟨by omega, by omega, y261.2⟩⟩))) (flw1 (by rw [c1]; decide)) (by repeat' (first | assumption | exact FW.rf | refine FW.up ?_ (by unfold wS; omega) | (refine FW.tr ?_ (by assumption)))) (by (try simp (disch := decide) only [upI_eq, upI_a, upI_i, upR_eq, upR_a, upR_i]); try assumption) (by (try simp (disch := decide) only [upI_eq, upI_a, upI_i, upR_eq, upR_a, upR_i]); try assumption) (by simp (disch := decide) only [scX, upI_eq, upI_a, upI_i, upR_eq, upR_a, upR_i, upI_ro, upI_rw, up1_same, up1_eq, ht, E1, E2, E3, E4, E5, E6, E7])) | (exact st _ ((tsH_24s c1 (by dsimp only; omega)).trans (onw_p (by dsimp only; omega))) (by repeat' (first | assumption | exact FW.rf | refine FW.up ?_ (by unfold wS; omega) | (refine FW.tr ?_ (by assumption)))) (by (try simp (disch := decide) only [upI_eq, upI_a, upI_i, upR_eq, upR_a, upR_i]); try assumption) (by (try simp (disch := decide) only [upI_eq, upI_a, upI_i, upR_eq, upR_a, upR_i]); try assumption)) | (exact no _ ((tsH_24 c1).trans (onw_n (by intro h; dsimp only at h; omega))) (by repeat' (first | assumption | exact FW.rf | refine FW.up ?_ (by unfold wS; omega) | (refine FW.tr ?_ (by assumption)))) (by (try simp (disch := decide) only [upI_eq, upI_a, upI_i, upR_eq, upR_a, upR_i]); try assumption))
                    · skip
                      refine s255_264.mpr ?_
                      refine (s255_583).mpr ?_
                      first | (exfalso; omega) | (exact ok _ _ _ ((tsH_24n c1 (by dsimp only; intro h6; rw [h6] at y179; exact absurd y179.2.2 (by decide))).trans (onw_p (by dsimp only; exact ⟨by omega, Or.inr ⟨by omega, by omega, y261.2⟩⟩))) (flw1 (by rw [c1]; decide)) (by repeat' (first | assumption | exact FW.rf | refine FW.up ?_ (by unfold wS; omega) | (refine FW.tr ?_ (by assumption)))) (by (try simp (disch := decide) only [upI_eq, upI_a, upI_i, upR_eq, upR_a, upR_i]); try assumption) (by (try simp (disch := decide) only [upI_eq, upI_a, upI_i, upR_eq, upR_a, upR_i]); try assumption) (by simp (disch := decide) only [scX, upI_eq, upI_a, upI_i, upR_eq, upR_a, upR_i, upI_ro, upI_rw, up1_same, up1_eq, ht, E1, E2, E3, E4, E5, E6, E7])) | (exact st _ ((tsH_24s c1 (by dsimp only; omega)).trans (onw_p (by dsimp only; omega))) (by repeat' (first | assumption | exact FW.rf | refine FW.up ?_ (by unfold wS; omega) | (refine FW.tr ?_ (by assumption)))) (by (try simp (disch := decide) only [upI_eq, upI_a, upI_i, upR_eq, upR_a, upR_i]); try assumption) (by (try simp (disch := decide) only [upI_eq, upI_a, upI_i, upR_eq, upR_a, upR_i]); try assumption)) | (exact no _ ((tsH_24 c1).trans (onw_n (by intro h; dsimp only at h; omega))) (by repeat' (first | assumption | exact FW.rf | refine FW.up ?_ (by unfold wS; omega) | (refine FW.tr ?_ (by assumption)))) (by (try simp (disch := decide) only [upI_eq, upI_a, upI_i, upR_eq, upR_a, upR_i]); try assumption))
          · first
            | (exfalso; omega)
            | skip
              refine s255_202.mpr (s255_204.mpr ((s255_205 kM).mpr ?_))
              rw [mr_9 hR]
              refine s255_208.mpr (s255_210.mpr (s255_211.mpr (s255_212.mpr ?_)))
              try simp (disch := first | decide | assumption | omega) only [kon, knt_some, knt_none, Option.toList_some, Option.toList_none, List.cons_append, List.nil_append, upI_eq, upI_a, upI_i, upR_eq, upR_a, upR_i, h36, ht, E1, E2, E3, E4, E5, E6, E7, fAdd_id, fSub_id, fMul_id, m2a, m2b]
              refine (s255_214 (by omega)).mpr ?_
              refine (m_which (vT_rng (hv75 _ (by omega) (by omega)))).mpr ?_
              refine s255_217.mpr ?_
              try simp (disch := first | decide | assumption | omega) only [kon, knt_some, knt_none, Option.toList_some, Option.toList_none, List.cons_append, List.nil_append, upI_eq, upI_a, upI_i, upR_eq, upR_a, upR_i, h36, ht, E1, E2, E3, E4, E5, E6, E7, fAdd_id, fSub_id, fMul_id, m2a, m2b]
              refine (s255_218 (hA.k (by decide) (by decide) rfl) (by first | assumption | omega) (by first | assumption | omega)).mpr ?_
              try simp (disch := first | decide | assumption | omega) only [kon, knt_some, knt_none, Option.toList_some, Option.toList_none, List.cons_append, List.nil_append, upI_eq, upI_a, upI_i, upR_eq, upR_a, upR_i, h36, ht, E1, E2, E3, E4, E5, E6, E7, fAdd_id, fSub_id, fMul_id, m2a, m2b]
              refine s255_219.mpr (wif (fun c219 => ?_) (fun c219 => ?_))
              · first
                | (exfalso; omega)
                | skip
                  refine s255_222.mpr (s255_223.mpr ?_)
                  refine (s255_227 (by omega) kM).mpr ?_
                  refine m_wants hA (by omega) (by (try simp (disch := decide) only [upI_eq, upI_a, upI_i, upR_eq, upR_a, upR_i]); first | assumption | rfl) (by omega) (fun y227 => ?_) (fun y227 => ?_)
                  · skip
                    refine s255_230.mpr ?_
                    refine (s255_231 kM).mpr ?_
                    try simp (disch := first | decide | assumption | omega) only [kon, knt_some, knt_none, Option.toList_some, Option.toList_none, List.cons_append, List.nil_append, upI_eq, upI_a, upI_i, upR_eq, upR_a, upR_i, h36, ht, E1, E2, E3, E4, E5, E6, E7, fAdd_id, fSub_id, fMul_id, m2a, m2b]
                    refine s255_234.mpr (wif (fun c234 => ?_) (fun c234 => ?_))
                    · first
                      | (exfalso; omega)
                      | skip
                        refine (s255_583).mpr ?_
                        first | (exfalso; omega) | (exact ok _ _ _ ((tsH_24n c1 (by dsimp only; intro h6; rw [h6] at y179; exact absurd y179.2.2 (by decide))).trans (onw_p (by dsimp only; exact ⟨by omega, Or.inr ⟨by omega, by omega, y261.2⟩⟩))) (flw1 (by rw [c1]; decide)) (by repeat' (first | assumption | exact FW.rf | refine FW.up ?_ (by unfold wS; omega) | (refine FW.tr ?_ (by assumption)))) (by (try simp (disch := decide) only [upI_eq, upI_a, upI_i, upR_eq, upR_a, upR_i]); try assumption) (by (try simp (disch := decide) only [upI_eq, upI_a, upI_i, upR_eq, upR_a, upR_i]); try assumption) (by simp (disch := decide) only [scX, upI_eq, upI_a, upI_i, upR_eq, upR_a, upR_i, upI_ro, upI_rw, up1_same, up1_eq, ht, E1, E2, E3, E4, E5, E6, E7])) | (exact st _ ((tsH_24s c1 (by dsimp only; omega)).trans (onw_p (by dsimp only; omega))) (by repeat' (first | assumption | exact FW.rf | refine FW.up ?_ (by unfold wS; omega) | (refine FW.tr ?_ (by assumption)))) (by (try simp (disch := decide) only [upI_eq, upI_a, upI_i, upR_eq, upR_a, upR_i]); try assumption) (by (try simp (disch := decide) only [upI_eq, upI_a, upI_i, upR_eq, upR_a, upR_i]); try assumption)) | (exact no _ ((tsH_24 c1).trans (onw_n (by intro h; dsimp only at h; omega))) (by repeat' (first | assumption | exact FW.rf | refine FW.up ?_ (by unfold wS; omega) | (refine FW.tr ?_ (by assumption)))) (by (try simp (disch := decide) only [upI_eq, upI_a, upI_i, upR_eq, upR_a, upR_i]); try assumption))
                    · first
                      | (exfalso; omega)
                      | skip
                        refine s255_237.mpr (s255_238.mpr (s255_240.mpr ((s255_241 kM).mpr ?_)))
                        rw [mr_10 hR]
                        refine s255_244.mpr (s255_246.mpr (s255_247.mpr (s255_248.mpr (s255_250.mpr ?_))))
                        try simp (disch := first | decide | assumption | omega) only [kon, knt_some, knt_none, Option.toList_some, Option.toList_none, List.cons_append, List.nil_append, upI_eq, upI_a, upI_i, upR_eq, upR_a, upR_i, h36, ht, E1, E2, E3, E4, E5, E6, E7, fAdd_id, fSub_id, fMul_id, m2a, m2b]
                        refine (s255_252 (by omega)).mpr ?_
                        refine (m_which (vT_rng (hv75 _ (by omega) (by omega)))).mpr ?_
                        refine s255_255.mpr (s255_256.mpr (s255_257.mpr (s255_259.mpr ?_)))
                        try simp (disch := first | decide | assumption | omega) only [kon, knt_some, knt_none, Option.toList_some, Option.toList_none, List.cons_append, List.nil_append, upI_eq, upI_a, upI_i, upR_eq, upR_a, upR_i, h36, ht, E1, E2, E3, E4, E5, E6, E7, fAdd_id, fSub_id, fMul_id, m2a, m2b]
                        refine (s255_260 (hA.k (by decide) (by decide) rfl) (by first | assumption | omega) (by first | assumption | omega)).mpr ?_
                        try simp (disch := first | decide | assumption | omega) only [kon, knt_some, knt_none, Option.toList_some, Option.toList_none, List.cons_append, List.nil_append, upI_eq, upI_a, upI_i, upR_eq, upR_a, upR_i, h36, ht, E1, E2, E3, E4, E5, E6, E7, fAdd_id, fSub_id, fMul_id, m2a, m2b]
                        refine (s255_261 (by omega) kM).mpr ?_
                        refine m_fits hA hR (by omega) (by (try simp (disch := decide) only [upI_eq, upI_a, upI_i, upR_eq, upR_a, upR_i]); first | assumption | rfl) (by omega) (fun y261 => ?_) (fun y261 => ?_)
                        · skip
                          refine s255_264.mpr ?_
                          refine (s255_583).mpr ?_
                          first | (exfalso; omega) | (exact ok _ _ _ ((tsH_24n c1 (by dsimp only; intro h6; rw [h6] at y179; exact absurd y179.2.2 (by decide))).trans (onw_p (by dsimp only; exact ⟨by omega, Or.inr ⟨by omega, by omega, y261.2⟩⟩))) (flw1 (by rw [c1]; decide)) (by repeat' (first | assumption | exact FW.rf | refine FW.up ?_ (by unfold wS; omega) | (refine FW.tr ?_ (by assumption)))) (by (try simp (disch := decide) only [upI_eq, upI_a, upI_i, upR_eq, upR_a, upR_i]); try assumption) (by (try simp (disch := decide) only [upI_eq, upI_a, upI_i, upR_eq, upR_a, upR_i]); try assumption) (by simp (disch := decide) only [scX, upI_eq, upI_a, upI_i, upR_eq, upR_a, upR_i, upI_ro, upI_rw, up1_same, up1_eq, ht, E1, E2, E3, E4, E5, E6, E7])) | (exact st _ ((tsH_24s c1 (by dsimp only; omega)).trans (onw_p (by dsimp only; omega))) (by repeat' (first | assumption | exact FW.rf | refine FW.up ?_ (by unfold wS; omega) | (refine FW.tr ?_ (by assumption)))) (by (try simp (disch := decide) only [upI_eq, upI_a, upI_i, upR_eq, upR_a, upR_i]); try assumption) (by (try simp (disch := decide) only [upI_eq, upI_a, upI_i, upR_eq, upR_a, upR_i]); try assumption)) | (exact no _ ((tsH_24 c1).trans (onw_n (by intro h; dsimp only at h; omega))) (by repeat' (first | assumption | exact FW.rf | refine FW.up ?_ (by unfold wS; omega) | (refine FW.tr ?_ (by assumption)))) (by (try simp (disch := decide) only [upI_eq, upI_a, upI_i, upR_eq, upR_a, upR_i]); try assumption))
                        · skip
                          refine s255_264.mpr ?_
                          refine (s255_583).mpr ?_
                          first | (exfalso; omega) | (exact ok _ _ _ ((tsH_24n c1 (by dsimp only; intro h6; rw [h6] at y179; exact absurd y179.2.2 (by decide))).trans (onw_p (by dsimp only; exact ⟨by omega, Or.inr ⟨by omega, by omega, y261.2⟩⟩))) (flw1 (by rw [c1]; decide)) (by repeat' (first | assumption | exact FW.rf | refine FW.up ?_ (by unfold wS; omega) | (refine FW.tr ?_ (by assumption)))) (by (try simp (disch := decide) only [upI_eq, upI_a, upI_i, upR_eq, upR_a, upR_i]); try assumption) (by (try simp (disch := decide) only [upI_eq, upI_a, upI_i, upR_eq, upR_a, upR_i]); try assumption) (by simp (disch := decide) only [scX, upI_eq, upI_a, upI_i, upR_eq, upR_a, upR_i, upI_ro, upI_rw, up1_same, up1_eq, ht, E1, E2, E3, E4, E5, E6, E7])) | (exact st _ ((tsH_24s c1 (by dsimp only; omega)).trans (onw_p (by dsimp only; omega))) (by repeat' (first | assumption | exact FW.rf | refine FW.up ?_ (by unfold wS; omega) | (refine FW.tr ?_ (by assumption)))) (by (try simp (disch := decide) only [upI_eq, upI_a, upI_i, upR_eq, upR_a, upR_i]); try assumption) (by (try simp (disch := decide) only [upI_eq, upI_a, upI_i, upR_eq, upR_a, upR_i]); try assumption)) | (exact no _ ((tsH_24 c1).trans (onw_n (by intro h; dsimp only at h; omega))) (by repeat' (first | assumption | exact FW.rf | refine FW.up ?_ (by unfold wS; omega) | (refine FW.tr ?_ (by assumption)))) (by (try simp (disch := decide) only [upI_eq, upI_a, upI_i, upR_eq, upR_a, upR_i]); try assumption))
                  · skip
                    refine s255_230.mpr ?_
                    refine (s255_231 kM).mpr ?_
                    try simp (disch := first | decide | assumption | omega) only [kon, knt_some, knt_none, Option.toList_some, Option.toList_none, List.cons_append, List.nil_append, upI_eq, upI_a, upI_i, upR_eq, upR_a, upR_i, h36, ht, E1, E2, E3, E4, E5, E6, E7, fAdd_id, fSub_id, fMul_id, m2a, m2b]
                    refine s255_234.mpr (wif (fun c234 => ?_) (fun c234 => ?_))
                    · first
                      | (exfalso; omega)
                      | skip
                        refine (s255_583).mpr ?_
                        first | (exfalso; omega) | (exact ok _ _ _ ((tsH_24n c1 (by dsimp only; intro h6; rw [h6] at y179; exact absurd y179.2.2 (by decide))).trans (onw_p (by dsimp only; exact ⟨by omega, Or.inr ⟨by omega, by omega, y261.2⟩⟩))) (flw1 (by rw [c1]; decide)) (by repeat' (first | assumption | exact FW.rf | refine FW.up ?_ (by unfold wS; omega) | (refine FW.tr ?_ (by assumption)))) (by (try simp (disch := decide) only [upI_eq, upI_a, upI_i, upR_eq, upR_a, upR_i]); try assumption) (by (try simp (disch := decide) only [upI_eq, upI_a, upI_i, upR_eq, upR_a, upR_i]); try assumption) (by simp (disch := decide) only [scX, upI_eq, upI_a, upI_i, upR_eq, upR_a, upR_i, upI_ro, upI_rw, up1_same, up1_eq, ht, E1, E2, E3, E4, E5, E6, E7])) | (exact st _ ((tsH_24s c1 (by dsimp only; omega)).trans (onw_p (by dsimp only; omega))) (by repeat' (first | assumption | exact FW.rf | refine FW.up ?_ (by unfold wS; omega) | (refine FW.tr ?_ (by assumption)))) (by (try simp (disch := decide) only [upI_eq, upI_a, upI_i, upR_eq, upR_a, upR_i]); try assumption) (by (try simp (disch := decide) only [upI_eq, upI_a, upI_i, upR_eq, upR_a, upR_i]); try assumption)) | (exact no _ ((tsH_24 c1).trans (onw_n (by intro h; dsimp only at h; omega))) (by repeat' (first | assumption | exact FW.rf | refine FW.up ?_ (by unfold wS; omega) | (refine FW.tr ?_ (by assumption)))) (by (try simp (disch := decide) only [upI_eq, upI_a, upI_i, upR_eq, upR_a, upR_i]); try assumption))
                    · first
                      | (exfalso; omega)
                      | skip
                        refine s255_237.mpr (s255_238.mpr (s255_240.mpr ((s255_241 kM).mpr ?_)))
                        rw [mr_10 hR]
                        refine s255_244.mpr (s255_246.mpr (s255_247.mpr (s255_248.mpr (s255_250.mpr ?_))))
                        try simp (disch := first | decide | assumption | omega) only [kon, knt_some, knt_none, Option.toList_some, Option.toList_none, List.cons_append, List.nil_append, upI_eq, upI_a, upI_i, upR_eq, upR_a, upR_i, h36, ht, E1, E2, E3, E4, E5, E6, E7, fAdd_id, fSub_id, fMul_id, m2a, m2b]
                        refine (s255_252 (by omega)).mpr ?_
                        refine (m_which (vT_rng (hv75 _ (by omega) (by omega)))).mpr ?_
                        refine s255_255.mpr (s255_256.mpr (s255_257.mpr (s255_259.mpr ?_)))
                        try simp (disch := first | decide | assumption | omega) only [kon, knt_some, knt_none, Option.toList_some, Option.toList_none, List.cons_append, List.nil_append, upI_eq, upI_a, upI_i, upR_eq, upR_a, upR_i, h36, ht, E1, E2, E3, E4, E5, E6, E7, fAdd_id, fSub_id, fMul_id, m2a, m2b]
                        refine (s255_260 (hA.k (by decide) (by decide) rfl) (by first | assumption | omega) (by first | assumption | omega)).mpr ?_
                        try simp (disch := first | decide | assumption | omega) only [kon, knt_some, knt_none, Option.toList_some, Option.toList_none, List.cons_append, List.nil_append, upI_eq, upI_a, upI_i, upR_eq, upR_a, upR_i, h36, ht, E1, E2, E3, E4, E5, E6, E7, fAdd_id, fSub_id, fMul_id, m2a, m2b]
                        refine (s255_261 (by omega) kM).mpr ?_
                        refine m_fits hA hR (by omega) (by (try simp (disch := decide) only [upI_eq, upI_a, upI_i, upR_eq, upR_a, upR_i]); first | assumption | rfl) (by omega) (fun y261 => ?_) (fun y261 => ?_)
                        · skip
                          refine s255_264.mpr ?_
                          refine (s255_583).mpr ?_
                          first | (exfalso; omega) | (exact ok _ _ _ ((tsH_24n c1 (by dsimp only; intro h6; rw [h6] at y179; exact absurd y179.2.2 (by decide))).trans (onw_p (by dsimp only; exact ⟨by omega, Or.inr ⟨by omega, by omega, y261.2⟩⟩))) (flw1 (by rw [c1]; decide)) (by repeat' (first | assumption | exact FW.rf | refine FW.up ?_ (by unfold wS; omega) | (refine FW.tr ?_ (by assumption)))) (by (try simp (disch := decide) only [upI_eq, upI_a, upI_i, upR_eq, upR_a, upR_i]); try assumption) (by (try simp (disch := decide) only [upI_eq, upI_a, upI_i, upR_eq, upR_a, upR_i]); try assumption) (by simp (disch := decide) only [scX, upI_eq, upI_a, upI_i, upR_eq, upR_a, upR_i, upI_ro, upI_rw, up1_same, up1_eq, ht, E1, E2, E3, E4, E5, E6, E7])) | (exact st _ ((tsH_24s c1 (by dsimp only; omega)).trans (onw_p (by dsimp only; omega))) (by repeat' (first | assumption | exact FW.rf | refine FW.up ?_ (by unfold wS; omega) | (refine FW.tr ?_ (by assumption)))) (by (try simp (disch := decide) only [upI_eq, upI_a, upI_i, upR_eq, upR_a, upR_i]); try assumption) (by (try simp (disch := decide) only [upI_eq, upI_a, upI_i, upR_eq, upR_a, upR_i]); try assumption)) | (exact no _ ((tsH_24 c1).trans (onw_n (by intro h; dsimp only at h; omega))) (by repeat' (first | assumption | exact FW.rf | refine FW.up ?_ (by unfold wS; omega) | (refine FW.tr ?_ (by assumption)))) (by (try simp (disch := decide) only [upI_eq, upI_a, upI_i, upR_eq, upR_a, upR_i]); try assumption))
                        · skip
                          refine s255_264.mpr ?_
                          refine (s255_583).mpr ?_
                          first | (exfalso; omega) | (exact ok _ _ _ ((tsH_24n c1 (by dsimp only; intro h6; rw [h6] at y179; exact absurd y179.2.2 (by decide))).trans (onw_p (by dsimp only; exact ⟨by omega, Or.inr ⟨by omega, by omega, y261.2⟩⟩))) (flw1 (by rw [c1]; decide)) (by repeat' (first | assumption | exact FW.rf | refine FW.up ?_ (by unfold wS; omega) | (refine FW.tr ?_ (by assumption)))) (by (try simp (disch := decide) only [upI_eq, upI_a, upI_i, upR_eq, upR_a, upR_i]); try assumption) (by (try simp (disch := decide) only [upI_eq, upI_a, upI_i, upR_eq, upR_a, upR_i]); try assumption) (by simp (disch := decide) only [scX, upI_eq, upI_a, upI_i, upR_eq, upR_a, upR_i, upI_ro, upI_rw, up1_same, up1_eq, ht, E1, E2, E3, E4, E5, E6, E7])) | (exact st _ ((tsH_24s c1 (by dsimp only; omega)).trans (onw_p (by dsimp only; omega))) (by repeat' (first | assumption | exact FW.rf | refine FW.up ?_ (by unfold wS; omega) | (refine FW.tr ?_ (by assumption)))) (by (try simp (disch := decide) only [upI_eq, upI_a, upI_i, upR_eq, upR_a, upR_i]); try assumption) (by (try simp (disch := decide) only [upI_eq, upI_a, upI_i, upR_eq, upR_a, upR_i]); try assumption)) | (exact no _ ((tsH_24 c1).trans (onw_n (by intro h; dsimp only at h; omega))) (by repeat' (first | assumption | exact FW.rf | refine FW.up ?_ (by unfold wS; omega) | (refine FW.tr ?_ (by assumption)))) (by (try simp (disch := decide) only [upI_eq, upI_a, upI_i, upR_eq, upR_a, upR_i]); try assumption))
              · first
                | (exfalso; omega)
                | skip
                  refine s255_226.mpr ?_
                  refine (s255_227 (by omega) kM).mpr ?_
                  refine m_wants hA (by omega) (by (try simp (disch := decide) only [upI_eq, upI_a, upI_i, upR_eq, upR_a, upR_i]); first | assumption | rfl) (by omega) (fun y227 => ?_) (fun y227 => ?_)
                  · skip
                    refine s255_230.mpr ?_
                    refine (s255_231 kM).mpr ?_
                    try simp (disch := first | decide | assumption | omega) only [kon, knt_some, knt_none, Option.toList_some, Option.toList_none, List.cons_append, List.nil_append, upI_eq, upI_a, upI_i, upR_eq, upR_a, upR_i, h36, ht, E1, E2, E3, E4, E5, E6, E7, fAdd_id, fSub_id, fMul_id, m2a, m2b]
                    refine s255_234.mpr (wif (fun c234 => ?_) (fun c234 => ?_))
                    · first
                      | (exfalso; omega)
                      | skip
                        refine (s255_583).mpr ?_
                        first | (exfalso; omega) | (exact ok _ _ _ ((tsH_24n c1 (by dsimp only; intro h6; rw [h6] at y179; exact absurd y179.2.2 (by decide))).trans (onw_p (by dsimp only; exact ⟨by omega, Or.inr ⟨by omega, by omega, y261.2⟩⟩))) (flw1 (by rw [c1]; decide)) (by repeat' (first | assumption | exact FW.rf | refine FW.up ?_ (by unfold wS; omega) | (refine FW.tr ?_ (by assumption)))) (by (try simp (disch := decide) only [upI_eq, upI_a, upI_i, upR_eq, upR_a, upR_i]); try assumption) (by (try simp (disch := decide) only [upI_eq, upI_a, upI_i, upR_eq, upR_a, upR_i]); try assumption) (by simp (disch := decide) only [scX, upI_eq, upI_a, upI_i, upR_eq, upR_a, upR_i, upI_ro, upI_rw, up1_same, up1_eq, ht, E1, E2, E3, E4, E5, E6, E7])) | (exact st _ ((tsH_24s c1 (by dsimp only; omega)).trans (onw_p (by dsimp only; omega))) (by repeat' (first | assumption | exact FW.rf | refine FW.up ?_ (by unfold wS; omega) | (refine FW.tr ?_ (by assumption)))) (by (try simp (disch := decide) only [upI_eq, upI_a, upI_i, upR_eq, upR_a, upR_i]); try assumption) (by (try simp (disch := decide) only [upI_eq, upI_a, upI_i, upR_eq, upR_a, upR_i]); try assumption)) | (exact no _ ((tsH_24 c1).trans (onw_n (by intro h; dsimp only at h; omega))) (by repeat' (first | assumption | exact FW.rf | refine FW.up ?_ (by unfold wS; omega) | (refine FW.tr ?_ (by assumption)))) (by (try simp (disch := decide) only [upI_eq, upI_a, upI_i, upR_eq, upR_a, upR_i]); try assumption))
                    · first
                      | (exfalso; omega)
                      | skip
                        refine s255_237.mpr (s255_238.mpr (s255_240.mpr ((s255_241 kM).mpr ?_)))
                        rw [mr_10 hR]
                        refine s255_244.mpr (s255_246.mpr (s255_247.mpr (s255_248.mpr (s255_250.mpr ?_))))
                        try simp (disch := first | decide | assumption | omega) only [kon, knt_some, knt_none, Option.toList_some, Option.toList_none, List.cons_append, List.nil_append, upI_eq, upI_a, upI_i, upR_eq, upR_a, upR_i, h36, ht, E1, E2, E3, E4, E5, E6, E7, fAdd_id, fSub_id, fMul_id, m2a, m2b]
                        refine (s255_252 (by omega)).mpr ?_
                        refine (m_which (vT_rng (hv75 _ (by omega) (by omega)))).mpr ?_
                        refine s255_255.mpr (s255_256.mpr (s255_257.mpr (s255_259.mpr ?_)))
                        try simp (disch := first | decide | assumption | omega) only [kon, knt_some, knt_none, Option.toList_some, Option.toList_none, List.cons_append, List.nil_append, upI_eq, upI_a, upI_i, upR_eq, upR_a, upR_i, h36, ht, E1, E2, E3, E4, E5, E6, E7, fAdd_id, fSub_id, fMul_id, m2a, m2b]
                        refine (s255_260 (hA.k (by decide) (by decide) rfl) (by first | assumption | omega) (by first | assumption | omega)).mpr ?_
                        try simp (disch := first | decide | assumption | omega) only [kon, knt_some, knt_none, Option.toList_some, Option.toList_none, List.cons_append, List.nil_append, upI_eq, upI_a, upI_i, upR_eq, upR_a, upR_i, h36, ht, E1, E2, E3, E4, E5, E6, E7, fAdd_id, fSub_id, fMul_id, m2a, m2b]
                        refine (s255_261 (by omega) kM).mpr ?_
                        refine m_fits hA hR (by omega) (by (try simp (disch := decide) only [upI_eq, upI_a, upI_i, upR_eq, upR_a, upR_i]); first | assumption | rfl) (by omega) (fun y261 => ?_) (fun y261 => ?_)
                        · skip
                          refine s255_264.mpr ?_
                          refine (s255_583).mpr ?_
                          first | (exfalso; omega) | (exact ok _ _ _ ((tsH_24n c1 (by dsimp only; intro h6; rw [h6] at y179; exact absurd y179.2.2 (by decide))).trans (onw_p (by dsimp only; exact ⟨by omega, Or.inr ⟨by omega, by omega, y261.2⟩⟩))) (flw1 (by rw [c1]; decide)) (by repeat' (first | assumption | exact FW.rf | refine FW.up ?_ (by unfold wS; omega) | (refine FW.tr ?_ (by assumption)))) (by (try simp (disch := decide) only [upI_eq, upI_a, upI_i, upR_eq, upR_a, upR_i]); try assumption) (by (try simp (disch := decide) only [upI_eq, upI_a, upI_i, upR_eq, upR_a, upR_i]); try assumption) (by simp (disch := decide) only [scX, upI_eq, upI_a, upI_i, upR_eq, upR_a, upR_i, upI_ro, upI_rw, up1_same, up1_eq, ht, E1, E2, E3, E4, E5, E6, E7])) | (exact st _ ((tsH_24s c1 (by dsimp only; omega)).trans (onw_p (by dsimp only; omega))) (by repeat' (first | assumption | exact FW.rf | refine FW.up ?_ (by unfold wS; omega) | (refine FW.tr ?_ (by assumption)))) (by (try simp (disch := decide) only [upI_eq, upI_a, upI_i, upR_eq, upR_a, upR_i]); try assumption) (by (try simp (disch := decide) only [upI_eq, upI_a, upI_i, upR_eq, upR_a, upR_i]); try assumption)) | (exact no _ ((tsH_24 c1).trans (onw_n (by intro h; dsimp only at h; omega))) (by repeat' (first | assumption | exact FW.rf | refine FW.up ?_ (by unfold wS; omega) | (refine FW.tr ?_ (by assumption)))) (by (try simp (disch := decide) only [upI_eq, upI_a, upI_i, upR_eq, upR_a, upR_i]); try assumption))
                        · skip
                          refine s255_264.mpr ?_
                          refine (s255_583).mpr ?_
                          first | (exfalso; omega) | (exact ok _ _ _ ((tsH_24n c1 (by dsimp only; intro h6; rw [h6] at y179; exact absurd y179.2.2 (by decide))).trans (onw_p (by dsimp only; exact ⟨by omega, Or.inr ⟨by omega, by omega, y261.2⟩⟩))) (flw1 (by rw [c1]; decide)) (by repeat' (first | assumption | exact FW.rf | refine FW.up ?_ (by unfold wS; omega) | (refine FW.tr ?_ (by assumption)))) (by (try simp (disch := decide) only [upI_eq, upI_a, upI_i, upR_eq, upR_a, upR_i]); try assumption) (by (try simp (disch := decide) only [upI_eq, upI_a, upI_i, upR_eq, upR_a, upR_i]); try assumption) (by simp (disch := decide) only [scX, upI_eq, upI_a, upI_i, upR_eq, upR_a, upR_i, upI_ro, upI_rw, up1_same, up1_eq, ht, E1, E2, E3, E4, E5, E6, E7])) | (exact st _ ((tsH_24s c1 (by dsimp only; omega)).trans (onw_p (by dsimp only; omega))) (by repeat' (first | assumption | exact FW.rf | refine FW.up ?_ (by unfold wS; omega) | (refine FW.tr ?_ (by assumption)))) (by (try simp (disch := decide) only [upI_eq, upI_a, upI_i, upR_eq, upR_a, upR_i]); try assumption) (by (try simp (disch := decide) only [upI_eq, upI_a, upI_i, upR_eq, upR_a, upR_i]); try assumption)) | (exact no _ ((tsH_24 c1).trans (onw_n (by intro h; dsimp only at h; omega))) (by repeat' (first | assumption | exact FW.rf | refine FW.up ?_ (by unfold wS; omega) | (refine FW.tr ?_ (by assumption)))) (by (try simp (disch := decide) only [upI_eq, upI_a, upI_i, upR_eq, upR_a, upR_i]); try assumption))
                  · skip
                    refine s255_230.mpr ?_
                    refine (s255_231 kM).mpr ?_
                    try simp (disch := first | decide | assumption | omega) only [kon, knt_some, knt_none, Option.toList_some, Option.toList_none, List.cons_append, List.nil_append, upI_eq, upI_a, upI_i, upR_eq, upR_a, upR_i, h36, ht, E1, E2, E3, E4, E5, E6, E7, fAdd_id, fSub_id, fMul_id, m2a, m2b]
                    refine s255_234.mpr (wif (fun c234 => ?_) (fun c234 => ?_))
                    · first
                      | (exfalso; omega)
                      | skip
                        refine (s255_583).mpr ?_
                        first | (exfalso; omega) | (exact ok _ _ _ ((tsH_24n c1 (by dsimp only; intro h6; rw [h6] at y179; exact absurd y179.2.2 (by decide))).trans (onw_p (by dsimp only; exact ⟨by omega, Or.inr ⟨by omega, by omega, y261.2⟩⟩))) (flw1 (by rw [c1]; decide)) (by repeat' (first | assumption | exact FW.rf | refine FW.up ?_ (by unfold wS; omega) | (refine FW.tr ?_ (by assumption)))) (by (try simp (disch := decide) only [upI_eq, upI_a, upI_i, upR_eq, upR_a, upR_i]); try assumption) (by (try simp (disch := decide) only [upI_eq, upI_a, upI_i, upR_eq, upR_a, upR_i]); try assumption) (by simp (disch := decide) only [scX, upI_eq, upI_a, upI_i, upR_eq, upR_a, upR_i, upI_ro, upI_rw, up1_same, up1_eq, ht, E1, E2, E3, E4, E5, E6, E7])) | (exact st _ ((tsH_24s c1 (by dsimp only; omega)).trans (onw_p (by dsimp only; omega))) (by repeat' (first | assumption | exact FW.rf | refine FW.up ?_ (by unfold wS; omega) | (refine FW.tr ?_ (by assumption)))) (by (try simp (disch := decide) only [upI_eq, upI_a, upI_i, upR_eq, upR_a, upR_i]); try assumption) (by (try simp (disch := decide) only [upI_eq, upI_a, upI_i, upR_eq, upR_a, upR_i]); try assumption)) | (exact no _ ((tsH_24 c1).trans (onw_n (by intro h; dsimp only at h; omega))) (by repeat' (first | assumption | exact FW.rf | refine FW.up ?_ (by unfold wS; omega) | (refine FW.tr ?_ (by assumption)))) (by (try simp (disch := decide) only [upI_eq, upI_a, upI_i, upR_eq, upR_a, upR_i]); try assumption))
                    · first
                      | (exfalso; omega)
                      | skip
                        refine s255_237.mpr (s255_238.mpr (s255_240.mpr ((s255_241 kM).mpr ?_)))
                        rw [mr_10 hR]
                        refine s255_244.mpr (s255_246.mpr (s255_247.mpr (s255_248.mpr (s255_250.mpr ?_))))
                        try simp (disch := first | decide | assumption | omega) only [kon, knt_some, knt_none, Option.toList_some, Option.toList_none, List.cons_append, List.nil_append, upI_eq, upI_a, upI_i, upR_eq, upR_a, upR_i, h36, ht, E1, E2, E3, E4, E5, E6, E7, fAdd_id, fSub_id, fMul_id, m2a, m2b]
                        refine (s255_252 (by omega)).mpr ?_
                        refine (m_which (vT_rng (hv75 _ (by omega) (by omega)))).mpr ?_
                        refine s255_255.mpr (s255_256.mpr (s255_257.mpr (s255_259.mpr ?_)))
                        try simp (disch := first | decide | assumption | omega) only [kon, knt_some, knt_none, Option.toList_some, Option.toList_none, List.cons_append, List.nil_append, upI_eq, upI_a, upI_i, upR_eq, upR_a, upR_i, h36, ht, E1, E2, E3, E4, E5, E6, E7, fAdd_id, fSub_id, fMul_id, m2a, m2b]
                        refine (s255_260 (hA.k (by decide) (by decide) rfl) (by first | assumption | omega) (by first | assumption | omega)).mpr ?_
                        try simp (disch := first | decide | assumption | omega) only [kon, knt_some, knt_none, Option.toList_some, Option.toList_none, List.cons_append, List.nil_append, upI_eq, upI_a, upI_i, upR_eq, upR_a, upR_i, h36, ht, E1, E2, E3, E4, E5, E6, E7, fAdd_id, fSub_id, fMul_id, m2a, m2b]
                        refine (s255_261 (by omega) kM).mpr ?_
                        refine m_fits hA hR (by omega) (by (try simp (disch := decide) only [upI_eq, upI_a, upI_i, upR_eq, upR_a, upR_i]); first | assumption | rfl) (by omega) (fun y261 => ?_) (fun y261 => ?_)
                        · skip
                          refine s255_264.mpr ?_
                          refine (s255_583).mpr ?_
                          first | (exfalso; omega) | (exact ok _ _ _ ((tsH_24n c1 (by dsimp only; intro h6; rw [h6] at y179; exact absurd y179.2.2 (by decide))).trans (onw_p (by dsimp only; exact ⟨by omega, Or.inr ⟨by omega, by omega, y261.2⟩⟩))) (flw1 (by rw [c1]; decide)) (by repeat' (first | assumption | exact FW.rf | refine FW.up ?_ (by unfold wS; omega) | (refine FW.tr ?_ (by assumption)))) (by (try simp (disch := decide) only [upI_eq, upI_a, upI_i, upR_eq, upR_a, upR_i]); try assumption) (by (try simp (disch := decide) only [upI_eq, upI_a, upI_i, upR_eq, upR_a, upR_i]); try assumption) (by simp (disch := decide) only [scX, upI_eq, upI_a, upI_i, upR_eq, upR_a, upR_i, upI_ro, upI_rw, up1_same, up1_eq, ht, E1, E2, E3, E4, E5, E6, E7])) | (exact st _ ((tsH_24s c1 (by dsimp only; omega)).trans (onw_p (by dsimp only; omega))) (by repeat' (first | assumption | exact FW.rf | refine FW.up ?_ (by unfold wS; omega) | (refine FW.tr ?_ (by assumption)))) (by (try simp (disch := decide) only [upI_eq, upI_a, upI_i, upR_eq, upR_a, upR_i]); try assumption) (by (try simp (disch := decide) only [upI_eq, upI_a, upI_i, upR_eq, upR_a, upR_i]); try assumption)) | (exact no _ ((tsH_24 c1).trans (onw_n (by intro h; dsimp only at h; omega))) (by repeat' (first | assumption | exact FW.rf | refine FW.up ?_ (by unfold wS; omega) | (refine FW.tr ?_ (by assumption)))) (by (try simp (disch := decide) only [upI_eq, upI_a, upI_i, upR_eq, upR_a, upR_i]); try assumption))
                        · skip
                          refine s255_264.mpr ?_
                          refine (s255_583).mpr ?_
                          first | (exfalso; omega) | (exact ok _ _ _ ((tsH_24n c1 (by dsimp only; intro h6; rw [h6] at y179; exact absurd y179.2.2 (by decide))).trans (onw_p (by dsimp only; exact ⟨by omega, Or.inr ⟨by omega, by omega, y261.2⟩⟩))) (flw1 (by rw [c1]; decide)) (by repeat' (first | assumption | exact FW.rf | refine FW.up ?_ (by unfold wS; omega) | (refine FW.tr ?_ (by assumption)))) (by (try simp (disch := decide) only [upI_eq, upI_a, upI_i, upR_eq, upR_a, upR_i]); try assumption) (by (try simp (disch := decide) only [upI_eq, upI_a, upI_i, upR_eq, upR_a, upR_i]); try assumption) (by simp (disch := decide) only [scX, upI_eq, upI_a, upI_i, upR_eq, upR_a, upR_i, upI_ro, upI_rw, up1_same, up1_eq, ht, E1, E2, E3, E4, E5, E6, E7])) | (exact st _ ((tsH_24s c1 (by dsimp only; omega)).trans (onw_p (by dsimp only; omega))) (by repeat' (first | assumption | exact FW.rf | refine FW.up ?_ (by unfold wS; omega) | (refine FW.tr ?_ (by assumption)))) (by (try simp (disch := decide) only [upI_eq, upI_a, upI_i, upR_eq, upR_a, upR_i]); try assumption) (by (try simp (disch := decide) only [upI_eq, upI_a, upI_i, upR_eq, upR_a, upR_i]); try assumption)) | (exact no _ ((tsH_24 c1).trans (onw_n (by intro h; dsimp only at h; omega))) (by repeat' (first | assumption | exact FW.rf | refine FW.up ?_ (by unfold wS; omega) | (refine FW.tr ?_ (by assumption)))) (by (try simp (disch := decide) only [upI_eq, upI_a, upI_i, upR_eq, upR_a, upR_i]); try assumption))
      · first
        | (exfalso; omega)
        | skip
          refine s255_191.mpr ?_
          refine (s255_583).mpr ?_
          first | (exfalso; omega) | (exact ok _ _ _ ((tsH_24n c1 (by dsimp only; intro h6; rw [h6] at y179; exact absurd y179.2.2 (by decide))).trans (onw_p (by dsimp only; exact ⟨by omega, Or.inr ⟨by omega, by omega, y261.2⟩⟩))) (flw1 (by rw [c1]; decide)) (by repeat' (first | assumption | exact FW.rf | refine FW.up ?_ (by unfold wS; omega) | (refine FW.tr ?_ (by assumption)))) (by (try simp (disch := decide) only [upI_eq, upI_a, upI_i, upR_eq, upR_a, upR_i]); try assumption) (by (try simp (disch := decide) only [upI_eq, upI_a, upI_i, upR_eq, upR_a, upR_i]); try assumption) (by simp (disch := decide) only [scX, upI_eq, upI_a, upI_i, upR_eq, upR_a, upR_i, upI_ro, upI_rw, up1_same, up1_eq, ht, E1, E2, E3, E4, E5, E6, E7])) | (exact st _ ((tsH_24s c1 (by dsimp only; omega)).trans (onw_p (by dsimp only; omega))) (by repeat' (first | assumption | exact FW.rf | refine FW.up ?_ (by unfold wS; omega) | (refine FW.tr ?_ (by assumption)))) (by (try simp (disch := decide) only [upI_eq, upI_a, upI_i, upR_eq, upR_a, upR_i]); try assumption) (by (try simp (disch := decide) only [upI_eq, upI_a, upI_i, upR_eq, upR_a, upR_i]); try assumption)) | (exact no _ ((tsH_24 c1).trans (onw_n (by intro h; dsimp only at h; omega))) (by repeat' (first | assumption | exact FW.rf | refine FW.up ?_ (by unfold wS; omega) | (refine FW.tr ?_ (by assumption)))) (by (try simp (disch := decide) only [upI_eq, upI_a, upI_i, upR_eq, upR_a, upR_i]); try assumption))
    · skip
      try simp (disch := decide) only [upI_eq, upI_a, upI_i, upR_eq, upR_a, upR_i, E1, E4] at y179
      try simp (disch := decide) only [upI_eq, upI_a, upI_i, upR_eq, upR_a, upR_i, E1, E4] at x179
      refine s255_182.mpr (s255_184.mpr ?_)
      refine (s255_185 kM).mpr ?_
      try simp (disch := first | decide | assumption | omega) only [kon, knt_some, knt_none, Option.toList_some, Option.toList_none, List.cons_append, List.nil_append, upI_eq, upI_a, upI_i, upR_eq, upR_a, upR_i, h36, ht, E1, E2, E3, E4, E5, E6, E7, fAdd_id, fSub_id, fMul_id, m2a, m2b]
      refine s255_188.mpr (wif (fun c188 => ?_) (fun c188 => ?_))
      · first
        | (exfalso; omega)
        | skip
          refine s255_194.mpr (s255_195.mpr ?_)
          refine (s255_196 kM).mpr ?_
          try simp (disch := first | decide | assumption | omega) only [kon, knt_some, knt_none, Option.toList_some, Option.toList_none, List.cons_append, List.nil_append, upI_eq, upI_a, upI_i, upR_eq, upR_a, upR_i, h36, ht, E1, E2, E3, E4, E5, E6, E7, fAdd_id, fSub_id, fMul_id, m2a, m2b]
          refine s255_199.mpr (wif (fun c199 => ?_) (fun c199 => ?_))
          · first
            | (exfalso; omega)
            | skip
              refine s255_226.mpr ?_
              refine (s255_227 (by omega) kM).mpr ?_
              refine m_wants hA (by omega) (by (try simp (disch := decide) only [upI_eq, upI_a, upI_i, upR_eq, upR_a, upR_i]); first | assumption | rfl) (by omega) (fun y227 => ?_) (fun y227 => ?_)
              · skip
                refine s255_230.mpr ?_
                refine (s255_231 kM).mpr ?_
                try simp (disch := first | decide | assumption | omega) only [kon, knt_some, knt_none, Option.toList_some, Option.toList_none, List.cons_append, List.nil_append, upI_eq, upI_a, upI_i, upR_eq, upR_a, upR_i, h36, ht, E1, E2, E3, E4, E5, E6, E7, fAdd_id, fSub_id, fMul_id, m2a, m2b]
                refine s255_234.mpr (wif (fun c234 => ?_) (fun c234 => ?_))
                · first
                  | (exfalso; omega)
                  | skip
                    refine (s255_583).mpr ?_
                    first | (exfalso; omega) | (exact ok _ _ _ ((tsH_24n c1 (by dsimp only; intro h6; rw [h6] at y179; exact absurd y179.2.2 (by decide))).trans (onw_p (by dsimp only; exact ⟨by omega, Or.inr ⟨by omega, by omega, y261.2⟩⟩))) (flw1 (by rw [c1]; decide)) (by repeat' (first | assumption | exact FW.rf | refine FW.up ?_ (by unfold wS; omega) | (refine FW.tr ?_ (by assumption)))) (by (try simp (disch := decide) only [upI_eq, upI_a, upI_i, upR_eq, upR_a, upR_i]); try assumption) (by (try simp (disch := decide) only [upI_eq, upI_a, upI_i, upR_eq, upR_a, upR_i]); try assumption) (by simp (disch := decide) only [scX, upI_eq, upI_a, upI_i, upR_eq, upR_a, upR_i, upI_ro, upI_rw, up1_same, up1_eq, ht, E1, E2, E3, E4, E5, E6, E7])) | (exact st _ ((tsH_24s c1 (by dsimp only; omega)).trans (onw_p (by dsimp only; omega))) (by repeat' (first | assumption | exact FW.rf | refine FW.up ?_ (by unfold wS; omega) | (refine FW.tr ?_ (by assumption)))) (by (try simp (disch := decide) only [upI_eq, upI_a, upI_i, upR_eq, upR_a, upR_i]); try assumption) (by (try simp (disch := decide) only [upI_eq, upI_a, upI_i, upR_eq, upR_a, upR_i]); try assumption)) | (exact no _ ((tsH_24 c1).trans (onw_n (by intro h; dsimp only at h; omega))) (by repeat' (first | assumption | exact FW.rf | refine FW.up ?_ (by unfold wS; omega) | (refine FW.tr ?_ (by assumption)))) (by (try simp (disch := decide) only [upI_eq, upI_a, upI_i, upR_eq, upR_a, upR_i]); try assumption))
                · first
                  | (exfalso; omega)
                  | skip
                    refine s255_237.mpr (s255_238.mpr (s255_240.mpr ((s255_241 kM).mpr ?_)))
                    rw [mr_10 hR]
                    refine s255_244.mpr (s255_246.mpr (s255_247.mpr (s255_248.mpr (s255_250.mpr ?_))))
                    try simp (disch := first | decide | assumption | omega) only [kon, knt_some, knt_none, Option.toList_some, Option.toList_none, List.cons_append, List.nil_append, upI_eq, upI_a, upI_i, upR_eq, upR_a, upR_i, h36, ht, E1, E2, E3, E4, E5, E6, E7, fAdd_id, fSub_id, fMul_id, m2a, m2b]
                    refine (s255_252 (by omega)).mpr ?_
                    refine (m_which (vT_rng (hv75 _ (by omega) (by omega)))).mpr ?_
                    refine s255_255.mpr (s255_256.mpr (s255_257.mpr (s255_259.mpr ?_)))
                    try simp (disch := first | decide | assumption | omega) only [kon, knt_some, knt_none, Option.toList_some, Option.toList_none, List.cons_append, List.nil_append, upI_eq, upI_a, upI_i, upR_eq, upR_a, upR_i, h36, ht, E1, E2, E3, E4, E5, E6, E7, fAdd_id, fSub_id, fMul_id, m2a, m2b]
                    refine (s255_260 (hA.k (by decide) (by decide) rfl) (by first | assumption | omega) (by first | assumption | omega)).mpr ?_
                    try simp (disch := first | decide | assumption | omega) only [kon, knt_some, knt_none, Option.toList_some, Option.toList_none, List.cons_append, List.nil_append, upI_eq, upI_a, upI_i, upR_eq, upR_a, upR_i, h36, ht, E1, E2, E3, E4, E5, E6, E7, fAdd_id, fSub_id, fMul_id, m2a, m2b]
                    refine (s255_261 (by omega) kM).mpr ?_
                    refine m_fits hA hR (by omega) (by (try simp (disch := decide) only [upI_eq, upI_a, upI_i, upR_eq, upR_a, upR_i]); first | assumption | rfl) (by omega) (fun y261 => ?_) (fun y261 => ?_)
                    · skip
                      refine s255_264.mpr ?_
                      refine (s255_583).mpr ?_
                      first | (exfalso; omega) | (exact ok _ _ _ ((tsH_24n c1 (by dsimp only; intro h6; rw [h6] at y179; exact absurd y179.2.2 (by decide))).trans (onw_p (by dsimp only; exact ⟨by omega, Or.inr ⟨by omega, by omega, y261.2⟩⟩))) (flw1 (by rw [c1]; decide)) (by repeat' (first | assumption | exact FW.rf | refine FW.up ?_ (by unfold wS; omega) | (refine FW.tr ?_ (by assumption)))) (by (try simp (disch := decide) only [upI_eq, upI_a, upI_i, upR_eq, upR_a, upR_i]); try assumption) (by (try simp (disch := decide) only [upI_eq, upI_a, upI_i, upR_eq, upR_a, upR_i]); try assumption) (by simp (disch := decide) only [scX, upI_eq, upI_a, upI_i, upR_eq, upR_a, upR_i, upI_ro, upI_rw, up1_same, up1_eq, ht, E1, E2, E3, E4, E5, E6, E7])) | (exact st _ ((tsH_24s c1 (by dsimp only; omega)).trans (onw_p (by dsimp only; omega))) (by repeat' (first | assumption | exact FW.rf | refine FW.up ?_ (by unfold wS; omega) | (refine FW.tr ?_ (by assumption)))) (by (try simp (disch := decide) only [upI_eq, upI_a, upI_i, upR_eq, upR_a, upR_i]); try assumption) (by (try simp (disch := decide) only [upI_eq, upI_a, upI_i, upR_eq, upR_a, upR_i]); try assumption)) | (exact no _ ((tsH_24 c1).trans (onw_n (by intro h; dsimp only at h; omega))) (by repeat' (first | assumption | exact FW.rf | refine FW.up ?_ (by unfold wS; omega) | (refine FW.tr ?_ (by assumption)))) (by (try simp (disch := decide) only [upI_eq, upI_a, upI_i, upR_eq, upR_a, upR_i]); try assumption))
                    · skip
                      refine s255_264.mpr ?_
                      refine (s255_583).mpr ?_
                      first | (exfalso; omega) | (exact ok _ _ _ ((tsH_24n c1 (by dsimp only; intro h6; rw [h6] at y179; exact absurd y179.2.2 (by decide))).trans (onw_p (by dsimp only; exact ⟨by omega, Or.inr ⟨by omega, by omega, y261.2⟩⟩))) (flw1 (by rw [c1]; decide)) (by repeat' (first | assumption | exact FW.rf | refine FW.up ?_ (by unfold wS; omega) | (refine FW.tr ?_ (by assumption)))) (by (try simp (disch := decide) only [upI_eq, upI_a, upI_i, upR_eq, upR_a, upR_i]); try assumption) (by (try simp (disch := decide) only [upI_eq, upI_a, upI_i, upR_eq, upR_a, upR_i]); try assumption) (by simp (disch := decide) only [scX, upI_eq, upI_a, upI_i, upR_eq, upR_a, upR_i, upI_ro, upI_rw, up1_same, up1_eq, ht, E1, E2, E3, E4, E5, E6, E7])) | (exact st _ ((tsH_24s c1 (by dsimp only; omega)).trans (onw_p (by dsimp only; omega))) (by repeat' (first | assumption | exact FW.rf | refine FW.up ?_ (by unfold wS; omega) | (refine FW.tr ?_ (by assumption)))) (by (try simp (disch := decide) only [upI_eq, upI_a, upI_i, upR_eq, upR_a, upR_i]); try assumption) (by (try simp (disch := decide) only [upI_eq, upI_a, upI_i, upR_eq, upR_a, upR_i]); try assumption)) | (exact no _ ((tsH_24 c1).trans (onw_n (by intro h; dsimp only at h; omega))) (by repeat' (first | assumption | exact FW.rf | refine FW.up ?_ (by unfold wS; omega) | (refine FW.tr ?_ (by assumption)))) (by (try simp (disch := decide) only [upI_eq, upI_a, upI_i, upR_eq, upR_a, upR_i]); try assumption))
              · skip
                refine s255_230.mpr ?_
                refine (s255_231 kM).mpr ?_
                try simp (disch := first | decide | assumption | omega) only [kon, knt_some, knt_none, Option.toList_some, Option.toList_none, List.cons_append, List.nil_append, upI_eq, upI_a, upI_i, upR_eq, upR_a, upR_i, h36, ht, E1, E2, E3, E4, E5, E6, E7, fAdd_id, fSub_id, fMul_id, m2a, m2b]
                refine s255_234.mpr (wif (fun c234 => ?_) (fun c234 => ?_))
                · first
                  | (exfalso; omega)
                  | skip
                    refine (s255_583).mpr ?_
                    first | (exfalso; omega) | (exact ok _ _ _ ((tsH_24n c1 (by dsimp only; intro h6; rw [h6] at y179; exact absurd y179.2.2 (by decide))).trans (onw_p (by dsimp only; exact ⟨by omega, Or.inr ⟨by omega, by omega, y261.2⟩⟩))) (flw1 (by rw [c1]; decide)) (by repeat' (first | assumption | exact FW.rf | refine FW.up ?_ (by unfold wS; omega) | (refine FW.tr ?_ (by assumption)))) (by (try simp (disch := decide) only [upI_eq, upI_a, upI_i, upR_eq, upR_a, upR_i]); try assumption) (by (try simp (disch := decide) only [upI_eq, upI_a, upI_i, upR_eq, upR_a, upR_i]); try assumption) (by simp (disch := decide) only [scX, upI_eq, upI_a, upI_i, upR_eq, upR_a, upR_i, upI_ro, upI_rw, up1_same, up1_eq, ht, E1, E2, E3, E4, E5, E6, E7])) | (exact st _ ((tsH_24s c1 (by dsimp only; omega)).trans (onw_p (by dsimp only; omega))) (by repeat' (first | assumption | exact FW.rf | refine FW.up ?_ (by unfold wS; omega) | (refine FW.tr ?_ (by assumption)))) (by (try simp (disch := decide) only [upI_eq, upI_a, upI_i, upR_eq, upR_a, upR_i]); try assumption) (by (try simp (disch := decide) only [upI_eq, upI_a, upI_i, upR_eq, upR_a, upR_i]); try assumption)) | (exact no _ ((tsH_24 c1).trans (onw_n (by intro h; dsimp only at h; omega))) (by repeat' (first | assumption | exact FW.rf | refine FW.up ?_ (by unfold wS; omega) | (refine FW.tr ?_ (by assumption)))) (by (try simp (disch := decide) only [upI_eq, upI_a, upI_i, upR_eq, upR_a, upR_i]); try assumption))
                · first
                  | (exfalso; omega)
                  | skip
                    refine s255_237.mpr (s255_238.mpr (s255_240.mpr ((s255_241 kM).mpr ?_)))
                    rw [mr_10 hR]
                    refine s255_244.mpr (s255_246.mpr (s255_247.mpr (s255_248.mpr (s255_250.mpr ?_))))
                    try simp (disch := first | decide | assumption | omega) only [kon, knt_some, knt_none, Option.toList_some, Option.toList_none, List.cons_append, List.nil_append, upI_eq, upI_a, upI_i, upR_eq, upR_a, upR_i, h36, ht, E1, E2, E3, E4, E5, E6, E7, fAdd_id, fSub_id, fMul_id, m2a, m2b]
                    refine (s255_252 (by omega)).mpr ?_
                    refine (m_which (vT_rng (hv75 _ (by omega) (by omega)))).mpr ?_
                    refine s255_255.mpr (s255_256.mpr (s255_257.mpr (s255_259.mpr ?_)))
                    try simp (disch := first | decide | assumption | omega) only [kon, knt_some, knt_none, Option.toList_some, Option.toList_none, List.cons_append, List.nil_append, upI_eq, upI_a, upI_i, upR_eq, upR_a, upR_i, h36, ht, E1, E2, E3, E4, E5, E6, E7, fAdd_id, fSub_id, fMul_id, m2a, m2b]
                    refine (s255_260 (hA.k (by decide) (by decide) rfl) (by first | assumption | omega) (by first | assumption | omega)).mpr ?_
                    try simp (disch := first | decide | assumption | omega) only [kon, knt_some, knt_none, Option.toList_some, Option.toList_none, List.cons_append, List.nil_append, upI_eq, upI_a, upI_i, upR_eq, upR_a, upR_i, h36, ht, E1, E2, E3, E4, E5, E6, E7, fAdd_id, fSub_id, fMul_id, m2a, m2b]
                    refine (s255_261 (by omega) kM).mpr ?_
                    refine m_fits hA hR (by omega) (by (try simp (disch := decide) only [upI_eq, upI_a, upI_i, upR_eq, upR_a, upR_i]); first | assumption | rfl) (by omega) (fun y261 => ?_) (fun y261 => ?_)
                    · skip
                      refine s255_264.mpr ?_
                      refine (s255_583).mpr ?_
                      first | (exfalso; omega) | (exact ok _ _ _ ((tsH_24n c1 (by dsimp only; intro h6; rw [h6] at y179; exact absurd y179.2.2 (by decide))).trans (onw_p (by dsimp only; exact ⟨by omega, Or.inr ⟨by omega, by omega, y261.2⟩⟩))) (flw1 (by rw [c1]; decide)) (by repeat' (first | assumption | exact FW.rf | refine FW.up ?_ (by unfold wS; omega) | (refine FW.tr ?_ (by assumption)))) (by (try simp (disch := decide) only [upI_eq, upI_a, upI_i, upR_eq, upR_a, upR_i]); try assumption) (by (try simp (disch := decide) only [upI_eq, upI_a, upI_i, upR_eq, upR_a, upR_i]); try assumption) (by simp (disch := decide) only [scX, upI_eq, upI_a, upI_i, upR_eq, upR_a, upR_i, upI_ro, upI_rw, up1_same, up1_eq, ht, E1, E2, E3, E4, E5, E6, E7])) | (exact st _ ((tsH_24s c1 (by dsimp only; omega)).trans (onw_p (by dsimp only; omega))) (by repeat' (first | assumption | exact FW.rf | refine FW.up ?_ (by unfold wS; omega) | (refine FW.tr ?_ (by assumption)))) (by (try simp (disch := decide) only [upI_eq, upI_a, upI_i, upR_eq, upR_a, upR_i]); try assumption) (by (try simp (disch := decide) only [upI_eq, upI_a, upI_i, upR_eq, upR_a, upR_i]); try assumption)) | (exact no _ ((tsH_24 c1).trans (onw_n (by intro h; dsimp only at h; omega))) (by repeat' (first | assumption | exact FW.rf | refine FW.up ?_ (by unfold wS; omega) | (refine FW.tr ?_ (by assumption)))) (by (try simp (disch := decide) only [upI_eq, upI_a, upI_i, upR_eq, upR_a, upR_i]); try assumption))
                    · skip
                      refine s255_264.mpr ?_
                      refine (s255_583).mpr ?_
                      first | (exfalso; omega) | (exact ok _ _ _ ((tsH_24n c1 (by dsimp only; intro h6; rw [h6] at y179; exact absurd y179.2.2 (by decide))).trans (onw_p (by dsimp only; exact ⟨by omega, Or.inr ⟨by omega, by omega, y261.2⟩⟩))) (flw1 (by rw [c1]; decide)) (by repeat' (first | assumption | exact FW.rf | refine FW.up ?_ (by unfold wS; omega) | (refine FW.tr ?_ (by assumption)))) (by (try simp (disch := decide) only [upI_eq, upI_a, upI_i, upR_eq, upR_a, upR_i]); try assumption) (by (try simp (disch := decide) only [upI_eq, upI_a, upI_i, upR_eq, upR_a, upR_i]); try assumption) (by simp (disch := decide) only [scX, upI_eq, upI_a, upI_i, upR_eq, upR_a, upR_i, upI_ro, upI_rw, up1_same, up1_eq, ht, E1, E2, E3, E4, E5, E6, E7])) | (exact st _ ((tsH_24s c1 (by dsimp only; omega)).trans (onw_p (by dsimp only; omega))) (by repeat' (first | assumption | exact FW.rf | refine FW.up ?_ (by unfold wS; omega) | (refine FW.tr ?_ (by assumption)))) (by (try simp (disch := decide) only [upI_eq, upI_a, upI_i, upR_eq, upR_a, upR_i]); try assumption) (by (try simp (disch := decide) only [upI_eq, upI_a, upI_i, upR_eq, upR_a, upR_i]); try assumption)) | (exact no _ ((tsH_24 c1).trans (onw_n (by intro h; dsimp only at h; omega))) (by repeat' (first | assumption | exact FW.rf | refine FW.up ?_ (by unfold wS; omega) | (refine FW.tr ?_ (by assumption)))) (by (try simp (disch := decide) only [upI_eq, upI_a, upI_i, upR_eq, upR_a, upR_i]); try assumption))
          · first
            | (exfalso; omega)
            | skip
              refine s255_202.mpr (s255_204.mpr ((s255_205 kM).mpr ?_))
              rw [mr_9 hR]
              refine s255_208.mpr (s255_210.mpr (s255_211.mpr (s255_212.mpr ?_)))
              try simp (disch := first | decide | assumption | omega) only [kon, knt_some, knt_none, Option.toList_some, Option.toList_none, List.cons_append, List.nil_append, upI_eq, upI_a, upI_i, upR_eq, upR_a, upR_i, h36, ht, E1, E2, E3, E4, E5, E6, E7, fAdd_id, fSub_id, fMul_id, m2a, m2b]
              refine (s255_214 (by omega)).mpr ?_
              refine (m_which (vT_rng (hv75 _ (by omega) (by omega)))).mpr ?_
              refine s255_217.mpr ?_
              try simp (disch := first | decide | assumption | omega) only [kon, knt_some, knt_none, Option.toList_some, Option.toList_none, List.cons_append, List.nil_append, upI_eq, upI_a, upI_i, upR_eq, upR_a, upR_i, h36, ht, E1, E2, E3, E4, E5, E6, E7, fAdd_id, fSub_id, fMul_id, m2a, m2b]
              refine (s255_218 (hA.k (by decide) (by decide) rfl) (by first | assumption | omega) (by first | assumption | omega)).mpr ?_
              try simp (disch := first | decide | assumption | omega) only [kon, knt_some, knt_none, Option.toList_some, Option.toList_none, List.cons_append, List.nil_append, upI_eq, upI_a, upI_i, upR_eq, upR_a, upR_i, h36, ht, E1, E2, E3, E4, E5, E6, E7, fAdd_id, fSub_id, fMul_id, m2a, m2b]
              refine s255_219.mpr (wif (fun c219 => ?_) (fun c219 => ?_))
              · first
                | (exfalso; omega)
                | skip
                  refine s255_222.mpr (s255_223.mpr ?_)
                  refine (s255_227 (by omega) kM).mpr ?_
                  refine m_wants hA (by omega) (by (try simp (disch := decide) only [upI_eq, upI_a, upI_i, upR_eq, upR_a, upR_i]); first | assumption | rfl) (by omega) (fun y227 => ?_) (fun y227 => ?_)
                  · skip
                    refine s255_230.mpr ?_
                    refine (s255_231 kM).mpr ?_
                    try simp (disch := first | decide | assumption | omega) only [kon, knt_some, knt_none, Option.toList_some, Option.toList_none, List.cons_append, List.nil_append, upI_eq, upI_a, upI_i, upR_eq, upR_a, upR_i, h36, ht, E1, E2, E3, E4, E5, E6, E7, fAdd_id, fSub_id, fMul_id, m2a, m2b]
                    refine s255_234.mpr (wif (fun c234 => ?_) (fun c234 => ?_))
                    · first
                      | (exfalso; omega)
                      | skip
                        refine (s255_583).mpr ?_
                        first | (exfalso; omega) | (exact ok _ _ _ ((tsH_24n c1 (by dsimp only; intro h6; rw [h6] at y179; exact absurd y179.2.2 (by decide))).trans (onw_p (by dsimp only; exact ⟨by omega, Or.inr ⟨by omega, by omega, y261.2⟩⟩))) (flw1 (by rw [c1]; decide)) (by repeat' (first | assumption | exact FW.rf | refine FW.up ?_ (by unfold wS; omega) | (refine FW.tr ?_ (by assumption)))) (by (try simp (disch := decide) only [upI_eq, upI_a, upI_i, upR_eq, upR_a, upR_i]); try assumption) (by (try simp (disch := decide) only [upI_eq, upI_a, upI_i, upR_eq, upR_a, upR_i]); try assumption) (by simp (disch := decide) only [scX, upI_eq, upI_a, upI_i, upR_eq, upR_a, upR_i, upI_ro, upI_rw, up1_same, up1_eq, ht, E1, E2, E3, E4, E5, E6, E7])) | (exact st _ ((tsH_24s c1 (by dsimp only; omega)).trans (onw_p (by dsimp only; omega))) (by repeat' (first | assumption | exact FW.rf | refine FW.up ?_ (by unfold wS; omega) | (refine FW.tr ?_ (by assumption)))) (by (try simp (disch := decide) only [upI_eq, upI_a, upI_i, upR_eq, upR_a, upR_i]); try assumption) (by (try simp (disch := decide) only [upI_eq, upI_a, upI_i, upR_eq, upR_a, upR_i]); try assumption)) | (exact no _ ((tsH_24 c1).trans (onw_n (by intro h; dsimp only at h; omega))) (by repeat' (first | assumption | exact FW.rf | refine FW.up ?_ (by unfold wS; omega) | (refine FW.tr ?_ (by assumption)))) (by (try simp (disch := decide) only [upI_eq, upI_a, upI_i, upR_eq, upR_a, upR_i]); try assumption))
                    · first
                      | (exfalso; omega)
                      | skip
                        refine s255_237.mpr (s255_238.mpr (s255_240.mpr ((s255_241 kM).mpr ?_)))
                        rw [mr_10 hR]
                        refine s255_244.mpr (s255_246.mpr (s255_247.mpr (s255_248.mpr (s255_250.mpr ?_))))
                        try simp (disch := first | decide | assumption | omega) only [kon, knt_some, knt_none, Option.toList_some, Option.toList_none, List.cons_append, List.nil_append, upI_eq, upI_a, upI_i, upR_eq, upR_a, upR_i, h36, ht, E1, E2, E3, E4, E5, E6, E7, fAdd_id, fSub_id, fMul_id, m2a, m2b]
                        refine (s255_252 (by omega)).mpr ?_
                        refine (m_which (vT_rng (hv75 _ (by omega) (by omega)))).mpr ?_
                        refine s255_255.mpr (s255_256.mpr (s255_257.mpr (s255_259.mpr ?_)))
                        try simp (disch := first | decide | assumption | omega) only [kon, knt_some, knt_none, Option.toList_some, Option.toList_none, List.cons_append, List.nil_append, upI_eq, upI_a, upI_i, upR_eq, upR_a, upR_i, h36, ht, E1, E2, E3, E4, E5, E6, E7, fAdd_id, fSub_id, fMul_id, m2a, m2b]
                        refine (s255_260 (hA.k (by decide) (by decide) rfl) (by first | assumption | omega) (by first | assumption | omega)).mpr ?_
                        try simp (disch := first | decide | assumption | omega) only [kon, knt_some, knt_none, Option.toList_some, Option.toList_none, List.cons_append, List.nil_append, upI_eq, upI_a, upI_i, upR_eq, upR_a, upR_i, h36, ht, E1, E2, E3, E4, E5, E6, E7, fAdd_id, fSub_id, fMul_id, m2a, m2b]
                        refine (s255_261 (by omega) kM).mpr ?_
                        refine m_fits hA hR (by omega) (by (try simp (disch := decide) only [upI_eq, upI_a, upI_i, upR_eq, upR_a, upR_i]); first | assumption | rfl) (by omega) (fun y261 => ?_) (fun y261 => ?_)
                        · skip
                          refine s255_264.mpr ?_
                          refine (s255_583).mpr ?_
                          first | (exfalso; omega) | (exact ok _ _ _ ((tsH_24n c1 (by dsimp only; intro h6; rw [h6] at y179; exact absurd y179.2.2 (by decide))).trans (onw_p (by dsimp only; exact ⟨by omega, Or.inr ⟨by omega, by omega, y261.2⟩⟩))) (flw1 (by rw [c1]; decide)) (by repeat' (first | assumption | exact FW.rf | refine FW.up ?_ (by unfold wS; omega) | (refine FW.tr ?_ (by assumption)))) (by (try simp (disch := decide) only [upI_eq, upI_a, upI_i, upR_eq, upR_a, upR_i]); try assumption) (by (try simp (disch := decide) only [upI_eq, upI_a, upI_i, upR_eq, upR_a, upR_i]); try assumption) (by simp (disch := decide) only [scX, upI_eq, upI_a, upI_i, upR_eq, upR_a, upR_i, upI_ro, upI_rw, up1_same, up1_eq, ht, E1, E2, E3, E4, E5, E6, E7])) | (exact st _ ((tsH_24s c1 (by dsimp only; omega)).trans (onw_p (by dsimp only; omega))) (by repeat' (first | assumption | exact FW.rf | refine FW.up ?_ (by unfold wS; omega) | (refine FW.tr ?_ (by assumption)))) (by (try simp (disch := decide) only [upI_eq, upI_a, upI_i, upR_eq, upR_a, upR_i]); try assumption) (by (try simp (disch := decide) only [upI_eq, upI_a, upI_i, upR_eq, upR_a, upR_i]); try assumption)) | (exact no _ ((tsH_24 c1).trans (onw_n (by intro h; dsimp only at h; omega))) (by repeat' (first | assumption | exact FW.rf | refine FW.up ?_ (by unfold wS; omega) | (refine FW.tr ?_ (by assumption)))) (by (try simp (disch := decide) only [upI_eq, upI_a, upI_i, upR_eq, upR_a, upR_i]); try assumption))
                        · skip
                          refine s255_264.mpr ?_
                          refine (s255_583).mpr ?_
                          first | (exfalso; omega) | (exact ok _ _ _ ((tsH_24n c1 (by dsimp only; intro h6; rw [h6] at y179; exact absurd y179.2.2 (by decide))).trans (onw_p (by dsimp only; exact ⟨by omega, Or.inr ⟨by omega, by omega, y261.2⟩⟩))) (flw1 (by rw [c1]; decide)) (by repeat' (first | assumption | exact FW.rf | refine FW.up ?_ (by unfold wS; omega) | (refine FW.tr ?_ (by assumption)))) (by (try simp (disch := decide) only [upI_eq, upI_a, upI_i, upR_eq, upR_a, upR_i]); try assumption) (by (try simp (disch := decide) only [upI_eq, upI_a, upI_i, upR_eq, upR_a, upR_i]); try assumption) (by simp (disch := decide) only [scX, upI_eq, upI_a, upI_i, upR_eq, upR_a, upR_i, upI_ro, upI_rw, up1_same, up1_eq, ht, E1, E2, E3, E4, E5, E6, E7])) | (exact st _ ((tsH_24s c1 (by dsimp only; omega)).trans (onw_p (by dsimp only; omega))) (by repeat' (first | assumption | exact FW.rf | refine FW.up ?_ (by unfold wS; omega) | (refine FW.tr ?_ (by assumption)))) (by (try simp (disch := decide) only [upI_eq, upI_a, upI_i, upR_eq, upR_a, upR_i]); try assumption) (by (try simp (disch := decide) only [upI_eq, upI_a, upI_i, upR_eq, upR_a, upR_i]); try assumption)) | (exact no _ ((tsH_24 c1).trans (onw_n (by intro h; dsimp only at h; omega))) (by repeat' (first | assumption | exact FW.rf | refine FW.up ?_ (by unfold wS; omega) | (refine FW.tr ?_ (by assumption)))) (by (try simp (disch := decide) only [upI_eq, upI_a, upI_i, upR_eq, upR_a, upR_i]); try assumption))
                  · skip
                    refine s255_230.mpr ?_
                    refine (s255_231 kM).mpr ?_
                    try simp (disch := first | decide | assumption | omega) only [kon, knt_some, knt_none, Option.toList_some, Option.toList_none, List.cons_append, List.nil_append, upI_eq, upI_a, upI_i, upR_eq, upR_a, upR_i, h36, ht, E1, E2, E3, E4, E5, E6, E7, fAdd_id, fSub_id, fMul_id, m2a, m2b]
                    refine s255_234.mpr (wif (fun c234 => ?_) (fun c234 => ?_))
                    · first
                      | (exfalso; omega)
                      | skip
                        refine (s255_583).mpr ?_
                        first | (exfalso; omega) | (exact ok _ _ _ ((tsH_24n c1 (by dsimp only; intro h6; rw [h6] at y179; exact absurd y179.2.2 (by decide))).trans (onw_p (by dsimp only; exact ⟨by omega, Or.inr ⟨by omega, by omega, y261.2⟩⟩))) (flw1 (by rw [c1]; decide)) (by repeat' (first | assumption | exact FW.rf | refine FW.up ?_ (by unfold wS; omega) | (refine FW.tr ?_ (by assumption)))) (by (try simp (disch := decide) only [upI_eq, upI_a, upI_i, upR_eq, upR_a, upR_i]); try assumption) (by (try simp (disch := decide) only [upI_eq, upI_a, upI_i, upR_eq, upR_a, upR_i]); try assumption) (by simp (disch := decide) only [scX, upI_eq, upI_a, upI_i, upR_eq, upR_a, upR_i, upI_ro, upI_rw, up1_same, up1_eq, ht, E1, E2, E3, E4, E5, E6, E7])) | (exact st _ ((tsH_24s c1 (by dsimp only; omega)).trans (onw_p (by dsimp only; omega))) (by repeat' (first | assumption | exact FW.rf | refine FW.up ?_ (by unfold wS; omega) | (refine FW.tr ?_ (by assumption)))) (by (try simp (disch := decide) only [upI_eq, upI_a, upI_i, upR_eq, upR_a, upR_i]); try assumption) (by (try simp (disch := decide) only [upI_eq, upI_a, upI_i, upR_eq, upR_a, upR_i]); try assumption)) | (exact no _ ((tsH_24 c1).trans (onw_n (by intro h; dsimp only at h; omega))) (by repeat' (first | assumption | exact FW.rf | refine FW.up ?_ (by unfold wS; omega) | (refine FW.tr ?_ (by assumption)))) (by (try simp (disch := decide) only [upI_eq, upI_a, upI_i, upR_eq, upR_a, upR_i]); try assumption))
                    · first
                      | (exfalso; omega)
                      | skip
                        refine s255_237.mpr (s255_238.mpr (s255_240.mpr ((s255_241 kM).mpr ?_)))
                        rw [mr_10 hR]
                        refine s255_244.mpr (s255_246.mpr (s255_247.mpr (s255_248.mpr (s255_250.mpr ?_))))
                        try simp (disch := first | decide | assumption | omega) only [kon, knt_some, knt_none, Option.toList_some, Option.toList_none, List.cons_append, List.nil_append, upI_eq, upI_a, upI_i, upR_eq, upR_a, upR_i, h36, ht, E1, E2, E3, E4, E5, E6, E7, fAdd_id, fSub_id, fMul_id, m2a, m2b]
                        refine (s255_252 (by omega)).mpr ?_
                        refine (m_which (vT_rng (hv75 _ (by omega) (by omega)))).mpr ?_
                        refine s255_255.mpr (s255_256.mpr (s255_257.mpr (s255_259.mpr ?_)))
                        try simp (disch := first | decide | assumption | omega) only [kon, knt_some, knt_none, Option.toList_some, Option.toList_none, List.cons_append, List.nil_append, upI_eq, upI_a, upI_i, upR_eq, upR_a, upR_i, h36, ht, E1, E2, E3, E4, E5, E6, E7, fAdd_id, fSub_id, fMul_id, m2a, m2b]
                        refine (s255_260 (hA.k (by decide) (by decide) rfl) (by first | assumption | omega) (by first | assumption | omega)).mpr ?_
                        try simp (disch := first | decide | assumption | omega) only [kon, knt_some, knt_none, Option.toList_some, Option.toList_none, List.cons_append, List.nil_append, upI_eq, upI_a, upI_i, upR_eq, upR_a, upR_i, h36, ht, E1, E2, E3, E4, E5, E6, E7, fAdd_id, fSub_id, fMul_id, m2a, m2b]
                        refine (s255_261 (by omega) kM).mpr ?_
                        refine m_fits hA hR (by omega) (by (try simp (disch := decide) only [upI_eq, upI_a, upI_i, upR_eq, upR_a, upR_i]); first | assumption | rfl) (by omega) (fun y261 => ?_) (fun y261 => ?_)
                        · skip
                          refine s255_264.mpr ?_
                          refine (s255_583).mpr ?_
                          first | (exfalso; omega) | (exact ok _ _ _ ((tsH_24n c1 (by dsimp only; intro h6; rw [h6] at y179; exact absurd y179.2.2 (by decide))).trans (onw_p (by dsimp only; exact ⟨by omega, Or.inr ⟨by omega, by omega, y261.2⟩⟩))) (flw1 (by rw [c1]; decide)) (by repeat' (first | assumption | exact FW.rf | refine FW.up ?_ (by unfold wS; omega) | (refine FW.tr ?_ (by assumption)))) (by (try simp (disch := decide) only [upI_eq, upI_a, upI_i, upR_eq, upR_a, upR_i]); try assumption) (by (try simp (disch := decide) only [upI_eq, upI_a, upI_i, upR_eq, upR_a, upR_i]); try assumption) (by simp (disch := decide) only [scX, upI_eq, upI_a, upI_i, upR_eq, upR_a, upR_i, upI_ro, upI_rw, up1_same, up1_eq, ht, E1, E2, E3, E4, E5, E6, E7])) | (exact st _ ((tsH_24s c1 (by dsimp only; omega)).trans (onw_p (by dsimp only; omega))) (by repeat' (first | assumption | exact FW.rf | refine FW.up ?_ (by unfold wS; omega) | (refine FW.tr ?_ (by assumption)))) (by (try simp (disch := decide) only [upI_eq, upI_a, upI_i, upR_eq, upR_a, upR_i]); try assumption) (by (try simp (disch := decide) only [upI_eq, upI_a, upI_i, upR_eq, upR_a, upR_i]); try assumption)) | (exact no _ ((tsH_24 c1).trans (onw_n (by intro h; dsimp only at h; omega))) (by repeat' (first | assumption | exact FW.rf | refine FW.up ?_ (by unfold wS; omega) | (refine FW.tr ?_ (by assumption)))) (by (try simp (disch := decide) only [upI_eq, upI_a, upI_i, upR_eq, upR_a, upR_i]); try assumption))
                        · skip
                          refine s255_264.mpr ?_
                          refine (s255_583).mpr ?_
                          first | (exfalso; omega) | (exact ok _ _ _ ((tsH_24n c1 (by dsimp only; intro h6; rw [h6] at y179; exact absurd y179.2.2 (by decide))).trans (onw_p (by dsimp only; exact ⟨by omega, Or.inr ⟨by omega, by omega, y261.2⟩⟩))) (flw1 (by rw [c1]; decide)) (by repeat' (first | assumption | exact FW.rf | refine FW.up ?_ (by unfold wS; omega) | (refine FW.tr ?_ (by assumption)))) (by (try simp (disch := decide) only [upI_eq, upI_a, upI_i, upR_eq, upR_a, upR_i]); try assumption) (by (try simp (disch := decide) only [upI_eq, upI_a, upI_i, upR_eq, upR_a, upR_i]); try assumption) (by simp (disch := decide) only [scX, upI_eq, upI_a, upI_i, upR_eq, upR_a, upR_i, upI_ro, upI_rw, up1_same, up1_eq, ht, E1, E2, E3, E4, E5, E6, E7])) | (exact st _ ((tsH_24s c1 (by dsimp only; omega)).trans (onw_p (by dsimp only; omega))) (by repeat' (first | assumption | exact FW.rf | refine FW.up ?_ (by unfold wS; omega) | (refine FW.tr ?_ (by assumption)))) (by (try simp (disch := decide) only [upI_eq, upI_a, upI_i, upR_eq, upR_a, upR_i]); try assumption) (by (try simp (disch := decide) only [upI_eq, upI_a, upI_i, upR_eq, upR_a, upR_i]); try assumption)) | (exact no _ ((tsH_24 c1).trans (onw_n (by intro h; dsimp only at h; omega))) (by repeat' (first | assumption | exact FW.rf | refine FW.up ?_ (by unfold wS; omega) | (refine FW.tr ?_ (by assumption)))) (by (try simp (disch := decide) only [upI_eq, upI_a, upI_i, upR_eq, upR_a, upR_i]); try assumption))
              · first
                | (exfalso; omega)
                | skip
                  refine s255_226.mpr ?_
                  refine (s255_227 (by omega) kM).mpr ?_
                  refine m_wants hA (by omega) (by (try simp (disch := decide) only [upI_eq, upI_a, upI_i, upR_eq, upR_a, upR_i]); first | assumption | rfl) (by omega) (fun y227 => ?_) (fun y227 => ?_)
                  · skip
                    refine s255_230.mpr ?_
                    refine (s255_231 kM).mpr ?_
                    try simp (disch := first | decide | assumption | omega) only [kon, knt_some, knt_none, Option.toList_some, Option.toList_none, List.cons_append, List.nil_append, upI_eq, upI_a, upI_i, upR_eq, upR_a, upR_i, h36, ht, E1, E2, E3, E4, E5, E6, E7, fAdd_id, fSub_id, fMul_id, m2a, m2b]
                    refine s255_234.mpr (wif (fun c234 => ?_) (fun c234 => ?_))
                    · first
                      | (exfalso; omega)
                      | skip
                        refine (s255_583).mpr ?_
                        first | (exfalso; omega) | (exact ok _ _ _ ((tsH_24n c1 (by dsimp only; intro h6; rw [h6] at y179; exact absurd y179.2.2 (by decide))).trans (onw_p (by dsimp only; exact ⟨by omega, Or.inr ⟨by omega, by omega, y261.2⟩⟩))) (flw1 (by rw [c1]; decide)) (by repeat' (first | assumption | exact FW.rf | refine FW.up ?_ (by unfold wS; omega) | (refine FW.tr ?_ (by assumption)))) (by (try simp (disch := decide) only [upI_eq, upI_a, upI_i, upR_eq, upR_a, upR_i]); try assumption) (by (try simp (disch := decide) only [upI_eq, upI_a, upI_i, upR_eq, upR_a, upR_i]); try assumption) (by simp (disch := decide) only [scX, upI_eq, upI_a, upI_i, upR_eq, upR_a, upR_i, upI_ro, upI_rw, up1_same, up1_eq, ht, E1, E2, E3, E4, E5, E6, E7])) | (exact st _ ((tsH_24s c1 (by dsimp only; omega)).trans (onw_p (by dsimp only; omega))) (by repeat' (first | assumption | exact FW.rf | refine FW.up ?_ (by unfold wS; omega) | (refine FW.tr ?_ (by assumption)))) (by (try simp (disch := decide) only [upI_eq, upI_a, upI_i, upR_eq, upR_a, upR_i]); try assumption) (by (try simp (disch := decide) only [upI_eq, upI_a, upI_i, upR_eq, upR_a, upR_i]); try assumption)) | (exact no _ ((tsH_24 c1).trans (onw_n (by intro h; dsimp only at h; omega))) (by repeat' (first | assumption | exact FW.rf | refine FW.up ?_ (by unfold wS; omega) | (refine FW.tr ?_ (by assumption)))) (by (try simp (disch := decide) only [upI_eq, upI_a, upI_i, upR_eq, upR_a, upR_i]); try assumption))
                    · first
                      | (exfalso; omega)
                      | skip
                        refine s255_237.mpr (s255_238.mpr (s255_240.mpr ((s255_241 kM).mpr ?_)))
                        rw [mr_10 hR]
                        refine s255_244.mpr (s255_246.mpr (s255_247.mpr (s255_248.mpr (s255_250.mpr ?_))))
                        try simp (disch := first | decide | assumption | omega) only [kon, knt_some, knt_none, Option.toList_some, Option.toList_none, List.cons_append, List.nil_append, upI_eq, upI_a, upI_i, upR_eq, upR_a, upR_i, h36, ht, E1, E2, E3, E4, E5, E6, E7, fAdd_id, fSub_id, fMul_id, m2a, m2b]
                        refine (s255_252 (by omega)).mpr ?_
                        refine (m_which (vT_rng (hv75 _ (by omega) (by omega)))).mpr ?_
                        refine s255_255.mpr (s255_256.mpr (s255_257.mpr (s255_259.mpr ?_)))
                        try simp (disch := first | decide | assumption | omega) only [kon, knt_some, knt_none, Option.toList_some, Option.toList_none, List.cons_append, List.nil_append, upI_eq, upI_a, upI_i, upR_eq, upR_a, upR_i, h36, ht, E1, E2, E3, E4, E5, E6, E7, fAdd_id, fSub_id, fMul_id, m2a, m2b]
                        refine (s255_260 (hA.k (by decide) (by decide) rfl) (by first | assumption | omega) (by first | assumption | omega)).mpr ?_
                        try simp (disch := first | decide | assumption | omega) only [kon, knt_some, knt_none, Option.toList_some, Option.toList_none, List.cons_append, List.nil_append, upI_eq, upI_a, upI_i, upR_eq, upR_a, upR_i, h36, ht, E1, E2, E3, E4, E5, E6, E7, fAdd_id, fSub_id, fMul_id, m2a, m2b]
                        refine (s255_261 (by omega) kM).mpr ?_
                        refine m_fits hA hR (by omega) (by (try simp (disch := decide) only [upI_eq, upI_a, upI_i, upR_eq, upR_a, upR_i]); first | assumption | rfl) (by omega) (fun y261 => ?_) (fun y261 => ?_)
                        · skip
                          refine s255_264.mpr ?_
                          refine (s255_583).mpr ?_
                          first | (exfalso; omega) | (exact ok _ _ _ ((tsH_24n c1 (by dsimp only; intro h6; rw [h6] at y179; exact absurd y179.2.2 (by decide))).trans (onw_p (by dsimp only; exact ⟨by omega, Or.inr ⟨by omega, by omega, y261.2⟩⟩))) (flw1 (by rw [c1]; decide)) (by repeat' (first | assumption | exact FW.rf | refine FW.up ?_ (by unfold wS; omega) | (refine FW.tr ?_ (by assumption)))) (by (try simp (disch := decide) only [upI_eq, upI_a, upI_i, upR_eq, upR_a, upR_i]); try assumption) (by (try simp (disch := decide) only [upI_eq, upI_a, upI_i, upR_eq, upR_a, upR_i]); try assumption) (by simp (disch := decide) only [scX, upI_eq, upI_a, upI_i, upR_eq, upR_a, upR_i, upI_ro, upI_rw, up1_same, up1_eq, ht, E1, E2, E3, E4, E5, E6, E7])) | (exact st _ ((tsH_24s c1 (by dsimp only; omega)).trans (onw_p (by dsimp only; omega))) (by repeat' (first | assumption | exact FW.rf | refine FW.up ?_ (by unfold wS; omega) | (refine FW.tr ?_ (by assumption)))) (by (try simp (disch := decide) only [upI_eq, upI_a, upI_i, upR_eq, upR_a, upR_i]); try assumption) (by (try simp (disch := decide) only [upI_eq, upI_a, upI_i, upR_eq, upR_a, upR_i]); try assumption)) | (exact no _ ((tsH_24 c1).trans (onw_n (by intro h; dsimp only at h; omega))) (by repeat' (first | assumption | exact FW.rf | refine FW.up ?_ (by unfold wS; omega) | (refine FW.tr ?_ (by assumption)))) (by (try simp (disch := decide) only [upI_eq, upI_a, upI_i, upR_eq, upR_a, upR_i]); try assumption))
                        · skip
                          refine s255_264.mpr ?_
                          refine (s255_583).mpr ?_
                          first | (exfalso; omega) | (exact ok _ _ _ ((tsH_24n c1 (by dsimp only; intro h6; rw [h6] at y179; exact absurd y179.2.2 (by decide))).trans (onw_p (by dsimp only; exact ⟨by omega, Or.inr ⟨by omega, by omega, y261.2⟩⟩))) (flw1 (by rw [c1]; decide)) (by repeat' (first | assumption | exact FW.rf | refine FW.up ?_ (by unfold wS; omega) | (refine FW.tr ?_ (by assumption)))) (by (try simp (disch := decide) only [upI_eq, upI_a, upI_i, upR_eq, upR_a, upR_i]); try assumption) (by (try simp (disch := decide) only [upI_eq, upI_a, upI_i, upR_eq, upR_a, upR_i]); try assumption) (by simp (disch := decide) only [scX, upI_eq, upI_a, upI_i, upR_eq, upR_a, upR_i, upI_ro, upI_rw, up1_same, up1_eq, ht, E1, E2, E3, E4, E5, E6, E7])) | (exact st _ ((tsH_24s c1 (by dsimp only; omega)).trans (onw_p (by dsimp only; omega))) (by repeat' (first | assumption | exact FW.rf | refine FW.up ?_ (by unfold wS; omega) | (refine FW.tr ?_ (by assumption)))) (by (try simp (disch := decide) only [upI_eq, upI_a, upI_i, upR_eq, upR_a, upR_i]); try assumption) (by (try simp (disch := decide) only [upI_eq, upI_a, upI_i, upR_eq, upR_a, upR_i]); try assumption)) | (exact no _ ((tsH_24 c1).trans (onw_n (by intro h; dsimp only at h; omega))) (by repeat' (first | assumption | exact FW.rf | refine FW.up ?_ (by unfold wS; omega) | (refine FW.tr ?_ (by assumption)))) (by (try simp (disch := decide) only [upI_eq, upI_a, upI_i, upR_eq, upR_a, upR_i]); try assumption))
                  · skip
                    refine s255_230.mpr ?_
                    refine (s255_231 kM).mpr ?_
                    try simp (disch := first | decide | assumption | omega) only [kon, knt_some, knt_none, Option.toList_some, Option.toList_none, List.cons_append, List.nil_append, upI_eq, upI_a, upI_i, upR_eq, upR_a, upR_i, h36, ht, E1, E2, E3, E4, E5, E6, E7, fAdd_id, fSub_id, fMul_id, m2a, m2b]
                    refine s255_234.mpr (wif (fun c234 => ?_) (fun c234 => ?_))
                    · first
                      | (exfalso; omega)
                      | skip
                        refine (s255_583).mpr ?_
                        first | (exfalso; omega) | (exact ok _ _ _ ((tsH_24n c1 (by dsimp only; intro h6; rw [h6] at y179; exact absurd y179.2.2 (by decide))).trans (onw_p (by dsimp only; exact ⟨by omega, Or.inr ⟨by omega, by omega, y261.2⟩⟩))) (flw1 (by rw [c1]; decide)) (by repeat' (first | assumption | exact FW.rf | refine FW.up ?_ (by unfold wS; omega) | (refine FW.tr ?_ (by assumption)))) (by (try simp (disch := decide) only [upI_eq, upI_a, upI_i, upR_eq, upR_a, upR_i]); try assumption) (by (try simp (disch := decide) only [upI_eq, upI_a, upI_i, upR_eq, upR_a, upR_i]); try assumption) (by simp (disch := decide) only [scX, upI_eq, upI_a, upI_i, upR_eq, upR_a, upR_i, upI_ro, upI_rw, up1_same, up1_eq, ht, E1, E2, E3, E4, E5, E6, E7])) | (exact st _ ((tsH_24s c1 (by dsimp only; omega)).trans (onw_p (by dsimp only; omega))) (by repeat' (first | assumption | exact FW.rf | refine FW.up ?_ (by unfold wS; omega) | (refine FW.tr ?_ (by assumption)))) (by (try simp (disch := decide) only [upI_eq, upI_a, upI_i, upR_eq, upR_a, upR_i]); try assumption) (by (try simp (disch := decide) only [upI_eq, upI_a, upI_i, upR_eq, upR_a, upR_i]); try assumption)) | (exact no _ ((tsH_24 c1).trans (onw_n (by intro h; dsimp only at h; omega))) (by repeat' (first | assumption | exact FW.rf | refine FW.up ?_ (by unfold wS; omega) | (refine FW.tr ?_ (by assumption)))) (by (try simp (disch := decide) only [upI_eq, upI_a, upI_i, upR_eq, upR_a, upR_i]); try assumption))
                    · first
                      | (exfalso; omega)
                      | skip
                        refine s255_237.mpr (s255_238.mpr (s255_240.mpr ((s255_241 kM).mpr ?_)))
                        rw [mr_10 hR]
                        refine s255_244.mpr (s255_246.mpr (s255_247.mpr (s255_248.mpr (s255_250.mpr ?_))))
                        try simp (disch := first | decide | assumption | omega) only [kon, knt_some, knt_none, Option.toList_some, Option.toList_none, List.cons_append, List.nil_append, upI_eq, upI_a, upI_i, upR_eq, upR_a, upR_i, h36, ht, E1, E2, E3, E4, E5, E6, E7, fAdd_id, fSub_id, fMul_id, m2a, m2b]
                        refine (s255_252 (by omega)).mpr ?_
                        refine (m_which (vT_rng (hv75 _ (by omega) (by omega)))).mpr ?_
                        refine s255_255.mpr (s255_256.mpr (s255_257.mpr (s255_259.mpr ?_)))
                        try simp (disch := first | decide | assumption | omega) only [kon, knt_some, knt_none, Option.toList_some, Option.toList_none, List.cons_append, List.nil_append, upI_eq, upI_a, upI_i, upR_eq, upR_a, upR_i, h36, ht, E1, E2, E3, E4, E5, E6, E7, fAdd_id, fSub_id, fMul_id, m2a, m2b]
                        refine (s255_260 (hA.k (by decide) (by decide) rfl) (by first | assumption | omega) (by first | assumption | omega)).mpr ?_
                        try simp (disch := first | decide | assumption | omega) only [kon, knt_some, knt_none, Option.toList_some, Option.toList_none, List.cons_append, List.nil_append, upI_eq, upI_a, upI_i, upR_eq, upR_a, upR_i, h36, ht, E1, E2, E3, E4, E5, E6, E7, fAdd_id, fSub_id, fMul_id, m2a, m2b]
                        refine (s255_261 (by omega) kM).mpr ?_
                        refine m_fits hA hR (by omega) (by (try simp (disch := decide) only [upI_eq, upI_a, upI_i, upR_eq, upR_a, upR_i]); first | assumption | rfl) (by omega) (fun y261 => ?_) (fun y261 => ?_)
                        · skip
                          refine s255_264.mpr ?_
                          refine (s255_583).mpr ?_
                          first | (exfalso; omega) | (exact ok _ _ _ ((tsH_24n c1 (by dsimp only; intro h6; rw [h6] at y179; exact absurd y179.2.2 (by decide))).trans (onw_p (by dsimp only; exact ⟨by omega, Or.inr ⟨by omega, by omega, y261.2⟩⟩))) (flw1 (by rw [c1]; decide)) (by repeat' (first | assumption | exact FW.rf | refine FW.up ?_ (by unfold wS; omega) | (refine FW.tr ?_ (by assumption)))) (by (try simp (disch := decide) only [upI_eq, upI_a, upI_i, upR_eq, upR_a, upR_i]); try assumption) (by (try simp (disch := decide) only [upI_eq, upI_a, upI_i, upR_eq, upR_a, upR_i]); try assumption) (by simp (disch := decide) only [scX, upI_eq, upI_a, upI_i, upR_eq, upR_a, upR_i, upI_ro, upI_rw, up1_same, up1_eq, ht, E1, E2, E3, E4, E5, E6, E7])) | (exact st _ ((tsH_24s c1 (by dsimp only; omega)).trans (onw_p (by dsimp only; omega))) (by repeat' (first | assumption | exact FW.rf | refine FW.up ?_ (by unfold wS; omega) | (refine FW.tr ?_ (by assumption)))) (by (try simp (disch := decide) only [upI_eq, upI_a, upI_i, upR_eq, upR_a, upR_i]); try assumption) (by (try simp (disch := decide) only [upI_eq, upI_a, upI_i, upR_eq, upR_a, upR_i]); try assumption)) | (exact no _ ((tsH_24 c1).trans (onw_n (by intro h; dsimp only at h; omega))) (by repeat' (first | assumption | exact FW.rf | refine FW.up ?_ (by unfold wS; omega) | (refine FW.tr ?_ (by assumption)))) (by (try simp (disch := decide) only [upI_eq, upI_a, upI_i, upR_eq, upR_a, upR_i]); try assumption))
                        · skip
                          refine s255_264.mpr ?_
                          refine (s255_583).mpr ?_
                          first | (exfalso; omega) | (exact ok _ _ _ ((tsH_24n c1 (by dsimp only; intro h6; rw [h6] at y179; exact absurd y179.2.2 (by decide))).trans (onw_p (by dsimp only; exact ⟨by omega, Or.inr ⟨by omega, by omega, y261.2⟩⟩))) (flw1 (by rw [c1]; decide)) (by repeat' (first | assumption | exact FW.rf | refine FW.up ?_ (by unfold wS; omega) | (refine FW.tr ?_ (by assumption)))) (by (try simp (disch := decide) only [upI_eq, upI_a, upI_i, upR_eq, upR_a, upR_i]); try assumption) (by (try simp (disch := decide) only [upI_eq, upI_a, upI_i, upR_eq, upR_a, upR_i]); try assumption) (by simp (disch := decide) only [scX, upI_eq, upI_a, upI_i, upR_eq, upR_a, upR_i, upI_ro, upI_rw, up1_same, up1_eq, ht, E1, E2, E3, E4, E5, E6, E7])) | (exact st _ ((tsH_24s c1 (by dsimp only; omega)).trans (onw_p (by dsimp only; omega))) (by repeat' (first | assumption | exact FW.rf | refine FW.up ?_ (by unfold wS; omega) | (refine FW.tr ?_ (by assumption)))) (by (try simp (disch := decide) only [upI_eq, upI_a, upI_i, upR_eq, upR_a, upR_i]); try assumption) (by (try simp (disch := decide) only [upI_eq, upI_a, upI_i, upR_eq, upR_a, upR_i]); try assumption)) | (exact no _ ((tsH_24 c1).trans (onw_n (by intro h; dsimp only at h; omega))) (by repeat' (first | assumption | exact FW.rf | refine FW.up ?_ (by unfold wS; omega) | (refine FW.tr ?_ (by assumption)))) (by (try simp (disch := decide) only [upI_eq, upI_a, upI_i, upR_eq, upR_a, upR_i]); try assumption))
      · first
        | (exfalso; omega)
        | skip
          refine s255_191.mpr ?_
          refine (s255_583).mpr ?_
          first | (exfalso; omega) | (exact ok _ _ _ ((tsH_24n c1 (by dsimp only; intro h6; rw [h6] at y179; exact absurd y179.2.2 (by decide))).trans (onw_p (by dsimp only; exact ⟨by omega, Or.inr ⟨by omega, by omega, y261.2⟩⟩))) (flw1 (by rw [c1]; decide)) (by repeat' (first | assumption | exact FW.rf | refine FW.up ?_ (by unfold wS; omega) | (refine FW.tr ?_ (by assumption)))) (by (try simp (disch := decide) only [upI_eq, upI_a, upI_i, upR_eq, upR_a, upR_i]); try assumption) (by (try simp (disch := decide) only [upI_eq, upI_a, upI_i, upR_eq, upR_a, upR_i]); try assumption) (by simp (disch := decide) only [scX, upI_eq, upI_a, upI_i, upR_eq, upR_a, upR_i, upI_ro, upI_rw, up1_same, up1_eq, ht, E1, E2, E3, E4, E5, E6, E7])) | (exact st _ ((tsH_24s c1 (by dsimp only; omega)).trans (onw_p (by dsimp only; omega))) (by repeat' (first | assumption | exact FW.rf | refine FW.up ?_ (by unfold wS; omega) | (refine FW.tr ?_ (by assumption)))) (by (try simp (disch := decide) only [upI_eq, upI_a, upI_i, upR_eq, upR_a, upR_i]); try assumption) (by (try simp (disch := decide) only [upI_eq, upI_a, upI_i, upR_eq, upR_a, upR_i]); try assumption)) | (exact no _ ((tsH_24 c1).trans (onw_n (by intro h; dsimp only at h; omega))) (by repeat' (first | assumption | exact FW.rf | refine FW.up ?_ (by unfold wS; omega) | (refine FW.tr ?_ (by assumption)))) (by (try simp (disch := decide) only [upI_eq, upI_a, upI_i, upR_eq, upR_a, upR_i]); try assumption))
    · skip
      try simp (disch := decide) only [upI_eq, upI_a, upI_i, upR_eq, upR_a, upR_i, E1, E4] at y179
      try simp (disch := decide) only [upI_eq, upI_a, upI_i, upR_eq, upR_a, upR_i, E1, E4] at x179
      refine s255_182.mpr (s255_184.mpr ?_)
      refine (s255_185 kM).mpr ?_
      try simp (disch := first | decide | assumption | omega) only [kon, knt_some, knt_none, Option.toList_some, Option.toList_none, List.cons_append, List.nil_append, upI_eq, upI_a, upI_i, upR_eq, upR_a, upR_i, h36, ht, E1, E2, E3, E4, E5, E6, E7, fAdd_id, fSub_id, fMul_id, m2a, m2b]
      refine s255_188.mpr (wif (fun c188 => ?_) (fun c188 => ?_))
      · first
        | (exfalso; omega)
        | skip
          refine s255_194.mpr (s255_195.mpr ?_)
          refine (s255_196 kM).mpr ?_
          try simp (disch := first | decide | assumption | omega) only [kon, knt_some, knt_none, Option.toList_some, Option.toList_none, List.cons_append, List.nil_append, upI_eq, upI_a, upI_i, upR_eq, upR_a, upR_i, h36, ht, E1, E2, E3, E4, E5, E6, E7, fAdd_id, fSub_id, fMul_id, m2a, m2b]
          refine s255_199.mpr (wif (fun c199 => ?_) (fun c199 => ?_))
          · first
            | (exfalso; omega)
            | skip
              refine s255_226.mpr ?_
              refine (s255_227 (by omega) kM).mpr ?_
              refine m_wants hA (by omega) (by (try simp (disch := decide) only [upI_eq, upI_a, upI_i, upR_eq, upR_a, upR_i]); first | assumption | rfl) (by omega) (fun y227 => ?_) (fun y227 => ?_)
              · skip
                refine s255_230.mpr ?_
                refine (s255_231 kM).mpr ?_
                try simp (disch := first | decide | assumption | omega) only [kon, knt_some, knt_none, Option.toList_some, Option.toList_none, List.cons_append, List.nil_append, upI_eq, upI_a, upI_i, upR_eq, upR_a, upR_i, h36, ht, E1, E2, E3, E4, E5, E6, E7, fAdd_id, fSub_id, fMul_id, m2a, m2b]
                refine s255_234.mpr (wif (fun c234 => ?_) (fun c234 => ?_))
                · first
                  | (exfalso; omega)
                  | skip
                    refine (s255_583).mpr ?_
                    first | (exfalso; omega) | (exact ok _ _ _ ((tsH_24n c1 (by dsimp only; intro h6; rw [h6] at y179; exact absurd y179.2.2 (by decide))).trans (onw_p (by dsimp only; exact ⟨by omega, Or.inr ⟨by omega, by omega, y261.2⟩⟩))) (flw1 (by rw [c1]; decide)) (by repeat' (first | assumption | exact FW.rf | refine FW.up ?_ (by unfold wS; omega) | (refine FW.tr ?_ (by assumption)))) (by (try simp (disch := decide) only [upI_eq, upI_a, upI_i, upR_eq, upR_a, upR_i]); try assumption) (by (try simp (disch := decide) only [upI_eq, upI_a, upI_i, upR_eq, upR_a, upR_i]); try assumption) (by simp (disch := decide) only [scX, upI_eq, upI_a, upI_i, upR_eq, upR_a, upR_i, upI_ro, upI_rw, up1_same, up1_eq, ht, E1, E2, E3, E4, E5, E6, E7])) | (exact st _ ((tsH_24s c1 (by dsimp only; omega)).trans (onw_p (by dsimp only; omega))) (by repeat' (first | assumption | exact FW.rf | refine FW.up ?_ (by unfold wS; omega) | (refine FW.tr ?_ (by assumption)))) (by (try simp (disch := decide) only [upI_eq, upI_a, upI_i, upR_eq, upR_a, upR_i]); try assumption) (by (try simp (disch := decide) only [upI_eq, upI_a, upI_i, upR_eq, upR_a, upR_i]); try assumption)) | (exact no _ ((tsH_24 c1).trans (onw_n (by intro h; dsimp only at h; omega))) (by repeat' (first | assumption | exact FW.rf | refine FW.up ?_ (by unfold wS; omega) | (refine FW.tr ?_ (by assumption)))) (by (try simp (disch := decide) only [upI_eq, upI_a, upI_i, upR_eq, upR_a, upR_i]); try assumption))
                · first
                  | (exfalso; omega)
                  | skip
                    refine s255_237.mpr (s255_238.mpr (s255_240.mpr ((s255_241 kM).mpr ?_)))
                    rw [mr_10 hR]
                    refine s255_244.mpr (s255_246.mpr (s255_247.mpr (s255_248.mpr (s255_250.mpr ?_))))
                    try simp (disch := first | decide | assumption | omega) only [kon, knt_some, knt_none, Option.toList_some, Option.toList_none, List.cons_append, List.nil_append, upI_eq, upI_a, upI_i, upR_eq, upR_a, upR_i, h36, ht, E1, E2, E3, E4, E5, E6, E7, fAdd_id, fSub_id, fMul_id, m2a, m2b]
                    refine (s255_252 (by omega)).mpr ?_
                    refine (m_which (vT_rng (hv75 _ (by omega) (by omega)))).mpr ?_
                    refine s255_255.mpr (s255_256.mpr (s255_257.mpr (s255_259.mpr ?_)))
                    try simp (disch := first | decide | assumption | omega) only [kon, knt_some, knt_none, Option.toList_some, Option.toList_none, List.cons_append, List.nil_append, upI_eq, upI_a, upI_i, upR_eq, upR_a, upR_i, h36, ht, E1, E2, E3, E4, E5, E6, E7, fAdd_id, fSub_id, fMul_id, m2a, m2b]
                    refine (s255_260 (hA.k (by decide) (by decide) rfl) (by first | assumption | omega) (by first | assumption | omega)).mpr ?_
                    try simp (disch := first | decide | assumption | omega) only [kon, knt_some, knt_none, Option.toList_some, Option.toList_none, List.cons_append, List.nil_append, upI_eq, upI_a, upI_i, upR_eq, upR_a, upR_i, h36, ht, E1, E2, E3, E4, E5, E6, E7, fAdd_id, fSub_id, fMul_id, m2a, m2b]
                    refine (s255_261 (by omega) kM).mpr ?_
                    refine m_fits hA hR (by omega) (by (try simp (disch := decide) only [upI_eq, upI_a, upI_i, upR_eq, upR_a, upR_i]); first | assumption | rfl) (by omega) (fun y261 => ?_) (fun y261 => ?_)
                    · skip
                      refine s255_264.mpr ?_
                      refine (s255_583).mpr ?_
                      first | (exfalso; omega) | (exact ok _ _ _ ((tsH_24n c1 (by dsimp only; intro h6; rw [h6] at y179; exact absurd y179.2.2 (by decide))).trans (onw_p (by dsimp only; exact ⟨by omega, Or.inr ⟨by omega, by omega, y261.2⟩⟩))) (flw1 (by rw [c1]; decide)) (by repeat' (first | assumption | exact FW.rf | refine FW.up ?_ (by unfold wS; omega) | (refine FW.tr ?_ (by assumption)))) (by (try simp (disch := decide) only [upI_eq, upI_a, upI_i, upR_eq, upR_a, upR_i]); try assumption) (by (try simp (disch := decide) only [upI_eq, upI_a, upI_i, upR_eq, upR_a, upR_i]); try assumption) (by simp (disch := decide) only [scX, upI_eq, upI_a, upI_i, upR_eq, upR_a, upR_i, upI_ro, upI_rw, up1_same, up1_eq, ht, E1, E2, E3, E4, E5, E6, E7])) | (exact st _ ((tsH_24s c1 (by dsimp only; omega)).trans (onw_p (by dsimp only; omega))) (by repeat' (first | assumption | exact FW.rf | refine FW.up ?_ (by unfold wS; omega) | (refine FW.tr ?_ (by assumption)))) (by (try simp (disch := decide) only [upI_eq, upI_a, upI_i, upR_eq, upR_a, upR_i]); try assumption) (by (try simp (disch := decide) only [upI_eq, upI_a, upI_i, upR_eq, upR_a, upR_i]); try assumption)) | (exact no _ ((tsH_24 c1).trans (onw_n (by intro h; dsimp only at h; omega))) (by repeat' (first | assumption | exact FW.rf | refine FW.up ?_ (by unfold wS; omega) | (refine FW.tr ?_ (by assumption)))) (by (try simp (disch := decide) only [upI_eq, upI_a, upI_i, upR_eq, upR_a, upR_i]); try assumption))
                    · skip
                      refine s255_264.mpr ?_
                      refine (s255_583).mpr ?_
                      first | (exfalso; omega) | (exact ok _ _ _ ((tsH_24n c1 (by dsimp only; intro h6; rw [h6] at y179; exact absurd y179.2.2 (by decide))).trans (onw_p (by dsimp only; exact ⟨by omega, Or.inr ⟨by omega, by omega, y261.2⟩⟩))) (flw1 (by rw [c1]; decide)) (by repeat' (first | assumption | exact FW.rf | refine FW.up ?_ (by unfold wS; omega) | (refine FW.tr ?_ (by assumption)))) (by (try simp (disch := decide) only [upI_eq, upI_a, upI_i, upR_eq, upR_a, upR_i]); try assumption) (by (try simp (disch := decide) only [upI_eq, upI_a, upI_i, upR_eq, upR_a, upR_i]); try assumption) (by simp (disch := decide) only [scX, upI_eq, upI_a, upI_i, upR_eq, upR_a, upR_i, upI_ro, upI_rw, up1_same, up1_eq, ht, E1, E2, E3, E4, E5, E6, E7])) | (exact st _ ((tsH_24s c1 (by dsimp only; omega)).trans (onw_p (by dsimp only; omega))) (by repeat' (first | assumption | exact FW.rf | refine FW.up ?_ (by unfold wS; omega) | (refine FW.tr ?_ (by assumption)))) (by (try simp (disch := decide) only [upI_eq, upI_a, upI_i, upR_eq, upR_a, upR_i]); try assumption) (by (try simp (disch := decide) only [upI_eq, upI_a, upI_i, upR_eq, upR_a, upR_i]); try assumption)) | (exact no _ ((tsH_24 c1).trans (onw_n (by intro h; dsimp only at h; omega))) (by repeat' (first | assumption | exact FW.rf | refine FW.up ?_ (by unfold wS; omega) | (refine FW.tr ?_ (by assumption)))) (by (try simp (disch := decide) only [upI_eq, upI_a, upI_i, upR_eq, upR_a, upR_i]); try assumption))
              · skip
                refine s255_230.mpr ?_
                refine (s255_231 kM).mpr ?_
                try simp (disch := first | decide | assumption | omega) only [kon, knt_some, knt_none, Option.toList_some, Option.toList_none, List.cons_append, List.nil_append, upI_eq, upI_a, upI_i, upR_eq, upR_a, upR_i, h36, ht, E1, E2, E3, E4, E5, E6, E7, fAdd_id, fSub_id, fMul_id, m2a, m2b]
                refine s255_234.mpr (wif (fun c234 => ?_) (fun c234 => ?_))
                · first
                  | (exfalso; omega)
                  | skip
                    refine (s255_583).mpr ?_
                    first | (exfalso; omega) | (exact ok _ _ _ ((tsH_24n c1 (by dsimp only; intro h6; rw [h6] at y179; exact absurd y179.2.2 (by decide))).trans (onw_p (by dsimp only; exact ⟨by omega, Or.inr ⟨by omega, by omega, y261.2⟩⟩))) (flw1 (by rw [c1]; decide)) (by repeat' (first | assumption | exact FW.rf | refine FW.up ?_ (by unfold wS; omega) | (refine FW.tr ?_ (by assumption)))) (by (try simp (disch := decide) only [upI_eq, upI_a, upI_i, upR_eq, upR_a, upR_i]); try assumption) (by (try simp (disch := decide) only [upI_eq, upI_a, upI_i, upR_eq, upR_a, upR_i]); try assumption) (by simp (disch := decide) only [scX, upI_eq, upI_a, upI_i, upR_eq, upR_a, upR_i, upI_ro, upI_rw, up1_same, up1_eq, ht, E1, E2, E3, E4, E5, E6, E7])) | (exact st _ ((tsH_24s c1 (by dsimp only; omega)).trans (onw_p (by dsimp only; omega))) (by repeat' (first | assumption | exact FW.rf | refine FW.up ?_ (by unfold wS; omega) | (refine FW.tr ?_ (by assumption)))) (by (try simp (disch := decide) only [upI_eq, upI_a, upI_i, upR_eq, upR_a, upR_i]); try assumption) (by (try simp (disch := decide) only [upI_eq, upI_a, upI_i, upR_eq, upR_a, upR_i]); try assumption)) | (exact no _ ((tsH_24 c1).trans (onw_n (by intro h; dsimp only at h; omega))) (by repeat' (first | assumption | exact FW.rf | refine FW.up ?_ (by unfold wS; omega) | (refine FW.tr ?_ (by assumption)))) (by (try simp (disch := decide) only [upI_eq, upI_a, upI_i, upR_eq, upR_a, upR_i]); try assumption))
                · first
                  | (exfalso; omega)
                  | skip
                    refine s255_237.mpr (s255_238.mpr (s255_240.mpr ((s255_241 kM).mpr ?_)))
                    rw [mr_10 hR]
                    refine s255_244.mpr (s255_246.mpr (s255_247.mpr (s255_248.mpr (s255_250.mpr ?_))))
                    try simp (disch := first | decide | assumption | omega) only [kon, knt_some, knt_none, Option.toList_some, Option.toList_none, List.cons_append, List.nil_append, upI_eq, upI_a, upI_i, upR_eq, upR_a, upR_i, h36, ht, E1, E2, E3, E4, E5, E6, E7, fAdd_id, fSub_id, fMul_id, m2a, m2b]
                    refine (s255_252 (by omega)).mpr ?_
                    refine (m_which (vT_rng (hv75 _ (by omega) (by omega)))).mpr ?_
                    refine s255_255.mpr (s255_256.mpr (s255_257.mpr (s255_259.mpr ?_)))
                    try simp (disch := first | decide | assumption | omega) only [kon, knt_some, knt_none, Option.toList_some, Option.toList_none, List.cons_append, List.nil_append, upI_eq, upI_a, upI_i, upR_eq, upR_a, upR_i, h36, ht, E1, E2, E3, E4, E5, E6, E7, fAdd_id, fSub_id, fMul_id, m2a, m2b]
                    refine (s255_260 (hA.k (by decide) (by decide) rfl) (by first | assumption | omega) (by first | assumption | omega)).mpr ?_
                    try simp (disch := first | decide | assumption | omega) only [kon, knt_some, knt_none, Option.toList_some, Option.toList_none, List.cons_append, List.nil_append, upI_eq, upI_a, upI_i, upR_eq, upR_a, upR_i, h36, ht, E1, E2, E3, E4, E5, E6, E7, fAdd_id, fSub_id, fMul_id, m2a, m2b]
                    refine (s255_261 (by omega) kM).mpr ?_
                    refine m_fits hA hR (by omega) (by (try simp (disch := decide) only [upI_eq, upI_a, upI_i, upR_eq, upR_a, upR_i]); first | assumption | rfl) (by omega) (fun y261 => ?_) (fun y261 => ?_)
                    · skip
                      refine s255_264.mpr ?_
                      refine (s255_583).mpr ?_
                      first | (exfalso; omega) | (exact ok _ _ _ ((tsH_24n c1 (by dsimp only; intro h6; rw [h6] at y179; exact absurd y179.2.2 (by decide))).trans (onw_p (by dsimp only; exact ⟨by omega, Or.inr ⟨by omega, by omega, y261.2⟩⟩))) (flw1 (by rw [c1]; decide)) (by repeat' (first | assumption | exact FW.rf | refine FW.up ?_ (by unfold wS; omega) | (refine FW.tr ?_ (by assumption)))) (by (try simp (disch := decide) only [upI_eq, upI_a, upI_i, upR_eq, upR_a, upR_i]); try assumption) (by (try simp (disch := decide) only [upI_eq, upI_a, upI_i, upR_eq, upR_a, upR_i]); try assumption) (by simp (disch := decide) only [scX, upI_eq, upI_a, upI_i, upR_eq, upR_a, upR_i, upI_ro, upI_rw, up1_same, up1_eq, ht, E1, E2, E3, E4, E5, E6, E7])) | (exact st _ ((tsH_24s c1 (by dsimp only; omega)).trans (onw_p (by dsimp only; omega))) (by repeat' (first | assumption | exact FW.rf | refine FW.up ?_ (by unfold wS; omega) | (refine FW.tr ?_ (by assumption)))) (by (try simp (disch := decide) only [upI_eq, upI_a, upI_i, upR_eq, upR_a, upR_i]); try assumption) (by (try simp (disch := decide) only [upI_eq, upI_a, upI_i, upR_eq, upR_a, upR_i]); try assumption)) | (exact no _ ((tsH_24 c1).trans (onw_n (by intro h; dsimp only at h; omega))) (by repeat' (first | assumption | exact FW.rf | refine FW.up ?_ (by unfold wS; omega) | (refine FW.tr ?_ (by assumption)))) (by (try simp (disch := decide) only [upI_eq, upI_a, upI_i, upR_eq, upR_a, upR_i]); try assumption))
                    · skip
                      refine s255_264.mpr ?_
                      refine (s255_583).mpr ?_
                      first | (exfalso; omega) | (exact ok _ _ _ ((tsH_24n c1 (by dsimp only; intro h6; rw [h6] at y179; exact absurd y179.2.2 (by decide))).trans (onw_p (by dsimp only; exact ⟨by omega, Or.inr ⟨by omega, by omega, y261.2⟩⟩))) (flw1 (by rw [c1]; decide)) (by repeat' (first | assumption | exact FW.rf | refine FW.up ?_ (by unfold wS; omega) | (refine FW.tr ?_ (by assumption)))) (by (try simp (disch := decide) only [upI_eq, upI_a, upI_i, upR_eq, upR_a, upR_i]); try assumption) (by (try simp (disch := decide) only [upI_eq, upI_a, upI_i, upR_eq, upR_a, upR_i]); try assumption) (by simp (disch := decide) only [scX, upI_eq, upI_a, upI_i, upR_eq, upR_a, upR_i, upI_ro, upI_rw, up1_same, up1_eq, ht, E1, E2, E3, E4, E5, E6, E7])) | (exact st _ ((tsH_24s c1 (by dsimp only; omega)).trans (onw_p (by dsimp only; omega))) (by repeat' (first | assumption | exact FW.rf | refine FW.up ?_ (by unfold wS; omega) | (refine FW.tr ?_ (by assumption)))) (by (try simp (disch := decide) only [upI_eq, upI_a, upI_i, upR_eq, upR_a, upR_i]); try assumption) (by (try simp (disch := decide) only [upI_eq, upI_a, upI_i, upR_eq, upR_a, upR_i]); try assumption)) | (exact no _ ((tsH_24 c1).trans (onw_n (by intro h; dsimp only at h; omega))) (by repeat' (first | assumption | exact FW.rf | refine FW.up ?_ (by unfold wS; omega) | (refine FW.tr ?_ (by assumption)))) (by (try simp (disch := decide) only [upI_eq, upI_a, upI_i, upR_eq, upR_a, upR_i]); try assumption))
          · first
            | (exfalso; omega)
            | skip
              refine s255_202.mpr (s255_204.mpr ((s255_205 kM).mpr ?_))
              rw [mr_9 hR]
              refine s255_208.mpr (s255_210.mpr (s255_211.mpr (s255_212.mpr ?_)))
              try simp (disch := first | decide | assumption | omega) only [kon, knt_some, knt_none, Option.toList_some, Option.toList_none, List.cons_append, List.nil_append, upI_eq, upI_a, upI_i, upR_eq, upR_a, upR_i, h36, ht, E1, E2, E3, E4, E5, E6, E7, fAdd_id, fSub_id, fMul_id, m2a, m2b]
              refine (s255_214 (by omega)).mpr ?_
              refine (m_which (vT_rng (hv75 _ (by omega) (by omega)))).mpr ?_
              refine s255_217.mpr ?_
              try simp (disch := first | decide | assumption | omega) only [kon, knt_some, knt_none, Option.toList_some, Option.toList_none, List.cons_append, List.nil_append, upI_eq, upI_a, upI_i, upR_eq, upR_a, upR_i, h36, ht, E1, E2, E3, E4, E5, E6, E7, fAdd_id, fSub_id, fMul_id, m2a, m2b]
              refine (s255_218 (hA.k (by decide) (by decide) rfl) (by first | assumption | omega) (by first | assumption | omega)).mpr ?_
              try simp (disch := first | decide | assumption | omega) only [kon, knt_some, knt_none, Option.toList_some, Option.toList_none, List.cons_append, List.nil_append, upI_eq, upI_a, upI_i, upR_eq, upR_a, upR_i, h36, ht, E1, E2, E3, E4, E5, E6, E7, fAdd_id, fSub_id, fMul_id, m2a, m2b]
              refine s255_219.mpr (wif (fun c219 => ?_) (fun c219 => ?_))
              · first
                | (exfalso; omega)
                | skip
                  refine s255_222.mpr (s255_223.mpr ?_)
                  refine (s255_227 (by omega) kM).mpr ?_
                  refine m_wants hA (by omega) (by (try simp (disch := decide) only [upI_eq, upI_a, upI_i, upR_eq, upR_a, upR_i]); first | assumption | rfl) (by omega) (fun y227 => ?_) (fun y227 => ?_)
                  · skip
                    refine s255_230.mpr ?_
                    refine (s255_231 kM).mpr ?_
                    try simp (disch := first | decide | assumption | omega) only [kon, knt_some, knt_none, Option.toList_some, Option.toList_none, List.cons_append, List.nil_append, upI_eq, upI_a, upI_i, upR_eq, upR_a, upR_i, h36, ht, E1, E2, E3, E4, E5, E6, E7, fAdd_id, fSub_id, fMul_id, m2a, m2b]
                    refine s255_234.mpr (wif (fun c234 => ?_) (fun c234 => ?_))
                    · first
                      | (exfalso; omega)
                      | skip
                        refine (s255_583).mpr ?_
                        first | (exfalso; omega) | (exact ok _ _ _ ((tsH_24n c1 (by dsimp only; intro h6; rw [h6] at y179; exact absurd y179.2.2 (by decide))).trans (onw_p (by dsimp only; exact ⟨by omega, Or.inr ⟨by omega, by omega, y261.2⟩⟩))) (flw1 (by rw [c1]; decide)) (by repeat' (first | assumption | exact FW.rf | refine FW.up ?_ (by unfold wS; omega) | (refine FW.tr ?_ (by assumption)))) (by (try simp (disch := decide) only [upI_eq, upI_a, upI_i, upR_eq, upR_a, upR_i]); try assumption) (by (try simp (disch := decide) only [upI_eq, upI_a, upI_i, upR_eq, upR_a, upR_i]); try assumption) (by simp (disch := decide) only [scX, upI_eq, upI_a, upI_i, upR_eq, upR_a, upR_i, upI_ro, upI_rw, up1_same, up1_eq, ht, E1, E2, E3, E4, E5, E6, E7])) | (exact st _ ((tsH_24s c1 (by dsimp only; omega)).trans (onw_p (by dsimp only; omega))) (by repeat' (first | assumption | exact FW.rf | refine FW.up ?_ (by unfold wS; omega) | (refine FW.tr ?_ (by assumption)))) (by (try simp (disch := decide) only [upI_eq, upI_a, upI_i, upR_eq, upR_a, upR_i]); try assumption) (by (try simp (disch := decide) only [upI_eq, upI_a, upI_i, upR_eq, upR_a, upR_i]); try assumption)) | (exact no _ ((tsH_24 c1).trans (onw_n (by intro h; dsimp only at h; omega))) (by repeat' (first | assumption | exact FW.rf | refine FW.up ?_ (by unfold wS; omega) | (refine FW.tr ?_ (by assumption)))) (by (try simp (disch := decide) only [upI_eq, upI_a, upI_i, upR_eq, upR_a, upR_i]); try assumption))
                    · first
                      | (exfalso; omega)
                      | skip
                        refine s255_237.mpr (s255_238.mpr (s255_240.mpr ((s255_241 kM).mpr ?_)))
                        rw [mr_10 hR]
                        refine s255_244.mpr (s255_246.mpr (s255_247.mpr (s255_248.mpr (s255_250.mpr ?_))))
                        try simp (disch := first | decide | assumption | omega) only [kon, knt_some, knt_none, Option.toList_some, Option.toList_none, List.cons_append, List.nil_append, upI_eq, upI_a, upI_i, upR_eq, upR_a, upR_i, h36, ht, E1, E2, E3, E4, E5, E6, E7, fAdd_id, fSub_id, fMul_id, m2a, m2b]
                        refine (s255_252 (by omega)).mpr ?_
                        refine (m_which (vT_rng (hv75 _ (by omega) (by omega)))).mpr ?_
                        refine s255_255.mpr (s255_256.mpr (s255_257.mpr (s255_259.mpr ?_)))
                        try simp (disch := first | decide | assumption | omega) only [kon, knt_some, knt_none, Option.toList_some, Option.toList_none, List.cons_append, List.nil_append, upI_eq, upI_a, upI_i, upR_eq, upR_a, upR_i, h36, ht, E1, E2, E3, E4, E5, E6, E7, fAdd_id, fSub_id, fMul_id, m2a, m2b]
                        refine (s255_260 (hA.k (by decide) (by decide) rfl) (by first | assumption | omega) (by first | assumption | omega)).mpr ?_
                        try simp (disch := first | decide | assumption | omega) only [kon, knt_some, knt_none, Option.toList_some, Option.toList_none, List.cons_append, List.nil_append, upI_eq, upI_a, upI_i, upR_eq, upR_a, upR_i, h36, ht, E1, E2, E3, E4, E5, E6, E7, fAdd_id, fSub_id, fMul_id, m2a, m2b]
                        refine (s255_261 (by omega) kM).mpr ?_
                        refine m_fits hA hR (by omega) (by (try simp (disch := decide) only [upI_eq, upI_a, upI_i, upR_eq, upR_a, upR_i]); first | assumption | rfl) (by omega) (fun y261 => ?_) (fun y261 => ?_)
                        · skip
                          refine s255_264.mpr ?_
                          refine (s255_583).mpr ?_
                          first | (exfalso; omega) | (exact ok _ _ _ ((tsH_24n c1 (by dsimp only; intro h6; rw [h6] at y179; exact absurd y179.2.2 (by decide))).trans (onw_p (by dsimp only; exact ⟨by omega, Or.inr ⟨by omega, by omega, y261.2⟩⟩))) (flw1 (by rw [c1]; decide)) (by repeat' (first | assumption | exact FW.rf | refine FW.up ?_ (by unfold wS; omega) | (refine FW.tr ?_ (by assumption)))) (by (try simp (disch := decide) only [upI_eq, upI_a, upI_i, upR_eq, upR_a, upR_i]); try assumption) (by (try simp (disch := decide) only [upI_eq, upI_a, upI_i, upR_eq, upR_a, upR_i]); try assumption) (by simp (disch := decide) only [scX, upI_eq, upI_a, upI_i, upR_eq, upR_a, upR_i, upI_ro, upI_rw, up1_same, up1_eq, ht, E1, E2, E3, E4, E5, E6, E7])) | (exact st _ ((tsH_24s c1 (by dsimp only; omega)).trans (onw_p (by dsimp only; omega))) (by repeat' (first | assumption | exact FW.rf | refine FW.up ?_ (by unfold wS; omega) | (refine FW.tr ?_ (by assumption)))) (by (try simp (disch := decide) only [upI_eq, upI_a, upI_i, upR_eq, upR_a, upR_i]); try assumption) (by (try simp (disch := decide) only [upI_eq, upI_a, upI_i, upR_eq, upR_a, upR_i]); try assumption)) | (exact no _ ((tsH_24 c1).trans (onw_n (by intro h; dsimp only at h; omega))) (by repeat' (first | assumption | exact FW.rf | refine FW.up ?_ (by unfold wS; omega) | (refine FW.tr ?_ (by assumption)))) (by (try simp (disch := decide) only [upI_eq, upI_a, upI_i, upR_eq, upR_a, upR_i]); try assumption))
                        · skip
                          refine s255_264.mpr ?_
                          refine (s255_583).mpr ?_
                          first | (exfalso; omega) | (exact ok _ _ _ ((tsH_24n c1 (by dsimp only; intro h6; rw [h6] at y179; exact absurd y179.2.2 (by decide))).trans (onw_p (by dsimp only; exact ⟨by omega, Or.inr ⟨by omega, by omega, y261.2⟩⟩))) (flw1 (by rw [c1]; decide)) (by repeat' (first | assumption | exact FW.rf | refine FW.up ?_ (by unfold wS; omega) | (refine FW.tr ?_ (by assumption)))) (by (try simp (disch := decide) only [upI_eq, upI_a, upI_i, upR_eq, upR_a, upR_i]); try assumption) (by (try simp (disch := decide) only [upI_eq, upI_a, upI_i, upR_eq, upR_a, upR_i]); try assumption) (by simp (disch := decide) only [scX, upI_eq, upI_a, upI_i, upR_eq, upR_a, upR_i, upI_ro, upI_rw, up1_same, up1_eq, ht, E1, E2, E3, E4, E5, E6, E7])) | (exact st _ ((tsH_24s c1 (by dsimp only; omega)).trans (onw_p (by dsimp only; omega))) (by repeat' (first | assumption | exact FW.rf | refine FW.up ?_ (by unfold wS; omega) | (refine FW.tr ?_ (by assumption)))) (by (try simp (disch := decide) only [upI_eq, upI_a, upI_i, upR_eq, upR_a, upR_i]); try assumption) (by (try simp (disch := decide) only [upI_eq, upI_a, upI_i, upR_eq, upR_a, upR_i]); try assumption)) | (exact no _ ((tsH_24 c1).trans (onw_n (by intro h; dsimp only at h; omega))) (by repeat' (first | assumption | exact FW.rf | refine FW.up ?_ (by unfold wS; omega) | (refine FW.tr ?_ (by assumption)))) (by (try simp (disch := decide) only [upI_eq, upI_a, upI_i, upR_eq, upR_a, upR_i]); try assumption))
                  · skip
                    refine s255_230.mpr ?_
                    refine (s255_231 kM).mpr ?_
                    try simp (disch := first | decide | assumption | omega) only [kon, knt_some, knt_none, Option.toList_some, Option.toList_none, List.cons_append, List.nil_append, upI_eq, upI_a, upI_i, upR_eq, upR_a, upR_i, h36, ht, E1, E2, E3, E4, E5, E6, E7, fAdd_id, fSub_id, fMul_id, m2a, m2b]
                    refine s255_234.mpr (wif (fun c234 => ?_) (fun c234 => ?_))
                    · first
                      | (exfalso; omega)
                      | skip
                        refine (s255_583).mpr ?_
                        first | (exfalso; omega) | (exact ok _ _ _ ((tsH_24n c1 (by dsimp only; intro h6; rw [h6] at y179; exact absurd y179.2.2 (by decide))).trans (onw_p (by dsimp only; exact ⟨by omega, Or.inr ⟨by omega, by omega, y261.2⟩⟩))) (flw1 (by rw [c1]; decide)) (by repeat' (first | assumption | exact FW.rf | refine FW.up ?_ (by unfold wS; omega) | (refine FW.tr ?_ (by assumption)))) (by (try simp (disch := decide) only [upI_eq, upI_a, upI_i, upR_eq, upR_a, upR_i]); try assumption) (by (try simp (disch := decide) only [upI_eq, upI_a, upI_i, upR_eq, upR_a, upR_i]); try assumption) (by simp (disch := decide) only [scX, upI_eq, upI_a, upI_i, upR_eq, upR_a, upR_i, upI_ro, upI_rw, up1_same, up1_eq, ht, E1, E2, E3, E4, E5, E6, E7])) | (exact st _ ((tsH_24s c1 (by dsimp only; omega)).trans (onw_p (by dsimp only; omega))) (by repeat' (first | assumption | exact FW.rf | refine FW.up ?_ (by unfold wS; omega) | (refine FW.tr ?_ (by assumption)))) (by (try simp (disch := decide) only [upI_eq, upI_a, upI_i, upR_eq, upR_a, upR_i]); try assumption) (by (try simp (disch := decide) only [upI_eq, upI_a, upI_i, upR_eq, upR_a, upR_i]); try assumption)) | (exact no _ ((tsH_24 c1).trans (onw_n (by intro h; dsimp only at h; omega))) (by repeat' (first | assumption | exact FW.rf | refine FW.up ?_ (by unfold wS; omega) | (refine FW.tr ?_ (by assumption)))) (by (try simp (disch := decide) only [upI_eq, upI_a, upI_i, upR_eq, upR_a, upR_i]); try assumption))
                    · first
                      | (exfalso; omega)
                      | skip
                        refine s255_237.mpr (s255_238.mpr (s255_240.mpr ((s255_241 kM).mpr ?_)))
                        rw [mr_10 hR]
                        refine s255_244.mpr (s255_246.mpr (s255_247.mpr (s255_248.mpr (s255_250.mpr ?_))))
                        try simp (disch := first | decide | assumption | omega) only [kon, knt_some, knt_none, Option.toList_some, Option.toList_none, List.cons_append, List.nil_append, upI_eq, upI_a, upI_i, upR_eq, upR_a, upR_i, h36, ht, E1, E2, E3, E4, E5, E6, E7, fAdd_id, fSub_id, fMul_id, m2a, m2b]
                        refine (s255_252 (by omega)).mpr ?_
                        refine (m_which (vT_rng (hv75 _ (by omega) (by omega)))).mpr ?_
                        refine s255_255.mpr (s255_256.mpr (s255_257.mpr (s255_259.mpr ?_)))
                        try simp (disch := first | decide | assumption | omega) only [kon, knt_some, knt_none, Option.toList_some, Option.toList_none, List.cons_append, List.nil_append, upI_eq, upI_a, upI_i, upR_eq, upR_a, upR_i, h36, ht, E1, E2, E3, E4, E5, E6, E7, fAdd_id, fSub_id, fMul_id, m2a, m2b]
                        refine (s255_260 (hA.k (by decide) (by decide) rfl) (by first | assumption | omega) (by first | assumption | omega)).mpr ?_
                        try simp (disch := first | decide | assumption | omega) only [kon, knt_some, knt_none, Option.toList_some, Option.toList_none, List.cons_append, List.nil_append, upI_eq, upI_a, upI_i, upR_eq, upR_a, upR_i, h36, ht, E1, E2, E3, E4, E5, E6, E7, fAdd_id, fSub_id, fMul_id, m2a, m2b]
                        refine (s255_261 (by omega) kM).mpr ?_
                        refine m_fits hA hR (by omega) (by (try simp (disch := decide) only [upI_eq, upI_a, upI_i, upR_eq, upR_a, upR_i]); first | assumption | rfl) (by omega) (fun y261 => ?_) (fun y261 => ?_)
                        · skip
                          refine s255_264.mpr ?_
                          refine (s255_583).mpr ?_
                          first | (exfalso; omega) | (exact ok _ _ _ ((tsH_24n c1 (by dsimp only; intro h6; rw [h6] at y179; exact absurd y179.2.2 (by decide))).trans (onw_p (by dsimp only; exact ⟨by omega, Or.inr ⟨by omega, by omega, y261.2⟩⟩))) (flw1 (by rw [c1]; decide)) (by repeat' (first | assumption | exact FW.rf | refine FW.up ?_ (by unfold wS; omega) | (refine FW.tr ?_ (by assumption)))) (by (try simp (disch := decide) only [upI_eq, upI_a, upI_i, upR_eq, upR_a, upR_i]); try assumption) (by (try simp (disch := decide) only [upI_eq, upI_a, upI_i, upR_eq, upR_a, upR_i]); try assumption) (by simp (disch := decide) only [scX, upI_eq, upI_a, upI_i, upR_eq, upR_a, upR_i, upI_ro, upI_rw, up1_same, up1_eq, ht, E1, E2, E3, E4, E5, E6, E7])) | (exact st _ ((tsH_24s c1 (by dsimp only; omega)).trans (onw_p (by dsimp only; omega))) (by repeat' (first | assumption | exact FW.rf | refine FW.up ?_ (by unfold wS; omega) | (refine FW.tr ?_ (by assumption)))) (by (try simp (disch := decide) only [upI_eq, upI_a, upI_i, upR_eq, upR_a, upR_i]); try assumption) (by (try simp (disch := decide) only [upI_eq, upI_a, upI_i, upR_eq, upR_a, upR_i]); try assumption)) | (exact no _ ((tsH_24 c1).trans (onw_n (by intro h; dsimp only at h; omega))) (by repeat' (first | assumption | exact FW.rf | refine FW.up ?_ (by unfold wS; omega) | (refine FW.tr ?_ (by assumption)))) (by (try simp (disch := decide) only [upI_eq, upI_a, upI_i, upR_eq, upR_a, upR_i]); try assumption))
                        · skip
                          refine s255_264.mpr ?_
                          refine (s255_583).mpr ?_
                          first | (exfalso; omega) | (exact ok _ _ _ ((tsH_24n c1 (by dsimp only; intro h6; rw [h6] at y179; exact absurd y179.2.2 (by decide))).trans (onw_p (by dsimp only; exact ⟨by omega, Or.inr ⟨by omega, by omega, y261.2⟩⟩))) (flw1 (by rw [c1]; decide)) (by repeat' (first | assumption | exact FW.rf | refine FW.up ?_ (by unfold wS; omega) | (refine FW.tr ?_ (by assumption)))) (by (try simp (disch := decide) only [upI_eq, upI_a, upI_i, upR_eq, upR_a, upR_i]); try assumption) (by (try simp (disch := decide) only [upI_eq, upI_a, upI_i, upR_eq, upR_a, upR_i]); try assumption) (by simp (disch := decide) only [scX, upI_eq, upI_a, upI_i, upR_eq, upR_a, upR_i, upI_ro, upI_rw, up1_same, up1_eq, ht, E1, E2, E3, E4, E5, E6, E7])) | (exact st _ ((tsH_24s c1 (by dsimp only; omega)).trans (onw_p (by dsimp only; omega))) (by repeat' (first | assumption | exact FW.rf | refine FW.up ?_ (by unfold wS; omega) | (refine FW.tr ?_ (by assumption)))) (by (try simp (disch := decide) only [upI_eq, upI_a, upI_i, upR_eq, upR_a, upR_i]); try assumption) (by (try simp (disch := decide) only [upI_eq, upI_a, upI_i, upR_eq, upR_a, upR_i]); try assumption)) | (exact no _ ((tsH_24 c1).trans (onw_n (by intro h; dsimp only at h; omega))) (by repeat' (first | assumption | exact FW.rf | refine FW.up ?_ (by unfold wS; omega) | (refine FW.tr ?_ (by assumption)))) (by (try simp (disch := decide) only [upI_eq, upI_a, upI_i, upR_eq, upR_a, upR_i]); try assumption))
              · first
                | (exfalso; omega)
                | skip
                  refine s255_226.mpr ?_
                  refine (s255_227 (by omega) kM).mpr ?_
                  refine m_wants hA (by omega) (by (try simp (disch := decide) only [upI_eq, upI_a, upI_i, upR_eq, upR_a, upR_i]); first | assumption | rfl) (by omega) (fun y227 => ?_) (fun y227 => ?_)
                  · skip
                    refine s255_230.mpr ?_
                    refine (s255_231 kM).mpr ?_
                    try simp (disch := first | decide | assumption | omega) only [kon, knt_some, knt_none, Option.toList_some, Option.toList_none, List.cons_append, List.nil_append, upI_eq, upI_a, upI_i, upR_eq, upR_a, upR_i, h36, ht, E1, E2, E3, E4, E5, E6, E7, fAdd_id, fSub_id, fMul_id, m2a, m2b]
                    refine s255_234.mpr (wif (fun c234 => ?_) (fun c234 => ?_))
                    · first
                      | (exfalso; omega)
                      | skip
                        refine (s255_583).mpr ?_
                        first | (exfalso; omega) | (exact ok _ _ _ ((tsH_24n c1 (by dsimp only; intro h6; rw [h6] at y179; exact absurd y179.2.2 (by decide))).trans (onw_p (by dsimp only; exact ⟨by omega, Or.inr ⟨by omega, by omega, y261.2⟩⟩))) (flw1 (by rw [c1]; decide)) (by repeat' (first | assumption | exact FW.rf | refine FW.up ?_ (by unfold wS; omega) | (refine FW.tr ?_ (by assumption)))) (by (try simp (disch := decide) only [upI_eq, upI_a, upI_i, upR_eq, upR_a, upR_i]); try assumption) (by (try simp (disch := decide) only [upI_eq, upI_a, upI_i, upR_eq, upR_a, upR_i]); try assumption) (by simp (disch := decide) only [scX, upI_eq, upI_a, upI_i, upR_eq, upR_a, upR_i, upI_ro, upI_rw, up1_same, up1_eq, ht, E1, E2, E3, E4, E5, E6, E7])) | (exact st _ ((tsH_24s c1 (by dsimp only; omega)).trans (onw_p (by dsimp only; omega))) (by repeat' (first | assumption | exact FW.rf | refine FW.up ?_ (by unfold wS; omega) | (refine FW.tr ?_ (by assumption)))) (by (try simp (disch := decide) only [upI_eq, upI_a, upI_i, upR_eq, upR_a, upR_i]); try assumption) (by (try simp (disch := decide) only [upI_eq, upI_a, upI_i, upR_eq, upR_a, upR_i]); try assumption)) | (exact no _ ((tsH_24 c1).trans (onw_n (by intro h; dsimp only at h; omega))) (by repeat' (first | assumption | exact FW.rf | refine FW.up ?_ (by unfold wS; omega) | (refine FW.tr ?_ (by assumption)))) (by (try simp (disch := decide) only [upI_eq, upI_a, upI_i, upR_eq, upR_a, upR_i]); try assumption))
                    · first
                      | (exfalso; omega)
                      | skip
                        refine s255_237.mpr (s255_238.mpr (s255_240.mpr ((s255_241 kM).mpr ?_)))
                        rw [mr_10 hR]
                        refine s255_244.mpr (s255_246.mpr (s255_247.mpr (s255_248.mpr (s255_250.mpr ?_))))
                        try simp (disch := first | decide | assumption | omega) only [kon, knt_some, knt_none, Option.toList_some, Option.toList_none, List.cons_append, List.nil_append, upI_eq, upI_a, upI_i, upR_eq, upR_a, upR_i, h36, ht, E1, E2, E3, E4, E5, E6, E7, fAdd_id, fSub_id, fMul_id, m2a, m2b]
                        refine (s255_252 (by omega)).mpr ?_
                        refine (m_which (vT_rng (hv75 _ (by omega) (by omega)))).mpr ?_
                        refine s255_255.mpr (s255_256.mpr (s255_257.mpr (s255_259.mpr ?_)))
                        try simp (disch := first | decide | assumption | omega) only [kon, knt_some, knt_none, Option.toList_some, Option.toList_none, List.cons_append, List.nil_append, upI_eq, upI_a, upI_i, upR_eq, upR_a, upR_i, h36, ht, E1, E2, E3, E4, E5, E6, E7, fAdd_id, fSub_id, fMul_id, m2a, m2b]
                        refine (s255_260 (hA.k (by decide) (by decide) rfl) (by first | assumption | omega) (by first | assumption | omega)).mpr ?_
                        try simp (disch := first | decide | assumption | omega) only [kon, knt_some, knt_none, Option.toList_some, Option.toList_none, List.cons_append, List.nil_append, upI_eq, upI_a, upI_i, upR_eq, upR_a, upR_i, h36, ht, E1, E2, E3, E4, E5, E6, E7, fAdd_id, fSub_id, fMul_id, m2a, m2b]
                        refine (s255_261 (by omega) kM).mpr ?_
                        refine m_fits hA hR (by omega) (by (try simp (disch := decide) only [upI_eq, upI_a, upI_i, upR_eq, upR_a, upR_i]); first | assumption | rfl) (by omega) (fun y261 => ?_) (fun y261 => ?_)
                        · skip
                          refine s255_264.mpr ?_
                          refine (s255_583).mpr ?_
                          first | (exfalso; omega) | (exact ok _ _ _ ((tsH_24n c1 (by dsimp only; intro h6; rw [h6] at y179; exact absurd y179.2.2 (by decide))).trans (onw_p (by dsimp only; exact ⟨by omega, Or.inr ⟨by omega, by omega, y261.2⟩⟩))) (flw1 (by rw [c1]; decide)) (by repeat' (first | assumption | exact FW.rf | refine FW.up ?_ (by unfold wS; omega) | (refine FW.tr ?_ (by assumption)))) (by (try simp (disch := decide) only [upI_eq, upI_a, upI_i, upR_eq, upR_a, upR_i]); try assumption) (by (try simp (disch := decide) only [upI_eq, upI_a, upI_i, upR_eq, upR_a, upR_i]); try assumption) (by simp (disch := decide) only [scX, upI_eq, upI_a, upI_i, upR_eq, upR_a, upR_i, upI_ro, upI_rw, up1_same, up1_eq, ht, E1, E2, E3, E4, E5, E6, E7])) | (exact st _ ((tsH_24s c1 (by dsimp only; omega)).trans (onw_p (by dsimp only; omega))) (by repeat' (first | assumption | exact FW.rf | refine FW.up ?_ (by unfold wS; omega) | (refine FW.tr ?_ (by assumption)))) (by (try simp (disch := decide) only [upI_eq, upI_a, upI_i, upR_eq, upR_a, upR_i]); try assumption) (by (try simp (disch := decide) only [upI_eq, upI_a, upI_i, upR_eq, upR_a, upR_i]); try assumption)) | (exact no _ ((tsH_24 c1).trans (onw_n (by intro h; dsimp only at h; omega))) (by repeat' (first | assumption | exact FW.rf | refine FW.up ?_ (by unfold wS; omega) | (refine FW.tr ?_ (by assumption)))) (by (try simp (disch := decide) only [upI_eq, upI_a, upI_i, upR_eq, upR_a, upR_i]); try assumption))
                        · skip
                          refine s255_264.mpr ?_
                          refine (s255_583).mpr ?_
                          first | (exfalso; omega) | (exact ok _ _ _ ((tsH_24n c1 (by dsimp only; intro h6; rw [h6] at y179; exact absurd y179.2.2 (by decide))).trans (onw_p (by dsimp only; exact ⟨by omega, Or.inr ⟨by omega, by omega, y261.2⟩⟩))) (flw1 (by rw [c1]; decide)) (by repeat' (first | assumption | exact FW.rf | refine FW.up ?_ (by unfold wS; omega) | (refine FW.tr ?_ (by assumption)))) (by (try simp (disch := decide) only [upI_eq, upI_a, upI_i, upR_eq, upR_a, upR_i]); try assumption) (by (try simp (disch := decide) only [upI_eq, upI_a, upI_i, upR_eq, upR_a, upR_i]); try assumption) (by simp (disch := decide) only [scX, upI_eq, upI_a, upI_i, upR_eq, upR_a, upR_i, upI_ro, upI_rw, up1_same, up1_eq, ht, E1, E2, E3, E4, E5, E6, E7])) | (exact st _ ((tsH_24s c1 (by dsimp only; omega)).trans (onw_p (by dsimp only; omega))) (by repeat' (first | assumption | exact FW.rf | refine FW.up ?_ (by unfold wS; omega) | (refine FW.tr ?_ (by assumption)))) (by (try simp (disch := decide) only [upI_eq, upI_a, upI_i, upR_eq, upR_a, upR_i]); try assumption) (by (try simp (disch := decide) only [upI_eq, upI_a, upI_i, upR_eq, upR_a, upR_i]); try assumption)) | (exact no _ ((tsH_24 c1).trans (onw_n (by intro h; dsimp only at h; omega))) (by repeat' (first | assumption | exact FW.rf | refine FW.up ?_ (by unfold wS; omega) | (refine FW.tr ?_ (by assumption)))) (by (try simp (disch := decide) only [upI_eq, upI_a, upI_i, upR_eq, upR_a, upR_i]); try assumption))
                  · skip
                    refine s255_230.mpr ?_
                    refine (s255_231 kM).mpr ?_
                    try simp (disch := first | decide | assumption | omega) only [kon, knt_some, knt_none, Option.toList_some, Option.toList_none, List.cons_append, List.nil_append, upI_eq, upI_a, upI_i, upR_eq, upR_a, upR_i, h36, ht, E1, E2, E3, E4, E5, E6, E7, fAdd_id, fSub_id, fMul_id, m2a, m2b]
                    refine s255_234.mpr (wif (fun c234 => ?_) (fun c234 => ?_))
                    · first
                      | (exfalso; omega)
                      | skip
                        refine (s255_583).mpr ?_
                        first | (exfalso; omega) | (exact ok _ _ _ ((tsH_24n c1 (by dsimp only; intro h6; rw [h6] at y179; exact absurd y179.2.2 (by decide))).trans (onw_p (by dsimp only; exact ⟨by omega, Or.inr ⟨by omega, by omega, y261.2⟩⟩))) (flw1 (by rw [c1]; decide)) (by repeat' (first | assumption | exact FW.rf | refine FW.up ?_ (by unfold wS; omega) | (refine FW.tr ?_ (by assumption)))) (by (try simp (disch := decide) only [upI_eq, upI_a, upI_i, upR_eq, upR_a, upR_i]); try assumption) (by (try simp (disch := decide) only [upI_eq, upI_a, upI_i, upR_eq, upR_a, upR_i]); try assumption) (by simp (disch := decide) only [scX, upI_eq, upI_a, upI_i, upR_eq, upR_a, upR_i, upI_ro, upI_rw, up1_same, up1_eq, ht, E1, E2, E3, E4, E5, E6, E7])) | (exact st _ ((tsH_24s c1 (by dsimp only; omega)).trans (onw_p (by dsimp only; omega))) (by repeat' (first | assumption | exact FW.rf | refine FW.up ?_ (by unfold wS; omega) | (refine FW.tr ?_ (by assumption)))) (by (try simp (disch := decide) only [upI_eq, upI_a, upI_i, upR_eq, upR_a, upR_i]); try assumption) (by (try simp (disch := decide) only [upI_eq, upI_a, upI_i, upR_eq, upR_a, upR_i]); try assumption)) | (exact no _ ((tsH_24 c1).trans (onw_n (by intro h; dsimp only at h; omega))) (by repeat' (first | assumption | exact FW.rf | refine FW.up ?_ (by unfold wS; omega) | (refine FW.tr ?_ (by assumption)))) (by (try simp (disch := decide) only [upI_eq, upI_a, upI_i, upR_eq, upR_a, upR_i]); try assumption))
                    · first
                      | (exfalso; omega)
                      | skip
                        refine s255_237.mpr (s255_238.mpr (s255_240.mpr ((s255_241 kM).mpr ?_)))
                        rw [mr_10 hR]
                        refine s255_244.mpr (s255_246.mpr (s255_247.mpr (s255_248.mpr (s255_250.mpr ?_))))
                        try simp (disch := first | decide | assumption | omega) only [kon, knt_some, knt_none, Option.toList_some, Option.toList_none, List.cons_append, List.nil_append, upI_eq, upI_a, upI_i, upR_eq, upR_a, upR_i, h36, ht, E1, E2, E3, E4, E5, E6, E7, fAdd_id, fSub_id, fMul_id, m2a, m2b]
                        refine (s255_252 (by omega)).mpr ?_
                        refine (m_which (vT_rng (hv75 _ (by omega) (by omega)))).mpr ?_
                        refine s255_255.mpr (s255_256.mpr (s255_257.mpr (s255_259.mpr ?_)))
                        try simp (disch := first | decide | assumption | omega) only [kon, knt_some, knt_none, Option.toList_some, Option.toList_none, List.cons_append, List.nil_append, upI_eq, upI_a, upI_i, upR_eq, upR_a, upR_i, h36, ht, E1, E2, E3, E4, E5, E6, E7, fAdd_id, fSub_id, fMul_id, m2a, m2b]
                        refine (s255_260 (hA.k (by decide) (by decide) rfl) (by first | assumption | omega) (by first | assumption | omega)).mpr ?_
                        try simp (disch := first | decide | assumption | omega) only [kon, knt_some, knt_none, Option.toList_some, Option.toList_none, List.cons_append, List.nil_append, upI_eq, upI_a, upI_i, upR_eq, upR_a, upR_i, h36, ht, E1, E2, E3, E4, E5, E6, E7, fAdd_id, fSub_id, fMul_id, m2a, m2b]
                        refine (s255_261 (by omega) kM).mpr ?_
                        refine m_fits hA hR (by omega) (by (try simp (disch := decide) only [upI_eq, upI_a, upI_i, upR_eq, upR_a, upR_i]); first | assumption | rfl) (by omega) (fun y261 => ?_) (fun y261 => ?_)
                        · skip
                          refine s255_264.mpr ?_
                          refine (s255_583).mpr ?_
                          first | (exfalso; omega) | (exact ok _ _ _ ((tsH_24n c1 (by dsimp only; intro h6; rw [h6] at y179; exact absurd y179.2.2 (by decide))).trans (onw_p (by dsimp only; exact ⟨by omega, Or.inr ⟨by omega, by omega, y261.2⟩⟩))) (flw1 (by rw [c1]; decide)) (by repeat' (first | assumption | exact FW.rf | refine FW.up ?_ (by unfold wS; omega) | (refine FW.tr ?_ (by assumption)))) (by (try simp (disch := decide) only [upI_eq, upI_a, upI_i, upR_eq, upR_a, upR_i]); try assumption) (by (try simp (disch := decide) only [upI_eq, upI_a, upI_i, upR_eq, upR_a, upR_i]); try assumption) (by simp (disch := decide) only [scX, upI_eq, upI_a, upI_i, upR_eq, upR_a, upR_i, upI_ro, upI_rw, up1_same, up1_eq, ht, E1, E2, E3, E4, E5, E6, E7])) | (exact st _ ((tsH_24s c1 (by dsimp only; omega)).trans (onw_p (by dsimp only; omega))) (by repeat' (first | assumption | exact FW.rf | refine FW.up ?_ (by unfold wS; omega) | (refine FW.tr ?_ (by assumption)))) (by (try simp (disch := decide) only [upI_eq, upI_a, upI_i, upR_eq, upR_a, upR_i]); try assumption) (by (try simp (disch := decide) only [upI_eq, upI_a, upI_i, upR_eq, upR_a, upR_i]); try assumption)) | (exact no _ ((tsH_24 c1).trans (onw_n (by intro h; dsimp only at h; omega))) (by repeat' (first | assumption | exact FW.rf | refine FW.up ?_ (by unfold wS; omega) | (refine FW.tr ?_ (by assumption)))) (by (try simp (disch := decide) only [upI_eq, upI_a, upI_i, upR_eq, upR_a, upR_i]); try assumption))
                        · skip
                          refine s255_264.mpr ?_
                          refine (s255_583).mpr ?_
                          first | (exfalso; omega) | (exact ok _ _ _ ((tsH_24n c1 (by dsimp only; intro h6; rw [h6] at y179; exact absurd y179.2.2 (by decide))).trans (onw_p (by dsimp only; exact ⟨by omega, Or.inr ⟨by omega, by omega, y261.2⟩⟩))) (flw1 (by rw [c1]; decide)) (by repeat' (first | assumption | exact FW.rf | refine FW.up ?_ (by unfold wS; omega) | (refine FW.tr ?_ (by assumption)))) (by (try simp (disch := decide) only [upI_eq, upI_a, upI_i, upR_eq, upR_a, upR_i]); try assumption) (by (try simp (disch := decide) only [upI_eq, upI_a, upI_i, upR_eq, upR_a, upR_i]); try assumption) (by simp (disch := decide) only [scX, upI_eq, upI_a, upI_i, upR_eq, upR_a, upR_i, upI_ro, upI_rw, up1_same, up1_eq, ht, E1, E2, E3, E4, E5, E6, E7])) | (exact st _ ((tsH_24s c1 (by dsimp only; omega)).trans (onw_p (by dsimp only; omega))) (by repeat' (first | assumption | exact FW.rf | refine FW.up ?_ (by unfold wS; omega) | (refine FW.tr ?_ (by assumption)))) (by (try simp (disch := decide) only [upI_eq, upI_a, upI_i, upR_eq, upR_a, upR_i]); try assumption) (by (try simp (disch := decide) only [upI_eq, upI_a, upI_i, upR_eq, upR_a, upR_i]); try assumption)) | (exact no _ ((tsH_24 c1).trans (onw_n (by intro h; dsimp only at h; omega))) (by repeat' (first | assumption | exact FW.rf | refine FW.up ?_ (by unfold wS; omega) | (refine FW.tr ?_ (by assumption)))) (by (try simp (disch := decide) only [upI_eq, upI_a, upI_i, upR_eq, upR_a, upR_i]); try assumption))
      · first
        | (exfalso; omega)
        | skip
          refine s255_191.mpr ?_
          refine (s255_583).mpr ?_
          first | (exfalso; omega) | (exact ok _ _ _ ((tsH_24n c1 (by dsimp only; intro h6; rw [h6] at y179; exact absurd y179.2.2 (by decide))).trans (onw_p (by dsimp only; exact ⟨by omega, Or.inr ⟨by omega, by omega, y261.2⟩⟩))) (flw1 (by rw [c1]; decide)) (by repeat' (first | assumption | exact FW.rf | refine FW.up ?_ (by unfold wS; omega) | (refine FW.tr ?_ (by assumption)))) (by (try simp (disch := decide) only [upI_eq, upI_a, upI_i, upR_eq, upR_a, upR_i]); try assumption) (by (try simp (disch := decide) only [upI_eq, upI_a, upI_i, upR_eq, upR_a, upR_i]); try assumption) (by simp (disch := decide) only [scX, upI_eq, upI_a, upI_i, upR_eq, upR_a, upR_i, upI_ro, upI_rw, up1_same, up1_eq, ht, E1, E2, E3, E4, E5, E6, E7])) | (exact st _ ((tsH_24s c1 (by dsimp only; omega)).trans (onw_p (by dsimp only; omega))) (by repeat' (first | assumption | exact FW.rf | refine FW.up ?_ (by unfold wS; omega) | (refine FW.tr ?_ (by assumption)))) (by (try simp (disch := decide) only [upI_eq, upI_a, upI_i, upR_eq, upR_a, upR_i]); try assumption) (by (try simp (disch := decide) only [upI_eq, upI_a, upI_i, upR_eq, upR_a, upR_i]); try assumption)) | (exact no _ ((tsH_24 c1).trans (onw_n (by intro h; dsimp only at h; omega))) (by repeat' (first | assumption | exact FW.rf | refine FW.up ?_ (by unfold wS; omega) | (refine FW.tr ?_ (by assumption)))) (by (try simp (disch := decide) only [upI_eq, upI_a, upI_i, upR_eq, upR_a, upR_i]); try assumption))
  · skip
    refine s255_176.mpr (s255_178.mpr ?_)
    refine (s255_179 (by omega) kM).mpr ?_
    refine m_popNode hA hR (by omega) (by (try simp (disch := decide) only [upI_eq, upI_a, upI_i, upR_eq, upR_a, upR_i]); first | assumption | rfl) (by omega) (by (try simp (disch := decide) only [upI_eq, upI_a, upI_i, upR_eq, upR_a, upR_i]); first | assumption | rfl) (by omega) (fun y179 => ?_) (fun y179 => ?_) (fun q179 hi179 t179 w179 z179 s179 u179 v179 x179 => ?_)
    · skip
      try simp (disch := decide) only [upI_eq, upI_a, upI_i, upR_eq, upR_a, upR_i, E1, E4] at y179
      try simp (disch := decide) only [upI_eq, upI_a, upI_i, upR_eq, upR_a, upR_i, E1, E4] at x179
      refine s255_182.mpr (s255_184.mpr ?_)
      refine (s255_185 kM).mpr ?_
      try simp (disch := first | decide | assumption | omega) only [kon, knt_some, knt_none, Option.toList_some, Option.toList_none, List.cons_append, List.nil_append, upI_eq, upI_a, upI_i, upR_eq, upR_a, upR_i, h36, ht, E1, E2, E3, E4, E5, E6, E7, fAdd_id, fSub_id, fMul_id, m2a, m2b]
      refine s255_188.mpr (wif (fun c188 => ?_) (fun c188 => ?_))
      · first
        | (exfalso; omega)
        | skip
          refine s255_194.mpr (s255_195.mpr ?_)
          refine (s255_196 kM).mpr ?_
          try simp (disch := first | decide | assumption | omega) only [kon, knt_some, knt_none, Option.toList_some, Option.toList_none, List.cons_append, List.nil_append, upI_eq, upI_a, upI_i, upR_eq, upR_a, upR_i, h36, ht, E1, E2, E3, E4, E5, E6, E7, fAdd_id, fSub_id, fMul_id, m2a, m2b]
          refine s255_199.mpr (wif (fun c199 => ?_) (fun c199 => ?_))
          · first
            | (exfalso; omega)
            | skip
              refine s255_226.mpr ?_
              refine (s255_227 (by omega) kM).mpr ?_
              refine m_wants hA (by omega) (by (try simp (disch := decide) only [upI_eq, upI_a, upI_i, upR_eq, upR_a, upR_i]); first | assumption | rfl) (by omega) (fun y227 => ?_) (fun y227 => ?_)
              · skip
                refine s255_230.mpr ?_
                refine (s255_231 kM).mpr ?_
                try simp (disch := first | decide | assumption | omega) only [kon, knt_some, knt_none, Option.toList_some, Option.toList_none, List.cons_append, List.nil_append, upI_eq, upI_a, upI_i, upR_eq, upR_a, upR_i, h36, ht, E1, E2, E3, E4, E5, E6, E7, fAdd_id, fSub_id, fMul_id, m2a, m2b]
                refine s255_234.mpr (wif (fun c234 => ?_) (fun c234 => ?_))
                · first
                  | (exfalso; omega)
                  | skip
                    refine (s255_583).mpr ?_
                    first | (exfalso; omega) | (exact ok _ _ _ ((tsH_24n c1 (by dsimp only; intro h6; rw [h6] at y179; exact absurd y179.2.2 (by decide))).trans (onw_p (by dsimp only; exact ⟨by omega, Or.inr ⟨by omega, by omega, y261.2⟩⟩))) (flw1 (by rw [c1]; decide)) (by repeat' (first | assumption | exact FW.rf | refine FW.up ?_ (by unfold wS; omega) | (refine FW.tr ?_ (by assumption)))) (by (try simp (disch := decide) only [upI_eq, upI_a, upI_i, upR_eq, upR_a, upR_i]); try assumption) (by (try simp (disch := decide) only [upI_eq, upI_a, upI_i, upR_eq, upR_a, upR_i]); try assumption) (by simp (disch := decide) only [scX, upI_eq, upI_a, upI_i, upR_eq, upR_a, upR_i, upI_ro, upI_rw, up1_same, up1_eq, ht, E1, E2, E3, E4, E5, E6, E7])) | (exact st _ ((tsH_24s c1 (by dsimp only; omega)).trans (onw_p (by dsimp only; omega))) (by repeat' (first | assumption | exact FW.rf | refine FW.up ?_ (by unfold wS; omega) | (refine FW.tr ?_ (by assumption)))) (by (try simp (disch := decide) only [upI_eq, upI_a, upI_i, upR_eq, upR_a, upR_i]); try assumption) (by (try simp (disch := decide) only [upI_eq, upI_a, upI_i, upR_eq, upR_a, upR_i]); try assumption)) | (exact no _ ((tsH_24 c1).trans (onw_n (by intro h; dsimp only at h; omega))) (by repeat' (first | assumption | exact FW.rf | refine FW.up ?_ (by unfold wS; omega) | (refine FW.tr ?_ (by assumption)))) (by (try simp (disch := decide) only [upI_eq, upI_a, upI_i, upR_eq, upR_a, upR_i]); try assumption))
                · first
                  | (exfalso; omega)
                  | skip
                    refine s255_237.mpr (s255_238.mpr (s255_240.mpr ((s255_241 kM).mpr ?_)))
                    rw [mr_10 hR]
                    refine s255_244.mpr (s255_246.mpr (s255_247.mpr (s255_248.mpr (s255_250.mpr ?_))))
                    try simp (disch := first | decide | assumption | omega) only [kon, knt_some, knt_none, Option.toList_some, Option.toList_none, List.cons_append, List.nil_append, upI_eq, upI_a, upI_i, upR_eq, upR_a, upR_i, h36, ht, E1, E2, E3, E4, E5, E6, E7, fAdd_id, fSub_id, fMul_id, m2a, m2b]
                    refine (s255_252 (by omega)).mpr ?_
                    refine (m_which (vT_rng (hv75 _ (by omega) (by omega)))).mpr ?_
                    refine s255_255.mpr (s255_256.mpr (s255_257.mpr (s255_259.mpr ?_)))
                    try simp (disch := first | decide | assumption | omega) only [kon, knt_some, knt_none, Option.toList_some, Option.toList_none, List.cons_append, List.nil_append, upI_eq, upI_a, upI_i, upR_eq, upR_a, upR_i, h36, ht, E1, E2, E3, E4, E5, E6, E7, fAdd_id, fSub_id, fMul_id, m2a, m2b]
                    refine (s255_260 (hA.k (by decide) (by decide) rfl) (by first | assumption | omega) (by first | assumption | omega)).mpr ?_
                    try simp (disch := first | decide | assumption | omega) only [kon, knt_some, knt_none, Option.toList_some, Option.toList_none, List.cons_append, List.nil_append, upI_eq, upI_a, upI_i, upR_eq, upR_a, upR_i, h36, ht, E1, E2, E3, E4, E5, E6, E7, fAdd_id, fSub_id, fMul_id, m2a, m2b]
                    refine (s255_261 (by omega) kM).mpr ?_
                    refine m_fits hA hR (by omega) (by (try simp (disch := decide) only [upI_eq, upI_a, upI_i, upR_eq, upR_a, upR_i]); first | assumption | rfl) (by omega) (fun y261 => ?_) (fun y261 => ?_)
                    · skip
                      refine s255_264.mpr ?_
                      refine (s255_583).mpr ?_
                      first | (exfalso; omega) | (exact ok _ _ _ ((tsH_24n c1 (by dsimp only; intro h6; rw [h6] at y179; exact absurd y179.2.2 (by decide))).trans (onw_p (by dsimp only; exact ⟨by omega, Or.inr ⟨by omega, by omega, y261.2⟩⟩))) (flw1 (by rw [c1]; decide)) (by repeat' (first | assumption | exact FW.rf | refine FW.up ?_ (by unfold wS; omega) | (refine FW.tr ?_ (by assumption)))) (by (try simp (disch := decide) only [upI_eq, upI_a, upI_i, upR_eq, upR_a, upR_i]); try assumption) (by (try simp (disch := decide) only [upI_eq, upI_a, upI_i, upR_eq, upR_a, upR_i]); try assumption) (by simp (disch := decide) only [scX, upI_eq, upI_a, upI_i, upR_eq, upR_a, upR_i, upI_ro, upI_rw, up1_same, up1_eq, ht, E1, E2, E3, E4, E5, E6, E7])) | (exact st _ ((tsH_24s c1 (by dsimp only; omega)).trans (onw_p (by dsimp only; omega))) (by repeat' (first | assumption | exact FW.rf | refine FW.up ?_ (by unfold wS; omega) | (refine FW.tr ?_ (by assumption)))) (by (try simp (disch := decide) only [upI_eq, upI_a, upI_i, upR_eq, upR_a, upR_i]); try assumption) (by (try simp (disch := decide) only [upI_eq, upI_a, upI_i, upR_eq, upR_a, upR_i]); try assumption)) | (exact no _ ((tsH_24 c1).trans (onw_n (by intro h; dsimp only at h; omega))) (by repeat' (first | assumption | exact FW.rf | refine FW.up ?_ (by unfold wS; omega) | (refine FW.tr ?_ (by assumption)))) (by (try simp (disch := decide) only [upI_eq, upI_a, upI_i, upR_eq, upR_a, upR_i]); try assumption))
                    · skip
                      refine s255_264.mpr ?_
                      refine (s255_583).mpr ?_
                      first | (exfalso; omega) | (exact ok _ _ _ ((tsH_24n c1 (by dsimp only; intro h6; rw [h6] at y179; exact absurd y179.2.2 (by decide))).trans (onw_p (by dsimp only; exact ⟨by omega, Or.inr ⟨by omega, by omega, y261.2⟩⟩))) (flw1 (by rw [c1]; decide)) (by repeat' (first | assumption | exact FW.rf | refine FW.up ?_ (by unfold wS; omega) | (refine FW.tr ?_ (by assumption)))) (by (try simp (disch := decide) only [upI_eq, upI_a, upI_i, upR_eq, upR_a, upR_i]); try assumption) (by (try simp (disch := decide) only [upI_eq, upI_a, upI_i, upR_eq, upR_a, upR_i]); try assumption) (by simp (disch := decide) only [scX, upI_eq, upI_a, upI_i, upR_eq, upR_a, upR_i, upI_ro, upI_rw, up1_same, up1_eq, ht, E1, E2, E3, E4, E5, E6, E7])) | (exact st _ ((tsH_24s c1 (by dsimp only; omega)).trans (onw_p (by dsimp only; omega))) (by repeat' (first | assumption | exact FW.rf | refine FW.up ?_ (by unfold wS; omega) | (refine FW.tr ?_ (by assumption)))) (by (try simp (disch := decide) only [upI_eq, upI_a, upI_i, upR_eq, upR_a, upR_i]); try assumption) (by (try simp (disch := decide) only [upI_eq, upI_a, upI_i, upR_eq, upR_a, upR_i]); try assumption)) | (exact no _ ((tsH_24 c1).trans (onw_n (by intro h; dsimp only at h; omega))) (by repeat' (first | assumption | exact FW.rf | refine FW.up ?_ (by unfold wS; omega) | (refine FW.tr ?_ (by assumption)))) (by (try simp (disch := decide) only [upI_eq, upI_a, upI_i, upR_eq, upR_a, upR_i]); try assumption))
              · skip
                refine s255_230.mpr ?_
                refine (s255_231 kM).mpr ?_
                try simp (disch := first | decide | assumption | omega) only [kon, knt_some, knt_none, Option.toList_some, Option.toList_none, List.cons_append, List.nil_append, upI_eq, upI_a, upI_i, upR_eq, upR_a, upR_i, h36, ht, E1, E2, E3, E4, E5, E6, E7, fAdd_id, fSub_id, fMul_id, m2a, m2b]
                refine s255_234.mpr (wif (fun c234 => ?_) (fun c234 => ?_))
                · first
                  | (exfalso; omega)
                  | skip
                    refine (s255_583).mpr ?_
                    first | (exfalso; omega) | (exact ok _ _ _ ((tsH_24n c1 (by dsimp only; intro h6; rw [h6] at y179; exact absurd y179.2.2 (by decide))).trans (onw_p (by dsimp only; exact ⟨by omega, Or.inr ⟨by omega, by omega, y261.2⟩⟩))) (flw1 (by rw [c1]; decide)) (by repeat' (first | assumption | exact FW.rf | refine FW.up ?_ (by unfold wS; omega) | (refine FW.tr ?_ (by assumption)))) (by (try simp (disch := decide) only [upI_eq, upI_a, upI_i, upR_eq, upR_a, upR_i]); try assumption) (by (try simp (disch := decide) only [upI_eq, upI_a, upI_i, upR_eq, upR_a, upR_i]); try assumption) (by simp (disch := decide) only [scX, upI_eq, upI_a, upI_i, upR_eq, upR_a, upR_i, upI_ro, upI_rw, up1_same, up1_eq, ht, E1, E2, E3, E4, E5, E6, E7])) | (exact st _ ((tsH_24s c1 (by dsimp only; omega)).trans (onw_p (by dsimp only; omega))) (by repeat' (first | assumption | exact FW.rf | refine FW.up ?_ (by unfold wS; omega) | (refine FW.tr ?_ (by assumption)))) (by (try simp (disch := decide) only [upI_eq, upI_a, upI_i, upR_eq, upR_a, upR_i]); try assumption) (by (try simp (disch := decide) only [upI_eq, upI_a, upI_i, upR_eq, upR_a, upR_i]); try assumption)) | (exact no _ ((tsH_24 c1).trans (onw_n (by intro h; dsimp only at h; omega))) (by repeat' (first | assumption | exact FW.rf | refine FW.up ?_ (by unfold wS; omega) | (refine FW.tr ?_ (by assumption)))) (by (try simp (disch := decide) only [upI_eq, upI_a, upI_i, upR_eq, upR_a, upR_i]); try assumption))
                · first
                  | (exfalso; omega)
                  | skip
                    refine s255_237.mpr (s255_238.mpr (s255_240.mpr ((s255_241 kM).mpr ?_)))
                    rw [mr_10 hR]
                    refine s255_244.mpr (s255_246.mpr (s255_247.mpr (s255_248.mpr (s255_250.mpr ?_))))
                    try simp (disch := first | decide | assumption | omega) only [kon, knt_some, knt_none, Option.toList_some, Option.toList_none, List.cons_append, List.nil_append, upI_eq, upI_a, upI_i, upR_eq, upR_a, upR_i, h36, ht, E1, E2, E3, E4, E5, E6, E7, fAdd_id, fSub_id, fMul_id, m2a, m2b]
                    refine (s255_252 (by omega)).mpr ?_
                    refine (m_which (vT_rng (hv75 _ (by omega) (by omega)))).mpr ?_
                    refine s255_255.mpr (s255_256.mpr (s255_257.mpr (s255_259.mpr ?_)))
                    try simp (disch := first | decide | assumption | omega) only [kon, knt_some, knt_none, Option.toList_some, Option.toList_none, List.cons_append, List.nil_append, upI_eq, upI_a, upI_i, upR_eq, upR_a, upR_i, h36, ht, E1, E2, E3, E4, E5, E6, E7, fAdd_id, fSub_id, fMul_id, m2a, m2b]
                    refine (s255_260 (hA.k (by decide) (by decide) rfl) (by first | assumption | omega) (by first | assumption | omega)).mpr ?_
                    try simp (disch := first | decide | assumption | omega) only [kon, knt_some, knt_none, Option.toList_some, Option.toList_none, List.cons_append, List.nil_append, upI_eq, upI_a, upI_i, upR_eq, upR_a, upR_i, h36, ht, E1, E2, E3, E4, E5, E6, E7, fAdd_id, fSub_id, fMul_id, m2a, m2b]
                    refine (s255_261 (by omega) kM).mpr ?_
                    refine m_fits hA hR (by omega) (by (try simp (disch := decide) only [upI_eq, upI_a, upI_i, upR_eq, upR_a, upR_i]); first | assumption | rfl) (by omega) (fun y261 => ?_) (fun y261 => ?_)
                    · skip
                      refine s255_264.mpr ?_
                      refine (s255_583).mpr ?_
                      first | (exfalso; omega) | (exact ok _ _ _ ((tsH_24n c1 (by dsimp only; intro h6; rw [h6] at y179; exact absurd y179.2.2 (by decide))).trans (onw_p (by dsimp only; exact ⟨by omega, Or.inr ⟨by omega, by omega, y261.2⟩⟩))) (flw1 (by rw [c1]; decide)) (by repeat' (first | assumption | exact FW.rf | refine FW.up ?_ (by unfold wS; omega) | (refine FW.tr ?_ (by assumption)))) (by (try simp (disch := decide) only [upI_eq, upI_a, upI_i, upR_eq, upR_a, upR_i]); try assumption) (by (try simp (disch := decide) only [upI_eq, upI_a, upI_i, upR_eq, upR_a, upR_i]); try assumption) (by simp (disch := decide) only [scX, upI_eq, upI_a, upI_i, upR_eq, upR_a, upR_i, upI_ro, upI_rw, up1_same, up1_eq, ht, E1, E2, E3, E4, E5, E6, E7])) | (exact st _ ((tsH_24s c1 (by dsimp only; omega)).trans (onw_p (by dsimp only; omega))) (by repeat' (first | assumption | exact FW.rf | refine FW.up ?_ (by unfold wS; omega) | (refine FW.tr ?_ (by assumption)))) (by (try simp (disch := decide) only [upI_eq, upI_a, upI_i, upR_eq, upR_a, upR_i]); try assumption) (by (try simp (disch := decide) only [upI_eq, upI_a, upI_i, upR_eq, upR_a, upR_i]); try assumption)) | (exact no _ ((tsH_24 c1).trans (onw_n (by intro h; dsimp only at h; omega))) (by repeat' (first | assumption | exact FW.rf | refine FW.up ?_ (by unfold wS; omega) | (refine FW.tr ?_ (by assumption)))) (by (try simp (disch := decide) only [upI_eq, upI_a, upI_i, upR_eq, upR_a, upR_i]); try assumption))
                    · skip
                      refine s255_264.mpr ?_
                      refine (s255_583).mpr ?_
                      first | (exfalso; omega) | (exact ok _ _ _ ((tsH_24n c1 (by dsimp only; intro h6; rw [h6] at y179; exact absurd y179.2.2 (by decide))).trans (onw_p (by dsimp only; exact ⟨by omega, Or.inr ⟨by omega, by omega, y261.2⟩⟩))) (flw1 (by rw [c1]; decide)) (by repeat' (first | assumption | exact FW.rf | refine FW.up ?_ (by unfold wS; omega) | (refine FW.tr ?_ (by assumption)))) (by (try simp (disch := decide) only [upI_eq, upI_a, upI_i, upR_eq, upR_a, upR_i]); try assumption) (by (try simp (disch := decide) only [upI_eq, upI_a, upI_i, upR_eq, upR_a, upR_i]); try assumption) (by simp (disch := decide) only [scX, upI_eq, upI_a, upI_i, upR_eq, upR_a, upR_i, upI_ro, upI_rw, up1_same, up1_eq, ht, E1, E2, E3, E4, E5, E6, E7])) | (exact st _ ((tsH_24s c1 (by dsimp only; omega)).trans (onw_p (by dsimp only; omega))) (by repeat' (first | assumption | exact FW.rf | refine FW.up ?_ (by unfold wS; omega) | (refine FW.tr ?_ (by assumption)))) (by (try simp (disch := decide) only [upI_eq, upI_a, upI_i, upR_eq, upR_a, upR_i]); try assumption) (by (try simp (disch := decide) only [upI_eq, upI_a, upI_i, upR_eq, upR_a, upR_i]); try assumption)) | (exact no _ ((tsH_24 c1).trans (onw_n (by intro h; dsimp only at h; omega))) (by repeat' (first | assumption | exact FW.rf | refine FW.up ?_ (by unfold wS; omega) | (refine FW.tr ?_ (by assumption)))) (by (try simp (disch := decide) only [upI_eq, upI_a, upI_i, upR_eq, upR_a, upR_i]); try assumption))
          · first
            | (exfalso; omega)
            | skip
              refine s255_202.mpr (s255_204.mpr ((s255_205 kM).mpr ?_))
              rw [mr_9 hR]
              refine s255_208.mpr (s255_210.mpr (s255_211.mpr (s255_212.mpr ?_)))
              try simp (disch := first | decide | assumption | omega) only [kon, knt_some, knt_none, Option.toList_some, Option.toList_none, List.cons_append, List.nil_append, upI_eq, upI_a, upI_i, upR_eq, upR_a, upR_i, h36, ht, E1, E2, E3, E4, E5, E6, E7, fAdd_id, fSub_id, fMul_id, m2a, m2b]
              refine (s255_214 (by omega)).mpr ?_
              refine (m_which (vT_rng (hv75 _ (by omega) (by omega)))).mpr ?_
              refine s255_217.mpr ?_
              try simp (disch := first | decide | assumption | omega) only [kon, knt_some, knt_none, Option.toList_some, Option.toList_none, List.cons_append, List.nil_append, upI_eq, upI_a, upI_i, upR_eq, upR_a, upR_i, h36, ht, E1, E2, E3, E4, E5, E6, E7, fAdd_id, fSub_id, fMul_id, m2a, m2b]
              refine (s255_218 (hA.k (by decide) (by decide) rfl) (by first | assumption | omega) (by first | assumption | omega)).mpr ?_
              try simp (disch := first | decide | assumption | omega) only [kon, knt_some, knt_none, Option.toList_some, Option.toList_none, List.cons_append, List.nil_append, upI_eq, upI_a, upI_i, upR_eq, upR_a, upR_i, h36, ht, E1, E2, E3, E4, E5, E6, E7, fAdd_id, fSub_id, fMul_id, m2a, m2b]
              refine s255_219.mpr (wif (fun c219 => ?_) (fun c219 => ?_))
              · first
                | (exfalso; omega)
                | skip
                  refine s255_222.mpr (s255_223.mpr ?_)
                  refine (s255_227 (by omega) kM).mpr ?_
                  refine m_wants hA (by omega) (by (try simp (disch := decide) only [upI_eq, upI_a, upI_i, upR_eq, upR_a, upR_i]); first | assumption | rfl) (by omega) (fun y227 => ?_) (fun y227 => ?_)
                  · skip
                    refine s255_230.mpr ?_
                    refine (s255_231 kM).mpr ?_
                    try simp (disch := first | decide | assumption | omega) only [kon, knt_some, knt_none, Option.toList_some, Option.toList_none, List.cons_append, List.nil_append, upI_eq, upI_a, upI_i, upR_eq, upR_a, upR_i, h36, ht, E1, E2, E3, E4, E5, E6, E7, fAdd_id, fSub_id, fMul_id, m2a, m2b]
                    refine s255_234.mpr (wif (fun c234 => ?_) (fun c234 => ?_))
                    · first
                      | (exfalso; omega)
                      | skip
                        refine (s255_583).mpr ?_
                        first | (exfalso; omega) | (exact ok _ _ _ ((tsH_24n c1 (by dsimp only; intro h6; rw [h6] at y179; exact absurd y179.2.2 (by decide))).trans (onw_p (by dsimp only; exact ⟨by omega, Or.inr ⟨by omega, by omega, y261.2⟩⟩))) (flw1 (by rw [c1]; decide)) (by repeat' (first | assumption | exact FW.rf | refine FW.up ?_ (by unfold wS; omega) | (refine FW.tr ?_ (by assumption)))) (by (try simp (disch := decide) only [upI_eq, upI_a, upI_i, upR_eq, upR_a, upR_i]); try assumption) (by (try simp (disch := decide) only [upI_eq, upI_a, upI_i, upR_eq, upR_a, upR_i]); try assumption) (by simp (disch := decide) only [scX, upI_eq, upI_a, upI_i, upR_eq, upR_a, upR_i, upI_ro, upI_rw, up1_same, up1_eq, ht, E1, E2, E3, E4, E5, E6, E7])) | (exact st _ ((tsH_24s c1 (by dsimp only; omega)).trans (onw_p (by dsimp only; omega))) (by repeat' (first | assumption | exact FW.rf | refine FW.up ?_ (by unfold wS; omega) | (refine FW.tr ?_ (by assumption)))) (by (try simp (disch := decide) only [upI_eq, upI_a, upI_i, upR_eq, upR_a, upR_i]); try assumption) (by (try simp (disch := decide) only [upI_eq, upI_a, upI_i, upR_eq, upR_a, upR_i]); try assumption)) | (exact no _ ((tsH_24 c1).trans (onw_n (by intro h; dsimp only at h; omega))) (by repeat' (first | assumption | exact FW.rf | refine FW.up ?_ (by unfold wS; omega) | (refine FW.tr ?_ (by assumption)))) (by (try simp (disch := decide) only [upI_eq, upI_a, upI_i, upR_eq, upR_a, upR_i]); try assumption))
                    · first
                      | (exfalso; omega)
                      | skip
                        refine s255_237.mpr (s255_238.mpr (s255_240.mpr ((s255_241 kM).mpr ?_)))
                        rw [mr_10 hR]
                        refine s255_244.mpr (s255_246.mpr (s255_247.mpr (s255_248.mpr (s255_250.mpr ?_))))
                        try simp (disch := first | decide | assumption | omega) only [kon, knt_some, knt_none, Option.toList_some, Option.toList_none, List.cons_append, List.nil_append, upI_eq, upI_a, upI_i, upR_eq, upR_a, upR_i, h36, ht, E1, E2, E3, E4, E5, E6, E7, fAdd_id, fSub_id, fMul_id, m2a, m2b]
                        refine (s255_252 (by omega)).mpr ?_
                        refine (m_which (vT_rng (hv75 _ (by omega) (by omega)))).mpr ?_
                        refine s255_255.mpr (s255_256.mpr (s255_257.mpr (s255_259.mpr ?_)))
                        try simp (disch := first | decide | assumption | omega) only [kon, knt_some, knt_none, Option.toList_some, Option.toList_none, List.cons_append, List.nil_append, upI_eq, upI_a, upI_i, upR_eq, upR_a, upR_i, h36, ht, E1, E2, E3, E4, E5, E6, E7, fAdd_id, fSub_id, fMul_id, m2a, m2b]
                        refine (s255_260 (hA.k (by decide) (by decide) rfl) (by first | assumption | omega) (by first | assumption | omega)).mpr ?_
                        try simp (disch := first | decide | assumption | omega) only [kon, knt_some, knt_none, Option.toList_some, Option.toList_none, List.cons_append, List.nil_append, upI_eq, upI_a, upI_i, upR_eq, upR_a, upR_i, h36, ht, E1, E2, E3, E4, E5, E6, E7, fAdd_id, fSub_id, fMul_id, m2a, m2b]
                        refine (s255_261 (by omega) kM).mpr ?_
                        refine m_fits hA hR (by omega) (by (try simp (disch := decide) only [upI_eq, upI_a, upI_i, upR_eq, upR_a, upR_i]); first | assumption | rfl) (by omega) (fun y261 => ?_) (fun y261 => ?_)
                        · skip
                          refine s255_264.mpr ?_
                          refine (s255_583).mpr ?_
                          first | (exfalso; omega) | (exact ok _ _ _ ((tsH_24n c1 (by dsimp only; intro h6; rw [h6] at y179; exact absurd y179.2.2 (by decide))).trans (onw_p (by dsimp only; exact ⟨by omega, Or.inr ⟨by omega, by omega, y261.2⟩⟩))) (flw1 (by rw [c1]; decide)) (by repeat' (first | assumption | exact FW.rf | refine FW.up ?_ (by unfold wS; omega) | (refine FW.tr ?_ (by assumption)))) (by (try simp (disch := decide) only [upI_eq, upI_a, upI_i, upR_eq, upR_a, upR_i]); try assumption) (by (try simp (disch := decide) only [upI_eq, upI_a, upI_i, upR_eq, upR_a, upR_i]); try assumption) (by simp (disch := decide) only [scX, upI_eq, upI_a, upI_i, upR_eq, upR_a, upR_i, upI_ro, upI_rw, up1_same, up1_eq, ht, E1, E2, E3, E4, E5, E6, E7])) | (exact st _ ((tsH_24s c1 (by dsimp only; omega)).trans (onw_p (by dsimp only; omega))) (by repeat' (first | assumption | exact FW.rf | refine FW.up ?_ (by unfold wS; omega) | (refine FW.tr ?_ (by assumption)))) (by (try simp (disch := decide) only [upI_eq, upI_a, upI_i, upR_eq, upR_a, upR_i]); try assumption) (by (try simp (disch := decide) only [upI_eq, upI_a, upI_i, upR_eq, upR_a, upR_i]); try assumption)) | (exact no _ ((tsH_24 c1).trans (onw_n (by intro h; dsimp only at h; omega))) (by repeat' (first | assumption | exact FW.rf | refine FW.up ?_ (by unfold wS; omega) | (refine FW.tr ?_ (by assumption)))) (by (try simp (disch := decide) only [upI_eq, upI_a, upI_i, upR_eq, upR_a, upR_i]); try assumption))
                        · skip
                          refine s255_264.mpr ?_
                          refine (s255_583).mpr ?_
                          first | (exfalso; omega) | (exact ok _ _ _ ((tsH_24n c1 (by dsimp only; intro h6; rw [h6] at y179; exact absurd y179.2.2 (by decide))).trans (onw_p (by dsimp only; exact ⟨by omega, Or.inr ⟨by omega, by omega, y261.2⟩⟩))) (flw1 (by rw [c1]; decide)) (by repeat' (first | assumption | exact FW.rf | refine FW.up ?_ (by unfold wS; omega) | (refine FW.tr ?_ (by assumption)))) (by (try simp (disch := decide) only [upI_eq, upI_a, upI_i, upR_eq, upR_a, upR_i]); try assumption) (by (try simp (disch := decide) only [upI_eq, upI_a, upI_i, upR_eq, upR_a, upR_i]); try assumption) (by simp (disch := decide) only [scX, upI_eq, upI_a, upI_i, upR_eq, upR_a, upR_i, upI_ro, upI_rw, up1_same, up1_eq, ht, E1, E2, E3, E4, E5, E6, E7])) | (exact st _ ((tsH_24s c1 (by dsimp only; omega)).trans (onw_p (by dsimp only; omega))) (by repeat' (first | assumption | exact FW.rf | refine FW.up ?_ (by unfold wS; omega) | (refine FW.tr ?_ (by assumption)))) (by (try simp (disch := decide) only [upI_eq, upI_a, upI_i, upR_eq, upR_a, upR_i]); try assumption) (by (try simp (disch := decide) only [upI_eq, upI_a, upI_i, upR_eq, upR_a, upR_i]); try assumption)) | (exact no _ ((tsH_24 c1).trans (onw_n (by intro h; dsimp only at h; omega))) (by repeat' (first | assumption | exact FW.rf | refine FW.up ?_ (by unfold wS; omega) | (refine FW.tr ?_ (by assumption)))) (by (try simp (disch := decide) only [upI_eq, upI_a, upI_i, upR_eq, upR_a, upR_i]); try assumption))
                  · skip
                    refine s255_230.mpr ?_
                    refine (s255_231 kM).mpr ?_
                    try simp (disch := first | decide | assumption | omega) only [kon, knt_some, knt_none, Option.toList_some, Option.toList_none, List.cons_append, List.nil_append, upI_eq, upI_a, upI_i, upR_eq, upR_a, upR_i, h36, ht, E1, E2, E3, E4, E5, E6, E7, fAdd_id, fSub_id, fMul_id, m2a, m2b]
                    refine s255_234.mpr (wif (fun c234 => ?_) (fun c234 => ?_))
                    · first
                      | (exfalso; omega)
                      | skip
                        refine (s255_583).mpr ?_
                        first | (exfalso; omega) | (exact ok _ _ _ ((tsH_24n c1 (by dsimp only; intro h6; rw [h6] at y179; exact absurd y179.2.2 (by decide))).trans (onw_p (by dsimp only; exact ⟨by omega, Or.inr ⟨by omega, by omega, y261.2⟩⟩))) (flw1 (by rw [c1]; decide)) (by repeat' (first | assumption | exact FW.rf | refine FW.up ?_ (by unfold wS; omega) | (refine FW.tr ?_ (by assumption)))) (by (try simp (disch := decide) only [upI_eq, upI_a, upI_i, upR_eq, upR_a, upR_i]); try assumption) (by (try simp (disch := decide) only [upI_eq, upI_a, upI_i, upR_eq, upR_a, upR_i]); try assumption) (by simp (disch := decide) only [scX, upI_eq, upI_a, upI_i, upR_eq, upR_a, upR_i, upI_ro, upI_rw, up1_same, up1_eq, ht, E1, E2, E3, E4, E5, E6, E7])) | (exact st _ ((tsH_24s c1 (by dsimp only; omega)).trans (onw_p (by dsimp only; omega))) (by repeat' (first | assumption | exact FW.rf | refine FW.up ?_ (by unfold wS; omega) | (refine FW.tr ?_ (by assumption)))) (by (try simp (disch := decide) only [upI_eq, upI_a, upI_i, upR_eq, upR_a, upR_i]); try assumption) (by (try simp (disch := decide) only [upI_eq, upI_a, upI_i, upR_eq, upR_a, upR_i]); try assumption)) | (exact no _ ((tsH_24 c1).trans (onw_n (by intro h; dsimp only at h; omega))) (by repeat' (first | assumption | exact FW.rf | refine FW.up ?_ (by unfold wS; omega) | (refine FW.tr ?_ (by assumption)))) (by (try simp (disch := decide) only [upI_eq, upI_a, upI_i, upR_eq, upR_a, upR_i]); try assumption))
                    · first
                      | (exfalso; omega)
                      | skip
                        refine s255_237.mpr (s255_238.mpr (s255_240.mpr ((s255_241 kM).mpr ?_)))
                        rw [mr_10 hR]
                        refine s255_244.mpr (s255_246.mpr (s255_247.mpr (s255_248.mpr (s255_250.mpr ?_))))
                        try simp (disch := first | decide | assumption | omega) only [kon, knt_some, knt_none, Option.toList_some, Option.toList_none, List.cons_append, List.nil_append, upI_eq, upI_a, upI_i, upR_eq, upR_a, upR_i, h36, ht, E1, E2, E3, E4, E5, E6, E7, fAdd_id, fSub_id, fMul_id, m2a, m2b]
                        refine (s255_252 (by omega)).mpr ?_
                        refine (m_which (vT_rng (hv75 _ (by omega) (by omega)))).mpr ?_
                        refine s255_255.mpr (s255_256.mpr (s255_257.mpr (s255_259.mpr ?_)))
                        try simp (disch := first | decide | assumption | omega) only [kon, knt_some, knt_none, Option.toList_some, Option.toList_none, List.cons_append, List.nil_append, upI_eq, upI_a, upI_i, upR_eq, upR_a, upR_i, h36, ht, E1, E2, E3, E4, E5, E6, E7, fAdd_id, fSub_id, fMul_id, m2a, m2b]
                        refine (s255_260 (hA.k (by decide) (by decide) rfl) (by first | assumption | omega) (by first | assumption | omega)).mpr ?_
                        try simp (disch := first | decide | assumption | omega) only [kon, knt_some, knt_none, Option.toList_some, Option.toList_none, List.cons_append, List.nil_append, upI_eq, upI_a, upI_i, upR_eq, upR_a, upR_i, h36, ht, E1, E2, E3, E4, E5, E6, E7, fAdd_id, fSub_id, fMul_id, m2a, m2b]
                        refine (s255_261 (by omega) kM).mpr ?_
                        refine m_fits hA hR (by omega) (by (try simp (disch := decide) only [upI_eq, upI_a, upI_i, upR_eq, upR_a, upR_i]); first | assumption | rfl) (by omega) (fun y261 => ?_) (fun y261 => ?_)
                        · skip
                          refine s255_264.mpr ?_
                          refine (s255_583).mpr ?_
                          first | (exfalso; omega) | (exact ok _ _ _ ((tsH_24n c1 (by dsimp only; intro h6; rw [h6] at y179; exact absurd y179.2.2 (by decide))).trans (onw_p (by dsimp only; exact ⟨by omega, Or.inr ⟨by omega, by omega, y261.2⟩⟩))) (flw1 (by rw [c1]; decide)) (by repeat' (first | assumption | exact FW.rf | refine FW.up ?_ (by unfold wS; omega) | (refine FW.tr ?_ (by assumption)))) (by (try simp (disch := decide) only [upI_eq, upI_a, upI_i, upR_eq, upR_a, upR_i]); try assumption) (by (try simp (disch := decide) only [upI_eq, upI_a, upI_i, upR_eq, upR_a, upR_i]); try assumption) (by simp (disch := decide) only [scX, upI_eq, upI_a, upI_i, upR_eq, upR_a, upR_i, upI_ro, upI_rw, up1_same, up1_eq, ht, E1, E2, E3, E4, E5, E6, E7])) | (exact st _ ((tsH_24s c1 (by dsimp only; omega)).trans (onw_p (by dsimp only; omega))) (by repeat' (first | assumption | exact FW.rf | refine FW.up ?_ (by unfold wS; omega) | (refine FW.tr ?_ (by assumption)))) (by (try simp (disch := decide) only [upI_eq, upI_a, upI_i, upR_eq, upR_a, upR_i]); try assumption) (by (try simp (disch := decide) only [upI_eq, upI_a, upI_i, upR_eq, upR_a, upR_i]); try assumption)) | (exact no _ ((tsH_24 c1).trans (onw_n (by intro h; dsimp only at h; omega))) (by repeat' (first | assumption | exact FW.rf | refine FW.up ?_ (by unfold wS; omega) | (refine FW.tr ?_ (by assumption)))) (by (try simp (disch := decide) only [upI_eq, upI_a, upI_i, upR_eq, upR_a, upR_i]); try assumption))
                        · skip
                          refine s255_264.mpr ?_
                          refine (s255_583).mpr ?_
                          first | (exfalso; omega) | (exact ok _ _ _ ((tsH_24n c1 (by dsimp only; intro h6; rw [h6] at y179; exact absurd y179.2.2 (by decide))).trans (onw_p (by dsimp only; exact ⟨by omega, Or.inr ⟨by omega, by omega, y261.2⟩⟩))) (flw1 (by rw [c1]; decide)) (by repeat' (first | assumption | exact FW.rf | refine FW.up ?_ (by unfold wS; omega) | (refine FW.tr ?_ (by assumption)))) (by (try simp (disch := decide) only [upI_eq, upI_a, upI_i, upR_eq, upR_a, upR_i]); try assumption) (by (try simp (disch := decide) only [upI_eq, upI_a, upI_i, upR_eq, upR_a, upR_i]); try assumption) (by simp (disch := decide) only [scX, upI_eq, upI_a, upI_i, upR_eq, upR_a, upR_i, upI_ro, upI_rw, up1_same, up1_eq, ht, E1, E2, E3, E4, E5, E6, E7])) | (exact st _ ((tsH_24s c1 (by dsimp only; omega)).trans (onw_p (by dsimp only; omega))) (by repeat' (first | assumption | exact FW.rf | refine FW.up ?_ (by unfold wS; omega) | (refine FW.tr ?_ (by assumption)))) (by (try simp (disch := decide) only [upI_eq, upI_a, upI_i, upR_eq, upR_a, upR_i]); try assumption) (by (try simp (disch := decide) only [upI_eq, upI_a, upI_i, upR_eq, upR_a, upR_i]); try assumption)) | (exact no _ ((tsH_24 c1).trans (onw_n (by intro h; dsimp only at h; omega))) (by repeat' (first | assumption | exact FW.rf | refine FW.up ?_ (by unfold wS; omega) | (refine FW.tr ?_ (by assumption)))) (by (try simp (disch := decide) only [upI_eq, upI_a, upI_i, upR_eq, upR_a, upR_i]); try assumption))
              · first
                | (exfalso; omega)
                | skip
                  refine s255_226.mpr ?_
                  refine (s255_227 (by omega) kM).mpr ?_
                  refine m_wants hA (by omega) (by (try simp (disch := decide) only [upI_eq, upI_a, upI_i, upR_eq, upR_a, upR_i]); first | assumption | rfl) (by omega) (fun y227 => ?_) (fun y227 => ?_)
                  · skip
                    refine s255_230.mpr ?_
                    refine (s255_231 kM).mpr ?_
                    try simp (disch := first | decide | assumption | omega) only [kon, knt_some, knt_none, Option.toList_some, Option.toList_none, List.cons_append, List.nil_append, upI_eq, upI_a, upI_i, upR_eq, upR_a, upR_i, h36, ht, E1, E2, E3, E4, E5, E6, E7, fAdd_id, fSub_id, fMul_id, m2a, m2b]
                    refine s255_234.mpr (wif (fun c234 => ?_) (fun c234 => ?_))
                    · first
                      | (exfalso; omega)
                      | skip
                        refine (s255_583).mpr ?_
                        first | (exfalso; omega) | (exact ok _ _ _ ((tsH_24n c1 (by dsimp only; intro h6; rw [h6] at y179; exact absurd y179.2.2 (by decide))).trans (onw_p (by dsimp only; exact ⟨by omega, Or.inr ⟨by omega, by omega, y261.2⟩⟩))) (flw1 (by rw [c1]; decide)) (by repeat' (first | assumption | exact FW.rf | refine FW.up ?_ (by unfold wS; omega) | (refine FW.tr ?_ (by assumption)))) (by (try simp (disch := decide) only [upI_eq, upI_a, upI_i, upR_eq, upR_a, upR_i]); try assumption) (by (try simp (disch := decide) only [upI_eq, upI_a, upI_i, upR_eq, upR_a, upR_i]); try assumption) (by simp (disch := decide) only [scX, upI_eq, upI_a, upI_i, upR_eq, upR_a, upR_i, upI_ro, upI_rw, up1_same, up1_eq, ht, E1, E2, E3, E4, E5, E6, E7])) | (exact st _ ((tsH_24s c1 (by dsimp only; omega)).trans (onw_p (by dsimp only; omega))) (by repeat' (first | assumption | exact FW.rf | refine FW.up ?_ (by unfold wS; omega) | (refine FW.tr ?_ (by assumption)))) (by (try simp (disch := decide) only [upI_eq, upI_a, upI_i, upR_eq, upR_a, upR_i]); try assumption) (by (try simp (disch := decide) only [upI_eq, upI_a, upI_i, upR_eq, upR_a, upR_i]); try assumption)) | (exact no _ ((tsH_24 c1).trans (onw_n (by intro h; dsimp only at h; omega))) (by repeat' (first | assumption | exact FW.rf | refine FW.up ?_ (by unfold wS; omega) | (refine FW.tr ?_ (by assumption)))) (by (try simp (disch := decide) only [upI_eq, upI_a, upI_i, upR_eq, upR_a, upR_i]); try assumption))
                    · first
                      | (exfalso; omega)
                      | skip
                        refine s255_237.mpr (s255_238.mpr (s255_240.mpr ((s255_241 kM).mpr ?_)))
                        rw [mr_10 hR]
                        refine s255_244.mpr (s255_246.mpr (s255_247.mpr (s255_248.mpr (s255_250.mpr ?_))))
                        try simp (disch := first | decide | assumption | omega) only [kon, knt_some, knt_none, Option.toList_some, Option.toList_none, List.cons_append, List.nil_append, upI_eq, upI_a, upI_i, upR_eq, upR_a, upR_i, h36, ht, E1, E2, E3, E4, E5, E6, E7, fAdd_id, fSub_id, fMul_id, m2a, m2b]
                        refine (s255_252 (by omega)).mpr ?_
                        refine (m_which (vT_rng (hv75 _ (by omega) (by omega)))).mpr ?_
                        refine s255_255.mpr (s255_256.mpr (s255_257.mpr (s255_259.mpr ?_)))
                        try simp (disch := first | decide | assumption | omega) only [kon, knt_some, knt_none, Option.toList_some, Option.toList_none, List.cons_append, List.nil_append, upI_eq, upI_a, upI_i, upR_eq, upR_a, upR_i, h36, ht, E1, E2, E3, E4, E5, E6, E7, fAdd_id, fSub_id, fMul_id, m2a, m2b]
                        refine (s255_260 (hA.k (by decide) (by decide) rfl) (by first | assumption | omega) (by first | assumption | omega)).mpr ?_
                        try simp (disch := first | decide | assumption | omega) only [kon, knt_some, knt_none, Option.toList_some, Option.toList_none, List.cons_append, List.nil_append, upI_eq, upI_a, upI_i, upR_eq, upR_a, upR_i, h36, ht, E1, E2, E3, E4, E5, E6, E7, fAdd_id, fSub_id, fMul_id, m2a, m2b]
                        refine (s255_261 (by omega) kM).mpr ?_
                        refine m_fits hA hR (by omega) (by (try simp (disch := decide) only [upI_eq, upI_a, upI_i, upR_eq, upR_a, upR_i]); first | assumption | rfl) (by omega) (fun y261 => ?_) (fun y261 => ?_)
                        · skip
                          refine s255_264.mpr ?_
                          refine (s255_583).mpr ?_
                          first | (exfalso; omega) | (exact ok _ _ _ ((tsH_24n c1 (by dsimp only; intro h6; rw [h6] at y179; exact absurd y179.2.2 (by decide))).trans (onw_p (by dsimp only; exact ⟨by omega, Or.inr ⟨by omega, by omega, y261.2⟩⟩))) (flw1 (by rw [c1]; decide)) (by repeat' (first | assumption | exact FW.rf | refine FW.up ?_ (by unfold wS; omega) | (refine FW.tr ?_ (by assumption)))) (by (try simp (disch := decide) only [upI_eq, upI_a, upI_i, upR_eq, upR_a, upR_i]); try assumption) (by (try simp (disch := decide) only [upI_eq, upI_a, upI_i, upR_eq, upR_a, upR_i]); try assumption) (by simp (disch := decide) only [scX, upI_eq, upI_a, upI_i, upR_eq, upR_a, upR_i, upI_ro, upI_rw, up1_same, up1_eq, ht, E1, E2, E3, E4, E5, E6, E7])) | (exact st _ ((tsH_24s c1 (by dsimp only; omega)).trans (onw_p (by dsimp only; omega))) (by repeat' (first | assumption | exact FW.rf | refine FW.up ?_ (by unfold wS; omega) | (refine FW.tr ?_ (by assumption)))) (by (try simp (disch := decide) only [upI_eq, upI_a, upI_i, upR_eq, upR_a, upR_i]); try assumption) (by (try simp (disch := decide) only [upI_eq, upI_a, upI_i, upR_eq, upR_a, upR_i]); try assumption)) | (exact no _ ((tsH_24 c1).trans (onw_n (by intro h; dsimp only at h; omega))) (by repeat' (first | assumption | exact FW.rf | refine FW.up ?_ (by unfold wS; omega) | (refine FW.tr ?_ (by assumption)))) (by (try simp (disch := decide) only [upI_eq, upI_a, upI_i, upR_eq, upR_a, upR_i]); try assumption))
                        · skip
                          refine s255_264.mpr ?_
                          refine (s255_583).mpr ?_
                          first | (exfalso; omega) | (exact ok _ _ _ ((tsH_24n c1 (by dsimp only; intro h6; rw [h6] at y179; exact absurd y179.2.2 (by decide))).trans (onw_p (by dsimp only; exact ⟨by omega, Or.inr ⟨by omega, by omega, y261.2⟩⟩))) (flw1 (by rw [c1]; decide)) (by repeat' (first | assumption | exact FW.rf | refine FW.up ?_ (by unfold wS; omega) | (refine FW.tr ?_ (by assumption)))) (by (try simp (disch := decide) only [upI_eq, upI_a, upI_i, upR_eq, upR_a, upR_i]); try assumption) (by (try simp (disch := decide) only [upI_eq, upI_a, upI_i, upR_eq, upR_a, upR_i]); try assumption) (by simp (disch := decide) only [scX, upI_eq, upI_a, upI_i, upR_eq, upR_a, upR_i, upI_ro, upI_rw, up1_same, up1_eq, ht, E1, E2, E3, E4, E5, E6, E7])) | (exact st _ ((tsH_24s c1 (by dsimp only; omega)).trans (onw_p (by dsimp only; omega))) (by repeat' (first | assumption | exact FW.rf | refine FW.up ?_ (by unfold wS; omega) | (refine FW.tr ?_ (by assumption)))) (by (try simp (disch := decide) only [upI_eq, upI_a, upI_i, upR_eq, upR_a, upR_i]); try assumption) (by (try simp (disch := decide) only [upI_eq, upI_a, upI_i, upR_eq, upR_a, upR_i]); try assumption)) | (exact no _ ((tsH_24 c1).trans (onw_n (by intro h; dsimp only at h; omega))) (by repeat' (first | assumption | exact FW.rf | refine FW.up ?_ (by unfold wS; omega) | (refine FW.tr ?_ (by assumption)))) (by (try simp (disch := decide) only [upI_eq, upI_a, upI_i, upR_eq, upR_a, upR_i]); try assumption))
                  · skip
                    refine s255_230.mpr ?_
                    refine (s255_231 kM).mpr ?_
                    try simp (disch := first | decide | assumption | omega) only [kon, knt_some, knt_none, Option.toList_some, Option.toList_none, List.cons_append, List.nil_append, upI_eq, upI_a, upI_i, upR_eq, upR_a, upR_i, h36, ht, E1, E2, E3, E4, E5, E6, E7, fAdd_id, fSub_id, fMul_id, m2a, m2b]
                    refine s255_234.mpr (wif (fun c234 => ?_) (fun c234 => ?_))
                    · first
                      | (exfalso; omega)
                      | skip
                        refine (s255_583).mpr ?_
                        first | (exfalso; omega) | (exact ok _ _ _ ((tsH_24n c1 (by dsimp only; intro h6; rw [h6] at y179; exact absurd y179.2.2 (by decide))).trans (onw_p (by dsimp only; exact ⟨by omega, Or.inr ⟨by omega, by omega, y261.2⟩⟩))) (flw1 (by rw [c1]; decide)) (by repeat' (first | assumption | exact FW.rf | refine FW.up ?_ (by unfold wS; omega) | (refine FW.tr ?_ (by assumption)))) (by (try simp (disch := decide) only [upI_eq, upI_a, upI_i, upR_eq, upR_a, upR_i]); try assumption) (by (try simp (disch := decide) only [upI_eq, upI_a, upI_i, upR_eq, upR_a, upR_i]); try assumption) (by simp (disch := decide) only [scX, upI_eq, upI_a, upI_i, upR_eq, upR_a, upR_i, upI_ro, upI_rw, up1_same, up1_eq, ht, E1, E2, E3, E4, E5, E6, E7])) | (exact st _ ((tsH_24s c1 (by dsimp only; omega)).trans (onw_p (by dsimp only; omega))) (by repeat' (first | assumption | exact FW.rf | refine FW.up ?_ (by unfold wS; omega) | (refine FW.tr ?_ (by assumption)))) (by (try simp (disch := decide) only [upI_eq, upI_a, upI_i, upR_eq, upR_a, upR_i]); try assumption) (by (try simp (disch := decide) only [upI_eq, upI_a, upI_i, upR_eq, upR_a, upR_i]); try assumption)) | (exact no _ ((tsH_24 c1).trans (onw_n (by intro h; dsimp only at h; omega))) (by repeat' (first | assumption | exact FW.rf | refine FW.up ?_ (by unfold wS; omega) | (refine FW.tr ?_ (by assumption)))) (by (try simp (disch := decide) only [upI_eq, upI_a, upI_i, upR_eq, upR_a, upR_i]); try assumption))
                    · first
                      | (exfalso; omega)
                      | skip
                        refine s255_237.mpr (s255_238.mpr (s255_240.mpr ((s255_241 kM).mpr ?_)))
                        rw [mr_10 hR]
                        refine s255_244.mpr (s255_246.mpr (s255_247.mpr (s255_248.mpr (s255_250.mpr ?_))))
                        try simp (disch := first | decide | assumption | omega) only [kon, knt_some, knt_none, Option.toList_some, Option.toList_none, List.cons_append, List.nil_append, upI_eq, upI_a, upI_i, upR_eq, upR_a, upR_i, h36, ht, E1, E2, E3, E4, E5, E6, E7, fAdd_id, fSub_id, fMul_id, m2a, m2b]
                        refine (s255_252 (by omega)).mpr ?_
                        refine (m_which (vT_rng (hv75 _ (by omega) (by omega)))).mpr ?_
                        refine s255_255.mpr (s255_256.mpr (s255_257.mpr (s255_259.mpr ?_)))
                        try simp (disch := first | decide | assumption | omega) only [kon, knt_some, knt_none, Option.toList_some, Option.toList_none, List.cons_append, List.nil_append, upI_eq, upI_a, upI_i, upR_eq, upR_a, upR_i, h36, ht, E1, E2, E3, E4, E5, E6, E7, fAdd_id, fSub_id, fMul_id, m2a, m2b]
                        refine (s255_260 (hA.k (by decide) (by decide) rfl) (by first | assumption | omega) (by first | assumption | omega)).mpr ?_
                        try simp (disch := first | decide | assumption | omega) only [kon, knt_some, knt_none, Option.toList_some, Option.toList_none, List.cons_append, List.nil_append, upI_eq, upI_a, upI_i, upR_eq, upR_a, upR_i, h36, ht, E1, E2, E3, E4, E5, E6, E7, fAdd_id, fSub_id, fMul_id, m2a, m2b]
                        refine (s255_261 (by omega) kM).mpr ?_
                        refine m_fits hA hR (by omega) (by (try simp (disch := decide) only [upI_eq, upI_a, upI_i, upR_eq, upR_a, upR_i]); first | assumption | rfl) (by omega) (fun y261 => ?_) (fun y261 => ?_)
                        · skip
                          refine s255_264.mpr ?_
                          refine (s255_583).mpr ?_
                          first | (exfalso; omega) | (exact ok _ _ _ ((tsH_24n c1 (by dsimp only; intro h6; rw [h6] at y179; exact absurd y179.2.2 (by decide))).trans (onw_p (by dsimp only; exact ⟨by omega, Or.inr ⟨by omega, by omega, y261.2⟩⟩))) (flw1 (by rw [c1]; decide)) (by repeat' (first | assumption | exact FW.rf | refine FW.up ?_ (by unfold wS; omega) | (refine FW.tr ?_ (by assumption)))) (by (try simp (disch := decide) only [upI_eq, upI_a, upI_i, upR_eq, upR_a, upR_i]); try assumption) (by (try simp (disch := decide) only [upI_eq, upI_a, upI_i, upR_eq, upR_a, upR_i]); try assumption) (by simp (disch := decide) only [scX, upI_eq, upI_a, upI_i, upR_eq, upR_a, upR_i, upI_ro, upI_rw, up1_same, up1_eq, ht, E1, E2, E3, E4, E5, E6, E7])) | (exact st _ ((tsH_24s c1 (by dsimp only; omega)).trans (onw_p (by dsimp only; omega))) (by repeat' (first | assumption | exact FW.rf | refine FW.up ?_ (by unfold wS; omega) | (refine FW.tr ?_ (by assumption)))) (by (try simp (disch := decide) only [upI_eq, upI_a, upI_i, upR_eq, upR_a, upR_i]); try assumption) (by (try simp (disch := decide) only [upI_eq, upI_a, upI_i, upR_eq, upR_a, upR_i]); try assumption)) | (exact no _ ((tsH_24 c1).trans (onw_n (by intro h; dsimp only at h; omega))) (by repeat' (first | assumption | exact FW.rf | refine FW.up ?_ (by unfold wS; omega) | (refine FW.tr ?_ (by assumption)))) (by (try simp (disch := decide) only [upI_eq, upI_a, upI_i, upR_eq, upR_a, upR_i]); try assumption))
                        · skip
                          refine s255_264.mpr ?_
                          refine (s255_583).mpr ?_
                          first | (exfalso; omega) | (exact ok _ _ _ ((tsH_24n c1 (by dsimp only; intro h6; rw [h6] at y179; exact absurd y179.2.2 (by decide))).trans (onw_p (by dsimp only; exact ⟨by omega, Or.inr ⟨by omega, by omega, y261.2⟩⟩))) (flw1 (by rw [c1]; decide)) (by repeat' (first | assumption | exact FW.rf | refine FW.up ?_ (by unfold wS; omega) | (refine FW.tr ?_ (by assumption)))) (by (try simp (disch := decide) only [upI_eq, upI_a, upI_i, upR_eq, upR_a, upR_i]); try assumption) (by (try simp (disch := decide) only [upI_eq, upI_a, upI_i, upR_eq, upR_a, upR_i]); try assumption) (by simp (disch := decide) only [scX, upI_eq, upI_a, upI_i, upR_eq, upR_a, upR_i, upI_ro, upI_rw, up1_same, up1_eq, ht, E1, E2, E3, E4, E5, E6, E7])) | (exact st _ ((tsH_24s c1 (by dsimp only; omega)).trans (onw_p (by dsimp only; omega))) (by repeat' (first | assumption | exact FW.rf | refine FW.up ?_ (by unfold wS; omega) | (refine FW.tr ?_ (by assumption)))) (by (try simp (disch := decide) only [upI_eq, upI_a, upI_i, upR_eq, upR_a, upR_i]); try assumption) (by (try simp (disch := decide) only [upI_eq, upI_a, upI_i, upR_eq, upR_a, upR_i]); try assumption)) | (exact no _ ((tsH_24 c1).trans (onw_n (by intro h; dsimp only at h; omega))) (by repeat' (first | assumption | exact FW.rf | refine FW.up ?_ (by unfold wS; omega) | (refine FW.tr ?_ (by assumption)))) (by (try simp (disch := decide) only [upI_eq, upI_a, upI_i, upR_eq, upR_a, upR_i]); try assumption))
      · first
        | (exfalso; omega)
        | skip
          refine s255_191.mpr ?_
          refine (s255_583).mpr ?_
          first | (exfalso; omega) | (exact ok _ _ _ ((tsH_24n c1 (by dsimp only; intro h6; rw [h6] at y179; exact absurd y179.2.2 (by decide))).trans (onw_p (by dsimp only; exact ⟨by omega, Or.inr ⟨by omega, by omega, y261.2⟩⟩))) (flw1 (by rw [c1]; decide)) (by repeat' (first | assumption | exact FW.rf | refine FW.up ?_ (by unfold wS; omega) | (refine FW.tr ?_ (by assumption)))) (by (try simp (disch := decide) only [upI_eq, upI_a, upI_i, upR_eq, upR_a, upR_i]); try assumption) (by (try simp (disch := decide) only [upI_eq, upI_a, upI_i, upR_eq, upR_a, upR_i]); try assumption) (by simp (disch := decide) only [scX, upI_eq, upI_a, upI_i, upR_eq, upR_a, upR_i, upI_ro, upI_rw, up1_same, up1_eq, ht, E1, E2, E3, E4, E5, E6, E7])) | (exact st _ ((tsH_24s c1 (by dsimp only; omega)).trans (onw_p (by dsimp only; omega))) (by repeat' (first | assumption | exact FW.rf | refine FW.up ?_ (by unfold wS; omega) | (refine FW.tr ?_ (by assumption)))) (by (try simp (disch := decide) only [upI_eq, upI_a, upI_i, upR_eq, upR_a, upR_i]); try assumption) (by (try simp (disch := decide) only [upI_eq, upI_a, upI_i, upR_eq, upR_a, upR_i]); try assumption)) | (exact no _ ((tsH_24 c1).trans (onw_n (by intro h; dsimp only at h; omega))) (by repeat' (first | assumption | exact FW.rf | refine FW.up ?_ (by unfold wS; omega) | (refine FW.tr ?_ (by assumption)))) (by (try simp (disch := decide) only [upI_eq, upI_a, upI_i, upR_eq, upR_a, upR_i]); try assumption))
    · skip
      try simp (disch := decide) only [upI_eq, upI_a, upI_i, upR_eq, upR_a, upR_i, E1, E4] at y179
      try simp (disch := decide) only [upI_eq, upI_a, upI_i, upR_eq, upR_a, upR_i, E1, E4] at x179
      refine s255_182.mpr (s255_184.mpr ?_)
      refine (s255_185 kM).mpr ?_
      try simp (disch := first | decide | assumption | omega) only [kon, knt_some, knt_none, Option.toList_some, Option.toList_none, List.cons_append, List.nil_append, upI_eq, upI_a, upI_i, upR_eq, upR_a, upR_i, h36, ht, E1, E2, E3, E4, E5, E6, E7, fAdd_id, fSub_id, fMul_id, m2a, m2b]
      refine s255_188.mpr (wif (fun c188 => ?_) (fun c188 => ?_))
      · first
        | (exfalso; omega)
        | skip
          refine s255_194.mpr (s255_195.mpr ?_)
          refine (s255_196 kM).mpr ?_
          try simp (disch := first | decide | assumption | omega) only [kon, knt_some, knt_none, Option.toList_some, Option.toList_none, List.cons_append, List.nil_append, upI_eq, upI_a, upI_i, upR_eq, upR_a, upR_i, h36, ht, E1, E2, E3, E4, E5, E6, E7, fAdd_id, fSub_id, fMul_id, m2a, m2b]
          refine s255_199.mpr (wif (fun c199 => ?_) (fun c199 => ?_))
          · first
            | (exfalso; omega)
            | skip
              refine s255_226.mpr ?_
              refine (s255_227 (by omega) kM).mpr ?_
              refine m_wants hA (by omega) (by (try simp (disch := decide) only [upI_eq, upI_a, upI_i, upR_eq, upR_a, upR_i]); first | assumption | rfl) (by omega) (fun y227 => ?_) (fun y227 => ?_)
              · skip
                refine s255_230.mpr ?_
                refine (s255_231 kM).mpr ?_
                try simp (disch := first | decide | assumption | omega) only [kon, knt_some, knt_none, Option.toList_some, Option.toList_none, List.cons_append, List.nil_append, upI_eq, upI_a, upI_i, upR_eq, upR_a, upR_i, h36, ht, E1, E2, E3, E4, E5, E6, E7, fAdd_id, fSub_id, fMul_id, m2a, m2b]
                refine s255_234.mpr (wif (fun c234 => ?_) (fun c234 => ?_))
                · first
                  | (exfalso; omega)
                  | skip
                    refine (s255_583).mpr ?_
                    first | (exfalso; omega) | (exact ok _ _ _ ((tsH_24n c1 (by dsimp only; intro h6; rw [h6] at y179; exact absurd y179.2.2 (by decide))).trans (onw_p (by dsimp only; exact ⟨by omega, Or.inr ⟨by omega, by omega, y261.2⟩⟩))) (flw1 (by rw [c1]; decide)) (by repeat' (first | assumption | exact FW.rf | refine FW.up ?_ (by unfold wS; omega) | (refine FW.tr ?_ (by assumption)))) (by (try simp (disch := decide) only [upI_eq, upI_a, upI_i, upR_eq, upR_a, upR_i]); try assumption) (by (try simp (disch := decide) only [upI_eq, upI_a, upI_i, upR_eq, upR_a, upR_i]); try assumption) (by simp (disch := decide) only [scX, upI_eq, upI_a, upI_i, upR_eq, upR_a, upR_i, upI_ro, upI_rw, up1_same, up1_eq, ht, E1, E2, E3, E4, E5, E6, E7])) | (exact st _ ((tsH_24s c1 (by dsimp only; omega)).trans (onw_p (by dsimp only; omega))) (by repeat' (first | assumption | exact FW.rf | refine FW.up ?_ (by unfold wS; omega) | (refine FW.tr ?_ (by assumption)))) (by (try simp (disch := decide) only [upI_eq, upI_a, upI_i, upR_eq, upR_a, upR_i]); try assumption) (by (try simp (disch := decide) only [upI_eq, upI_a, upI_i, upR_eq, upR_a, upR_i]); try assumption)) | (exact no _ ((tsH_24 c1).trans (onw_n (by intro h; dsimp only at h; omega))) (by repeat' (first | assumption | exact FW.rf | refine FW.up ?_ (by unfold wS; omega) | (refine FW.tr ?_ (by assumption)))) (by (try simp (disch := decide) only [upI_eq, upI_a, upI_i, upR_eq, upR_a, upR_i]); try assumption))
                · first
                  | (exfalso; omega)
                  | skip
                    refine s255_237.mpr (s255_238.mpr (s255_240.mpr ((s255_241 kM).mpr ?_)))
                    rw [mr_10 hR]
                    refine s255_244.mpr (s255_246.mpr (s255_247.mpr (s255_248.mpr (s255_250.mpr ?_))))
                    try simp (disch := first | decide | assumption | omega) only [kon, knt_some, knt_none, Option.toList_some, Option.toList_none, List.cons_append, List.nil_append, upI_eq, upI_a, upI_i, upR_eq, upR_a, upR_i, h36, ht, E1, E2, E3, E4, E5, E6, E7, fAdd_id, fSub_id, fMul_id, m2a, m2b]
                    refine (s255_252 (by omega)).mpr ?_
                    refine (m_which (vT_rng (hv75 _ (by omega) (by omega)))).mpr ?_
                    refine s255_255.mpr (s255_256.mpr (s255_257.mpr (s255_259.mpr ?_)))
                    try simp (disch := first | decide | assumption | omega) only [kon, knt_some, knt_none, Option.toList_some, Option.toList_none, List.cons_append, List.nil_append, upI_eq, upI_a, upI_i, upR_eq, upR_a, upR_i, h36, ht, E1, E2, E3, E4, E5, E6, E7, fAdd_id, fSub_id, fMul_id, m2a, m2b]
                    refine (s255_260 (hA.k (by decide) (by decide) rfl) (by first | assumption | omega) (by first | assumption | omega)).mpr ?_
                    try simp (disch := first | decide | assumption | omega) only [kon, knt_some, knt_none, Option.toList_some, Option.toList_none, List.cons_append, List.nil_append, upI_eq, upI_a, upI_i, upR_eq, upR_a, upR_i, h36, ht, E1, E2, E3, E4, E5, E6, E7, fAdd_id, fSub_id, fMul_id, m2a, m2b]
                    refine (s255_261 (by omega) kM).mpr ?_
                    refine m_fits hA hR (by omega) (by (try simp (disch := decide) only [upI_eq, upI_a, upI_i, upR_eq, upR_a, upR_i]); first | assumption | rfl) (by omega) (fun y261 => ?_) (fun y261 => ?_)
                    · skip
                      refine s255_264.mpr ?_
                      refine (s255_583).mpr ?_
                      first | (exfalso; omega) | (exact ok _ _ _ ((tsH_24n c1 (by dsimp only; intro h6; rw [h6] at y179; exact absurd y179.2.2 (by decide))).trans (onw_p (by dsimp only; exact ⟨by omega, Or.inr ⟨by omega, by omega, y261.2⟩⟩))) (flw1 (by rw [c1]; decide)) (by repeat' (first | assumption | exact FW.rf | refine FW.up ?_ (by unfold wS; omega) | (refine FW.tr ?_ (by assumption)))) (by (try simp (disch := decide) only [upI_eq, upI_a, upI_i, upR_eq, upR_a, upR_i]); try assumption) (by (try simp (disch := decide) only [upI_eq, upI_a, upI_i, upR_eq, upR_a, upR_i]); try assumption) (by simp (disch := decide) only [scX, upI_eq, upI_a, upI_i, upR_eq, upR_a, upR_i, upI_ro, upI_rw, up1_same, up1_eq, ht, E1, E2, E3, E4, E5, E6, E7])) | (exact st _ ((tsH_24s c1 (by dsimp only; omega)).trans (onw_p (by dsimp only; omega))) (by repeat' (first | assumption | exact FW.rf | refine FW.up ?_ (by unfold wS; omega) | (refine FW.tr ?_ (by assumption)))) (by (try simp (disch := decide) only [upI_eq, upI_a, upI_i, upR_eq, upR_a, upR_i]); try assumption) (by (try simp (disch := decide) only [upI_eq, upI_a, upI_i, upR_eq, upR_a, upR_i]); try assumption)) | (exact no _ ((tsH_24 c1).trans (onw_n (by intro h; dsimp only at h; omega))) (by repeat' (first | assumption | exact FW.rf | refine FW.up ?_ (by unfold wS; omega) | (refine FW.tr ?_ (by assumption)))) (by (try simp (disch := decide) only [upI_eq, upI_a, upI_i, upR_eq, upR_a, upR_i]); try assumption))
                    · skip
                      refine s255_264.mpr ?_
                      refine (s255_583).mpr ?_
                      first | (exfalso; omega) | (exact ok _ _ _ ((tsH_24n c1 (by dsimp only; intro h6; rw [h6] at y179; exact absurd y179.2.2 (by decide))).trans (onw_p (by dsimp only; exact ⟨by omega, Or.inr ⟨by omega, by omega, y261.2⟩⟩))) (flw1 (by rw [c1]; decide)) (by repeat' (first | assumption | exact FW.rf | refine FW.up ?_ (by unfold wS; omega) | (refine FW.tr ?_ (by assumption)))) (by (try simp (disch := decide) only [upI_eq, upI_a, upI_i, upR_eq, upR_a, upR_i]); try assumption) (by (try simp (disch := decide) only [upI_eq, upI_a, upI_i, upR_eq, upR_a, upR_i]); try assumption) (by simp (disch := decide) only [scX, upI_eq, upI_a, upI_i, upR_eq, upR_a, upR_i, upI_ro, upI_rw, up1_same, up1_eq, ht, E1, E2, E3, E4, E5, E6, E7])) | (exact st _ ((tsH_24s c1 (by dsimp only; omega)).trans (onw_p (by dsimp only; omega))) (by repeat' (first | assumption | exact FW.rf | refine FW.up ?_ (by unfold wS; omega) | (refine FW.tr ?_ (by assumption)))) (by (try simp (disch := decide) only [upI_eq, upI_a, upI_i, upR_eq, upR_a, upR_i]); try assumption) (by (try simp (disch := decide) only [upI_eq, upI_a, upI_i, upR_eq, upR_a, upR_i]); try assumption)) | (exact no _ ((tsH_24 c1).trans (onw_n (by intro h; dsimp only at h; omega))) (by repeat' (first | assumption | exact FW.rf | refine FW.up ?_ (by unfold wS; omega) | (refine FW.tr ?_ (by assumption)))) (by (try simp (disch := decide) only [upI_eq, upI_a, upI_i, upR_eq, upR_a, upR_i]); try assumption))
              · skip
                refine s255_230.mpr ?_
                refine (s255_231 kM).mpr ?_
                try simp (disch := first | decide | assumption | omega) only [kon, knt_some, knt_none, Option.toList_some, Option.toList_none, List.cons_append, List.nil_append, upI_eq, upI_a, upI_i, upR_eq, upR_a, upR_i, h36, ht, E1, E2, E3, E4, E5, E6, E7, fAdd_id, fSub_id, fMul_id, m2a, m2b]
                refine s255_234.mpr (wif (fun c234 => ?_) (fun c234 => ?_))
                · first
                  | (exfalso; omega)
                  | skip
                    refine (s255_583).mpr ?_
                    first | (exfalso; omega) | (exact ok _ _ _ ((tsH_24n c1 (by dsimp only; intro h6; rw [h6] at y179; exact absurd y179.2.2 (by decide))).trans (onw_p (by dsimp only; exact ⟨by omega, Or.inr ⟨by omega, by omega, y261.2⟩⟩))) (flw1 (by rw [c1]; decide)) (by repeat' (first | assumption | exact FW.rf | refine FW.up ?_ (by unfold wS; omega) | (refine FW.tr ?_ (by assumption)))) (by (try simp (disch := decide) only [upI_eq, upI_a, upI_i, upR_eq, upR_a, upR_i]); try assumption) (by (try simp (disch := decide) only [upI_eq, upI_a, upI_i, upR_eq, upR_a, upR_i]); try assumption) (by simp (disch := decide) only [scX, upI_eq, upI_a, upI_i, upR_eq, upR_a, upR_i, upI_ro, upI_rw, up1_same, up1_eq, ht, E1, E2, E3, E4, E5, E6, E7])) | (exact st _ ((tsH_24s c1 (by dsimp only; omega)).trans (onw_p (by dsimp only; omega))) (by repeat' (first | assumption | exact FW.rf | refine FW.up ?_ (by unfold wS; omega) | (refine FW.tr ?_ (by assumption)))) (by (try simp (disch := decide) only [upI_eq, upI_a, upI_i, upR_eq, upR_a, upR_i]); try assumption) (by (try simp (disch := decide) only [upI_eq, upI_a, upI_i, upR_eq, upR_a, upR_i]); try assumption)) | (exact no _ ((tsH_24 c1).trans (onw_n (by intro h; dsimp only at h; omega))) (by repeat' (first | assumption | exact FW.rf | refine FW.up ?_ (by unfold wS; omega) | (refine FW.tr ?_ (by assumption)))) (by (try simp (disch := decide) only [upI_eq, upI_a, upI_i, upR_eq, upR_a, upR_i]); try assumption))
                · first
                  | (exfalso; omega)
                  | skip
                    refine s255_237.mpr (s255_238.mpr (s255_240.mpr ((s255_241 kM).mpr ?_)))
                    rw [mr_10 hR]
                    refine s255_244.mpr (s255_246.mpr (s255_247.mpr (s255_248.mpr (s255_250.mpr ?_))))
                    try simp (disch := first | decide | assumption | omega) only [kon, knt_some, knt_none, Option.toList_some, Option.toList_none, List.cons_append, List.nil_append, upI_eq, upI_a, upI_i, upR_eq, upR_a, upR_i, h36, ht, E1, E2, E3, E4, E5, E6, E7, fAdd_id, fSub_id, fMul_id, m2a, m2b]
                    refine (s255_252 (by omega)).mpr ?_
                    refine (m_which (vT_rng (hv75 _ (by omega) (by omega)))).mpr ?_
                    refine s255_255.mpr (s255_256.mpr (s255_257.mpr (s255_259.mpr ?_)))
                    try simp (disch := first | decide | assumption | omega) only [kon, knt_some, knt_none, Option.toList_some, Option.toList_none, List.cons_append, List.nil_append, upI_eq, upI_a, upI_i, upR_eq, upR_a, upR_i, h36, ht, E1, E2, E3, E4, E5, E6, E7, fAdd_id, fSub_id, fMul_id, m2a, m2b]
                    refine (s255_260 (hA.k (by decide) (by decide) rfl) (by first | assumption | omega) (by first | assumption | omega)).mpr ?_
                    try simp (disch := first | decide | assumption | omega) only [kon, knt_some, knt_none, Option.toList_some, Option.toList_none, List.cons_append, List.nil_append, upI_eq, upI_a, upI_i, upR_eq, upR_a, upR_i, h36, ht, E1, E2, E3, E4, E5, E6, E7, fAdd_id, fSub_id, fMul_id, m2a, m2b]
                    refine (s255_261 (by omega) kM).mpr ?_
                    refine m_fits hA hR (by omega) (by (try simp (disch := decide) only [upI_eq, upI_a, upI_i, upR_eq, upR_a, upR_i]); first | assumption | rfl) (by omega) (fun y261 => ?_) (fun y261 => ?_)
                    · skip
                      refine s255_264.mpr ?_
                      refine (s255_583).mpr ?_
                      first | (exfalso; omega) | (exact ok _ _ _ ((tsH_24n c1 (by dsimp only; intro h6; rw [h6] at y179; exact absurd y179.2.2 (by decide))).trans (onw_p (by dsimp only; exact ⟨by omega, Or.inr ⟨by omega, by omega, y261.2⟩⟩))) (flw1 (by rw [c1]; decide)) (by repeat' (first | assumption | exact FW.rf | refine FW.up ?_ (by unfold wS; omega) | (refine FW.tr ?_ (by assumption)))) (by (try simp (disch := decide) only [upI_eq, upI_a, upI_i, upR_eq, upR_a, upR_i]); try assumption) (by (try simp (disch := decide) only [upI_eq, upI_a, upI_i, upR_eq, upR_a, upR_i]); try assumption) (by simp (disch := decide) only [scX, upI_eq, upI_a, upI_i, upR_eq, upR_a, upR_i, upI_ro, upI_rw, up1_same, up1_eq, ht, E1, E2, E3, E4, E5, E6, E7])) | (exact st _ ((tsH_24s c1 (by dsimp only; omega)).trans (onw_p (by dsimp only; omega))) (by repeat' (first | assumption | exact FW.rf | refine FW.up ?_ (by unfold wS; omega) | (refine FW.tr ?_ (by assumption)))) (by (try simp (disch := decide) only [upI_eq, upI_a, upI_i, upR_eq, upR_a, upR_i]); try assumption) (by (try simp (disch := decide) only [upI_eq, upI_a, upI_i, upR_eq, upR_a, upR_i]); try assumption)) | (exact no _ ((tsH_24 c1).trans (onw_n (by intro h; dsimp only at h; omega))) (by repeat' (first | assumption | exact FW.rf | refine FW.up ?_ (by unfold wS; omega) | (refine FW.tr ?_ (by assumption)))) (by (try simp (disch := decide) only [upI_eq, upI_a, upI_i, upR_eq, upR_a, upR_i]); try assumption))
                    · skip
                      refine s255_264.mpr ?_
                      refine (s255_583).mpr ?_
                      first | (exfalso; omega) | (exact ok _ _ _ ((tsH_24n c1 (by dsimp only; intro h6; rw [h6] at y179; exact absurd y179.2.2 (by decide))).trans (onw_p (by dsimp only; exact ⟨by omega, Or.inr ⟨by omega, by omega, y261.2⟩⟩))) (flw1 (by rw [c1]; decide)) (by repeat' (first | assumption | exact FW.rf | refine FW.up ?_ (by unfold wS; omega) | (refine FW.tr ?_ (by assumption)))) (by (try simp (disch := decide) only [upI_eq, upI_a, upI_i, upR_eq, upR_a, upR_i]); try assumption) (by (try simp (disch := decide) only [upI_eq, upI_a, upI_i, upR_eq, upR_a, upR_i]); try assumption) (by simp (disch := decide) only [scX, upI_eq, upI_a, upI_i, upR_eq, upR_a, upR_i, upI_ro, upI_rw, up1_same, up1_eq, ht, E1, E2, E3, E4, E5, E6, E7])) | (exact st _ ((tsH_24s c1 (by dsimp only; omega)).trans (onw_p (by dsimp only; omega))) (by repeat' (first | assumption | exact FW.rf | refine FW.up ?_ (by unfold wS; omega) | (refine FW.tr ?_ (by assumption)))) (by (try simp (disch := decide) only [upI_eq, upI_a, upI_i, upR_eq, upR_a, upR_i]); try assumption) (by (try simp (disch := decide) only [upI_eq, upI_a, upI_i, upR_eq, upR_a, upR_i]); try assumption)) | (exact no _ ((tsH_24 c1).trans (onw_n (by intro h; dsimp only at h; omega))) (by repeat' (first | assumption | exact FW.rf | refine FW.up ?_ (by unfold wS; omega) | (refine FW.tr ?_ (by assumption)))) (by (try simp (disch := decide) only [upI_eq, upI_a, upI_i, upR_eq, upR_a, upR_i]); try assumption))
          · first
            | (exfalso; omega)
            | skip
              refine s255_202.mpr (s255_204.mpr ((s255_205 kM).mpr ?_))
              rw [mr_9 hR]
              refine s255_208.mpr (s255_210.mpr (s255_211.mpr (s255_212.mpr ?_)))
              try simp (disch := first | decide | assumption | omega) only [kon, knt_some, knt_none, Option.toList_some, Option.toList_none, List.cons_append, List.nil_append, upI_eq, upI_a, upI_i, upR_eq, upR_a, upR_i, h36, ht, E1, E2, E3, E4, E5, E6, E7, fAdd_id, fSub_id, fMul_id, m2a, m2b]
              refine (s255_214 (by omega)).mpr ?_
              refine (m_which (vT_rng (hv75 _ (by omega) (by omega)))).mpr ?_
              refine s255_217.mpr ?_
              try simp (disch := first | decide | assumption | omega) only [kon, knt_some, knt_none, Option.toList_some, Option.toList_none, List.cons_append, List.nil_append, upI_eq, upI_a, upI_i, upR_eq, upR_a, upR_i, h36, ht, E1, E2, E3, E4, E5, E6, E7, fAdd_id, fSub_id, fMul_id, m2a, m2b]
              refine (s255_218 (hA.k (by decide) (by decide) rfl) (by first | assumption | omega) (by first | assumption | omega)).mpr ?_
              try simp (disch := first | decide | assumption | omega) only [kon, knt_some, knt_none, Option.toList_some, Option.toList_none, List.cons_append, List.nil_append, upI_eq, upI_a, upI_i, upR_eq, upR_a, upR_i, h36, ht, E1, E2, E3, E4, E5, E6, E7, fAdd_id, fSub_id, fMul_id, m2a, m2b]
              refine s255_219.mpr (wif (fun c219 => ?_) (fun c219 => ?_))
              · first
                | (exfalso; omega)
                | skip
                  refine s255_222.mpr (s255_223.mpr ?_)
                  refine (s255_227 (by omega) kM).mpr ?_
                  refine m_wants hA (by omega) (by (try simp (disch := decide) only [upI_eq, upI_a, upI_i, upR_eq, upR_a, upR_i]); first | assumption | rfl) (by omega) (fun y227 => ?_) (fun y227 => ?_)
                  · skip
                    refine s255_230.mpr ?_
                    refine (s255_231 kM).mpr ?_
                    try simp (disch := first | decide | assumption | omega) only [kon, knt_some, knt_none, Option.toList_some, Option.toList_none, List.cons_append, List.nil_append, upI_eq, upI_a, upI_i, upR_eq, upR_a, upR_i, h36, ht, E1, E2, E3, E4, E5, E6, E7, fAdd_id, fSub_id, fMul_id, m2a, m2b]
                    refine s255_234.mpr (wif (fun c234 => ?_) (fun c234 => ?_))
                    · first
                      | (exfalso; omega)
                      | skip
                        refine (s255_583).mpr ?_
                        first | (exfalso; omega) | (exact ok _ _ _ ((tsH_24n c1 (by dsimp only; intro h6; rw [h6] at y179; exact absurd y179.2.2 (by decide))).trans (onw_p (by dsimp only; exact ⟨by omega, Or.inr ⟨by omega, by omega, y261.2⟩⟩))) (flw1 (by rw [c1]; decide)) (by repeat' (first | assumption | exact FW.rf | refine FW.up ?_ (by unfold wS; omega) | (refine FW.tr ?_ (by assumption)))) (by (try simp (disch := decide) only [upI_eq, upI_a, upI_i, upR_eq, upR_a, upR_i]); try assumption) (by (try simp (disch := decide) only [upI_eq, upI_a, upI_i, upR_eq, upR_a, upR_i]); try assumption) (by simp (disch := decide) only [scX, upI_eq, upI_a, upI_i, upR_eq, upR_a, upR_i, upI_ro, upI_rw, up1_same, up1_eq, ht, E1, E2, E3, E4, E5, E6, E7])) | (exact st _ ((tsH_24s c1 (by dsimp only; omega)).trans (onw_p (by dsimp only; omega))) (by repeat' (first | assumption | exact FW.rf | refine FW.up ?_ (by unfold wS; omega) | (refine FW.tr ?_ (by assumption)))) (by (try simp (disch := decide) only [upI_eq, upI_a, upI_i, upR_eq, upR_a, upR_i]); try assumption) (by (try simp (disch := decide) only [upI_eq, upI_a, upI_i, upR_eq, upR_a, upR_i]); try assumption)) | (exact no _ ((tsH_24 c1).trans (onw_n (by intro h; dsimp only at h; omega))) (by repeat' (first | assumption | exact FW.rf | refine FW.up ?_ (by unfold wS; omega) | (refine FW.tr ?_ (by assumption)))) (by (try simp (disch := decide) only [upI_eq, upI_a, upI_i, upR_eq, upR_a, upR_i]); try assumption))
                    · first
                      | (exfalso; omega)
                      | skip
                        refine s255_237.mpr (s255_238.mpr (s255_240.mpr ((s255_241 kM).mpr ?_)))
                        rw [mr_10 hR]
                        refine s255_244.mpr (s255_246.mpr (s255_247.mpr (s255_248.mpr (s255_250.mpr ?_))))
                        try simp (disch := first | decide | assumption | omega) only [kon, knt_some, knt_none, Option.toList_some, Option.toList_none, List.cons_append, List.nil_append, upI_eq, upI_a, upI_i, upR_eq, upR_a, upR_i, h36, ht, E1, E2, E3, E4, E5, E6, E7, fAdd_id, fSub_id, fMul_id, m2a, m2b]
                        refine (s255_252 (by omega)).mpr ?_
                        refine (m_which (vT_rng (hv75 _ (by omega) (by omega)))).mpr ?_
                        refine s255_255.mpr (s255_256.mpr (s255_257.mpr (s255_259.mpr ?_)))
                        try simp (disch := first | decide | assumption | omega) only [kon, knt_some, knt_none, Option.toList_some, Option.toList_none, List.cons_append, List.nil_append, upI_eq, upI_a, upI_i, upR_eq, upR_a, upR_i, h36, ht, E1, E2, E3, E4, E5, E6, E7, fAdd_id, fSub_id, fMul_id, m2a, m2b]
                        refine (s255_260 (hA.k (by decide) (by decide) rfl) (by first | assumption | omega) (by first | assumption | omega)).mpr ?_
                        try simp (disch := first | decide | assumption | omega) only [kon, knt_some, knt_none, Option.toList_some, Option.toList_none, List.cons_append, List.nil_append, upI_eq, upI_a, upI_i, upR_eq, upR_a, upR_i, h36, ht, E1, E2, E3, E4, E5, E6, E7, fAdd_id, fSub_id, fMul_id, m2a, m2b]
                        refine (s255_261 (by omega) kM).mpr ?_
                        refine m_fits hA hR (by omega) (by (try simp (disch := decide) only [upI_eq, upI_a, upI_i, upR_eq, upR_a, upR_i]); first | assumption | rfl) (by omega) (fun y261 => ?_) (fun y261 => ?_)
                        · skip
                          refine s255_264.mpr ?_
                          refine (s255_583).mpr ?_
                          first | (exfalso; omega) | (exact ok _ _ _ ((tsH_24n c1 (by dsimp only; intro h6; rw [h6] at y179; exact absurd y179.2.2 (by decide))).trans (onw_p (by dsimp only; exact ⟨by omega, Or.inr ⟨by omega, by omega, y261.2⟩⟩))) (flw1 (by rw [c1]; decide)) (by repeat' (first | assumption | exact FW.rf | refine FW.up ?_ (by unfold wS; omega) | (refine FW.tr ?_ (by assumption)))) (by (try simp (disch := decide) only [upI_eq, upI_a, upI_i, upR_eq, upR_a, upR_i]); try assumption) (by (try simp (disch := decide) only [upI_eq, upI_a, upI_i, upR_eq, upR_a, upR_i]); try assumption) (by simp (disch := decide) only [scX, upI_eq, upI_a, upI_i, upR_eq, upR_a, upR_i, upI_ro, upI_rw, up1_same, up1_eq, ht, E1, E2, E3, E4, E5, E6, E7])) | (exact st _ ((tsH_24s c1 (by dsimp only; omega)).trans (onw_p (by dsimp only; omega))) (by repeat' (first | assumption | exact FW.rf | refine FW.up ?_ (by unfold wS; omega) | (refine FW.tr ?_ (by assumption)))) (by (try simp (disch := decide) only [upI_eq, upI_a, upI_i, upR_eq, upR_a, upR_i]); try assumption) (by (try simp (disch := decide) only [upI_eq, upI_a, upI_i, upR_eq, upR_a, upR_i]); try assumption)) | (exact no _ ((tsH_24 c1).trans (onw_n (by intro h; dsimp only at h; omega))) (by repeat' (first | assumption | exact FW.rf | refine FW.up ?_ (by unfold wS; omega) | (refine FW.tr ?_ (by assumption)))) (by (try simp (disch := decide) only [upI_eq, upI_a, upI_i, upR_eq, upR_a, upR_i]); try assumption))
                        · skip
                          refine s255_264.mpr ?_
                          refine (s255_583).mpr ?_
                          first | (exfalso; omega) | (exact ok _ _ _ ((tsH_24n c1 (by dsimp only; intro h6; rw [h6] at y179; exact absurd y179.2.2 (by decide))).trans (onw_p (by dsimp only; exact ⟨by omega, Or.inr ⟨by omega, by omega, y261.2⟩⟩))) (flw1 (by rw [c1]; decide)) (by repeat' (first | assumption | exact FW.rf | refine FW.up ?_ (by unfold wS; omega) | (refine FW.tr ?_ (by assumption)))) (by (try simp (disch := decide) only [upI_eq, upI_a, upI_i, upR_eq, upR_a, upR_i]); try assumption) (by (try simp (disch := decide) only [upI_eq, upI_a, upI_i, upR_eq, upR_a, upR_i]); try assumption) (by simp (disch := decide) only [scX, upI_eq, upI_a, upI_i, upR_eq, upR_a, upR_i, upI_ro, upI_rw, up1_same, up1_eq, ht, E1, E2, E3, E4, E5, E6, E7])) | (exact st _ ((tsH_24s c1 (by dsimp only; omega)).trans (onw_p (by dsimp only; omega))) (by repeat' (first | assumption | exact FW.rf | refine FW.up ?_ (by unfold wS; omega) | (refine FW.tr ?_ (by assumption)))) (by (try simp (disch := decide) only [upI_eq, upI_a, upI_i, upR_eq, upR_a, upR_i]); try assumption) (by (try simp (disch := decide) only [upI_eq, upI_a, upI_i, upR_eq, upR_a, upR_i]); try assumption)) | (exact no _ ((tsH_24 c1).trans (onw_n (by intro h; dsimp only at h; omega))) (by repeat' (first | assumption | exact FW.rf | refine FW.up ?_ (by unfold wS; omega) | (refine FW.tr ?_ (by assumption)))) (by (try simp (disch := decide) only [upI_eq, upI_a, upI_i, upR_eq, upR_a, upR_i]); try assumption))
                  · skip
                    refine s255_230.mpr ?_
                    refine (s255_231 kM).mpr ?_
                    try simp (disch := first | decide | assumption | omega) only [kon, knt_some, knt_none, Option.toList_some, Option.toList_none, List.cons_append, List.nil_append, upI_eq, upI_a, upI_i, upR_eq, upR_a, upR_i, h36, ht, E1, E2, E3, E4, E5, E6, E7, fAdd_id, fSub_id, fMul_id, m2a, m2b]
                    refine s255_234.mpr (wif (fun c234 => ?_) (fun c234 => ?_))
                    · first
                      | (exfalso; omega)
                      | skip
                        refine (s255_583).mpr ?_
                        first | (exfalso; omega) | (exact ok _ _ _ ((tsH_24n c1 (by dsimp only; intro h6; rw [h6] at y179; exact absurd y179.2.2 (by decide))).trans (onw_p (by dsimp only; exact ⟨by omega, Or.inr ⟨by omega, by omega, y261.2⟩⟩))) (flw1 (by rw [c1]; decide)) (by repeat' (first | assumption | exact FW.rf | refine FW.up ?_ (by unfold wS; omega) | (refine FW.tr ?_ (by assumption)))) (by (try simp (disch := decide) only [upI_eq, upI_a, upI_i, upR_eq, upR_a, upR_i]); try assumption) (by (try simp (disch := decide) only [upI_eq, upI_a, upI_i, upR_eq, upR_a, upR_i]); try assumption) (by simp (disch := decide) only [scX, upI_eq, upI_a, upI_i, upR_eq, upR_a, upR_i, upI_ro, upI_rw, up1_same, up1_eq, ht, E1, E2, E3, E4, E5, E6, E7])) | (exact st _ ((tsH_24s c1 (by dsimp only; omega)).trans (onw_p (by dsimp only; omega))) (by repeat' (first | assumption | exact FW.rf | refine FW.up ?_ (by unfold wS; omega) | (refine FW.tr ?_ (by assumption)))) (by (try simp (disch := decide) only [upI_eq, upI_a, upI_i, upR_eq, upR_a, upR_i]); try assumption) (by (try simp (disch := decide) only [upI_eq, upI_a, upI_i, upR_eq, upR_a, upR_i]); try assumption)) | (exact no _ ((tsH_24 c1).trans (onw_n (by intro h; dsimp only at h; omega))) (by repeat' (first | assumption | exact FW.rf | refine FW.up ?_ (by unfold wS; omega) | (refine FW.tr ?_ (by assumption)))) (by (try simp (disch := decide) only [upI_eq, upI_a, upI_i, upR_eq, upR_a, upR_i]); try assumption))
                    · first
                      | (exfalso; omega)
                      | skip
                        refine s255_237.mpr (s255_238.mpr (s255_240.mpr ((s255_241 kM).mpr ?_)))
                        rw [mr_10 hR]
                        refine s255_244.mpr (s255_246.mpr (s255_247.mpr (s255_248.mpr (s255_250.mpr ?_))))
                        try simp (disch := first | decide | assumption | omega) only [kon, knt_some, knt_none, Option.toList_some, Option.toList_none, List.cons_append, List.nil_append, upI_eq, upI_a, upI_i, upR_eq, upR_a, upR_i, h36, ht, E1, E2, E3, E4, E5, E6, E7, fAdd_id, fSub_id, fMul_id, m2a, m2b]
                        refine (s255_252 (by omega)).mpr ?_
                        refine (m_which (vT_rng (hv75 _ (by omega) (by omega)))).mpr ?_
                        refine s255_255.mpr (s255_256.mpr (s255_257.mpr (s255_259.mpr ?_)))
                        try simp (disch := first | decide | assumption | omega) only [kon, knt_some, knt_none, Option.toList_some, Option.toList_none, List.cons_append, List.nil_append, upI_eq, upI_a, upI_i, upR_eq, upR_a, upR_i, h36, ht, E1, E2, E3, E4, E5, E6, E7, fAdd_id, fSub_id, fMul_id, m2a, m2b]
                        refine (s255_260 (hA.k (by decide) (by decide) rfl) (by first | assumption | omega) (by first | assumption | omega)).mpr ?_
                        try simp (disch := first | decide | assumption | omega) only [kon, knt_some, knt_none, Option.toList_some, Option.toList_none, List.cons_append, List.nil_append, upI_eq, upI_a, upI_i, upR_eq, upR_a, upR_i, h36, ht, E1, E2, E3, E4, E5, E6, E7, fAdd_id, fSub_id, fMul_id, m2a, m2b]
                        refine (s255_261 (by omega) kM).mpr ?_
                        refine m_fits hA hR (by omega) (by (try simp (disch := decide) only [upI_eq, upI_a, upI_i, upR_eq, upR_a, upR_i]); first | assumption | rfl) (by omega) (fun y261 => ?_) (fun y261 => ?_)
                        · skip
                          refine s255_264.mpr ?_
                          refine (s255_583).mpr ?_
                          first | (exfalso; omega) | (exact ok _ _ _ ((tsH_24n c1 (by dsimp only; intro h6; rw [h6] at y179; exact absurd y179.2.2 (by decide))).trans (onw_p (by dsimp only; exact ⟨by omega, Or.inr ⟨by omega, by omega, y261.2⟩⟩))) (flw1 (by rw [c1]; decide)) (by repeat' (first | assumption | exact FW.rf | refine FW.up ?_ (by unfold wS; omega) | (refine FW.tr ?_ (by assumption)))) (by (try simp (disch := decide) only [upI_eq, upI_a, upI_i, upR_eq, upR_a, upR_i]); try assumption) (by (try simp (disch := decide) only [upI_eq, upI_a, upI_i, upR_eq, upR_a, upR_i]); try assumption) (by simp (disch := decide) only [scX, upI_eq, upI_a, upI_i, upR_eq, upR_a, upR_i, upI_ro, upI_rw, up1_same, up1_eq, ht, E1, E2, E3, E4, E5, E6, E7])) | (exact st _ ((tsH_24s c1 (by dsimp only; omega)).trans (onw_p (by dsimp only; omega))) (by repeat' (first | assumption | exact FW.rf | refine FW.up ?_ (by unfold wS; omega) | (refine FW.tr ?_ (by assumption)))) (by (try simp (disch := decide) only [upI_eq, upI_a, upI_i, upR_eq, upR_a, upR_i]); try assumption) (by (try simp (disch := decide) only [upI_eq, upI_a, upI_i, upR_eq, upR_a, upR_i]); try assumption)) | (exact no _ ((tsH_24 c1).trans (onw_n (by intro h; dsimp only at h; omega))) (by repeat' (first | assumption | exact FW.rf | refine FW.up ?_ (by unfold wS; omega) | (refine FW.tr ?_ (by assumption)))) (by (try simp (disch := decide) only [upI_eq, upI_a, upI_i, upR_eq, upR_a, upR_i]); try assumption))
                        · skip
                          refine s255_264.mpr ?_
                          refine (s255_583).mpr ?_
                          first | (exfalso; omega) | (exact ok _ _ _ ((tsH_24n c1 (by dsimp only; intro h6; rw [h6] at y179; exact absurd y179.2.2 (by decide))).trans (onw_p (by dsimp only; exact ⟨by omega, Or.inr ⟨by omega, by omega, y261.2⟩⟩))) (flw1 (by rw [c1]; decide)) (by repeat' (first | assumption | exact FW.rf | refine FW.up ?_ (by unfold wS; omega) | (refine FW.tr ?_ (by assumption)))) (by (try simp (disch := decide) only [upI_eq, upI_a, upI_i, upR_eq, upR_a, upR_i]); try assumption) (by (try simp (disch := decide) only [upI_eq, upI_a, upI_i, upR_eq, upR_a, upR_i]); try assumption) (by simp (disch := decide) only [scX, upI_eq, upI_a, upI_i, upR_eq, upR_a, upR_i, upI_ro, upI_rw, up1_same, up1_eq, ht, E1, E2, E3, E4, E5, E6, E7])) | (exact st _ ((tsH_24s c1 (by dsimp only; omega)).trans (onw_p (by dsimp only; omega))) (by repeat' (first | assumption | exact FW.rf | refine FW.up ?_ (by unfold wS; omega) | (refine FW.tr ?_ (by assumption)))) (by (try simp (disch := decide) only [upI_eq, upI_a, upI_i, upR_eq, upR_a, upR_i]); try assumption) (by (try simp (disch := decide) only [upI_eq, upI_a, upI_i, upR_eq, upR_a, upR_i]); try assumption)) | (exact no _ ((tsH_24 c1).trans (onw_n (by intro h; dsimp only at h; omega))) (by repeat' (first | assumption | exact FW.rf | refine FW.up ?_ (by unfold wS; omega) | (refine FW.tr ?_ (by assumption)))) (by (try simp (disch := decide) only [upI_eq, upI_a, upI_i, upR_eq, upR_a, upR_i]); try assumption))
              · first
                | (exfalso; omega)
                | skip
                  refine s255_226.mpr ?_
                  refine (s255_227 (by omega) kM).mpr ?_
                  refine m_wants hA (by omega) (by (try simp (disch := decide) only [upI_eq, upI_a, upI_i, upR_eq, upR_a, upR_i]); first | assumption | rfl) (by omega) (fun y227 => ?_) (fun y227 => ?_)
                  · skip
                    refine s255_230.mpr ?_
                    refine (s255_231 kM).mpr ?_
                    try simp (disch := first | decide | assumption | omega) only [kon, knt_some, knt_none, Option.toList_some, Option.toList_none, List.cons_append, List.nil_append, upI_eq, upI_a, upI_i, upR_eq, upR_a, upR_i, h36, ht, E1, E2, E3, E4, E5, E6, E7, fAdd_id, fSub_id, fMul_id, m2a, m2b]
                    refine s255_234.mpr (wif (fun c234 => ?_) (fun c234 => ?_))
                    · first
                      | (exfalso; omega)
                      | skip
                        refine (s255_583).mpr ?_
                        first | (exfalso; omega) | (exact ok _ _ _ ((tsH_24n c1 (by dsimp only; intro h6; rw [h6] at y179; exact absurd y179.2.2 (by decide))).trans (onw_p (by dsimp only; exact ⟨by omega, Or.inr ⟨by omega, by omega, y261.2⟩⟩))) (flw1 (by rw [c1]; decide)) (by repeat' (first | assumption | exact FW.rf | refine FW.up ?_ (by unfold wS; omega) | (refine FW.tr ?_ (by assumption)))) (by (try simp (disch := decide) only [upI_eq, upI_a, upI_i, upR_eq, upR_a, upR_i]); try assumption) (by (try simp (disch := decide) only [upI_eq, upI_a, upI_i, upR_eq, upR_a, upR_i]); try assumption) (by simp (disch := decide) only [scX, upI_eq, upI_a, upI_i, upR_eq, upR_a, upR_i, upI_ro, upI_rw, up1_same, up1_eq, ht, E1, E2, E3, E4, E5, E6, E7])) | (exact st _ ((tsH_24s c1 (by dsimp only; omega)).trans (onw_p (by dsimp only; omega))) (by repeat' (first | assumption | exact FW.rf | refine FW.up ?_ (by unfold wS; omega) | (refine FW.tr ?_ (by assumption)))) (by (try simp (disch := decide) only [upI_eq, upI_a, upI_i, upR_eq, upR_a, upR_i]); try assumption) (by (try simp (disch := decide) only [upI_eq, upI_a, upI_i, upR_eq, upR_a, upR_i]); try assumption)) | (exact no _ ((tsH_24 c1).trans (onw_n (by intro h; dsimp only at h; omega))) (by repeat' (first | assumption | exact FW.rf | refine FW.up ?_ (by unfold wS; omega) | (refine FW.tr ?_ (by assumption)))) (by (try simp (disch := decide) only [upI_eq, upI_a, upI_i, upR_eq, upR_a, upR_i]); try assumption))
                    · first
                      | (exfalso; omega)
                      | skip
                        refine s255_237.mpr (s255_238.mpr (s255_240.mpr ((s255_241 kM).mpr ?_)))
                        rw [mr_10 hR]
                        refine s255_244.mpr (s255_246.mpr (s255_247.mpr (s255_248.mpr (s255_250.mpr ?_))))
                        try simp (disch := first | decide | assumption | omega) only [kon, knt_some, knt_none, Option.toList_some, Option.toList_none, List.cons_append, List.nil_append, upI_eq, upI_a, upI_i, upR_eq, upR_a, upR_i, h36, ht, E1, E2, E3, E4, E5, E6, E7, fAdd_id, fSub_id, fMul_id, m2a, m2b]
                        refine (s255_252 (by omega)).mpr ?_
                        refine (m_which (vT_rng (hv75 _ (by omega) (by omega)))).mpr ?_
                        refine s255_255.mpr (s255_256.mpr (s255_257.mpr (s255_259.mpr ?_)))
                        try simp (disch := first | decide | assumption | omega) only [kon, knt_some, knt_none, Option.toList_some, Option.toList_none, List.cons_append, List.nil_append, upI_eq, upI_a, upI_i, upR_eq, upR_a, upR_i, h36, ht, E1, E2, E3, E4, E5, E6, E7, fAdd_id, fSub_id, fMul_id, m2a, m2b]
                        refine (s255_260 (hA.k (by decide) (by decide) rfl) (by first | assumption | omega) (by first | assumption | omega)).mpr ?_
                        try simp (disch := first | decide | assumption | omega) only [kon, knt_some, knt_none, Option.toList_some, Option.toList_none, List.cons_append, List.nil_append, upI_eq, upI_a, upI_i, upR_eq, upR_a, upR_i, h36, ht, E1, E2, E3, E4, E5, E6, E7, fAdd_id, fSub_id, fMul_id, m2a, m2b]
                        refine (s255_261 (by omega) kM).mpr ?_
                        refine m_fits hA hR (by omega) (by (try simp (disch := decide) only [upI_eq, upI_a, upI_i, upR_eq, upR_a, upR_i]); first | assumption | rfl) (by omega) (fun y261 => ?_) (fun y261 => ?_)
                        · skip
                          refine s255_264.mpr ?_
                          refine (s255_583).mpr ?_
                          first | (exfalso; omega) | (exact ok _ _ _ ((tsH_24n c1 (by dsimp only; intro h6; rw [h6] at y179; exact absurd y179.2.2 (by decide))).trans (onw_p (by dsimp only; exact ⟨by omega, Or.inr ⟨by omega, by omega, y261.2⟩⟩))) (flw1 (by rw [c1]; decide)) (by repeat' (first | assumption | exact FW.rf | refine FW.up ?_ (by unfold wS; omega) | (refine FW.tr ?_ (by assumption)))) (by (try simp (disch := decide) only [upI_eq, upI_a, upI_i, upR_eq, upR_a, upR_i]); try assumption) (by (try simp (disch := decide) only [upI_eq, upI_a, upI_i, upR_eq, upR_a, upR_i]); try assumption) (by simp (disch := decide) only [scX, upI_eq, upI_a, upI_i, upR_eq, upR_a, upR_i, upI_ro, upI_rw, up1_same, up1_eq, ht, E1, E2, E3, E4, E5, E6, E7])) | (exact st _ ((tsH_24s c1 (by dsimp only; omega)).trans (onw_p (by dsimp only; omega))) (by repeat' (first | assumption | exact FW.rf | refine FW.up ?_ (by unfold wS; omega) | (refine FW.tr ?_ (by assumption)))) (by (try simp (disch := decide) only [upI_eq, upI_a, upI_i, upR_eq, upR_a, upR_i]); try assumption) (by (try simp (disch := decide) only [upI_eq, upI_a, upI_i, upR_eq, upR_a, upR_i]); try assumption)) | (exact no _ ((tsH_24 c1).trans (onw_n (by intro h; dsimp only at h; omega))) (by repeat' (first | assumption | exact FW.rf | refine FW.up ?_ (by unfold wS; omega) | (refine FW.tr ?_ (by assumption)))) (by (try simp (disch := decide) only [upI_eq, upI_a, upI_i, upR_eq, upR_a, upR_i]); try assumption))
                        · skip
                          refine s255_264.mpr ?_
                          refine (s255_583).mpr ?_
                          first | (exfalso; omega) | (exact ok _ _ _ ((tsH_24n c1 (by dsimp only; intro h6; rw [h6] at y179; exact absurd y179.2.2 (by decide))).trans (onw_p (by dsimp only; exact ⟨by omega, Or.inr ⟨by omega, by omega, y261.2⟩⟩))) (flw1 (by rw [c1]; decide)) (by repeat' (first | assumption | exact FW.rf | refine FW.up ?_ (by unfold wS; omega) | (refine FW.tr ?_ (by assumption)))) (by (try simp (disch := decide) only [upI_eq, upI_a, upI_i, upR_eq, upR_a, upR_i]); try assumption) (by (try simp (disch := decide) only [upI_eq, upI_a, upI_i, upR_eq, upR_a, upR_i]); try assumption) (by simp (disch := decide) only [scX, upI_eq, upI_a, upI_i, upR_eq, upR_a, upR_i, upI_ro, upI_rw, up1_same, up1_eq, ht, E1, E2, E3, E4, E5, E6, E7])) | (exact st _ ((tsH_24s c1 (by dsimp only; omega)).trans (onw_p (by dsimp only; omega))) (by repeat' (first | assumption | exact FW.rf | refine FW.up ?_ (by unfold wS; omega) | (refine FW.tr ?_ (by assumption)))) (by (try simp (disch := decide) only [upI_eq, upI_a, upI_i, upR_eq, upR_a, upR_i]); try assumption) (by (try simp (disch := decide) only [upI_eq, upI_a, upI_i, upR_eq, upR_a, upR_i]); try assumption)) | (exact no _ ((tsH_24 c1).trans (onw_n (by intro h; dsimp only at h; omega))) (by repeat' (first | assumption | exact FW.rf | refine FW.up ?_ (by unfold wS; omega) | (refine FW.tr ?_ (by assumption)))) (by (try simp (disch := decide) only [upI_eq, upI_a, upI_i, upR_eq, upR_a, upR_i]); try assumption))
                  · skip
                    refine s255_230.mpr ?_
                    refine (s255_231 kM).mpr ?_
                    try simp (disch := first | decide | assumption | omega) only [kon, knt_some, knt_none, Option.toList_some, Option.toList_none, List.cons_append, List.nil_append, upI_eq, upI_a, upI_i, upR_eq, upR_a, upR_i, h36, ht, E1, E2, E3, E4, E5, E6, E7, fAdd_id, fSub_id, fMul_id, m2a, m2b]
                    refine s255_234.mpr (wif (fun c234 => ?_) (fun c234 => ?_))
                    · first
                      | (exfalso; omega)
                      | skip
                        refine (s255_583).mpr ?_
                        first | (exfalso; omega) | (exact ok _ _ _ ((tsH_24n c1 (by dsimp only; intro h6; rw [h6] at y179; exact absurd y179.2.2 (by decide))).trans (onw_p (by dsimp only; exact ⟨by omega, Or.inr ⟨by omega, by omega, y261.2⟩⟩))) (flw1 (by rw [c1]; decide)) (by repeat' (first | assumption | exact FW.rf | refine FW.up ?_ (by unfold wS; omega) | (refine FW.tr ?_ (by assumption)))) (by (try simp (disch := decide) only [upI_eq, upI_a, upI_i, upR_eq, upR_a, upR_i]); try assumption) (by (try simp (disch := decide) only [upI_eq, upI_a, upI_i, upR_eq, upR_a, upR_i]); try assumption) (by simp (disch := decide) only [scX, upI_eq, upI_a, upI_i, upR_eq, upR_a, upR_i, upI_ro, upI_rw, up1_same, up1_eq, ht, E1, E2, E3, E4, E5, E6, E7])) | (exact st _ ((tsH_24s c1 (by dsimp only; omega)).trans (onw_p (by dsimp only; omega))) (by repeat' (first | assumption | exact FW.rf | refine FW.up ?_ (by unfold wS; omega) | (refine FW.tr ?_ (by assumption)))) (by (try simp (disch := decide) only [upI_eq, upI_a, upI_i, upR_eq, upR_a, upR_i]); try assumption) (by (try simp (disch := decide) only [upI_eq, upI_a, upI_i, upR_eq, upR_a, upR_i]); try assumption)) | (exact no _ ((tsH_24 c1).trans (onw_n (by intro h; dsimp only at h; omega))) (by repeat' (first | assumption | exact FW.rf | refine FW.up ?_ (by unfold wS; omega) | (refine FW.tr ?_ (by assumption)))) (by (try simp (disch := decide) only [upI_eq, upI_a, upI_i, upR_eq, upR_a, upR_i]); try assumption))
                    · first
                      | (exfalso; omega)
                      | skip
                        refine s255_237.mpr (s255_238.mpr (s255_240.mpr ((s255_241 kM).mpr ?_)))
                        rw [mr_10 hR]
                        refine s255_244.mpr (s255_246.mpr (s255_247.mpr (s255_248.mpr (s255_250.mpr ?_))))
                        try simp (disch := first | decide | assumption | omega) only [kon, knt_some, knt_none, Option.toList_some, Option.toList_none, List.cons_append, List.nil_append, upI_eq, upI_a, upI_i, upR_eq, upR_a, upR_i, h36, ht, E1, E2, E3, E4, E5, E6, E7, fAdd_id, fSub_id, fMul_id, m2a, m2b]
                        refine (s255_252 (by omega)).mpr ?_
                        refine (m_which (vT_rng (hv75 _ (by omega) (by omega)))).mpr ?_
                        refine s255_255.mpr (s255_256.mpr (s255_257.mpr (s255_259.mpr ?_)))
                        try simp (disch := first | decide | assumption | omega) only [kon, knt_some, knt_none, Option.toList_some, Option.toList_none, List.cons_append, List.nil_append, upI_eq, upI_a, upI_i, upR_eq, upR_a, upR_i, h36, ht, E1, E2, E3, E4, E5, E6, E7, fAdd_id, fSub_id, fMul_id, m2a, m2b]
                        refine (s255_260 (hA.k (by decide) (by decide) rfl) (by first | assumption | omega) (by first | assumption | omega)).mpr ?_
                        try simp (disch := first | decide | assumption | omega) only [kon, knt_some, knt_none, Option.toList_some, Option.toList_none, List.cons_append, List.nil_append, upI_eq, upI_a, upI_i, upR_eq, upR_a, upR_i, h36, ht, E1, E2, E3, E4, E5, E6, E7, fAdd_id, fSub_id, fMul_id, m2a, m2b]
                        refine (s255_261 (by omega) kM).mpr ?_
                        refine m_fits hA hR (by omega) (by (try simp (disch := decide) only [upI_eq, upI_a, upI_i, upR_eq, upR_a, upR_i]); first | assumption | rfl) (by omega) (fun y261 => ?_) (fun y261 => ?_)
                        · skip
                          refine s255_264.mpr ?_
                          refine (s255_583).mpr ?_
                          first | (exfalso; omega) | (exact ok _ _ _ ((tsH_24n c1 (by dsimp only; intro h6; rw [h6] at y179; exact absurd y179.2.2 (by decide))).trans (onw_p (by dsimp only; exact ⟨by omega, Or.inr ⟨by omega, by omega, y261.2⟩⟩))) (flw1 (by rw [c1]; decide)) (by repeat' (first | assumption | exact FW.rf | refine FW.up ?_ (by unfold wS; omega) | (refine FW.tr ?_ (by assumption)))) (by (try simp (disch := decide) only [upI_eq, upI_a, upI_i, upR_eq, upR_a, upR_i]); try assumption) (by (try simp (disch := decide) only [upI_eq, upI_a, upI_i, upR_eq, upR_a, upR_i]); try assumption) (by simp (disch := decide) only [scX, upI_eq, upI_a, upI_i, upR_eq, upR_a, upR_i, upI_ro, upI_rw, up1_same, up1_eq, ht, E1, E2, E3, E4, E5, E6, E7])) | (exact st _ ((tsH_24s c1 (by dsimp only; omega)).trans (onw_p (by dsimp only; omega))) (by repeat' (first | assumption | exact FW.rf | refine FW.up ?_ (by unfold wS; omega) | (refine FW.tr ?_ (by assumption)))) (by (try simp (disch := decide) only [upI_eq, upI_a, upI_i, upR_eq, upR_a, upR_i]); try assumption) (by (try simp (disch := decide) only [upI_eq, upI_a, upI_i, upR_eq, upR_a, upR_i]); try assumption)) | (exact no _ ((tsH_24 c1).trans (onw_n (by intro h; dsimp only at h; omega))) (by repeat' (first | assumption | exact FW.rf | refine FW.up ?_ (by unfold wS; omega) | (refine FW.tr ?_ (by assumption)))) (by (try simp (disch := decide) only [upI_eq, upI_a, upI_i, upR_eq, upR_a, upR_i]); try assumption))
                        · skip
                          refine s255_264.mpr ?_
                          refine (s255_583).mpr ?_
                          first | (exfalso; omega) | (exact ok _ _ _ ((tsH_24n c1 (by dsimp only; intro h6; rw [h6] at y179; exact absurd y179.2.2 (by decide))).trans (onw_p (by dsimp only; exact ⟨by omega, Or.inr ⟨by omega, by omega, y261.2⟩⟩))) (flw1 (by rw [c1]; decide)) (by repeat' (first | assumption | exact FW.rf | refine FW.up ?_ (by unfold wS; omega) | (refine FW.tr ?_ (by assumption)))) (by (try simp (disch := decide) only [upI_eq, upI_a, upI_i, upR_eq, upR_a, upR_i]); try assumption) (by (try simp (disch := decide) only [upI_eq, upI_a, upI_i, upR_eq, upR_a, upR_i]); try assumption) (by simp (disch := decide) only [scX, upI_eq, upI_a, upI_i, upR_eq, upR_a, upR_i, upI_ro, upI_rw, up1_same, up1_eq, ht, E1, E2, E3, E4, E5, E6, E7])) | (exact st _ ((tsH_24s c1 (by dsimp only; omega)).trans (onw_p (by dsimp only; omega))) (by repeat' (first | assumption | exact FW.rf | refine FW.up ?_ (by unfold wS; omega) | (refine FW.tr ?_ (by assumption)))) (by (try simp (disch := decide) only [upI_eq, upI_a, upI_i, upR_eq, upR_a, upR_i]); try assumption) (by (try simp (disch := decide) only [upI_eq, upI_a, upI_i, upR_eq, upR_a, upR_i]); try assumption)) | (exact no _ ((tsH_24 c1).trans (onw_n (by intro h; dsimp only at h; omega))) (by repeat' (first | assumption | exact FW.rf | refine FW.up ?_ (by unfold wS; omega) | (refine FW.tr ?_ (by assumption)))) (by (try simp (disch := decide) only [upI_eq, upI_a, upI_i, upR_eq, upR_a, upR_i]); try assumption))
      · first
        | (exfalso; omega)
        | skip
          refine s255_191.mpr ?_
          refine (s255_583).mpr ?_
          first | (exfalso; omega) | (exact ok _ _ _ ((tsH_24n c1 (by dsimp only; intro h6; rw [h6] at y179; exact absurd y179.2.2 (by decide))).trans (onw_p (by dsimp only; exact ⟨by omega, Or.inr ⟨by omega, by omega, y261.2⟩⟩))) (flw1 (by rw [c1]; decide)) (by repeat' (first | assumption | exact FW.rf | refine FW.up ?_ (by unfold wS; omega) | (refine FW.tr ?_ (by assumption)))) (by (try simp (disch := decide) only [upI_eq, upI_a, upI_i, upR_eq, upR_a, upR_i]); try assumption) (by (try simp (disch := decide) only [upI_eq, upI_a, upI_i, upR_eq, upR_a, upR_i]); try assumption) (by simp (disch := decide) only [scX, upI_eq, upI_a, upI_i, upR_eq, upR_a, upR_i, upI_ro, upI_rw, up1_same, up1_eq, ht, E1, E2, E3, E4, E5, E6, E7])) | (exact st _ ((tsH_24s c1 (by dsimp only; omega)).trans (onw_p (by dsimp only; omega))) (by repeat' (first | assumption | exact FW.rf | refine FW.up ?_ (by unfold wS; omega) | (refine FW.tr ?_ (by assumption)))) (by (try simp (disch := decide) only [upI_eq, upI_a, upI_i, upR_eq, upR_a, upR_i]); try assumption) (by (try simp (disch := decide) only [upI_eq, upI_a, upI_i, upR_eq, upR_a, upR_i]); try assumption)) | (exact no _ ((tsH_24 c1).trans (onw_n (by intro h; dsimp only at h; omega))) (by repeat' (first | assumption | exact FW.rf | refine FW.up ?_ (by unfold wS; omega) | (refine FW.tr ?_ (by assumption)))) (by (try simp (disch := decide) only [upI_eq, upI_a, upI_i, upR_eq, upR_a, upR_i]); try assumption))
    · skip
      try simp (disch := decide) only [upI_eq, upI_a, upI_i, upR_eq, upR_a, upR_i, E1, E4] at y179
      try simp (disch := decide) only [upI_eq, upI_a, upI_i, upR_eq, upR_a, upR_i, E1, E4] at x179
      refine s255_182.mpr (s255_184.mpr ?_)
      refine (s255_185 kM).mpr ?_
      try simp (disch := first | decide | assumption | omega) only [kon, knt_some, knt_none, Option.toList_some, Option.toList_none, List.cons_append, List.nil_append, upI_eq, upI_a, upI_i, upR_eq, upR_a, upR_i, h36, ht, E1, E2, E3, E4, E5, E6, E7, fAdd_id, fSub_id, fMul_id, m2a, m2b]
      refine s255_188.mpr (wif (fun c188 => ?_) (fun c188 => ?_))
      · first
        | (exfalso; omega)
        | skip
          refine s255_194.mpr (s255_195.mpr ?_)
          refine (s255_196 kM).mpr ?_
          try simp (disch := first | decide | assumption | omega) only [kon, knt_some, knt_none, Option.toList_some, Option.toList_none, List.cons_append, List.nil_append, upI_eq, upI_a, upI_i, upR_eq, upR_a, upR_i, h36, ht, E1, E2, E3, E4, E5, E6, E7, fAdd_id, fSub_id, fMul_id, m2a, m2b]
          refine s255_199.mpr (wif (fun c199 => ?_) (fun c199 => ?_))
          · first
            | (exfalso; omega)
            | skip
              refine s255_226.mpr ?_
              refine (s255_227 (by omega) kM).mpr ?_
              refine m_wants hA (by omega) (by (try simp (disch := decide) only [upI_eq, upI_a, upI_i, upR_eq, upR_a, upR_i]); first | assumption | rfl) (by omega) (fun y227 => ?_) (fun y227 => ?_)
              · skip
                refine s255_230.mpr ?_
                refine (s255_231 kM).mpr ?_
                try simp (disch := first | decide | assumption | omega) only [kon, knt_some, knt_none, Option.toList_some, Option.toList_none, List.cons_append, List.nil_append, upI_eq, upI_a, upI_i, upR_eq, upR_a, upR_i, h36, ht, E1, E2, E3, E4, E5, E6, E7, fAdd_id, fSub_id, fMul_id, m2a, m2b]
                refine s255_234.mpr (wif (fun c234 => ?_) (fun c234 => ?_))
                · first
                  | (exfalso; omega)
                  | skip
                    refine (s255_583).mpr ?_
                    first | (exfalso; omega) | (exact ok _ _ _ ((tsH_24n c1 (by dsimp only; intro h6; rw [h6] at y179; exact absurd y179.2.2 (by decide))).trans (onw_p (by dsimp only; exact ⟨by omega, Or.inr ⟨by omega, by omega, y261.2⟩⟩))) (flw1 (by rw [c1]; decide)) (by repeat' (first | assumption | exact FW.rf | refine FW.up ?_ (by unfold wS; omega) | (refine FW.tr ?_ (by assumption)))) (by (try simp (disch := decide) only [upI_eq, upI_a, upI_i, upR_eq, upR_a, upR_i]); try assumption) (by (try simp (disch := decide) only [upI_eq, upI_a, upI_i, upR_eq, upR_a, upR_i]); try assumption) (by simp (disch := decide) only [scX, upI_eq, upI_a, upI_i, upR_eq, upR_a, upR_i, upI_ro, upI_rw, up1_same, up1_eq, ht, E1, E2, E3, E4, E5, E6, E7])) | (exact st _ ((tsH_24s c1 (by dsimp only; omega)).trans (onw_p (by dsimp only; omega))) (by repeat' (first | assumption | exact FW.rf | refine FW.up ?_ (by unfold wS; omega) | (refine FW.tr ?_ (by assumption)))) (by (try simp (disch := decide) only [upI_eq, upI_a, upI_i, upR_eq, upR_a, upR_i]); try assumption) (by (try simp (disch := decide) only [upI_eq, upI_a, upI_i, upR_eq, upR_a, upR_i]); try assumption)) | (exact no _ ((tsH_24 c1).trans (onw_n (by intro h; dsimp only at h; omega))) (by repeat' (first | assumption | exact FW.rf | refine FW.up ?_ (by unfold wS; omega) | (refine FW.tr ?_ (by assumption)))) (by (try simp (disch := decide) only [upI_eq, upI_a, upI_i, upR_eq, upR_a, upR_i]); try assumption))
                · first
                  | (exfalso; omega)
                  | skip
                    refine s255_237.mpr (s255_238.mpr (s255_240.mpr ((s255_241 kM).mpr ?_)))
                    rw [mr_10 hR]
                    refine s255_244.mpr (s255_246.mpr (s255_247.mpr (s255_248.mpr (s255_250.mpr ?_))))
                    try simp (disch := first | decide | assumption | omega) only [kon, knt_some, knt_none, Option.toList_some, Option.toList_none, List.cons_append, List.nil_append, upI_eq, upI_a, upI_i, upR_eq, upR_a, upR_i, h36, ht, E1, E2, E3, E4, E5, E6, E7, fAdd_id, fSub_id, fMul_id, m2a, m2b]
                    refine (s255_252 (by omega)).mpr ?_
                    refine (m_which (vT_rng (hv75 _ (by omega) (by omega)))).mpr ?_
                    refine s255_255.mpr (s255_256.mpr (s255_257.mpr (s255_259.mpr ?_)))
                    try simp (disch := first | decide | assumption | omega) only [kon, knt_some, knt_none, Option.toList_some, Option.toList_none, List.cons_append, List.nil_append, upI_eq, upI_a, upI_i, upR_eq, upR_a, upR_i, h36, ht, E1, E2, E3, E4, E5, E6, E7, fAdd_id, fSub_id, fMul_id, m2a, m2b]
                    refine (s255_260 (hA.k (by decide) (by decide) rfl) (by first | assumption | omega) (by first | assumption | omega)).mpr ?_
                    try simp (disch := first | decide | assumption | omega) only [kon, knt_some, knt_none, Option.toList_some, Option.toList_none, List.cons_append, List.nil_append, upI_eq, upI_a, upI_i, upR_eq, upR_a, upR_i, h36, ht, E1, E2, E3, E4, E5, E6, E7, fAdd_id, fSub_id, fMul_id, m2a, m2b]
                    refine (s255_261 (by omega) kM).mpr ?_
                    refine m_fits hA hR (by omega) (by (try simp (disch := decide) only [upI_eq, upI_a, upI_i, upR_eq, upR_a, upR_i]); first | assumption | rfl) (by omega) (fun y261 => ?_) (fun y261 => ?_)
                    · skip
                      refine s255_264.mpr ?_
                      refine (s255_583).mpr ?_
                      first | (exfalso; omega) | (exact ok _ _ _ ((tsH_24n c1 (by dsimp only; intro h6; rw [h6] at y179; exact absurd y179.2.2 (by decide))).trans (onw_p (by dsimp only; exact ⟨by omega, Or.inr ⟨by omega, by omega, y261.2⟩⟩))) (flw1 (by rw [c1]; decide)) (by repeat' (first | assumption | exact FW.rf | refine FW.up ?_ (by unfold wS; omega) | (refine FW.tr ?_ (by assumption)))) (by (try simp (disch := decide) only [upI_eq, upI_a, upI_i, upR_eq, upR_a, upR_i]); try assumption) (by (try simp (disch := decide) only [upI_eq, upI_a, upI_i, upR_eq, upR_a, upR_i]); try assumption) (by simp (disch := decide) only [scX, upI_eq, upI_a, upI_i, upR_eq, upR_a, upR_i, upI_ro, upI_rw, up1_same, up1_eq, ht, E1, E2, E3, E4, E5, E6, E7])) | (exact st _ ((tsH_24s c1 (by dsimp only; omega)).trans (onw_p (by dsimp only; omega))) (by repeat' (first | assumption | exact FW.rf | refine FW.up ?_ (by unfold wS; omega) | (refine FW.tr ?_ (by assumption)))) (by (try simp (disch := decide) only [upI_eq, upI_a, upI_i, upR_eq, upR_a, upR_i]); try assumption) (by (try simp (disch := decide) only [upI_eq, upI_a, upI_i, upR_eq, upR_a, upR_i]); try assumption)) | (exact no _ ((tsH_24 c1).trans (onw_n (by intro h; dsimp only at h; omega))) (by repeat' (first | assumption | exact FW.rf | refine FW.up ?_ (by unfold wS; omega) | (refine FW.tr ?_ (by assumption)))) (by (try simp (disch := decide) only [upI_eq, upI_a, upI_i, upR_eq, upR_a, upR_i]); try assumption))
                    · skip
                      refine s255_264.mpr ?_
                      refine (s255_583).mpr ?_
                      first | (exfalso; omega) | (exact ok _ _ _ ((tsH_24n c1 (by dsimp only; intro h6; rw [h6] at y179; exact absurd y179.2.2 (by decide))).trans (onw_p (by dsimp only; exact ⟨by omega, Or.inr ⟨by omega, by omega, y261.2⟩⟩))) (flw1 (by rw [c1]; decide)) (by repeat' (first | assumption | exact FW.rf | refine FW.up ?_ (by unfold wS; omega) | (refine FW.tr ?_ (by assumption)))) (by (try simp (disch := decide) only [upI_eq, upI_a, upI_i, upR_eq, upR_a, upR_i]); try assumption) (by (try simp (disch := decide) only [upI_eq, upI_a, upI_i, upR_eq, upR_a, upR_i]); try assumption) (by simp (disch := decide) only [scX, upI_eq, upI_a, upI_i, upR_eq, upR_a, upR_i, upI_ro, upI_rw, up1_same, up1_eq, ht, E1, E2, E3, E4, E5, E6, E7])) | (exact st _ ((tsH_24s c1 (by dsimp only; omega)).trans (onw_p (by dsimp only; omega))) (by repeat' (first | assumption | exact FW.rf | refine FW.up ?_ (by unfold wS; omega) | (refine FW.tr ?_ (by assumption)))) (by (try simp (disch := decide) only [upI_eq, upI_a, upI_i, upR_eq, upR_a, upR_i]); try assumption) (by (try simp (disch := decide) only [upI_eq, upI_a, upI_i, upR_eq, upR_a, upR_i]); try assumption)) | (exact no _ ((tsH_24 c1).trans (onw_n (by intro h; dsimp only at h; omega))) (by repeat' (first | assumption | exact FW.rf | refine FW.up ?_ (by unfold wS; omega) | (refine FW.tr ?_ (by assumption)))) (by (try simp (disch := decide) only [upI_eq, upI_a, upI_i, upR_eq, upR_a, upR_i]); try assumption))
              · skip
                refine s255_230.mpr ?_
                refine (s255_231 kM).mpr ?_
                try simp (disch := first | decide | assumption | omega) only [kon, knt_some, knt_none, Option.toList_some, Option.toList_none, List.cons_append, List.nil_append, upI_eq, upI_a, upI_i, upR_eq, upR_a, upR_i, h36, ht, E1, E2, E3, E4, E5, E6, E7, fAdd_id, fSub_id, fMul_id, m2a, m2b]
                refine s255_234.mpr (wif (fun c234 => ?_) (fun c234 => ?_))
                · first
                  | (exfalso; omega)
                  | skip
                    refine (s255_583).mpr ?_
                    first | (exfalso; omega) | (exact ok _ _ _ ((tsH_24n c1 (by dsimp only; intro h6; rw [h6] at y179; exact absurd y179.2.2 (by decide))).trans (onw_p (by dsimp only; exact ⟨by omega, Or.inr ⟨by omega, by omega, y261.2⟩⟩))) (flw1 (by rw [c1]; decide)) (by repeat' (first | assumption | exact FW.rf | refine FW.up ?_ (by unfold wS; omega) | (refine FW.tr ?_ (by assumption)))) (by (try simp (disch := decide) only [upI_eq, upI_a, upI_i, upR_eq, upR_a, upR_i]); try assumption) (by (try simp (disch := decide) only [upI_eq, upI_a, upI_i, upR_eq, upR_a, upR_i]); try assumption) (by simp (disch := decide) only [scX, upI_eq, upI_a, upI_i, upR_eq, upR_a, upR_i, upI_ro, upI_rw, up1_same, up1_eq, ht, E1, E2, E3, E4, E5, E6, E7])) | (exact st _ ((tsH_24s c1 (by dsimp only; omega)).trans (onw_p (by dsimp only; omega))) (by repeat' (first | assumption | exact FW.rf | refine FW.up ?_ (by unfold wS; omega) | (refine FW.tr ?_ (by assumption)))) (by (try simp (disch := decide) only [upI_eq, upI_a, upI_i, upR_eq, upR_a, upR_i]); try assumption) (by (try simp (disch := decide) only [upI_eq, upI_a, upI_i, upR_eq, upR_a, upR_i]); try assumption)) | (exact no _ ((tsH_24 c1).trans (onw_n (by intro h; dsimp only at h; omega))) (by repeat' (first | assumption | exact FW.rf | refine FW.up ?_ (by unfold wS; omega) | (refine FW.tr ?_ (by assumption)))) (by (try simp (disch := decide) only [upI_eq, upI_a, upI_i, upR_eq, upR_a, upR_i]); try assumption))
                · first
                  | (exfalso; omega)
                  | skip
                    refine s255_237.mpr (s255_238.mpr (s255_240.mpr ((s255_241 kM).mpr ?_)))
                    rw [mr_10 hR]
                    refine s255_244.mpr (s255_246.mpr (s255_247.mpr (s255_248.mpr (s255_250.mpr ?_))))
                    try simp (disch := first | decide | assumption | omega) only [kon, knt_some, knt_none, Option.toList_some, Option.toList_none, List.cons_append, List.nil_append, upI_eq, upI_a, upI_i, upR_eq, upR_a, upR_i, h36, ht, E1, E2, E3, E4, E5, E6, E7, fAdd_id, fSub_id, fMul_id, m2a, m2b]
                    refine (s255_252 (by omega)).mpr ?_
                    refine (m_which (vT_rng (hv75 _ (by omega) (by omega)))).mpr ?_
                    refine s255_255.mpr (s255_256.mpr (s255_257.mpr (s255_259.mpr ?_)))
                    try simp (disch := first | decide | assumption | omega) only [kon, knt_some, knt_none, Option.toList_some, Option.toList_none, List.cons_append, List.nil_append, upI_eq, upI_a, upI_i, upR_eq, upR_a, upR_i, h36, ht, E1, E2, E3, E4, E5, E6, E7, fAdd_id, fSub_id, fMul_id, m2a, m2b]
                    refine (s255_260 (hA.k (by decide) (by decide) rfl) (by first | assumption | omega) (by first | assumption | omega)).mpr ?_
                    try simp (disch := first | decide | assumption | omega) only [kon, knt_some, knt_none, Option.toList_some, Option.toList_none, List.cons_append, List.nil_append, upI_eq, upI_a, upI_i, upR_eq, upR_a, upR_i, h36, ht, E1, E2, E3, E4, E5, E6, E7, fAdd_id, fSub_id, fMul_id, m2a, m2b]
                    refine (s255_261 (by omega) kM).mpr ?_
                    refine m_fits hA hR (by omega) (by (try simp (disch := decide) only [upI_eq, upI_a, upI_i, upR_eq, upR_a, upR_i]); first | assumption | rfl) (by omega) (fun y261 => ?_) (fun y261 => ?_)
                    · skip
                      refine s255_264.mpr ?_
                      refine (s255_583).mpr ?_
                      first | (exfalso; omega) | (exact ok _ _ _ ((tsH_24n c1 (by dsimp only; intro h6; rw [h6] at y179; exact absurd y179.2.2 (by decide))).trans (onw_p (by dsimp only; exact ⟨by omega, Or.inr ⟨by omega, by omega, y261.2⟩⟩))) (flw1 (by rw [c1]; decide)) (by repeat' (first | assumption | exact FW.rf | refine FW.up ?_ (by unfold wS; omega) | (refine FW.tr ?_ (by assumption)))) (by (try simp (disch := decide) only [upI_eq, upI_a, upI_i, upR_eq, upR_a, upR_i]); try assumption) (by (try simp (disch := decide) only [upI_eq, upI_a, upI_i, upR_eq, upR_a, upR_i]); try assumption) (by simp (disch := decide) only [scX, upI_eq, upI_a, upI_i, upR_eq, upR_a, upR_i, upI_ro, upI_rw, up1_same, up1_eq, ht, E1, E2, E3, E4, E5, E6, E7])) | (exact st _ ((tsH_24s c1 (by dsimp only; omega)).trans (onw_p (by dsimp only; omega))) (by repeat' (first | assumption | exact FW.rf | refine FW.up ?_ (by unfold wS; omega) | (refine FW.tr ?_ (by assumption)))) (by (try simp (disch := decide) only [upI_eq, upI_a, upI_i, upR_eq, upR_a, upR_i]); try assumption) (by (try simp (disch := decide) only [upI_eq, upI_a, upI_i, upR_eq, upR_a, upR_i]); try assumption)) | (exact no _ ((tsH_24 c1).trans (onw_n (by intro h; dsimp only at h; omega))) (by repeat' (first | assumption | exact FW.rf | refine FW.up ?_ (by unfold wS; omega) | (refine FW.tr ?_ (by assumption)))) (by (try simp (disch := decide) only [upI_eq, upI_a, upI_i, upR_eq, upR_a, upR_i]); try assumption))
                    · skip
                      refine s255_264.mpr ?_
                      refine (s255_583).mpr ?_
                      first | (exfalso; omega) | (exact ok _ _ _ ((tsH_24n c1 (by dsimp only; intro h6; rw [h6] at y179; exact absurd y179.2.2 (by decide))).trans (onw_p (by dsimp only; exact ⟨by omega, Or.inr ⟨by omega, by omega, y261.2⟩⟩))) (flw1 (by rw [c1]; decide)) (by repeat' (first | assumption | exact FW.rf | refine FW.up ?_ (by unfold wS; omega) | (refine FW.tr ?_ (by assumption)))) (by (try simp (disch := decide) only [upI_eq, upI_a, upI_i, upR_eq, upR_a, upR_i]); try assumption) (by (try simp (disch := decide) only [upI_eq, upI_a, upI_i, upR_eq, upR_a, upR_i]); try assumption) (by simp (disch := decide) only [scX, upI_eq, upI_a, upI_i, upR_eq, upR_a, upR_i, upI_ro, upI_rw, up1_same, up1_eq, ht, E1, E2, E3, E4, E5, E6, E7])) | (exact st _ ((tsH_24s c1 (by dsimp only; omega)).trans (onw_p (by dsimp only; omega))) (by repeat' (first | assumption | exact FW.rf | refine FW.up ?_ (by unfold wS; omega) | (refine FW.tr ?_ (by assumption)))) (by (try simp (disch := decide) only [upI_eq, upI_a, upI_i, upR_eq, upR_a, upR_i]); try assumption) (by (try simp (disch := decide) only [upI_eq, upI_a, upI_i, upR_eq, upR_a, upR_i]); try assumption)) | (exact no _ ((tsH_24 c1).trans (onw_n (by intro h; dsimp only at h; omega))) (by repeat' (first | assumption | exact FW.rf | refine FW.up ?_ (by unfold wS; omega) | (refine FW.tr ?_ (by assumption)))) (by (try simp (disch := decide) only [upI_eq, upI_a, upI_i, upR_eq, upR_a, upR_i]); try assumption))
          · first
            | (exfalso; omega)
            | skip
              refine s255_202.mpr (s255_204.mpr ((s255_205 kM).mpr ?_))
              rw [mr_9 hR]
              refine s255_208.mpr (s255_210.mpr (s255_211.mpr (s255_212.mpr ?_)))
              try simp (disch := first | decide | assumption | omega) only [kon, knt_some, knt_none, Option.toList_some, Option.toList_none, List.cons_append, List.nil_append, upI_eq, upI_a, upI_i, upR_eq, upR_a, upR_i, h36, ht, E1, E2, E3, E4, E5, E6, E7, fAdd_id, fSub_id, fMul_id, m2a, m2b]
              refine (s255_214 (by omega)).mpr ?_
              refine (m_which (vT_rng (hv75 _ (by omega) (by omega)))).mpr ?_
              refine s255_217.mpr ?_
              try simp (disch := first | decide | assumption | omega) only [kon, knt_some, knt_none, Option.toList_some, Option.toList_none, List.cons_append, List.nil_append, upI_eq, upI_a, upI_i, upR_eq, upR_a, upR_i, h36, ht, E1, E2, E3, E4, E5, E6, E7, fAdd_id, fSub_id, fMul_id, m2a, m2b]
              refine (s255_218 (hA.k (by decide) (by decide) rfl) (by first | assumption | omega) (by first | assumption | omega)).mpr ?_
              try simp (disch := first | decide | assumption | omega) only [kon, knt_some, knt_none, Option.toList_some, Option.toList_none, List.cons_append, List.nil_append, upI_eq, upI_a, upI_i, upR_eq, upR_a, upR_i, h36, ht, E1, E2, E3, E4, E5, E6, E7, fAdd_id, fSub_id, fMul_id, m2a, m2b]
              refine s255_219.mpr (wif (fun c219 => ?_) (fun c219 => ?_))
              · first
                | (exfalso; omega)
                | skip
                  refine s255_222.mpr (s255_223.mpr ?_)
                  refine (s255_227 (by omega) kM).mpr ?_
                  refine m_wants hA (by omega) (by (try simp (disch := decide) only [upI_eq, upI_a, upI_i, upR_eq, upR_a, upR_i]); first | assumption | rfl) (by omega) (fun y227 => ?_) (fun y227 => ?_)
                  · skip
                    refine s255_230.mpr ?_
                    refine (s255_231 kM).mpr ?_
                    try simp (disch := first | decide | assumption | omega) only [kon, knt_some, knt_none, Option.toList_some, Option.toList_none, List.cons_append, List.nil_append, upI_eq, upI_a, upI_i, upR_eq, upR_a, upR_i, h36, ht, E1, E2, E3, E4, E5, E6, E7, fAdd_id, fSub_id, fMul_id, m2a, m2b]
                    refine s255_234.mpr (wif (fun c234 => ?_) (fun c234 => ?_))
                    · first
                      | (exfalso; omega)
                      | skip
                        refine (s255_583).mpr ?_
                        first | (exfalso; omega) | (exact ok _ _ _ ((tsH_24n c1 (by dsimp only; intro h6; rw [h6] at y179; exact absurd y179.2.2 (by decide))).trans (onw_p (by dsimp only; exact ⟨by omega, Or.inr ⟨by omega, by omega, y261.2⟩⟩))) (flw1 (by rw [c1]; decide)) (by repeat' (first | assumption | exact FW.rf | refine FW.up ?_ (by unfold wS; omega) | (refine FW.tr ?_ (by assumption)))) (by (try simp (disch := decide) only [upI_eq, upI_a, upI_i, upR_eq, upR_a, upR_i]); try assumption) (by (try simp (disch := decide) only [upI_eq, upI_a, upI_i, upR_eq, upR_a, upR_i]); try assumption) (by simp (disch := decide) only [scX, upI_eq, upI_a, upI_i, upR_eq, upR_a, upR_i, upI_ro, upI_rw, up1_same, up1_eq, ht, E1, E2, E3, E4, E5, E6, E7])) | (exact st _ ((tsH_24s c1 (by dsimp only; omega)).trans (onw_p (by dsimp only; omega))) (by repeat' (first | assumption | exact FW.rf | refine FW.up ?_ (by unfold wS; omega) | (refine FW.tr ?_ (by assumption)))) (by (try simp (disch := decide) only [upI_eq, upI_a, upI_i, upR_eq, upR_a, upR_i]); try assumption) (by (try simp (disch := decide) only [upI_eq, upI_a, upI_i, upR_eq, upR_a, upR_i]); try assumption)) | (exact no _ ((tsH_24 c1).trans (onw_n (by intro h; dsimp only at h; omega))) (by repeat' (first | assumption | exact FW.rf | refine FW.up ?_ (by unfold wS; omega) | (refine FW.tr ?_ (by assumption)))) (by (try simp (disch := decide) only [upI_eq, upI_a, upI_i, upR_eq, upR_a, upR_i]); try assumption))
                    · first
                      | (exfalso; omega)
                      | skip
                        refine s255_237.mpr (s255_238.mpr (s255_240.mpr ((s255_241 kM).mpr ?_)))
                        rw [mr_10 hR]
                        refine s255_244.mpr (s255_246.mpr (s255_247.mpr (s255_248.mpr (s255_250.mpr ?_))))
                        try simp (disch := first | decide | assumption | omega) only [kon, knt_some, knt_none, Option.toList_some, Option.toList_none, List.cons_append, List.nil_append, upI_eq, upI_a, upI_i, upR_eq, upR_a, upR_i, h36, ht, E1, E2, E3, E4, E5, E6, E7, fAdd_id, fSub_id, fMul_id, m2a, m2b]
                        refine (s255_252 (by omega)).mpr ?_
                        refine (m_which (vT_rng (hv75 _ (by omega) (by omega)))).mpr ?_
                        refine s255_255.mpr (s255_256.mpr (s255_257.mpr (s255_259.mpr ?_)))
                        try simp (disch := first | decide | assumption | omega) only [kon, knt_some, knt_none, Option.toList_some, Option.toList_none, List.cons_append, List.nil_append, upI_eq, upI_a, upI_i, upR_eq, upR_a, upR_i, h36, ht, E1, E2, E3, E4, E5, E6, E7, fAdd_id, fSub_id, fMul_id, m2a, m2b]
                        refine (s255_260 (hA.k (by decide) (by decide) rfl) (by first | assumption | omega) (by first | assumption | omega)).mpr ?_
                        try simp (disch := first | decide | assumption | omega) only [kon, knt_some, knt_none, Option.toList_some, Option.toList_none, List.cons_append, List.nil_append, upI_eq, upI_a, upI_i, upR_eq, upR_a, upR_i, h36, ht, E1, E2, E3, E4, E5, E6, E7, fAdd_id, fSub_id, fMul_id, m2a, m2b]
                        refine (s255_261 (by omega) kM).mpr ?_
                        refine m_fits hA hR (by omega) (by (try simp (disch := decide) only [upI_eq, upI_a, upI_i, upR_eq, upR_a, upR_i]); first | assumption | rfl) (by omega) (fun y261 => ?_) (fun y261 => ?_)
                        · skip
                          refine s255_264.mpr ?_
                          refine (s255_583).mpr ?_
                          first | (exfalso; omega) | (exact ok _ _ _ ((tsH_24n c1 (by dsimp only; intro h6; rw [h6] at y179; exact absurd y179.2.2 (by decide))).trans (onw_p (by dsimp only; exact ⟨by omega, Or.inr ⟨by omega, by omega, y261.2⟩⟩))) (flw1 (by rw [c1]; decide)) (by repeat' (first | assumption | exact FW.rf | refine FW.up ?_ (by unfold wS; omega) | (refine FW.tr ?_ (by assumption)))) (by (try simp (disch := decide) only [upI_eq, upI_a, upI_i, upR_eq, upR_a, upR_i]); try assumption) (by (try simp (disch := decide) only [upI_eq, upI_a, upI_i, upR_eq, upR_a, upR_i]); try assumption) (by simp (disch := decide) only [scX, upI_eq, upI_a, upI_i, upR_eq, upR_a, upR_i, upI_ro, upI_rw, up1_same, up1_eq, ht, E1, E2, E3, E4, E5, E6, E7])) | (exact st _ ((tsH_24s c1 (by dsimp only; omega)).trans (onw_p (by dsimp only; omega))) (by repeat' (first | assumption | exact FW.rf | refine FW.up ?_ (by unfold wS; omega) | (refine FW.tr ?_ (by assumption)))) (by (try simp (disch := decide) only [upI_eq, upI_a, upI_i, upR_eq, upR_a, upR_i]); try assumption) (by (try simp (disch := decide) only [upI_eq, upI_a, upI_i, upR_eq, upR_a, upR_i]); try assumption)) | (exact no _ ((tsH_24 c1).trans (onw_n (by intro h; dsimp only at h; omega))) (by repeat' (first | assumption | exact FW.rf | refine FW.up ?_ (by unfold wS; omega) | (refine FW.tr ?_ (by assumption)))) (by (try simp (disch := decide) only [upI_eq, upI_a, upI_i, upR_eq, upR_a, upR_i]); try assumption))
                        · skip
                          refine s255_264.mpr ?_
                          refine (s255_583).mpr ?_
                          first | (exfalso; omega) | (exact ok _ _ _ ((tsH_24n c1 (by dsimp only; intro h6; rw [h6] at y179; exact absurd y179.2.2 (by decide))).trans (onw_p (by dsimp only; exact ⟨by omega, Or.inr ⟨by omega, by omega, y261.2⟩⟩))) (flw1 (by rw [c1]; decide)) (by repeat' (first | assumption | exact FW.rf | refine FW.up ?_ (by unfold wS; omega) | (refine FW.tr ?_ (by assumption)))) (by (try simp (disch := decide) only [upI_eq, upI_a, upI_i, upR_eq, upR_a, upR_i]); try assumption) (by (try simp (disch := decide) only [upI_eq, upI_a, upI_i, upR_eq, upR_a, upR_i]); try assumption) (by simp (disch := decide) only [scX, upI_eq, upI_a, upI_i, upR_eq, upR_a, upR_i, upI_ro, upI_rw, up1_same, up1_eq, ht, E1, E2, E3, E4, E5, E6, E7])) | (exact st _ ((tsH_24s c1 (by dsimp only; omega)).trans (onw_p (by dsimp only; omega))) (by repeat' (first | assumption | exact FW.rf | refine FW.up ?_ (by unfold wS; omega) | (refine FW.tr ?_ (by assumption)))) (by (try simp (disch := decide) only [upI_eq, upI_a, upI_i, upR_eq, upR_a, upR_i]); try assumption) (by (try simp (disch := decide) only [upI_eq, upI_a, upI_i, upR_eq, upR_a, upR_i]); try assumption)) | (exact no _ ((tsH_24 c1).trans (onw_n (by intro h; dsimp only at h; omega))) (by repeat' (first | assumption | exact FW.rf | refine FW.up ?_ (by unfold wS; omega) | (refine FW.tr ?_ (by assumption)))) (by (try simp (disch := decide) only [upI_eq, upI_a, upI_i, upR_eq, upR_a, upR_i]); try assumption))
                  · skip
                    refine s255_230.mpr ?_
                    refine (s255_231 kM).mpr ?_
                    try simp (disch := first | decide | assumption | omega) only [kon, knt_some, knt_none, Option.toList_some, Option.toList_none, List.cons_append, List.nil_append, upI_eq, upI_a, upI_i, upR_eq, upR_a, upR_i, h36, ht, E1, E2, E3, E4, E5, E6, E7, fAdd_id, fSub_id, fMul_id, m2a, m2b]
                    refine s255_234.mpr (wif (fun c234 => ?_) (fun c234 => ?_))
                    · first
                      | (exfalso; omega)
                      | skip
                        refine (s255_583).mpr ?_
                        first | (exfalso; omega) | (exact ok _ _ _ ((tsH_24n c1 (by dsimp only; intro h6; rw [h6] at y179; exact absurd y179.2.2 (by decide))).trans (onw_p (by dsimp only; exact ⟨by omega, Or.inr ⟨by omega, by omega, y261.2⟩⟩))) (flw1 (by rw [c1]; decide)) (by repeat' (first | assumption | exact FW.rf | refine FW.up ?_ (by unfold wS; omega) | (refine FW.tr ?_ (by assumption)))) (by (try simp (disch := decide) only [upI_eq, upI_a, upI_i, upR_eq, upR_a, upR_i]); try assumption) (by (try simp (disch := decide) only [upI_eq, upI_a, upI_i, upR_eq, upR_a, upR_i]); try assumption) (by simp (disch := decide) only [scX, upI_eq, upI_a, upI_i, upR_eq, upR_a, upR_i, upI_ro, upI_rw, up1_same, up1_eq, ht, E1, E2, E3, E4, E5, E6, E7])) | (exact st _ ((tsH_24s c1 (by dsimp only; omega)).trans (onw_p (by dsimp only; omega))) (by repeat' (first | assumption | exact FW.rf | refine FW.up ?_ (by unfold wS; omega) | (refine FW.tr ?_ (by assumption)))) (by (try simp (disch := decide) only [upI_eq, upI_a, upI_i, upR_eq, upR_a, upR_i]); try assumption) (by (try simp (disch := decide) only [upI_eq, upI_a, upI_i, upR_eq, upR_a, upR_i]); try assumption)) | (exact no _ ((tsH_24 c1).trans (onw_n (by intro h; dsimp only at h; omega))) (by repeat' (first | assumption | exact FW.rf | refine FW.up ?_ (by unfold wS; omega) | (refine FW.tr ?_ (by assumption)))) (by (try simp (disch := decide) only [upI_eq, upI_a, upI_i, upR_eq, upR_a, upR_i]); try assumption))
                    · first
                      | (exfalso; omega)
                      | skip
                        refine s255_237.mpr (s255_238.mpr (s255_240.mpr ((s255_241 kM).mpr ?_)))
                        rw [mr_10 hR]
                        refine s255_244.mpr (s255_246.mpr (s255_247.mpr (s255_248.mpr (s255_250.mpr ?_))))
                        try simp (disch := first | decide | assumption | omega) only [kon, knt_some, knt_none, Option.toList_some, Option.toList_none, List.cons_append, List.nil_append, upI_eq, upI_a, upI_i, upR_eq, upR_a, upR_i, h36, ht, E1, E2, E3, E4, E5, E6, E7, fAdd_id, fSub_id, fMul_id, m2a, m2b]
                        refine (s255_252 (by omega)).mpr ?_
                        refine (m_which (vT_rng (hv75 _ (by omega) (by omega)))).mpr ?_
                        refine s255_255.mpr (s255_256.mpr (s255_257.mpr (s255_259.mpr ?_)))
                        try simp (disch := first | decide | assumption | omega) only [kon, knt_some, knt_none, Option.toList_some, Option.toList_none, List.cons_append, List.nil_append, upI_eq, upI_a, upI_i, upR_eq, upR_a, upR_i, h36, ht, E1, E2, E3, E4, E5, E6, E7, fAdd_id, fSub_id, fMul_id, m2a, m2b]
                        refine (s255_260 (hA.k (by decide) (by decide) rfl) (by first | assumption | omega) (by first | assumption | omega)).mpr ?_
                        try simp (disch := first | decide | assumption | omega) only [kon, knt_some, knt_none, Option.toList_some, Option.toList_none, List.cons_append, List.nil_append, upI_eq, upI_a, upI_i, upR_eq, upR_a, upR_i, h36, ht, E1, E2, E3, E4, E5, E6, E7, fAdd_id, fSub_id, fMul_id, m2a, m2b]
                        refine (s255_261 (by omega) kM).mpr ?_
                        refine m_fits hA hR (by omega) (by (try simp (disch := decide) only [upI_eq, upI_a, upI_i, upR_eq, upR_a, upR_i]); first | assumption | rfl) (by omega) (fun y261 => ?_) (fun y261 => ?_)
                        · skip
                          refine s255_264.mpr ?_
                          refine (s255_583).mpr ?_
                          first | (exfalso; omega) | (exact ok _ _ _ ((tsH_24n c1 (by dsimp only; intro h6; rw [h6] at y179; exact absurd y179.2.2 (by decide))).trans (onw_p (by dsimp only; exact ⟨by omega, Or.inr ⟨by omega, by omega, y261.2⟩⟩))) (flw1 (by rw [c1]; decide)) (by repeat' (first | assumption | exact FW.rf | refine FW.up ?_ (by unfold wS; omega) | (refine FW.tr ?_ (by assumption)))) (by (try simp (disch := decide) only [upI_eq, upI_a, upI_i, upR_eq, upR_a, upR_i]); try assumption) (by (try simp (disch := decide) only [upI_eq, upI_a, upI_i, upR_eq, upR_a, upR_i]); try assumption) (by simp (disch := decide) only [scX, upI_eq, upI_a, upI_i, upR_eq, upR_a, upR_i, upI_ro, upI_rw, up1_same, up1_eq, ht, E1, E2, E3, E4, E5, E6, E7])) | (exact st _ ((tsH_24s c1 (by dsimp only; omega)).trans (onw_p (by dsimp only; omega))) (by repeat' (first | assumption | exact FW.rf | refine FW.up ?_ (by unfold wS; omega) | (refine FW.tr ?_ (by assumption)))) (by (try simp (disch := decide) only [upI_eq, upI_a, upI_i, upR_eq, upR_a, upR_i]); try assumption) (by (try simp (disch := decide) only [upI_eq, upI_a, upI_i, upR_eq, upR_a, upR_i]); try assumption)) | (exact no _ ((tsH_24 c1).trans (onw_n (by intro h; dsimp only at h; omega))) (by repeat' (first | assumption | exact FW.rf | refine FW.up ?_ (by unfold wS; omega) | (refine FW.tr ?_ (by assumption)))) (by (try simp (disch := decide) only [upI_eq, upI_a, upI_i, upR_eq, upR_a, upR_i]); try assumption))
                        · skip
                          refine s255_264.mpr ?_
                          refine (s255_583).mpr ?_
                          first | (exfalso; omega) | (exact ok _ _ _ ((tsH_24n c1 (by dsimp only; intro h6; rw [h6] at y179; exact absurd y179.2.2 (by decide))).trans (onw_p (by dsimp only; exact ⟨by omega, Or.inr ⟨by omega, by omega, y261.2⟩⟩))) (flw1 (by rw [c1]; decide)) (by repeat' (first | assumption | exact FW.rf | refine FW.up ?_ (by unfold wS; omega) | (refine FW.tr ?_ (by assumption)))) (by (try simp (disch := decide) only [upI_eq, upI_a, upI_i, upR_eq, upR_a, upR_i]); try assumption) (by (try simp (disch := decide) only [upI_eq, upI_a, upI_i, upR_eq, upR_a, upR_i]); try assumption) (by simp (disch := decide) only [scX, upI_eq, upI_a, upI_i, upR_eq, upR_a, upR_i, upI_ro, upI_rw, up1_same, up1_eq, ht, E1, E2, E3, E4, E5, E6, E7])) | (exact st _ ((tsH_24s c1 (by dsimp only; omega)).trans (onw_p (by dsimp only; omega))) (by repeat' (first | assumption | exact FW.rf | refine FW.up ?_ (by unfold wS; omega) | (refine FW.tr ?_ (by assumption)))) (by (try simp (disch := decide) only [upI_eq, upI_a, upI_i, upR_eq, upR_a, upR_i]); try assumption) (by (try simp (disch := decide) only [upI_eq, upI_a, upI_i, upR_eq, upR_a, upR_i]); try assumption)) | (exact no _ ((tsH_24 c1).trans (onw_n (by intro h; dsimp only at h; omega))) (by repeat' (first | assumption | exact FW.rf | refine FW.up ?_ (by unfold wS; omega) | (refine FW.tr ?_ (by assumption)))) (by (try simp (disch := decide) only [upI_eq, upI_a, upI_i, upR_eq, upR_a, upR_i]); try assumption))
              · first
                | (exfalso; omega)
                | skip
                  refine s255_226.mpr ?_
                  refine (s255_227 (by omega) kM).mpr ?_
                  refine m_wants hA (by omega) (by (try simp (disch := decide) only [upI_eq, upI_a, upI_i, upR_eq, upR_a, upR_i]); first | assumption | rfl) (by omega) (fun y227 => ?_) (fun y227 => ?_)
                  · skip
                    refine s255_230.mpr ?_
                    refine (s255_231 kM).mpr ?_
                    try simp (disch := first | decide | assumption | omega) only [kon, knt_some, knt_none, Option.toList_some, Option.toList_none, List.cons_append, List.nil_append, upI_eq, upI_a, upI_i, upR_eq, upR_a, upR_i, h36, ht, E1, E2, E3, E4, E5, E6, E7, fAdd_id, fSub_id, fMul_id, m2a, m2b]
                    refine s255_234.mpr (wif (fun c234 => ?_) (fun c234 => ?_))
                    · first
                      | (exfalso; omega)
                      | skip
                        refine (s255_583).mpr ?_
                        first | (exfalso; omega) | (exact ok _ _ _ ((tsH_24n c1 (by dsimp only; intro h6; rw [h6] at y179; exact absurd y179.2.2 (by decide))).trans (onw_p (by dsimp only; exact ⟨by omega, Or.inr ⟨by omega, by omega, y261.2⟩⟩))) (flw1 (by rw [c1]; decide)) (by repeat' (first | assumption | exact FW.rf | refine FW.up ?_ (by unfold wS; omega) | (refine FW.tr ?_ (by assumption)))) (by (try simp (disch := decide) only [upI_eq, upI_a, upI_i, upR_eq, upR_a, upR_i]); try assumption) (by (try simp (disch := decide) only [upI_eq, upI_a, upI_i, upR_eq, upR_a, upR_i]); try assumption) (by simp (disch := decide) only [scX, upI_eq, upI_a, upI_i, upR_eq, upR_a, upR_i, upI_ro, upI_rw, up1_same, up1_eq, ht, E1, E2, E3, E4, E5, E6, E7])) | (exact st _ ((tsH_24s c1 (by dsimp only; omega)).trans (onw_p (by dsimp only; omega))) (by repeat' (first | assumption | exact FW.rf | refine FW.up ?_ (by unfold wS; omega) | (refine FW.tr ?_ (by assumption)))) (by (try simp (disch := decide) only [upI_eq, upI_a, upI_i, upR_eq, upR_a, upR_i]); try assumption) (by (try simp (disch := decide) only [upI_eq, upI_a, upI_i, upR_eq, upR_a, upR_i]); try assumption)) | (exact no _ ((tsH_24 c1).trans (onw_n (by intro h; dsimp only at h; omega))) (by repeat' (first | assumption | exact FW.rf | refine FW.up ?_ (by unfold wS; omega) | (refine FW.tr ?_ (by assumption)))) (by (try simp (disch := decide) only [upI_eq, upI_a, upI_i, upR_eq, upR_a, upR_i]); try assumption))
                    · first
                      | (exfalso; omega)
                      | skip
                        refine s255_237.mpr (s255_238.mpr (s255_240.mpr ((s255_241 kM).mpr ?_)))
                        rw [mr_10 hR]
                        refine s255_244.mpr (s255_246.mpr (s255_247.mpr (s255_248.mpr (s255_250.mpr ?_))))
                        try simp (disch := first | decide | assumption | omega) only [kon, knt_some, knt_none, Option.toList_some, Option.toList_none, List.cons_append, List.nil_append, upI_eq, upI_a, upI_i, upR_eq, upR_a, upR_i, h36, ht, E1, E2, E3, E4, E5, E6, E7, fAdd_id, fSub_id, fMul_id, m2a, m2b]
                        refine (s255_252 (by omega)).mpr ?_
                        refine (m_which (vT_rng (hv75 _ (by omega) (by omega)))).mpr ?_
                        refine s255_255.mpr (s255_256.mpr (s255_257.mpr (s255_259.mpr ?_)))
                        try simp (disch := first | decide | assumption | omega) only [kon, knt_some, knt_none, Option.toList_some, Option.toList_none, List.cons_append, List.nil_append, upI_eq, upI_a, upI_i, upR_eq, upR_a, upR_i, h36, ht, E1, E2, E3, E4, E5, E6, E7, fAdd_id, fSub_id, fMul_id, m2a, m2b]
                        refine (s255_260 (hA.k (by decide) (by decide) rfl) (by first | assumption | omega) (by first | assumption | omega)).mpr ?_
                        try simp (disch := first | decide | assumption | omega) only [kon, knt_some, knt_none, Option.toList_some, Option.toList_none, List.cons_append, List.nil_append, upI_eq, upI_a, upI_i, upR_eq, upR_a, upR_i, h36, ht, E1, E2, E3, E4, E5, E6, E7, fAdd_id, fSub_id, fMul_id, m2a, m2b]
                        refine (s255_261 (by omega) kM).mpr ?_
                        refine m_fits hA hR (by omega) (by (try simp (disch := decide) only [upI_eq, upI_a, upI_i, upR_eq, upR_a, upR_i]); first | assumption | rfl) (by omega) (fun y261 => ?_) (fun y261 => ?_)
                        · skip
                          refine s255_264.mpr ?_
                          refine (s255_583).mpr ?_
                          first | (exfalso; omega) | (exact ok _ _ _ ((tsH_24n c1 (by dsimp only; intro h6; rw [h6] at y179; exact absurd y179.2.2 (by decide))).trans (onw_p (by dsimp only; exact ⟨by omega, Or.inr ⟨by omega, by omega, y261.2⟩⟩))) (flw1 (by rw [c1]; decide)) (by repeat' (first | assumption | exact FW.rf | refine FW.up ?_ (by unfold wS; omega) | (refine FW.tr ?_ (by assumption)))) (by (try simp (disch := decide) only [upI_eq, upI_a, upI_i, upR_eq, upR_a, upR_i]); try assumption) (by (try simp (disch := decide) only [upI_eq, upI_a, upI_i, upR_eq, upR_a, upR_i]); try assumption) (by simp (disch := decide) only [scX, upI_eq, upI_a, upI_i, upR_eq, upR_a, upR_i, upI_ro, upI_rw, up1_same, up1_eq, ht, E1, E2, E3, E4, E5, E6, E7])) | (exact st _ ((tsH_24s c1 (by dsimp only; omega)).trans (onw_p (by dsimp only; omega))) (by repeat' (first | assumption | exact FW.rf | refine FW.up ?_ (by unfold wS; omega) | (refine FW.tr ?_ (by assumption)))) (by (try simp (disch := decide) only [upI_eq, upI_a, upI_i, upR_eq, upR_a, upR_i]); try assumption) (by (try simp (disch := decide) only [upI_eq, upI_a, upI_i, upR_eq, upR_a, upR_i]); try assumption)) | (exact no _ ((tsH_24 c1).trans (onw_n (by intro h; dsimp only at h; omega))) (by repeat' (first | assumption | exact FW.rf | refine FW.up ?_ (by unfold wS; omega) | (refine FW.tr ?_ (by assumption)))) (by (try simp (disch := decide) only [upI_eq, upI_a, upI_i, upR_eq, upR_a, upR_i]); try assumption))
                        · skip
                          refine s255_264.mpr ?_
                          refine (s255_583).mpr ?_
                          first | (exfalso; omega) | (exact ok _ _ _ ((tsH_24n c1 (by dsimp only; intro h6; rw [h6] at y179; exact absurd y179.2.2 (by decide))).trans (onw_p (by dsimp only; exact ⟨by omega, Or.inr ⟨by omega, by omega, y261.2⟩⟩))) (flw1 (by rw [c1]; decide)) (by repeat' (first | assumption | exact FW.rf | refine FW.up ?_ (by unfold wS; omega) | (refine FW.tr ?_ (by assumption)))) (by (try simp (disch := decide) only [upI_eq, upI_a, upI_i, upR_eq, upR_a, upR_i]); try assumption) (by (try simp (disch := decide) only [upI_eq, upI_a, upI_i, upR_eq, upR_a, upR_i]); try assumption) (by simp (disch := decide) only [scX, upI_eq, upI_a, upI_i, upR_eq, upR_a, upR_i, upI_ro, upI_rw, up1_same, up1_eq, ht, E1, E2, E3, E4, E5, E6, E7])) | (exact st _ ((tsH_24s c1 (by dsimp only; omega)).trans (onw_p (by dsimp only; omega))) (by repeat' (first | assumption | exact FW.rf | refine FW.up ?_ (by unfold wS; omega) | (refine FW.tr ?_ (by assumption)))) (by (try simp (disch := decide) only [upI_eq, upI_a, upI_i, upR_eq, upR_a, upR_i]); try assumption) (by (try simp (disch := decide) only [upI_eq, upI_a, upI_i, upR_eq, upR_a, upR_i]); try assumption)) | (exact no _ ((tsH_24 c1).trans (onw_n (by intro h; dsimp only at h; omega))) (by repeat' (first | assumption | exact FW.rf | refine FW.up ?_ (by unfold wS; omega) | (refine FW.tr ?_ (by assumption)))) (by (try simp (disch := decide) only [upI_eq, upI_a, upI_i, upR_eq, upR_a, upR_i]); try assumption))
                  · skip
                    refine s255_230.mpr ?_
                    refine (s255_231 kM).mpr ?_
                    try simp (disch := first | decide | assumption | omega) only [kon, knt_some, knt_none, Option.toList_some, Option.toList_none, List.cons_append, List.nil_append, upI_eq, upI_a, upI_i, upR_eq, upR_a, upR_i, h36, ht, E1, E2, E3, E4, E5, E6, E7, fAdd_id, fSub_id, fMul_id, m2a, m2b]
                    refine s255_234.mpr (wif (fun c234 => ?_) (fun c234 => ?_))
                    · first
                      | (exfalso; omega)
                      | skip
                        refine (s255_583).mpr ?_
                        first | (exfalso; omega) | (exact ok _ _ _ ((tsH_24n c1 (by dsimp only; intro h6; rw [h6] at y179; exact absurd y179.2.2 (by decide))).trans (onw_p (by dsimp only; exact ⟨by omega, Or.inr ⟨by omega, by omega, y261.2⟩⟩))) (flw1 (by rw [c1]; decide)) (by repeat' (first | assumption | exact FW.rf | refine FW.up ?_ (by unfold wS; omega) | (refine FW.tr ?_ (by assumption)))) (by (try simp (disch := decide) only [upI_eq, upI_a, upI_i, upR_eq, upR_a, upR_i]); try assumption) (by (try simp (disch := decide) only [upI_eq, upI_a, upI_i, upR_eq, upR_a, upR_i]); try assumption) (by simp (disch := decide) only [scX, upI_eq, upI_a, upI_i, upR_eq, upR_a, upR_i, upI_ro, upI_rw, up1_same, up1_eq, ht, E1, E2, E3, E4, E5, E6, E7])) | (exact st _ ((tsH_24s c1 (by dsimp only; omega)).trans (onw_p (by dsimp only; omega))) (by repeat' (first | assumption | exact FW.rf | refine FW.up ?_ (by unfold wS; omega) | (refine FW.tr ?_ (by assumption)))) (by (try simp (disch := decide) only [upI_eq, upI_a, upI_i, upR_eq, upR_a, upR_i]); try assumption) (by (try simp (disch := decide) only [upI_eq, upI_a, upI_i, upR_eq, upR_a, upR_i]); try assumption)) | (exact no _ ((tsH_24 c1).trans (onw_n (by intro h; dsimp only at h; omega))) (by repeat' (first | assumption | exact FW.rf | refine FW.up ?_ (by unfold wS; omega) | (refine FW.tr ?_ (by assumption)))) (by (try simp (disch := decide) only [upI_eq, upI_a, upI_i, upR_eq, upR_a, upR_i]); try assumption))
                    · first
                      | (exfalso; omega)
                      | skip
                        refine s255_237.mpr (s255_238.mpr (s255_240.mpr ((s255_241 kM).mpr ?_)))
                        rw [mr_10 hR]
                        refine s255_244.mpr (s255_246.mpr (s255_247.mpr (s255_248.mpr (s255_250.mpr ?_))))
                        try simp (disch := first | decide | assumption | omega) only [kon, knt_some, knt_none, Option.toList_some, Option.toList_none, List.cons_append, List.nil_append, upI_eq, upI_a, upI_i, upR_eq, upR_a, upR_i, h36, ht, E1, E2, E3, E4, E5, E6, E7, fAdd_id, fSub_id, fMul_id, m2a, m2b]
                        refine (s255_252 (by omega)).mpr ?_
                        refine (m_which (vT_rng (hv75 _ (by omega) (by omega)))).mpr ?_
                        refine s255_255.mpr (s255_256.mpr (s255_257.mpr (s255_259.mpr ?_)))
                        try simp (disch := first | decide | assumption | omega) only [kon, knt_some, knt_none, Option.toList_some, Option.toList_none, List.cons_append, List.nil_append, upI_eq, upI_a, upI_i, upR_eq, upR_a, upR_i, h36, ht, E1, E2, E3, E4, E5, E6, E7, fAdd_id, fSub_id, fMul_id, m2a, m2b]
                        refine (s255_260 (hA.k (by decide) (by decide) rfl) (by first | assumption | omega) (by first | assumption | omega)).mpr ?_
                        try simp (disch := first | decide | assumption | omega) only [kon, knt_some, knt_none, Option.toList_some, Option.toList_none, List.cons_append, List.nil_append, upI_eq, upI_a, upI_i, upR_eq, upR_a, upR_i, h36, ht, E1, E2, E3, E4, E5, E6, E7, fAdd_id, fSub_id, fMul_id, m2a, m2b]
                        refine (s255_261 (by omega) kM).mpr ?_
                        refine m_fits hA hR (by omega) (by (try simp (disch := decide) only [upI_eq, upI_a, upI_i, upR_eq, upR_a, upR_i]); first | assumption | rfl) (by omega) (fun y261 => ?_) (fun y261 => ?_)
                        · skip
                          refine s255_264.mpr ?_
                          refine (s255_583).mpr ?_
                          first | (exfalso; omega) | (exact ok _ _ _ ((tsH_24n c1 (by dsimp only; intro h6; rw [h6] at y179; exact absurd y179.2.2 (by decide))).trans (onw_p (by dsimp only; exact ⟨by omega, Or.inr ⟨by omega, by omega, y261.2⟩⟩))) (flw1 (by rw [c1]; decide)) (by repeat' (first | assumption | exact FW.rf | refine FW.up ?_ (by unfold wS; omega) | (refine FW.tr ?_ (by assumption)))) (by (try simp (disch := decide) only [upI_eq, upI_a, upI_i, upR_eq, upR_a, upR_i]); try assumption) (by (try simp (disch := decide) only [upI_eq, upI_a, upI_i, upR_eq, upR_a, upR_i]); try assumption) (by simp (disch := decide) only [scX, upI_eq, upI_a, upI_i, upR_eq, upR_a, upR_i, upI_ro, upI_rw, up1_same, up1_eq, ht, E1, E2, E3, E4, E5, E6, E7])) | (exact st _ ((tsH_24s c1 (by dsimp only; omega)).trans (onw_p (by dsimp only; omega))) (by repeat' (first | assumption | exact FW.rf | refine FW.up ?_ (by unfold wS; omega) | (refine FW.tr ?_ (by assumption)))) (by (try simp (disch := decide) only [upI_eq, upI_a, upI_i, upR_eq, upR_a, upR_i]); try assumption) (by (try simp (disch := decide) only [upI_eq, upI_a, upI_i, upR_eq, upR_a, upR_i]); try assumption)) | (exact no _ ((tsH_24 c1).trans (onw_n (by intro h; dsimp only at h; omega))) (by repeat' (first | assumption | exact FW.rf | refine FW.up ?_ (by unfold wS; omega) | (refine FW.tr ?_ (by assumption)))) (by (try simp (disch := decide) only [upI_eq, upI_a, upI_i, upR_eq, upR_a, upR_i]); try assumption))
                        · skip
                          refine s255_264.mpr ?_
                          refine (s255_583).mpr ?_
                          first | (exfalso; omega) | (exact ok _ _ _ ((tsH_24n c1 (by dsimp only; intro h6; rw [h6] at y179; exact absurd y179.2.2 (by decide))).trans (onw_p (by dsimp only; exact ⟨by omega, Or.inr ⟨by omega, by omega, y261.2⟩⟩))) (flw1 (by rw [c1]; decide)) (by repeat' (first | assumption | exact FW.rf | refine FW.up ?_ (by unfold wS; omega) | (refine FW.tr ?_ (by assumption)))) (by (try simp (disch := decide) only [upI_eq, upI_a, upI_i, upR_eq, upR_a, upR_i]); try assumption) (by (try simp (disch := decide) only [upI_eq, upI_a, upI_i, upR_eq, upR_a, upR_i]); try assumption) (by simp (disch := decide) only [scX, upI_eq, upI_a, upI_i, upR_eq, upR_a, upR_i, upI_ro, upI_rw, up1_same, up1_eq, ht, E1, E2, E3, E4, E5, E6, E7])) | (exact st _ ((tsH_24s c1 (by dsimp only; omega)).trans (onw_p (by dsimp only; omega))) (by repeat' (first | assumption | exact FW.rf | refine FW.up ?_ (by unfold wS; omega) | (refine FW.tr ?_ (by assumption)))) (by (try simp (disch := decide) only [upI_eq, upI_a, upI_i, upR_eq, upR_a, upR_i]); try assumption) (by (try simp (disch := decide) only [upI_eq, upI_a, upI_i, upR_eq, upR_a, upR_i]); try assumption)) | (exact no _ ((tsH_24 c1).trans (onw_n (by intro h; dsimp only at h; omega))) (by repeat' (first | assumption | exact FW.rf | refine FW.up ?_ (by unfold wS; omega) | (refine FW.tr ?_ (by assumption)))) (by (try simp (disch := decide) only [upI_eq, upI_a, upI_i, upR_eq, upR_a, upR_i]); try assumption))
      · first
        | (exfalso; omega)
        | skip
          refine s255_191.mpr ?_
          refine (s255_583).mpr ?_
          first | (exfalso; omega) | (exact ok _ _ _ ((tsH_24n c1 (by dsimp only; intro h6; rw [h6] at y179; exact absurd y179.2.2 (by decide))).trans (onw_p (by dsimp only; exact ⟨by omega, Or.inr ⟨by omega, by omega, y261.2⟩⟩))) (flw1 (by rw [c1]; decide)) (by repeat' (first | assumption | exact FW.rf | refine FW.up ?_ (by unfold wS; omega) | (refine FW.tr ?_ (by assumption)))) (by (try simp (disch := decide) only [upI_eq, upI_a, upI_i, upR_eq, upR_a, upR_i]); try assumption) (by (try simp (disch := decide) only [upI_eq, upI_a, upI_i, upR_eq, upR_a, upR_i]); try assumption) (by simp (disch := decide) only [scX, upI_eq, upI_a, upI_i, upR_eq, upR_a, upR_i, upI_ro, upI_rw, up1_same, up1_eq, ht, E1, E2, E3, E4, E5, E6, E7])) | (exact st _ ((tsH_24s c1 (by dsimp only; omega)).trans (onw_p (by dsimp only; omega))) (by repeat' (first | assumption | exact FW.rf | refine FW.up ?_ (by unfold wS; omega) | (refine FW.tr ?_ (by assumption)))) (by (try simp (disch := decide) only [upI_eq, upI_a, upI_i, upR_eq, upR_a, upR_i]); try assumption) (by (try simp (disch := decide) only [upI_eq, upI_a, upI_i, upR_eq, upR_a, upR_i]); try assumption)) | (exact no _ ((tsH_24 c1).trans (onw_n (by intro h; dsimp only at h; omega))) (by repeat' (first | assumption | exact FW.rf | refine FW.up ?_ (by unfold wS; omega) | (refine FW.tr ?_ (by assumption)))) (by (try simp (disch := decide) only [upI_eq, upI_a, upI_i, upR_eq, upR_a, upR_i]); try assumption))
theorem m_h28 {m g op v p t : Int} (hA : SA al) (hR : MR hr) (hd : 4 ≤ d) (hM : MB hi m B) (hS : Sh B) (hg : 0 ≤ g ∧ g < nFn B) (h36 : hi 49 36 = 1) (h38 : hi 49 38 = 0) (ht : hi 49 35 = t) (ht0 : 0 ≤ t ∧ t ≤ 16) (hvX : vX B (t, hi 75, hi 76)) (c1 : op = 28)
    (ok : ∀ L Y hi', tsH B g op v p (t, hi 75, hi 76) = some L → FLW op v p Y L → FW wS hi hi' → hi' 49 36 = 1 → hi' 49 38 = 0 → scX hi' = Y → Q (some none) al hi' hr)
    (st : ∀ hi', tsH B g op v p (t, hi 75, hi 76) = some [] → FW wS hi hi' → hi' 49 36 = 1 → hi' 49 38 = 1 → Q (some none) al hi' hr)
    (no : ∀ hi', tsH B g op v p (t, hi 75, hi 76) = none → FW wS hi hi' → hi' 49 36 = 0 → Q (some none) al hi' hr) : Wp d 255 331 [vR (some 49), vI m, vI (10 * m + g), vI op, vI v, none, none, none, none] [] al hi hr Q := by
  have kM : isK al 49 13 := hA.k (by decide) (by decide) rfl
  have E1 : t - 1 - 1 = t - 2 := by omega
  have E2 : t - 2 + 1 = t - 1 := by omega
  have E3 : t - 1 + 1 = t := by omega
  have E4 : t - 2 - 1 = t - 3 := by omega
  have E5 : t - 3 + 1 = t - 2 := by omega
  have E6 : t + 1 + 1 = t + 2 := by omega
  have E7 : t + 1 - 1 = t := by omega
  have hv75 : ∀ k, 0 ≤ k → k < t → vT B (hi 75 k) := hvX.2.1
  have W1 := wh_b (hi 75 (t - 2))
  have K6 := k6d (hi 75 (t - 2))
  refine s255_331.mpr (s255_332.mpr ?_)
  refine (s255_333 (by omega) kM).mpr ?_
  refine m_popFor hA hR (by omega) (by (try simp (disch := decide) only [upI_eq, upI_a, upI_i, upR_eq, upR_a, upR_i]); first | assumption | rfl) (by omega) (by (try simp (disch := decide) only [upI_eq, upI_a, upI_i, upR_eq, upR_a, upR_i]); first | assumption | rfl) (by omega) (fun y333 => ?_) (fun hi333 t333 w333 z333 u333 v333 x333 => ?_)
  · skip
    try simp (disch := decide) only [upI_eq, upI_a, upI_i, upR_eq, upR_a, upR_i, E1, E4] at y333
    try simp (disch := decide) only [upI_eq, upI_a, upI_i, upR_eq, upR_a, upR_i, E1, E4] at x333
    refine s255_336.mpr ?_
    refine (s255_337 (by omega) kM).mpr ?_
    refine m_popRow hA hR (by omega) (by (try simp (disch := decide) only [upI_eq, upI_a, upI_i, upR_eq, upR_a, upR_i]); first | assumption | rfl) (by omega) (by (try simp (disch := decide) only [upI_eq, upI_a, upI_i, upR_eq, upR_a, upR_i]); first | assumption | rfl) (by omega) (fun y337 => ?_) (fun y337 => ?_) (fun q337 hi337 t337 w337 z337 s337 u337 v337 x337 => ?_)
    · skip
      try simp (disch := decide) only [upI_eq, upI_a, upI_i, upR_eq, upR_a, upR_i, E1, E4] at y337
      try simp (disch := decide) only [upI_eq, upI_a, upI_i, upR_eq, upR_a, upR_i, E1, E4] at x337
      refine s255_340.mpr (s255_342.mpr ?_)
      refine (s255_343 kM).mpr ?_
      try simp (disch := first | decide | assumption | omega) only [kon, knt_some, knt_none, Option.toList_some, Option.toList_none, List.cons_append, List.nil_append, upI_eq, upI_a, upI_i, upR_eq, upR_a, upR_i, h36, ht, E1, E2, E3, E4, E5, E6, E7, fAdd_id, fSub_id, fMul_id]
      refine s255_346.mpr (wif (fun c346 => ?_) (fun c346 => ?_))
      · first
        | (exfalso; omega)
        | skip
          refine (s255_583).mpr ?_
          first | (exfalso; omega) | (exact ok _ _ _ ((tsH_28a c1 (by dsimp only; omega) c363).trans (onw_p (by dsimp only; exact ⟨by omega, le0 y333.2.2 rfl, by omega⟩))) (flw1 (by rw [c1]; decide)) (by repeat' (first | assumption | exact FW.rf | refine FW.up ?_ (by unfold wS; omega) | (refine FW.tr ?_ (by assumption)))) (by (try simp (disch := decide) only [upI_eq, upI_a, upI_i, upR_eq, upR_a, upR_i]); try assumption) (by (try simp (disch := decide) only [upI_eq, upI_a, upI_i, upR_eq, upR_a, upR_i]); try assumption) (by simp (disch := decide) only [scX, upI_eq, upI_a, upI_i, upR_eq, upR_a, upR_i, upI_ro, upI_rw, up1_same, up1_eq, ht, E1, E2, E3, E4, E5, E6, E7])) | (exact ok _ _ _ ((tsH_28b c1 (by dsimp only; omega) c363).trans (onw_p (by dsimp only; exact ⟨by omega, le0 y333.2.2 rfl, by omega⟩))) (flw1 (by rw [c1]; decide)) (by repeat' (first | assumption | exact FW.rf | refine FW.up ?_ (by unfold wS; omega) | (refine FW.tr ?_ (by assumption)))) (by (try simp (disch := decide) only [upI_eq, upI_a, upI_i, upR_eq, upR_a, upR_i]); try assumption) (by (try simp (disch := decide) only [upI_eq, upI_a, upI_i, upR_eq, upR_a, upR_i]); try assumption) (by simp (disch := decide) only [scX, upI_eq, upI_a, upI_i, upR_eq, upR_a, upR_i, upI_ro, upI_rw, up1_same, up1_eq, ht, E1, E2, E3, E4, E5, E6, E7])) | (exact st _ ((tsH_28s c1 (by dsimp only; omega)).trans (onw_p (by dsimp only; exact ⟨by omega, le0 y333.2.2 rfl, by omega⟩))) (by repeat' (first | assumption | exact FW.rf | refine FW.up ?_ (by unfold wS; omega) | (refine FW.tr ?_ (by assumption)))) (by (try simp (disch := decide) only [upI_eq, upI_a, upI_i, upR_eq, upR_a, upR_i]); try assumption) (by (try simp (disch := decide) only [upI_eq, upI_a, upI_i, upR_eq, upR_a, upR_i]); try assumption)) | (exact no _ ((tsH_28 c1).trans (onw_n (by intro h; dsimp only at h; omega))) (by repeat' (first | assumption | exact FW.rf | refine FW.up ?_ (by unfold wS; omega) | (refine FW.tr ?_ (by assumption)))) (by (try simp (disch := decide) only [upI_eq, upI_a, upI_i, upR_eq, upR_a, upR_i]); try assumption))
      · first
        | (exfalso; omega)
        | skip
          refine s255_349.mpr ?_
          refine (s255_350 kM).mpr ?_
          try simp (disch := first | decide | assumption | omega) only [kon, knt_some, knt_none, Option.toList_some, Option.toList_none, List.cons_append, List.nil_append, upI_eq, upI_a, upI_i, upR_eq, upR_a, upR_i, h36, ht, E1, E2, E3, E4, E5, E6, E7, fAdd_id, fSub_id, fMul_id]
          refine s255_353.mpr (wif (fun c353 => ?_) (fun c353 => ?_))
          · first
            | (exfalso; omega)
            | skip
              refine s255_356.mpr (s255_357.mpr ?_)
              refine (s255_359 (by omega)).mpr ?_
              refine m_kind.mpr ?_
              refine s255_362.mpr ?_
              refine s255_363.mpr (wif (fun c363 => ?_) (fun c363 => ?_))
              · first
                | (exfalso; omega)
                | skip
                  refine s255_366.mpr (s255_367.mpr ?_)
                  refine (s255_380 (by omega) kM).mpr ?_
                  refine m_push hA hR (by (try simp (disch := decide) only [upI_eq, upI_a, upI_i, upR_eq, upR_a, upR_i]); first | assumption | rfl) (by omega) ?_
                  refine s255_383.mpr ?_
                  refine (s255_583).mpr ?_
                  first | (exfalso; omega) | (exact ok _ _ _ ((tsH_28a c1 (by dsimp only; omega) c363).trans (onw_p (by dsimp only; exact ⟨by omega, le0 y333.2.2 rfl, by omega⟩))) (flw1 (by rw [c1]; decide)) (by repeat' (first | assumption | exact FW.rf | refine FW.up ?_ (by unfold wS; omega) | (refine FW.tr ?_ (by assumption)))) (by (try simp (disch := decide) only [upI_eq, upI_a, upI_i, upR_eq, upR_a, upR_i]); try assumption) (by (try simp (disch := decide) only [upI_eq, upI_a, upI_i, upR_eq, upR_a, upR_i]); try assumption) (by simp (disch := decide) only [scX, upI_eq, upI_a, upI_i, upR_eq, upR_a, upR_i, upI_ro, upI_rw, up1_same, up1_eq, ht, E1, E2, E3, E4, E5, E6, E7])) | (exact ok _ _ _ ((tsH_28b c1 (by dsimp only; omega) c363).trans (onw_p (by dsimp only; exact ⟨by omega, le0 y333.2.2 rfl, by omega⟩))) (flw1 (by rw [c1]; decide)) (by repeat' (first | assumption | exact FW.rf | refine FW.up ?_ (by unfold wS; omega) | (refine FW.tr ?_ (by assumption)))) (by (try simp (disch := decide) only [upI_eq, upI_a, upI_i, upR_eq, upR_a, upR_i]); try assumption) (by (try simp (disch := decide) only [upI_eq, upI_a, upI_i, upR_eq, upR_a, upR_i]); try assumption) (by simp (disch := decide) only [scX, upI_eq, upI_a, upI_i, upR_eq, upR_a, upR_i, upI_ro, upI_rw, up1_same, up1_eq, ht, E1, E2, E3, E4, E5, E6, E7])) | (exact st _ ((tsH_28s c1 (by dsimp only; omega)).trans (onw_p (by dsimp only; exact ⟨by omega, le0 y333.2.2 rfl, by omega⟩))) (by repeat' (first | assumption | exact FW.rf | refine FW.up ?_ (by unfold wS; omega) | (refine FW.tr ?_ (by assumption)))) (by (try simp (disch := decide) only [upI_eq, upI_a, upI_i, upR_eq, upR_a, upR_i]); try assumption) (by (try simp (disch := decide) only [upI_eq, upI_a, upI_i, upR_eq, upR_a, upR_i]); try assumption)) | (exact no _ ((tsH_28 c1).trans (onw_n (by intro h; dsimp only at h; omega))) (by repeat' (first | assumption | exact FW.rf | refine FW.up ?_ (by unfold wS; omega) | (refine FW.tr ?_ (by assumption)))) (by (try simp (disch := decide) only [upI_eq, upI_a, upI_i, upR_eq, upR_a, upR_i]); try assumption))
              · first
                | (exfalso; omega)
                | skip
                  refine s255_370.mpr (s255_371.mpr (s255_373.mpr ?_))
                  refine (s255_375 (by omega)).mpr ?_
                  refine (m_which (vT_rng (hv75 _ (by omega) (by omega)))).mpr ?_
                  refine s255_378.mpr (s255_379.mpr ?_)
                  try simp (disch := first | decide | assumption | omega) only [kon, knt_some, knt_none, Option.toList_some, Option.toList_none, List.cons_append, List.nil_append, upI_eq, upI_a, upI_i, upR_eq, upR_a, upR_i, h36, ht, E1, E2, E3, E4, E5, E6, E7, fAdd_id, fSub_id, fMul_id]
                  refine (s255_380 (by omega) kM).mpr ?_
                  refine m_push hA hR (by (try simp (disch := decide) only [upI_eq, upI_a, upI_i, upR_eq, upR_a, upR_i]); first | assumption | rfl) (by omega) ?_
                  refine s255_383.mpr ?_
                  refine (s255_583).mpr ?_
                  first | (exfalso; omega) | (exact ok _ _ _ ((tsH_28a c1 (by dsimp only; omega) c363).trans (onw_p (by dsimp only; exact ⟨by omega, le0 y333.2.2 rfl, by omega⟩))) (flw1 (by rw [c1]; decide)) (by repeat' (first | assumption | exact FW.rf | refine FW.up ?_ (by unfold wS; omega) | (refine FW.tr ?_ (by assumption)))) (by (try simp (disch := decide) only [upI_eq, upI_a, upI_i, upR_eq, upR_a, upR_i]); try assumption) (by (try simp (disch := decide) only [upI_eq, upI_a, upI_i, upR_eq, upR_a, upR_i]); try assumption) (by simp (disch := decide) only [scX, upI_eq, upI_a, upI_i, upR_eq, upR_a, upR_i, upI_ro, upI_rw, up1_same, up1_eq, ht, E1, E2, E3, E4, E5, E6, E7])) | (exact ok _ _ _ ((tsH_28b c1 (by dsimp only; omega) c363).trans (onw_p (by dsimp only; exact ⟨by omega, le0 y333.2.2 rfl, by omega⟩))) (flw1 (by rw [c1]; decide)) (by repeat' (first | assumption | exact FW.rf | refine FW.up ?_ (by unfold wS; omega) | (refine FW.tr ?_ (by assumption)))) (by (try simp (disch := decide) only [upI_eq, upI_a, upI_i, upR_eq, upR_a, upR_i]); try assumption) (by (try simp (disch := decide) only [upI_eq, upI_a, upI_i, upR_eq, upR_a, upR_i]); try assumption) (by simp (disch := decide) only [scX, upI_eq, upI_a, upI_i, upR_eq, upR_a, upR_i, upI_ro, upI_rw, up1_same, up1_eq, ht, E1, E2, E3, E4, E5, E6, E7])) | (exact st _ ((tsH_28s c1 (by dsimp only; omega)).trans (onw_p (by dsimp only; exact ⟨by omega, le0 y333.2.2 rfl, by omega⟩))) (by repeat' (first | assumption | exact FW.rf | refine FW.up ?_ (by unfold wS; omega) | (refine FW.tr ?_ (by assumption)))) (by (try simp (disch := decide) only [upI_eq, upI_a, upI_i, upR_eq, upR_a, upR_i]); try assumption) (by (try simp (disch := decide) only [upI_eq, upI_a, upI_i, upR_eq, upR_a, upR_i]); try assumption)) | (exact no _ ((tsH_28 c1).trans (onw_n (by intro h; dsimp only at h; omega))) (by repeat' (first | assumption | exact FW.rf | refine FW.up ?_ (by unfold wS; omega) | (refine FW.tr ?_ (by assumption)))) (by (try simp (disch := decide) only [upI_eq, upI_a, upI_i, upR_eq, upR_a, upR_i]); try assumption))
          · first
            | (exfalso; omega)
            | skip
              refine (s255_583).mpr ?_
              first | (exfalso; omega) | (exact ok _ _ _ ((tsH_28a c1 (by dsimp only; omega) c363).trans (onw_p (by dsimp only; exact ⟨by omega, le0 y333.2.2 rfl, by omega⟩))) (flw1 (by rw [c1]; decide)) (by repeat' (first | assumption | exact FW.rf | refine FW.up ?_ (by unfold wS; omega) | (refine FW.tr ?_ (by assumption)))) (by (try simp (disch := decide) only [upI_eq, upI_a, upI_i, upR_eq, upR_a, upR_i]); try assumption) (by (try simp (disch := decide) only [upI_eq, upI_a, upI_i, upR_eq, upR_a, upR_i]); try assumption) (by simp (disch := decide) only [scX, upI_eq, upI_a, upI_i, upR_eq, upR_a, upR_i, upI_ro, upI_rw, up1_same, up1_eq, ht, E1, E2, E3, E4, E5, E6, E7])) | (exact ok _ _ _ ((tsH_28b c1 (by dsimp only; omega) c363).trans (onw_p (by dsimp only; exact ⟨by omega, le0 y333.2.2 rfl, by omega⟩))) (flw1 (by rw [c1]; decide)) (by repeat' (first | assumption | exact FW.rf | refine FW.up ?_ (by unfold wS; omega) | (refine FW.tr ?_ (by assumption)))) (by (try simp (disch := decide) only [upI_eq, upI_a, upI_i, upR_eq, upR_a, upR_i]); try assumption) (by (try simp (disch := decide) only [upI_eq, upI_a, upI_i, upR_eq, upR_a, upR_i]); try assumption) (by simp (disch := decide) only [scX, upI_eq, upI_a, upI_i, upR_eq, upR_a, upR_i, upI_ro, upI_rw, up1_same, up1_eq, ht, E1, E2, E3, E4, E5, E6, E7])) | (exact st _ ((tsH_28s c1 (by dsimp only; omega)).trans (onw_p (by dsimp only; exact ⟨by omega, le0 y333.2.2 rfl, by omega⟩))) (by repeat' (first | assumption | exact FW.rf | refine FW.up ?_ (by unfold wS; omega) | (refine FW.tr ?_ (by assumption)))) (by (try simp (disch := decide) only [upI_eq, upI_a, upI_i, upR_eq, upR_a, upR_i]); try assumption) (by (try simp (disch := decide) only [upI_eq, upI_a, upI_i, upR_eq, upR_a, upR_i]); try assumption)) | (exact no _ ((tsH_28 c1).trans (onw_n (by intro h; dsimp only at h; omega))) (by repeat' (first | assumption | exact FW.rf | refine FW.up ?_ (by unfold wS; omega) | (refine FW.tr ?_ (by assumption)))) (by (try simp (disch := decide) only [upI_eq, upI_a, upI_i, upR_eq, upR_a, upR_i]); try assumption))
    · skip
      try simp (disch := decide) only [upI_eq, upI_a, upI_i, upR_eq, upR_a, upR_i, E1, E4] at y337
      try simp (disch := decide) only [upI_eq, upI_a, upI_i, upR_eq, upR_a, upR_i, E1, E4] at x337
      refine s255_340.mpr (s255_342.mpr ?_)
      refine (s255_343 kM).mpr ?_
      try simp (disch := first | decide | assumption | omega) only [kon, knt_some, knt_none, Option.toList_some, Option.toList_none, List.cons_append, List.nil_append, upI_eq, upI_a, upI_i, upR_eq, upR_a, upR_i, h36, ht, E1, E2, E3, E4, E5, E6, E7, fAdd_id, fSub_id, fMul_id]
      refine s255_346.mpr (wif (fun c346 => ?_) (fun c346 => ?_))
      · first
        | (exfalso; omega)
        | skip
          refine (s255_583).mpr ?_
          first | (exfalso; omega) | (exact ok _ _ _ ((tsH_28a c1 (by dsimp only; omega) c363).trans (onw_p (by dsimp only; exact ⟨by omega, le0 y333.2.2 rfl, by omega⟩))) (flw1 (by rw [c1]; decide)) (by repeat' (first | assumption | exact FW.rf | refine FW.up ?_ (by unfold wS; omega) | (refine FW.tr ?_ (by assumption)))) (by (try simp (disch := decide) only [upI_eq, upI_a, upI_i, upR_eq, upR_a, upR_i]); try assumption) (by (try simp (disch := decide) only [upI_eq, upI_a, upI_i, upR_eq, upR_a, upR_i]); try assumption) (by simp (disch := decide) only [scX, upI_eq, upI_a, upI_i, upR_eq, upR_a, upR_i, upI_ro, upI_rw, up1_same, up1_eq, ht, E1, E2, E3, E4, E5, E6, E7])) | (exact ok _ _ _ ((tsH_28b c1 (by dsimp only; omega) c363).trans (onw_p (by dsimp only; exact ⟨by omega, le0 y333.2.2 rfl, by omega⟩))) (flw1 (by rw [c1]; decide)) (by repeat' (first | assumption | exact FW.rf | refine FW.up ?_ (by unfold wS; omega) | (refine FW.tr ?_ (by assumption)))) (by (try simp (disch := decide) only [upI_eq, upI_a, upI_i, upR_eq, upR_a, upR_i]); try assumption) (by (try simp (disch := decide) only [upI_eq, upI_a, upI_i, upR_eq, upR_a, upR_i]); try assumption) (by simp (disch := decide) only [scX, upI_eq, upI_a, upI_i, upR_eq, upR_a, upR_i, upI_ro, upI_rw, up1_same, up1_eq, ht, E1, E2, E3, E4, E5, E6, E7])) | (exact st _ ((tsH_28s c1 (by dsimp only; omega)).trans (onw_p (by dsimp only; exact ⟨by omega, le0 y333.2.2 rfl, by omega⟩))) (by repeat' (first | assumption | exact FW.rf | refine FW.up ?_ (by unfold wS; omega) | (refine FW.tr ?_ (by assumption)))) (by (try simp (disch := decide) only [upI_eq, upI_a, upI_i, upR_eq, upR_a, upR_i]); try assumption) (by (try simp (disch := decide) only [upI_eq, upI_a, upI_i, upR_eq, upR_a, upR_i]); try assumption)) | (exact no _ ((tsH_28 c1).trans (onw_n (by intro h; dsimp only at h; omega))) (by repeat' (first | assumption | exact FW.rf | refine FW.up ?_ (by unfold wS; omega) | (refine FW.tr ?_ (by assumption)))) (by (try simp (disch := decide) only [upI_eq, upI_a, upI_i, upR_eq, upR_a, upR_i]); try assumption))
      · first
        | (exfalso; omega)
        | skip
          refine s255_349.mpr ?_
          refine (s255_350 kM).mpr ?_
          try simp (disch := first | decide | assumption | omega) only [kon, knt_some, knt_none, Option.toList_some, Option.toList_none, List.cons_append, List.nil_append, upI_eq, upI_a, upI_i, upR_eq, upR_a, upR_i, h36, ht, E1, E2, E3, E4, E5, E6, E7, fAdd_id, fSub_id, fMul_id]
          refine s255_353.mpr (wif (fun c353 => ?_) (fun c353 => ?_))
          · first
            | (exfalso; omega)
            | skip
              refine s255_356.mpr (s255_357.mpr ?_)
              refine (s255_359 (by omega)).mpr ?_
              refine m_kind.mpr ?_
              refine s255_362.mpr ?_
              refine s255_363.mpr (wif (fun c363 => ?_) (fun c363 => ?_))
              · first
                | (exfalso; omega)
                | skip
                  refine s255_366.mpr (s255_367.mpr ?_)
                  refine (s255_380 (by omega) kM).mpr ?_
                  refine m_push hA hR (by (try simp (disch := decide) only [upI_eq, upI_a, upI_i, upR_eq, upR_a, upR_i]); first | assumption | rfl) (by omega) ?_
                  refine s255_383.mpr ?_
                  refine (s255_583).mpr ?_
                  first | (exfalso; omega) | (exact ok _ _ _ ((tsH_28a c1 (by dsimp only; omega) c363).trans (onw_p (by dsimp only; exact ⟨by omega, le0 y333.2.2 rfl, by omega⟩))) (flw1 (by rw [c1]; decide)) (by repeat' (first | assumption | exact FW.rf | refine FW.up ?_ (by unfold wS; omega) | (refine FW.tr ?_ (by assumption)))) (by (try simp (disch := decide) only [upI_eq, upI_a, upI_i, upR_eq, upR_a, upR_i]); try assumption) (by (try simp (disch := decide) only [upI_eq, upI_a, upI_i, upR_eq, upR_a, upR_i]); try assumption) (by simp (disch := decide) only [scX, upI_eq, upI_a, upI_i, upR_eq, upR_a, upR_i, upI_ro, upI_rw, up1_same, up1_eq, ht, E1, E2, E3, E4, E5, E6, E7])) | (exact ok _ _ _ ((tsH_28b c1 (by dsimp only; omega) c363).trans (onw_p (by dsimp only; exact ⟨by omega, le0 y333.2.2 rfl, by omega⟩))) (flw1 (by rw [c1]; decide)) (by repeat' (first | assumption | exact FW.rf | refine FW.up ?_ (by unfold wS; omega) | (refine FW.tr ?_ (by assumption)))) (by (try simp (disch := decide) only [upI_eq, upI_a, upI_i, upR_eq, upR_a, upR_i]); try assumption) (by (try simp (disch := decide) only [upI_eq, upI_a, upI_i, upR_eq, upR_a, upR_i]); try assumption) (by simp (disch := decide) only [scX, upI_eq, upI_a, upI_i, upR_eq, upR_a, upR_i, upI_ro, upI_rw, up1_same, up1_eq, ht, E1, E2, E3, E4, E5, E6, E7])) | (exact st _ ((tsH_28s c1 (by dsimp only; omega)).trans (onw_p (by dsimp only; exact ⟨by omega, le0 y333.2.2 rfl, by omega⟩))) (by repeat' (first | assumption | exact FW.rf | refine FW.up ?_ (by unfold wS; omega) | (refine FW.tr ?_ (by assumption)))) (by (try simp (disch := decide) only [upI_eq, upI_a, upI_i, upR_eq, upR_a, upR_i]); try assumption) (by (try simp (disch := decide) only [upI_eq, upI_a, upI_i, upR_eq, upR_a, upR_i]); try assumption)) | (exact no _ ((tsH_28 c1).trans (onw_n (by intro h; dsimp only at h; omega))) (by repeat' (first | assumption | exact FW.rf | refine FW.up ?_ (by unfold wS; omega) | (refine FW.tr ?_ (by assumption)))) (by (try simp (disch := decide) only [upI_eq, upI_a, upI_i, upR_eq, upR_a, upR_i]); try assumption))
              · first
                | (exfalso; omega)
                | skip
                  refine s255_370.mpr (s255_371.mpr (s255_373.mpr ?_))
                  refine (s255_375 (by omega)).mpr ?_
                  refine (m_which (vT_rng (hv75 _ (by omega) (by omega)))).mpr ?_
                  refine s255_378.mpr (s255_379.mpr ?_)
                  try simp (disch := first | decide | assumption | omega) only [kon, knt_some, knt_none, Option.toList_some, Option.toList_none, List.cons_append, List.nil_append, upI_eq, upI_a, upI_i, upR_eq, upR_a, upR_i, h36, ht, E1, E2, E3, E4, E5, E6, E7, fAdd_id, fSub_id, fMul_id]
                  refine (s255_380 (by omega) kM).mpr ?_
                  refine m_push hA hR (by (try simp (disch := decide) only [upI_eq, upI_a, upI_i, upR_eq, upR_a, upR_i]); first | assumption | rfl) (by omega) ?_
                  refine s255_383.mpr ?_
                  refine (s255_583).mpr ?_
                  first | (exfalso; omega) | (exact ok _ _ _ ((tsH_28a c1 (by dsimp only; omega) c363).trans (onw_p (by dsimp only; exact ⟨by omega, le0 y333.2.2 rfl, by omega⟩))) (flw1 (by rw [c1]; decide)) (by repeat' (first | assumption | exact FW.rf | refine FW.up ?_ (by unfold wS; omega) | (refine FW.tr ?_ (by assumption)))) (by (try simp (disch := decide) only [upI_eq, upI_a, upI_i, upR_eq, upR_a, upR_i]); try assumption) (by (try simp (disch := decide) only [upI_eq, upI_a, upI_i, upR_eq, upR_a, upR_i]); try assumption) (by simp (disch := decide) only [scX, upI_eq, upI_a, upI_i, upR_eq, upR_a, upR_i, upI_ro, upI_rw, up1_same, up1_eq, ht, E1, E2, E3, E4, E5, E6, E7])) | (exact ok _ _ _ ((tsH_28b c1 (by dsimp only; omega) c363).trans (onw_p (by dsimp only; exact ⟨by omega, le0 y333.2.2 rfl, by omega⟩))) (flw1 (by rw [c1]; decide)) (by repeat' (first | assumption | exact FW.rf | refine FW.up ?_ (by unfold wS; omega) | (refine FW.tr ?_ (by assumption)))) (by (try simp (disch := decide) only [upI_eq, upI_a, upI_i, upR_eq, upR_a, upR_i]); try assumption) (by (try simp (disch := decide) only [upI_eq, upI_a, upI_i, upR_eq, upR_a, upR_i]); try assumption) (by simp (disch := decide) only [scX, upI_eq, upI_a, upI_i, upR_eq, upR_a, upR_i, upI_ro, upI_rw, up1_same, up1_eq, ht, E1, E2, E3, E4, E5, E6, E7])) | (exact st _ ((tsH_28s c1 (by dsimp only; omega)).trans (onw_p (by dsimp only; exact ⟨by omega, le0 y333.2.2 rfl, by omega⟩))) (by repeat' (first | assumption | exact FW.rf | refine FW.up ?_ (by unfold wS; omega) | (refine FW.tr ?_ (by assumption)))) (by (try simp (disch := decide) only [upI_eq, upI_a, upI_i, upR_eq, upR_a, upR_i]); try assumption) (by (try simp (disch := decide) only [upI_eq, upI_a, upI_i, upR_eq, upR_a, upR_i]); try assumption)) | (exact no _ ((tsH_28 c1).trans (onw_n (by intro h; dsimp only at h; omega))) (by repeat' (first | assumption | exact FW.rf | refine FW.up ?_ (by unfold wS; omega) | (refine FW.tr ?_ (by assumption)))) (by (try simp (disch := decide) only [upI_eq, upI_a, upI_i, upR_eq, upR_a, upR_i]); try assumption))
          · first
            | (exfalso; omega)
            | skip
              refine (s255_583).mpr ?_
              first | (exfalso; omega) | (exact ok _ _ _ ((tsH_28a c1 (by dsimp only; omega) c363).trans (onw_p (by dsimp only; exact ⟨by omega, le0 y333.2.2 rfl, by omega⟩))) (flw1 (by rw [c1]; decide)) (by repeat' (first | assumption | exact FW.rf | refine FW.up ?_ (by unfold wS; omega) | (refine FW.tr ?_ (by assumption)))) (by (try simp (disch := decide) only [upI_eq, upI_a, upI_i, upR_eq, upR_a, upR_i]); try assumption) (by (try simp (disch := decide) only [upI_eq, upI_a, upI_i, upR_eq, upR_a, upR_i]); try assumption) (by simp (disch := decide) only [scX, upI_eq, upI_a, upI_i, upR_eq, upR_a, upR_i, upI_ro, upI_rw, up1_same, up1_eq, ht, E1, E2, E3, E4, E5, E6, E7])) | (exact ok _ _ _ ((tsH_28b c1 (by dsimp only; omega) c363).trans (onw_p (by dsimp only; exact ⟨by omega, le0 y333.2.2 rfl, by omega⟩))) (flw1 (by rw [c1]; decide)) (by repeat' (first | assumption | exact FW.rf | refine FW.up ?_ (by unfold wS; omega) | (refine FW.tr ?_ (by assumption)))) (by (try simp (disch := decide) only [upI_eq, upI_a, upI_i, upR_eq, upR_a, upR_i]); try assumption) (by (try simp (disch := decide) only [upI_eq, upI_a, upI_i, upR_eq, upR_a, upR_i]); try assumption) (by simp (disch := decide) only [scX, upI_eq, upI_a, upI_i, upR_eq, upR_a, upR_i, upI_ro, upI_rw, up1_same, up1_eq, ht, E1, E2, E3, E4, E5, E6, E7])) | (exact st _ ((tsH_28s c1 (by dsimp only; omega)).trans (onw_p (by dsimp only; exact ⟨by omega, le0 y333.2.2 rfl, by omega⟩))) (by repeat' (first | assumption | exact FW.rf | refine FW.up ?_ (by unfold wS; omega) | (refine FW.tr ?_ (by assumption)))) (by (try simp (disch := decide) only [upI_eq, upI_a, upI_i, upR_eq, upR_a, upR_i]); try assumption) (by (try simp (disch := decide) only [upI_eq, upI_a, upI_i, upR_eq, upR_a, upR_i]); try assumption)) | (exact no _ ((tsH_28 c1).trans (onw_n (by intro h; dsimp only at h; omega))) (by repeat' (first | assumption | exact FW.rf | refine FW.up ?_ (by unfold wS; omega) | (refine FW.tr ?_ (by assumption)))) (by (try simp (disch := decide) only [upI_eq, upI_a, upI_i, upR_eq, upR_a, upR_i]); try assumption))
    · skip
      try simp (disch := decide) only [upI_eq, upI_a, upI_i, upR_eq, upR_a, upR_i, E1, E4] at y337
      try simp (disch := decide) only [upI_eq, upI_a, upI_i, upR_eq, upR_a, upR_i, E1, E4] at x337
      refine s255_340.mpr (s255_342.mpr ?_)
      refine (s255_343 kM).mpr ?_
      try simp (disch := first | decide | assumption | omega) only [kon, knt_some, knt_none, Option.toList_some, Option.toList_none, List.cons_append, List.nil_append, upI_eq, upI_a, upI_i, upR_eq, upR_a, upR_i, h36, ht, E1, E2, E3, E4, E5, E6, E7, fAdd_id, fSub_id, fMul_id]
      refine s255_346.mpr (wif (fun c346 => ?_) (fun c346 => ?_))
      · first
        | (exfalso; omega)
        | skip
          refine (s255_583).mpr ?_
          first | (exfalso; omega) | (exact ok _ _ _ ((tsH_28a c1 (by dsimp only; omega) c363).trans (onw_p (by dsimp only; exact ⟨by omega, le0 y333.2.2 rfl, by omega⟩))) (flw1 (by rw [c1]; decide)) (by repeat' (first | assumption | exact FW.rf | refine FW.up ?_ (by unfold wS; omega) | (refine FW.tr ?_ (by assumption)))) (by (try simp (disch := decide) only [upI_eq, upI_a, upI_i, upR_eq, upR_a, upR_i]); try assumption) (by (try simp (disch := decide) only [upI_eq, upI_a, upI_i, upR_eq, upR_a, upR_i]); try assumption) (by simp (disch := decide) only [scX, upI_eq, upI_a, upI_i, upR_eq, upR_a, upR_i, upI_ro, upI_rw, up1_same, up1_eq, ht, E1, E2, E3, E4, E5, E6, E7])) | (exact ok _ _ _ ((tsH_28b c1 (by dsimp only; omega) c363).trans (onw_p (by dsimp only; exact ⟨by omega, le0 y333.2.2 rfl, by omega⟩))) (flw1 (by rw [c1]; decide)) (by repeat' (first | assumption | exact FW.rf | refine FW.up ?_ (by unfold wS; omega) | (refine FW.tr ?_ (by assumption)))) (by (try simp (disch := decide) only [upI_eq, upI_a, upI_i, upR_eq, upR_a, upR_i]); try assumption) (by (try simp (disch := decide) only [upI_eq, upI_a, upI_i, upR_eq, upR_a, upR_i]); try assumption) (by simp (disch := decide) only [scX, upI_eq, upI_a, upI_i, upR_eq, upR_a, upR_i, upI_ro, upI_rw, up1_same, up1_eq, ht, E1, E2, E3, E4, E5, E6, E7])) | (exact st _ ((tsH_28s c1 (by dsimp only; omega)).trans (onw_p (by dsimp only; exact ⟨by omega, le0 y333.2.2 rfl, by omega⟩))) (by repeat' (first | assumption | exact FW.rf | refine FW.up ?_ (by unfold wS; omega) | (refine FW.tr ?_ (by assumption)))) (by (try simp (disch := decide) only [upI_eq, upI_a, upI_i, upR_eq, upR_a, upR_i]); try assumption) (by (try simp (disch := decide) only [upI_eq, upI_a, upI_i, upR_eq, upR_a, upR_i]); try assumption)) | (exact no _ ((tsH_28 c1).trans (onw_n (by intro h; dsimp only at h; omega))) (by repeat' (first | assumption | exact FW.rf | refine FW.up ?_ (by unfold wS; omega) | (refine FW.tr ?_ (by assumption)))) (by (try simp (disch := decide) only [upI_eq, upI_a, upI_i, upR_eq, upR_a, upR_i]); try assumption))
      · first
        | (exfalso; omega)
        | skip
          refine s255_349.mpr ?_
          refine (s255_350 kM).mpr ?_
          try simp (disch := first | decide | assumption | omega) only [kon, knt_some, knt_none, Option.toList_some, Option.toList_none, List.cons_append, List.nil_append, upI_eq, upI_a, upI_i, upR_eq, upR_a, upR_i, h36, ht, E1, E2, E3, E4, E5, E6, E7, fAdd_id, fSub_id, fMul_id]
          refine s255_353.mpr (wif (fun c353 => ?_) (fun c353 => ?_))
          · first
            | (exfalso; omega)
            | skip
              refine s255_356.mpr (s255_357.mpr ?_)
              refine (s255_359 (by omega)).mpr ?_
              refine m_kind.mpr ?_
              refine s255_362.mpr ?_
              refine s255_363.mpr (wif (fun c363 => ?_) (fun c363 => ?_))
              · first
                | (exfalso; omega)
                | skip
                  refine s255_366.mpr (s255_367.mpr ?_)
                  refine (s255_380 (by omega) kM).mpr ?_
                  refine m_push hA hR (by (try simp (disch := decide) only [upI_eq, upI_a, upI_i, upR_eq, upR_a, upR_i]); first | assumption | rfl) (by omega) ?_
                  refine s255_383.mpr ?_
                  refine (s255_583).mpr ?_
                  first | (exfalso; omega) | (exact ok _ _ _ ((tsH_28a c1 (by dsimp only; omega) c363).trans (onw_p (by dsimp only; exact ⟨by omega, le0 y333.2.2 rfl, by omega⟩))) (flw1 (by rw [c1]; decide)) (by repeat' (first | assumption | exact FW.rf | refine FW.up ?_ (by unfold wS; omega) | (refine FW.tr ?_ (by assumption)))) (by (try simp (disch := decide) only [upI_eq, upI_a, upI_i, upR_eq, upR_a, upR_i]); try assumption) (by (try simp (disch := decide) only [upI_eq, upI_a, upI_i, upR_eq, upR_a, upR_i]); try assumption) (by simp (disch := decide) only [scX, upI_eq, upI_a, upI_i, upR_eq, upR_a, upR_i, upI_ro, upI_rw, up1_same, up1_eq, ht, E1, E2, E3, E4, E5, E6, E7])) | (exact ok _ _ _ ((tsH_28b c1 (by dsimp only; omega) c363).trans (onw_p (by dsimp only; exact ⟨by omega, le0 y333.2.2 rfl, by omega⟩))) (flw1 (by rw [c1]; decide)) (by repeat' (first | assumption | exact FW.rf | refine FW.up ?_ (by unfold wS; omega) | (refine FW.tr ?_ (by assumption)))) (by (try simp (disch := decide) only [upI_eq, upI_a, upI_i, upR_eq, upR_a, upR_i]); try assumption) (by (try simp (disch := decide) only [upI_eq, upI_a, upI_i, upR_eq, upR_a, upR_i]); try assumption) (by simp (disch := decide) only [scX, upI_eq, upI_a, upI_i, upR_eq, upR_a, upR_i, upI_ro, upI_rw, up1_same, up1_eq, ht, E1, E2, E3, E4, E5, E6, E7])) | (exact st _ ((tsH_28s c1 (by dsimp only; omega)).trans (onw_p (by dsimp only; exact ⟨by omega, le0 y333.2.2 rfl, by omega⟩))) (by repeat' (first | assumption | exact FW.rf | refine FW.up ?_ (by unfold wS; omega) | (refine FW.tr ?_ (by assumption)))) (by (try simp (disch := decide) only [upI_eq, upI_a, upI_i, upR_eq, upR_a, upR_i]); try assumption) (by (try simp (disch := decide) only [upI_eq, upI_a, upI_i, upR_eq, upR_a, upR_i]); try assumption)) | (exact no _ ((tsH_28 c1).trans (onw_n (by intro h; dsimp only at h; omega))) (by repeat' (first | assumption | exact FW.rf | refine FW.up ?_ (by unfold wS; omega) | (refine FW.tr ?_ (by assumption)))) (by (try simp (disch := decide) only [upI_eq, upI_a, upI_i, upR_eq, upR_a, upR_i]); try assumption))
              · first
                | (exfalso; omega)
                | skip
                  refine s255_370.mpr (s255_371.mpr (s255_373.mpr ?_))
                  refine (s255_375 (by omega)).mpr ?_
                  refine (m_which (vT_rng (hv75 _ (by omega) (by omega)))).mpr ?_
                  refine s255_378.mpr (s255_379.mpr ?_)
                  try simp (disch := first | decide | assumption | omega) only [kon, knt_some, knt_none, Option.toList_some, Option.toList_none, List.cons_append, List.nil_append, upI_eq, upI_a, upI_i, upR_eq, upR_a, upR_i, h36, ht, E1, E2, E3, E4, E5, E6, E7, fAdd_id, fSub_id, fMul_id]
                  refine (s255_380 (by omega) kM).mpr ?_
                  refine m_push hA hR (by (try simp (disch := decide) only [upI_eq, upI_a, upI_i, upR_eq, upR_a, upR_i]); first | assumption | rfl) (by omega) ?_
                  refine s255_383.mpr ?_
                  refine (s255_583).mpr ?_
                  first | (exfalso; omega) | (exact ok _ _ _ ((tsH_28a c1 (by dsimp only; omega) c363).trans (onw_p (by dsimp only; exact ⟨by omega, le0 y333.2.2 rfl, by omega⟩))) (flw1 (by rw [c1]; decide)) (by repeat' (first | assumption | exact FW.rf | refine FW.up ?_ (by unfold wS; omega) | (refine FW.tr ?_ (by assumption)))) (by (try simp (disch := decide) only [upI_eq, upI_a, upI_i, upR_eq, upR_a, upR_i]); try assumption) (by (try simp (disch := decide) only [upI_eq, upI_a, upI_i, upR_eq, upR_a, upR_i]); try assumption) (by simp (disch := decide) only [scX, upI_eq, upI_a, upI_i, upR_eq, upR_a, upR_i, upI_ro, upI_rw, up1_same, up1_eq, ht, E1, E2, E3, E4, E5, E6, E7])) | (exact ok _ _ _ ((tsH_28b c1 (by dsimp only; omega) c363).trans (onw_p (by dsimp only; exact ⟨by omega, le0 y333.2.2 rfl, by omega⟩))) (flw1 (by rw [c1]; decide)) (by repeat' (first | assumption | exact FW.rf | refine FW.up ?_ (by unfold wS; omega) | (refine FW.tr ?_ (by assumption)))) (by (try simp (disch := decide) only [upI_eq, upI_a, upI_i, upR_eq, upR_a, upR_i]); try assumption) (by (try simp (disch := decide) only [upI_eq, upI_a, upI_i, upR_eq, upR_a, upR_i]); try assumption) (by simp (disch := decide) only [scX, upI_eq, upI_a, upI_i, upR_eq, upR_a, upR_i, upI_ro, upI_rw, up1_same, up1_eq, ht, E1, E2, E3, E4, E5, E6, E7])) | (exact st _ ((tsH_28s c1 (by dsimp only; omega)).trans (onw_p (by dsimp only; exact ⟨by omega, le0 y333.2.2 rfl, by omega⟩))) (by repeat' (first | assumption | exact FW.rf | refine FW.up ?_ (by unfold wS; omega) | (refine FW.tr ?_ (by assumption)))) (by (try simp (disch := decide) only [upI_eq, upI_a, upI_i, upR_eq, upR_a, upR_i]); try assumption) (by (try simp (disch := decide) only [upI_eq, upI_a, upI_i, upR_eq, upR_a, upR_i]); try assumption)) | (exact no _ ((tsH_28 c1).trans (onw_n (by intro h; dsimp only at h; omega))) (by repeat' (first | assumption | exact FW.rf | refine FW.up ?_ (by unfold wS; omega) | (refine FW.tr ?_ (by assumption)))) (by (try simp (disch := decide) only [upI_eq, upI_a, upI_i, upR_eq, upR_a, upR_i]); try assumption))
          · first
            | (exfalso; omega)
            | skip
              refine (s255_583).mpr ?_
              first | (exfalso; omega) | (exact ok _ _ _ ((tsH_28a c1 (by dsimp only; omega) c363).trans (onw_p (by dsimp only; exact ⟨by omega, le0 y333.2.2 rfl, by omega⟩))) (flw1 (by rw [c1]; decide)) (by repeat' (first | assumption | exact FW.rf | refine FW.up ?_ (by unfold wS; omega) | (refine FW.tr ?_ (by assumption)))) (by (try simp (disch := decide) only [upI_eq, upI_a, upI_i, upR_eq, upR_a, upR_i]); try assumption) (by (try simp (disch := decide) only [upI_eq, upI_a, upI_i, upR_eq, upR_a, upR_i]); try assumption) (by simp (disch := decide) only [scX, upI_eq, upI_a, upI_i, upR_eq, upR_a, upR_i, upI_ro, upI_rw, up1_same, up1_eq, ht, E1, E2, E3, E4, E5, E6, E7])) | (exact ok _ _ _ ((tsH_28b c1 (by dsimp only; omega) c363).trans (onw_p (by dsimp only; exact ⟨by omega, le0 y333.2.2 rfl, by omega⟩))) (flw1 (by rw [c1]; decide)) (by repeat' (first | assumption | exact FW.rf | refine FW.up ?_ (by unfold wS; omega) | (refine FW.tr ?_ (by assumption)))) (by (try simp (disch := decide) only [upI_eq, upI_a, upI_i, upR_eq, upR_a, upR_i]); try assumption) (by (try simp (disch := decide) only [upI_eq, upI_a, upI_i, upR_eq, upR_a, upR_i]); try assumption) (by simp (disch := decide) only [scX, upI_eq, upI_a, upI_i, upR_eq, upR_a, upR_i, upI_ro, upI_rw, up1_same, up1_eq, ht, E1, E2, E3, E4, E5, E6, E7])) | (exact st _ ((tsH_28s c1 (by dsimp only; omega)).trans (onw_p (by dsimp only; exact ⟨by omega, le0 y333.2.2 rfl, by omega⟩))) (by repeat' (first | assumption | exact FW.rf | refine FW.up ?_ (by unfold wS; omega) | (refine FW.tr ?_ (by assumption)))) (by (try simp (disch := decide) only [upI_eq, upI_a, upI_i, upR_eq, upR_a, upR_i]); try assumption) (by (try simp (disch := decide) only [upI_eq, upI_a, upI_i, upR_eq, upR_a, upR_i]); try assumption)) | (exact no _ ((tsH_28 c1).trans (onw_n (by intro h; dsimp only at h; omega))) (by repeat' (first | assumption | exact FW.rf | refine FW.up ?_ (by unfold wS; omega) | (refine FW.tr ?_ (by assumption)))) (by (try simp (disch := decide) only [upI_eq, upI_a, upI_i, upR_eq, upR_a, upR_i]); try assumption))
  · skip
    try simp (disch := decide) only [upI_eq, upI_a, upI_i, upR_eq, upR_a, upR_i, E1, E4] at y333
    try simp (disch := decide) only [upI_eq, upI_a, upI_i, upR_eq, upR_a, upR_i, E1, E4] at x333
    refine s255_336.mpr ?_
    refine (s255_337 (by omega) kM).mpr ?_
    refine m_popRow hA hR (by omega) (by (try simp (disch := decide) only [upI_eq, upI_a, upI_i, upR_eq, upR_a, upR_i]); first | assumption | rfl) (by omega) (by (try simp (disch := decide) only [upI_eq, upI_a, upI_i, upR_eq, upR_a, upR_i]); first | assumption | rfl) (by omega) (fun y337 => ?_) (fun y337 => ?_) (fun q337 hi337 t337 w337 z337 s337 u337 v337 x337 => ?_)
    · skip
      try simp (disch := decide) only [upI_eq, upI_a, upI_i, upR_eq, upR_a, upR_i, E1, E4] at y337
      try simp (disch := decide) only [upI_eq, upI_a, upI_i, upR_eq, upR_a, upR_i, E1, E4] at x337
      refine s255_340.mpr (s255_342.mpr ?_)
      refine (s255_343 kM).mpr ?_
      try simp (disch := first | decide | assumption | omega) only [kon, knt_some, knt_none, Option.toList_some, Option.toList_none, List.cons_append, List.nil_append, upI_eq, upI_a, upI_i, upR_eq, upR_a, upR_i, h36, ht, E1, E2, E3, E4, E5, E6, E7, fAdd_id, fSub_id, fMul_id]
      refine s255_346.mpr (wif (fun c346 => ?_) (fun c346 => ?_))
      · first
        | (exfalso; omega)
        | skip
          refine (s255_583).mpr ?_
          first | (exfalso; omega) | (exact ok _ _ _ ((tsH_28a c1 (by dsimp only; omega) c363).trans (onw_p (by dsimp only; exact ⟨by omega, le0 y333.2.2 rfl, by omega⟩))) (flw1 (by rw [c1]; decide)) (by repeat' (first | assumption | exact FW.rf | refine FW.up ?_ (by unfold wS; omega) | (refine FW.tr ?_ (by assumption)))) (by (try simp (disch := decide) only [upI_eq, upI_a, upI_i, upR_eq, upR_a, upR_i]); try assumption) (by (try simp (disch := decide) only [upI_eq, upI_a, upI_i, upR_eq, upR_a, upR_i]); try assumption) (by simp (disch := decide) only [scX, upI_eq, upI_a, upI_i, upR_eq, upR_a, upR_i, upI_ro, upI_rw, up1_same, up1_eq, ht, E1, E2, E3, E4, E5, E6, E7])) | (exact ok _ _ _ ((tsH_28b c1 (by dsimp only; omega) c363).trans (onw_p (by dsimp only; exact ⟨by omega, le0 y333.2.2 rfl, by omega⟩))) (flw1 (by rw [c1]; decide)) (by repeat' (first | assumption | exact FW.rf | refine FW.up ?_ (by unfold wS; omega) | (refine FW.tr ?_ (by assumption)))) (by (try simp (disch := decide) only [upI_eq, upI_a, upI_i, upR_eq, upR_a, upR_i]); try assumption) (by (try simp (disch := decide) only [upI_eq, upI_a, upI_i, upR_eq, upR_a, upR_i]); try assumption) (by simp (disch := decide) only [scX, upI_eq, upI_a, upI_i, upR_eq, upR_a, upR_i, upI_ro, upI_rw, up1_same, up1_eq, ht, E1, E2, E3, E4, E5, E6, E7])) | (exact st _ ((tsH_28s c1 (by dsimp only; omega)).trans (onw_p (by dsimp only; exact ⟨by omega, le0 y333.2.2 rfl, by omega⟩))) (by repeat' (first | assumption | exact FW.rf | refine FW.up ?_ (by unfold wS; omega) | (refine FW.tr ?_ (by assumption)))) (by (try simp (disch := decide) only [upI_eq, upI_a, upI_i, upR_eq, upR_a, upR_i]); try assumption) (by (try simp (disch := decide) only [upI_eq, upI_a, upI_i, upR_eq, upR_a, upR_i]); try assumption)) | (exact no _ ((tsH_28 c1).trans (onw_n (by intro h; dsimp only at h; omega))) (by repeat' (first | assumption | exact FW.rf | refine FW.up ?_ (by unfold wS; omega) | (refine FW.tr ?_ (by assumption)))) (by (try simp (disch := decide) only [upI_eq, upI_a, upI_i, upR_eq, upR_a, upR_i]); try assumption))
      · first
        | (exfalso; omega)
        | skip
          refine s255_349.mpr ?_
          refine (s255_350 kM).mpr ?_
          try simp (disch := first | decide | assumption | omega) only [kon, knt_some, knt_none, Option.toList_some, Option.toList_none, List.cons_append, List.nil_append, upI_eq, upI_a, upI_i, upR_eq, upR_a, upR_i, h36, ht, E1, E2, E3, E4, E5, E6, E7, fAdd_id, fSub_id, fMul_id]
          refine s255_353.mpr (wif (fun c353 => ?_) (fun c353 => ?_))
          · first
            | (exfalso; omega)
            | skip
              refine s255_356.mpr (s255_357.mpr ?_)
              refine (s255_359 (by omega)).mpr ?_
              refine m_kind.mpr ?_
              refine s255_362.mpr ?_
              refine s255_363.mpr (wif (fun c363 => ?_) (fun c363 => ?_))
              · first
                | (exfalso; omega)
                | skip
                  refine s255_366.mpr (s255_367.mpr ?_)
                  refine (s255_380 (by omega) kM).mpr ?_
                  refine m_push hA hR (by (try simp (disch := decide) only [upI_eq, upI_a, upI_i, upR_eq, upR_a, upR_i]); first | assumption | rfl) (by omega) ?_
                  refine s255_383.mpr ?_
                  refine (s255_583).mpr ?_
                  first | (exfalso; omega) | (exact ok _ _ _ ((tsH_28a c1 (by dsimp only; omega) c363).trans (onw_p (by dsimp only; exact ⟨by omega, le0 y333.2.2 rfl, by omega⟩))) (flw1 (by rw [c1]; decide)) (by repeat' (first | assumption | exact FW.rf | refine FW.up ?_ (by unfold wS; omega) | (refine FW.tr ?_ (by assumption)))) (by (try simp (disch := decide) only [upI_eq, upI_a, upI_i, upR_eq, upR_a, upR_i]); try assumption) (by (try simp (disch := decide) only [upI_eq, upI_a, upI_i, upR_eq, upR_a, upR_i]); try assumption) (by simp (disch := decide) only [scX, upI_eq, upI_a, upI_i, upR_eq, upR_a, upR_i, upI_ro, upI_rw, up1_same, up1_eq, ht, E1, E2, E3, E4, E5, E6, E7])) | (exact ok _ _ _ ((tsH_28b c1 (by dsimp only; omega) c363).trans (onw_p (by dsimp only; exact ⟨by omega, le0 y333.2.2 rfl, by omega⟩))) (flw1 (by rw [c1]; decide)) (by repeat' (first | assumption | exact FW.rf | refine FW.up ?_ (by unfold wS; omega) | (refine FW.tr ?_ (by assumption)))) (by (try simp (disch := decide) only [upI_eq, upI_a, upI_i, upR_eq, upR_a, upR_i]); try assumption) (by (try simp (disch := decide) only [upI_eq, upI_a, upI_i, upR_eq, upR_a, upR_i]); try assumption) (by simp (disch := decide) only [scX, upI_eq, upI_a, upI_i, upR_eq, upR_a, upR_i, upI_ro, upI_rw, up1_same, up1_eq, ht, E1, E2, E3, E4, E5, E6, E7])) | (exact st _ ((tsH_28s c1 (by dsimp only; omega)).trans (onw_p (by dsimp only; exact ⟨by omega, le0 y333.2.2 rfl, by omega⟩))) (by repeat' (first | assumption | exact FW.rf | refine FW.up ?_ (by unfold wS; omega) | (refine FW.tr ?_ (by assumption)))) (by (try simp (disch := decide) only [upI_eq, upI_a, upI_i, upR_eq, upR_a, upR_i]); try assumption) (by (try simp (disch := decide) only [upI_eq, upI_a, upI_i, upR_eq, upR_a, upR_i]); try assumption)) | (exact no _ ((tsH_28 c1).trans (onw_n (by intro h; dsimp only at h; omega))) (by repeat' (first | assumption | exact FW.rf | refine FW.up ?_ (by unfold wS; omega) | (refine FW.tr ?_ (by assumption)))) (by (try simp (disch := decide) only [upI_eq, upI_a, upI_i, upR_eq, upR_a, upR_i]); try assumption))
              · first
                | (exfalso; omega)
                | skip
                  refine s255_370.mpr (s255_371.mpr (s255_373.mpr ?_))
                  refine (s255_375 (by omega)).mpr ?_
                  refine (m_which (vT_rng (hv75 _ (by omega) (by omega)))).mpr ?_
                  refine s255_378.mpr (s255_379.mpr ?_)
                  try simp (disch := first | decide | assumption | omega) only [kon, knt_some, knt_none, Option.toList_some, Option.toList_none, List.cons_append, List.nil_append, upI_eq, upI_a, upI_i, upR_eq, upR_a, upR_i, h36, ht, E1, E2, E3, E4, E5, E6, E7, fAdd_id, fSub_id, fMul_id]
                  refine (s255_380 (by omega) kM).mpr ?_
                  refine m_push hA hR (by (try simp (disch := decide) only [upI_eq, upI_a, upI_i, upR_eq, upR_a, upR_i]); first | assumption | rfl) (by omega) ?_
                  refine s255_383.mpr ?_
                  refine (s255_583).mpr ?_
                  first | (exfalso; omega) | (exact ok _ _ _ ((tsH_28a c1 (by dsimp only; omega) c363).trans (onw_p (by dsimp only; exact ⟨by omega, le0 y333.2.2 rfl, by omega⟩))) (flw1 (by rw [c1]; decide)) (by repeat' (first | assumption | exact FW.rf | refine FW.up ?_ (by unfold wS; omega) | (refine FW.tr ?_ (by assumption)))) (by (try simp (disch := decide) only [upI_eq, upI_a, upI_i, upR_eq, upR_a, upR_i]); try assumption) (by (try simp (disch := decide) only [upI_eq, upI_a, upI_i, upR_eq, upR_a, upR_i]); try assumption) (by simp (disch := decide) only [scX, upI_eq, upI_a, upI_i, upR_eq, upR_a, upR_i, upI_ro, upI_rw, up1_same, up1_eq, ht, E1, E2, E3, E4, E5, E6, E7])) | (exact ok _ _ _ ((tsH_28b c1 (by dsimp only; omega) c363).trans (onw_p (by dsimp only; exact ⟨by omega, le0 y333.2.2 rfl, by omega⟩))) (flw1 (by rw [c1]; decide)) (by repeat' (first | assumption | exact FW.rf | refine FW.up ?_ (by unfold wS; omega) | (refine FW.tr ?_ (by assumption)))) (by (try simp (disch := decide) only [upI_eq, upI_a, upI_i, upR_eq, upR_a, upR_i]); try assumption) (by (try simp (disch := decide) only [upI_eq, upI_a, upI_i, upR_eq, upR_a, upR_i]); try assumption) (by simp (disch := decide) only [scX, upI_eq, upI_a, upI_i, upR_eq, upR_a, upR_i, upI_ro, upI_rw, up1_same, up1_eq, ht, E1, E2, E3, E4, E5, E6, E7])) | (exact st _ ((tsH_28s c1 (by dsimp only; omega)).trans (onw_p (by dsimp only; exact ⟨by omega, le0 y333.2.2 rfl, by omega⟩))) (by repeat' (first | assumption | exact FW.rf | refine FW.up ?_ (by unfold wS; omega) | (refine FW.tr ?_ (by assumption)))) (by (try simp (disch := decide) only [upI_eq, upI_a, upI_i, upR_eq, upR_a, upR_i]); try assumption) (by (try simp (disch := decide) only [upI_eq, upI_a, upI_i, upR_eq, upR_a, upR_i]); try assumption)) | (exact no _ ((tsH_28 c1).trans (onw_n (by intro h; dsimp only at h; omega))) (by repeat' (first | assumption | exact FW.rf | refine FW.up ?_ (by unfold wS; omega) | (refine FW.tr ?_ (by assumption)))) (by (try simp (disch := decide) only [upI_eq, upI_a, upI_i, upR_eq, upR_a, upR_i]); try assumption))
          · first
            | (exfalso; omega)
            | skip
              refine (s255_583).mpr ?_
              first | (exfalso; omega) | (exact ok _ _ _ ((tsH_28a c1 (by dsimp only; omega) c363).trans (onw_p (by dsimp only; exact ⟨by omega, le0 y333.2.2 rfl, by omega⟩))) (flw1 (by rw [c1]; decide)) (by repeat' (first | assumption | exact FW.rf | refine FW.up ?_ (by unfold wS; omega) | (refine FW.tr ?_ (by assumption)))) (by (try simp (disch := decide) only [upI_eq, upI_a, upI_i, upR_eq, upR_a, upR_i]); try assumption) (by (try simp (disch := decide) only [upI_eq, upI_a, upI_i, upR_eq, upR_a, upR_i]); try assumption) (by simp (disch := decide) only [scX, upI_eq, upI_a, upI_i, upR_eq, upR_a, upR_i, upI_ro, upI_rw, up1_same, up1_eq, ht, E1, E2, E3, E4, E5, E6, E7])) | (exact ok _ _ _ ((tsH_28b c1 (by dsimp only; omega) c363).trans (onw_p (by dsimp only; exact ⟨by omega, le0 y333.2.2 rfl, by omega⟩))) (flw1 (by rw [c1]; decide)) (by repeat' (first | assumption | exact FW.rf | refine FW.up ?_ (by unfold wS; omega) | (refine FW.tr ?_ (by assumption)))) (by (try simp (disch := decide) only [upI_eq, upI_a, upI_i, upR_eq, upR_a, upR_i]); try assumption) (by (try simp (disch := decide) only [upI_eq, upI_a, upI_i, upR_eq, upR_a, upR_i]); try assumption) (by simp (disch := decide) only [scX, upI_eq, upI_a, upI_i, upR_eq, upR_a, upR_i, upI_ro, upI_rw, up1_same, up1_eq, ht, E1, E2, E3, E4, E5, E6, E7])) | (exact st _ ((tsH_28s c1 (by dsimp only; omega)).trans (onw_p (by dsimp only; exact ⟨by omega, le0 y333.2.2 rfl, by omega⟩))) (by repeat' (first | assumption | exact FW.rf | refine FW.up ?_ (by unfold wS; omega) | (refine FW.tr ?_ (by assumption)))) (by (try simp (disch := decide) only [upI_eq, upI_a, upI_i, upR_eq, upR_a, upR_i]); try assumption) (by (try simp (disch := decide) only [upI_eq, upI_a, upI_i, upR_eq, upR_a, upR_i]); try assumption)) | (exact no _ ((tsH_28 c1).trans (onw_n (by intro h; dsimp only at h; omega))) (by repeat' (first | assumption | exact FW.rf | refine FW.up ?_ (by unfold wS; omega) | (refine FW.tr ?_ (by assumption)))) (by (try simp (disch := decide) only [upI_eq, upI_a, upI_i, upR_eq, upR_a, upR_i]); try assumption))
    · skip
      try simp (disch := decide) only [upI_eq, upI_a, upI_i, upR_eq, upR_a, upR_i, E1, E4] at y337
      try simp (disch := decide) only [upI_eq, upI_a, upI_i, upR_eq, upR_a, upR_i, E1, E4] at x337
      refine s255_340.mpr (s255_342.mpr ?_)
      refine (s255_343 kM).mpr ?_
      try simp (disch := first | decide | assumption | omega) only [kon, knt_some, knt_none, Option.toList_some, Option.toList_none, List.cons_append, List.nil_append, upI_eq, upI_a, upI_i, upR_eq, upR_a, upR_i, h36, ht, E1, E2, E3, E4, E5, E6, E7, fAdd_id, fSub_id, fMul_id]
      refine s255_346.mpr (wif (fun c346 => ?_) (fun c346 => ?_))
      · first
        | (exfalso; omega)
        | skip
          refine (s255_583).mpr ?_
          first | (exfalso; omega) | (exact ok _ _ _ ((tsH_28a c1 (by dsimp only; omega) c363).trans (onw_p (by dsimp only; exact ⟨by omega, le0 y333.2.2 rfl, by omega⟩))) (flw1 (by rw [c1]; decide)) (by repeat' (first | assumption | exact FW.rf | refine FW.up ?_ (by unfold wS; omega) | (refine FW.tr ?_ (by assumption)))) (by (try simp (disch := decide) only [upI_eq, upI_a, upI_i, upR_eq, upR_a, upR_i]); try assumption) (by (try simp (disch := decide) only [upI_eq, upI_a, upI_i, upR_eq, upR_a, upR_i]); try assumption) (by simp (disch := decide) only [scX, upI_eq, upI_a, upI_i, upR_eq, upR_a, upR_i, upI_ro, upI_rw, up1_same, up1_eq, ht, E1, E2, E3, E4, E5, E6, E7])) | (exact ok _ _ _ ((tsH_28b c1 (by dsimp only; omega) c363).trans (onw_p (by dsimp only; exact ⟨by omega, le0 y333.2.2 rfl, by omega⟩))) (flw1 (by rw [c1]; decide)) (by repeat' (first | assumption | exact FW.rf | refine FW.up ?_ (by unfold wS; omega) | (refine FW.tr ?_ (by assumption)))) (by (try simp (disch := decide) only [upI_eq, upI_a, upI_i, upR_eq, upR_a, upR_i]); try assumption) (by (try simp (disch := decide) only [upI_eq, upI_a, upI_i, upR_eq, upR_a, upR_i]); try assumption) (by simp (disch := decide) only [scX, upI_eq, upI_a, upI_i, upR_eq, upR_a, upR_i, upI_ro, upI_rw, up1_same, up1_eq, ht, E1, E2, E3, E4, E5, E6, E7])) | (exact st _ ((tsH_28s c1 (by dsimp only; omega)).trans (onw_p (by dsimp only; exact ⟨by omega, le0 y333.2.2 rfl, by omega⟩))) (by repeat' (first | assumption | exact FW.rf | refine FW.up ?_ (by unfold wS; omega) | (refine FW.tr ?_ (by assumption)))) (by (try simp (disch := decide) only [upI_eq, upI_a, upI_i, upR_eq, upR_a, upR_i]); try assumption) (by (try simp (disch := decide) only [upI_eq, upI_a, upI_i, upR_eq, upR_a, upR_i]); try assumption)) | (exact no _ ((tsH_28 c1).trans (onw_n (by intro h; dsimp only at h; omega))) (by repeat' (first | assumption | exact FW.rf | refine FW.up ?_ (by unfold wS; omega) | (refine FW.tr ?_ (by assumption)))) (by (try simp (disch := decide) only [upI_eq, upI_a, upI_i, upR_eq, upR_a, upR_i]); try assumption))
      · first
        | (exfalso; omega)
        | skip
          refine s255_349.mpr ?_
          refine (s255_350 kM).mpr ?_
          try simp (disch := first | decide | assumption | omega) only [kon, knt_some, knt_none, Option.toList_some, Option.toList_none, List.cons_append, List.nil_append, upI_eq, upI_a, upI_i, upR_eq, upR_a, upR_i, h36, ht, E1, E2, E3, E4, E5, E6, E7, fAdd_id, fSub_id, fMul_id]
          refine s255_353.mpr (wif (fun c353 => ?_) (fun c353 => ?_))
          · first
            | (exfalso; omega)
            | skip
              refine s255_356.mpr (s255_357.mpr ?_)
              refine (s255_359 (by omega)).mpr ?_
              refine m_kind.mpr ?_
              refine s255_362.mpr ?_
              refine s255_363.mpr (wif (fun c363 => ?_) (fun c363 => ?_))
              · first
                | (exfalso; omega)
                | skip
                  refine s255_366.mpr (s255_367.mpr ?_)
                  refine (s255_380 (by omega) kM).mpr ?_
                  refine m_push hA hR (by (try simp (disch := decide) only [upI_eq, upI_a, upI_i, upR_eq, upR_a, upR_i]); first | assumption | rfl) (by omega) ?_
                  refine s255_383.mpr ?_
                  refine (s255_583).mpr ?_
                  first | (exfalso; omega) | (exact ok _ _ _ ((tsH_28a c1 (by dsimp only; omega) c363).trans (onw_p (by dsimp only; exact ⟨by omega, le0 y333.2.2 rfl, by omega⟩))) (flw1 (by rw [c1]; decide)) (by repeat' (first | assumption | exact FW.rf | refine FW.up ?_ (by unfold wS; omega) | (refine FW.tr ?_ (by assumption)))) (by (try simp (disch := decide) only [upI_eq, upI_a, upI_i, upR_eq, upR_a, upR_i]); try assumption) (by (try simp (disch := decide) only [upI_eq, upI_a, upI_i, upR_eq, upR_a, upR_i]); try assumption) (by simp (disch := decide) only [scX, upI_eq, upI_a, upI_i, upR_eq, upR_a, upR_i, upI_ro, upI_rw, up1_same, up1_eq, ht, E1, E2, E3, E4, E5, E6, E7])) | (exact ok _ _ _ ((tsH_28b c1 (by dsimp only; omega) c363).trans (onw_p (by dsimp only; exact ⟨by omega, le0 y333.2.2 rfl, by omega⟩))) (flw1 (by rw [c1]; decide)) (by repeat' (first | assumption | exact FW.rf | refine FW.up ?_ (by unfold wS; omega) | (refine FW.tr ?_ (by assumption)))) (by (try simp (disch := decide) only [upI_eq, upI_a, upI_i, upR_eq, upR_a, upR_i]); try assumption) (by (try simp (disch := decide) only [upI_eq, upI_a, upI_i, upR_eq, upR_a, upR_i]); try assumption) (by simp (disch := decide) only [scX, upI_eq, upI_a, upI_i, upR_eq, upR_a, upR_i, upI_ro, upI_rw, up1_same, up1_eq, ht, E1, E2, E3, E4, E5, E6, E7])) | (exact st _ ((tsH_28s c1 (by dsimp only; omega)).trans (onw_p (by dsimp only; exact ⟨by omega, le0 y333.2.2 rfl, by omega⟩))) (by repeat' (first | assumption | exact FW.rf | refine FW.up ?_ (by unfold wS; omega) | (refine FW.tr ?_ (by assumption)))) (by (try simp (disch := decide) only [upI_eq, upI_a, upI_i, upR_eq, upR_a, upR_i]); try assumption) (by (try simp (disch := decide) only [upI_eq, upI_a, upI_i, upR_eq, upR_a, upR_i]); try assumption)) | (exact no _ ((tsH_28 c1).trans (onw_n (by intro h; dsimp only at h; omega))) (by repeat' (first | assumption | exact FW.rf | refine FW.up ?_ (by unfold wS; omega) | (refine FW.tr ?_ (by assumption)))) (by (try simp (disch := decide) only [upI_eq, upI_a, upI_i, upR_eq, upR_a, upR_i]); try assumption))
              · first
                | (exfalso; omega)
                | skip
                  refine s255_370.mpr (s255_371.mpr (s255_373.mpr ?_))
                  refine (s255_375 (by omega)).mpr ?_
                  refine (m_which (vT_rng (hv75 _ (by omega) (by omega)))).mpr ?_
                  refine s255_378.mpr (s255_379.mpr ?_)
                  try simp (disch := first | decide | assumption | omega) only [kon, knt_some, knt_none, Option.toList_some, Option.toList_none, List.cons_append, List.nil_append, upI_eq, upI_a, upI_i, upR_eq, upR_a, upR_i, h36, ht, E1, E2, E3, E4, E5, E6, E7, fAdd_id, fSub_id, fMul_id]
                  refine (s255_380 (by omega) kM).mpr ?_
                  refine m_push hA hR (by (try simp (disch := decide) only [upI_eq, upI_a, upI_i, upR_eq, upR_a, upR_i]); first | assumption | rfl) (by omega) ?_
                  refine s255_383.mpr ?_
                  refine (s255_583).mpr ?_
                  first | (exfalso; omega) | (exact ok _ _ _ ((tsH_28a c1 (by dsimp only; omega) c363).trans (onw_p (by dsimp only; exact ⟨by omega, le0 y333.2.2 rfl, by omega⟩))) (flw1 (by rw [c1]; decide)) (by repeat' (first | assumption | exact FW.rf | refine FW.up ?_ (by unfold wS; omega) | (refine FW.tr ?_ (by assumption)))) (by (try simp (disch := decide) only [upI_eq, upI_a, upI_i, upR_eq, upR_a, upR_i]); try assumption) (by (try simp (disch := decide) only [upI_eq, upI_a, upI_i, upR_eq, upR_a, upR_i]); try assumption) (by simp (disch := decide) only [scX, upI_eq, upI_a, upI_i, upR_eq, upR_a, upR_i, upI_ro, upI_rw, up1_same, up1_eq, ht, E1, E2, E3, E4, E5, E6, E7])) | (exact ok _ _ _ ((tsH_28b c1 (by dsimp only; omega) c363).trans (onw_p (by dsimp only; exact ⟨by omega, le0 y333.2.2 rfl, by omega⟩))) (flw1 (by rw [c1]; decide)) (by repeat' (first | assumption | exact FW.rf | refine FW.up ?_ (by unfold wS; omega) | (refine FW.tr ?_ (by assumption)))) (by (try simp (disch := decide) only [upI_eq, upI_a, upI_i, upR_eq, upR_a, upR_i]); try assumption) (by (try simp (disch := decide) only [upI_eq, upI_a, upI_i, upR_eq, upR_a, upR_i]); try assumption) (by simp (disch := decide) only [scX, upI_eq, upI_a, upI_i, upR_eq, upR_a, upR_i, upI_ro, upI_rw, up1_same, up1_eq, ht, E1, E2, E3, E4, E5, E6, E7])) | (exact st _ ((tsH_28s c1 (by dsimp only; omega)).trans (onw_p (by dsimp only; exact ⟨by omega, le0 y333.2.2 rfl, by omega⟩))) (by repeat' (first | assumption | exact FW.rf | refine FW.up ?_ (by unfold wS; omega) | (refine FW.tr ?_ (by assumption)))) (by (try simp (disch := decide) only [upI_eq, upI_a, upI_i, upR_eq, upR_a, upR_i]); try assumption) (by (try simp (disch := decide) only [upI_eq, upI_a, upI_i, upR_eq, upR_a, upR_i]); try assumption)) | (exact no _ ((tsH_28 c1).trans (onw_n (by intro h; dsimp only at h; omega))) (by repeat' (first | assumption | exact FW.rf | refine FW.up ?_ (by unfold wS; omega) | (refine FW.tr ?_ (by assumption)))) (by (try simp (disch := decide) only [upI_eq, upI_a, upI_i, upR_eq, upR_a, upR_i]); try assumption))
          · first
            | (exfalso; omega)
            | skip
              refine (s255_583).mpr ?_
              first | (exfalso; omega) | (exact ok _ _ _ ((tsH_28a c1 (by dsimp only; omega) c363).trans (onw_p (by dsimp only; exact ⟨by omega, le0 y333.2.2 rfl, by omega⟩))) (flw1 (by rw [c1]; decide)) (by repeat' (first | assumption | exact FW.rf | refine FW.up ?_ (by unfold wS; omega) | (refine FW.tr ?_ (by assumption)))) (by (try simp (disch := decide) only [upI_eq, upI_a, upI_i, upR_eq, upR_a, upR_i]); try assumption) (by (try simp (disch := decide) only [upI_eq, upI_a, upI_i, upR_eq, upR_a, upR_i]); try assumption) (by simp (disch := decide) only [scX, upI_eq, upI_a, upI_i, upR_eq, upR_a, upR_i, upI_ro, upI_rw, up1_same, up1_eq, ht, E1, E2, E3, E4, E5, E6, E7])) | (exact ok _ _ _ ((tsH_28b c1 (by dsimp only; omega) c363).trans (onw_p (by dsimp only; exact ⟨by omega, le0 y333.2.2 rfl, by omega⟩))) (flw1 (by rw [c1]; decide)) (by repeat' (first | assumption | exact FW.rf | refine FW.up ?_ (by unfold wS; omega) | (refine FW.tr ?_ (by assumption)))) (by (try simp (disch := decide) only [upI_eq, upI_a, upI_i, upR_eq, upR_a, upR_i]); try assumption) (by (try simp (disch := decide) only [upI_eq, upI_a, upI_i, upR_eq, upR_a, upR_i]); try assumption) (by simp (disch := decide) only [scX, upI_eq, upI_a, upI_i, upR_eq, upR_a, upR_i, upI_ro, upI_rw, up1_same, up1_eq, ht, E1, E2, E3, E4, E5, E6, E7])) | (exact st _ ((tsH_28s c1 (by dsimp only; omega)).trans (onw_p (by dsimp only; exact ⟨by omega, le0 y333.2.2 rfl, by omega⟩))) (by repeat' (first | assumption | exact FW.rf | refine FW.up ?_ (by unfold wS; omega) | (refine FW.tr ?_ (by assumption)))) (by (try simp (disch := decide) only [upI_eq, upI_a, upI_i, upR_eq, upR_a, upR_i]); try assumption) (by (try simp (disch := decide) only [upI_eq, upI_a, upI_i, upR_eq, upR_a, upR_i]); try assumption)) | (exact no _ ((tsH_28 c1).trans (onw_n (by intro h; dsimp only at h; omega))) (by repeat' (first | assumption | exact FW.rf | refine FW.up ?_ (by unfold wS; omega) | (refine FW.tr ?_ (by assumption)))) (by (try simp (disch := decide) only [upI_eq, upI_a, upI_i, upR_eq, upR_a, upR_i]); try assumption))
    · skip
      try simp (disch := decide) only [upI_eq, upI_a, upI_i, upR_eq, upR_a, upR_i, E1, E4] at y337
      try simp (disch := decide) only [upI_eq, upI_a, upI_i, upR_eq, upR_a, upR_i, E1, E4] at x337
      refine s255_340.mpr (s255_342.mpr ?_)
      refine (s255_343 kM).mpr ?_
      try simp (disch := first | decide | assumption | omega) only [kon, knt_some, knt_none, Option.toList_some, Option.toList_none, List.cons_append, List.nil_append, upI_eq, upI_a, upI_i, upR_eq, upR_a, upR_i, h36, ht, E1, E2, E3, E4, E5, E6, E7, fAdd_id, fSub_id, fMul_id]
      refine s255_346.mpr (wif (fun c346 => ?_) (fun c346 => ?_))
      · first
        | (exfalso; omega)
        | skip
          refine (s255_583).mpr ?_
          first | (exfalso; omega) | (exact ok _ _ _ ((tsH_28a c1 (by dsimp only; omega) c363).trans (onw_p (by dsimp only; exact ⟨by omega, le0 y333.2.2 rfl, by omega⟩))) (flw1 (by rw [c1]; decide)) (by repeat' (first | assumption | exact FW.rf | refine FW.up ?_ (by unfold wS; omega) | (refine FW.tr ?_ (by assumption)))) (by (try simp (disch := decide) only [upI_eq, upI_a, upI_i, upR_eq, upR_a, upR_i]); try assumption) (by (try simp (disch := decide) only [upI_eq, upI_a, upI_i, upR_eq, upR_a, upR_i]); try assumption) (by simp (disch := decide) only [scX, upI_eq, upI_a, upI_i, upR_eq, upR_a, upR_i, upI_ro, upI_rw, up1_same, up1_eq, ht, E1, E2, E3, E4, E5, E6, E7])) | (exact ok _ _ _ ((tsH_28b c1 (by dsimp only; omega) c363).trans (onw_p (by dsimp only; exact ⟨by omega, le0 y333.2.2 rfl, by omega⟩))) (flw1 (by rw [c1]; decide)) (by repeat' (first | assumption | exact FW.rf | refine FW.up ?_ (by unfold wS; omega) | (refine FW.tr ?_ (by assumption)))) (by (try simp (disch := decide) only [upI_eq, upI_a, upI_i, upR_eq, upR_a, upR_i]); try assumption) (by (try simp (disch := decide) only [upI_eq, upI_a, upI_i, upR_eq, upR_a, upR_i]); try assumption) (by simp (disch := decide) only [scX, upI_eq, upI_a, upI_i, upR_eq, upR_a, upR_i, upI_ro, upI_rw, up1_same, up1_eq, ht, E1, E2, E3, E4, E5, E6, E7])) | (exact st _ ((tsH_28s c1 (by dsimp only; omega)).trans (onw_p (by dsimp only; exact ⟨by omega, le0 y333.2.2 rfl, by omega⟩))) (by repeat' (first | assumption | exact FW.rf | refine FW.up ?_ (by unfold wS; omega) | (refine FW.tr ?_ (by assumption)))) (by (try simp (disch := decide) only [upI_eq, upI_a, upI_i, upR_eq, upR_a, upR_i]); try assumption) (by (try simp (disch := decide) only [upI_eq, upI_a, upI_i, upR_eq, upR_a, upR_i]); try assumption)) | (exact no _ ((tsH_28 c1).trans (onw_n (by intro h; dsimp only at h; omega))) (by repeat' (first | assumption | exact FW.rf | refine FW.up ?_ (by unfold wS; omega) | (refine FW.tr ?_ (by assumption)))) (by (try simp (disch := decide) only [upI_eq, upI_a, upI_i, upR_eq, upR_a, upR_i]); try assumption))
      · first
        | (exfalso; omega)
        | skip
          refine s255_349.mpr ?_
          refine (s255_350 kM).mpr ?_
          try simp (disch := first | decide | assumption | omega) only [kon, knt_some, knt_none, Option.toList_some, Option.toList_none, List.cons_append, List.nil_append, upI_eq, upI_a, upI_i, upR_eq, upR_a, upR_i, h36, ht, E1, E2, E3, E4, E5, E6, E7, fAdd_id, fSub_id, fMul_id]
          refine s255_353.mpr (wif (fun c353 => ?_) (fun c353 => ?_))
          · first
            | (exfalso; omega)
            | skip
              refine s255_356.mpr (s255_357.mpr ?_)
              refine (s255_359 (by omega)).mpr ?_
              refine m_kind.mpr ?_
              refine s255_362.mpr ?_
              refine s255_363.mpr (wif (fun c363 => ?_) (fun c363 => ?_))
              · first
                | (exfalso; omega)
                | skip
                  refine s255_366.mpr (s255_367.mpr ?_)
                  refine (s255_380 (by omega) kM).mpr ?_
                  refine m_push hA hR (by (try simp (disch := decide) only [upI_eq, upI_a, upI_i, upR_eq, upR_a, upR_i]); first | assumption | rfl) (by omega) ?_
                  refine s255_383.mpr ?_
                  refine (s255_583).mpr ?_
                  first | (exfalso; omega) | (exact ok _ _ _ ((tsH_28a c1 (by dsimp only; omega) c363).trans (onw_p (by dsimp only; exact ⟨by omega, le0 y333.2.2 rfl, by omega⟩))) (flw1 (by rw [c1]; decide)) (by repeat' (first | assumption | exact FW.rf | refine FW.up ?_ (by unfold wS; omega) | (refine FW.tr ?_ (by assumption)))) (by (try simp (disch := decide) only [upI_eq, upI_a, upI_i, upR_eq, upR_a, upR_i]); try assumption) (by (try simp (disch := decide) only [upI_eq, upI_a, upI_i, upR_eq, upR_a, upR_i]); try assumption) (by simp (disch := decide) only [scX, upI_eq, upI_a, upI_i, upR_eq, upR_a, upR_i, upI_ro, upI_rw, up1_same, up1_eq, ht, E1, E2, E3, E4, E5, E6, E7])) | (exact ok _ _ _ ((tsH_28b c1 (by dsimp only; omega) c363).trans (onw_p (by dsimp only; exact ⟨by omega, le0 y333.2.2 rfl, by omega⟩))) (flw1 (by rw [c1]; decide)) (by repeat' (first | assumption | exact FW.rf | refine FW.up ?_ (by unfold wS; omega) | (refine FW.tr ?_ (by assumption)))) (by (try simp (disch := decide) only [upI_eq, upI_a, upI_i, upR_eq, upR_a, upR_i]); try assumption) (by (try simp (disch := decide) only [upI_eq, upI_a, upI_i, upR_eq, upR_a, upR_i]); try assumption) (by simp (disch := decide) only [scX, upI_eq, upI_a, upI_i, upR_eq, upR_a, upR_i, upI_ro, upI_rw, up1_same, up1_eq, ht, E1, E2, E3, E4, E5, E6, E7])) | (exact st _ ((tsH_28s c1 (by dsimp only; omega)).trans (onw_p (by dsimp only; exact ⟨by omega, le0 y333.2.2 rfl, by omega⟩))) (by repeat' (first | assumption | exact FW.rf | refine FW.up ?_ (by unfold wS; omega) | (refine FW.tr ?_ (by assumption)))) (by (try simp (disch := decide) only [upI_eq, upI_a, upI_i, upR_eq, upR_a, upR_i]); try assumption) (by (try simp (disch := decide) only [upI_eq, upI_a, upI_i, upR_eq, upR_a, upR_i]); try assumption)) | (exact no _ ((tsH_28 c1).trans (onw_n (by intro h; dsimp only at h; omega))) (by repeat' (first | assumption | exact FW.rf | refine FW.up ?_ (by unfold wS; omega) | (refine FW.tr ?_ (by assumption)))) (by (try simp (disch := decide) only [upI_eq, upI_a, upI_i, upR_eq, upR_a, upR_i]); try assumption))
              · first
                | (exfalso; omega)
                | skip
                  refine s255_370.mpr (s255_371.mpr (s255_373.mpr ?_))
                  refine (s255_375 (by omega)).mpr ?_
                  refine (m_which (vT_rng (hv75 _ (by omega) (by omega)))).mpr ?_
                  refine s255_378.mpr (s255_379.mpr ?_)
                  try simp (disch := first | decide | assumption | omega) only [kon, knt_some, knt_none, Option.toList_some, Option.toList_none, List.cons_append, List.nil_append, upI_eq, upI_a, upI_i, upR_eq, upR_a, upR_i, h36, ht, E1, E2, E3, E4, E5, E6, E7, fAdd_id, fSub_id, fMul_id]
                  refine (s255_380 (by omega) kM).mpr ?_
                  refine m_push hA hR (by (try simp (disch := decide) only [upI_eq, upI_a, upI_i, upR_eq, upR_a, upR_i]); first | assumption | rfl) (by omega) ?_
                  refine s255_383.mpr ?_
                  refine (s255_583).mpr ?_
                  first | (exfalso; omega) | (exact ok _ _ _ ((tsH_28a c1 (by dsimp only; omega) c363).trans (onw_p (by dsimp only; exact ⟨by omega, le0 y333.2.2 rfl, by omega⟩))) (flw1 (by rw [c1]; decide)) (by repeat' (first | assumption | exact FW.rf | refine FW.up ?_ (by unfold wS; omega) | (refine FW.tr ?_ (by assumption)))) (by (try simp (disch := decide) only [upI_eq, upI_a, upI_i, upR_eq, upR_a, upR_i]); try assumption) (by (try simp (disch := decide) only [upI_eq, upI_a, upI_i, upR_eq, upR_a, upR_i]); try assumption) (by simp (disch := decide) only [scX, upI_eq, upI_a, upI_i, upR_eq, upR_a, upR_i, upI_ro, upI_rw, up1_same, up1_eq, ht, E1, E2, E3, E4, E5, E6, E7])) | (exact ok _ _ _ ((tsH_28b c1 (by dsimp only; omega) c363).trans (onw_p (by dsimp only; exact ⟨by omega, le0 y333.2.2 rfl, by omega⟩))) (flw1 (by rw [c1]; decide)) (by repeat' (first | assumption | exact FW.rf | refine FW.up ?_ (by unfold wS; omega) | (refine FW.tr ?_ (by assumption)))) (by (try simp (disch := decide) only [upI_eq, upI_a, upI_i, upR_eq, upR_a, upR_i]); try assumption) (by (try simp (disch := decide) only [upI_eq, upI_a, upI_i, upR_eq, upR_a, upR_i]); try assumption) (by simp (disch := decide) only [scX, upI_eq, upI_a, upI_i, upR_eq, upR_a, upR_i, upI_ro, upI_rw, up1_same, up1_eq, ht, E1, E2, E3, E4, E5, E6, E7])) | (exact st _ ((tsH_28s c1 (by dsimp only; omega)).trans (onw_p (by dsimp only; exact ⟨by omega, le0 y333.2.2 rfl, by omega⟩))) (by repeat' (first | assumption | exact FW.rf | refine FW.up ?_ (by unfold wS; omega) | (refine FW.tr ?_ (by assumption)))) (by (try simp (disch := decide) only [upI_eq, upI_a, upI_i, upR_eq, upR_a, upR_i]); try assumption) (by (try simp (disch := decide) only [upI_eq, upI_a, upI_i, upR_eq, upR_a, upR_i]); try assumption)) | (exact no _ ((tsH_28 c1).trans (onw_n (by intro h; dsimp only at h; omega))) (by repeat' (first | assumption | exact FW.rf | refine FW.up ?_ (by unfold wS; omega) | (refine FW.tr ?_ (by assumption)))) (by (try simp (disch := decide) only [upI_eq, upI_a, upI_i, upR_eq, upR_a, upR_i]); try assumption))
          · first
            | (exfalso; omega)
            | skip
              refine (s255_583).mpr ?_
              first | (exfalso; omega) | (exact ok _ _ _ ((tsH_28a c1 (by dsimp only; omega) c363).trans (onw_p (by dsimp only; exact ⟨by omega, le0 y333.2.2 rfl, by omega⟩))) (flw1 (by rw [c1]; decide)) (by repeat' (first | assumption | exact FW.rf | refine FW.up ?_ (by unfold wS; omega) | (refine FW.tr ?_ (by assumption)))) (by (try simp (disch := decide) only [upI_eq, upI_a, upI_i, upR_eq, upR_a, upR_i]); try assumption) (by (try simp (disch := decide) only [upI_eq, upI_a, upI_i, upR_eq, upR_a, upR_i]); try assumption) (by simp (disch := decide) only [scX, upI_eq, upI_a, upI_i, upR_eq, upR_a, upR_i, upI_ro, upI_rw, up1_same, up1_eq, ht, E1, E2, E3, E4, E5, E6, E7])) | (exact ok _ _ _ ((tsH_28b c1 (by dsimp only; omega) c363).trans (onw_p (by dsimp only; exact ⟨by omega, le0 y333.2.2 rfl, by omega⟩))) (flw1 (by rw [c1]; decide)) (by repeat' (first | assumption | exact FW.rf | refine FW.up ?_ (by unfold wS; omega) | (refine FW.tr ?_ (by assumption)))) (by (try simp (disch := decide) only [upI_eq, upI_a, upI_i, upR_eq, upR_a, upR_i]); try assumption) (by (try simp (disch := decide) only [upI_eq, upI_a, upI_i, upR_eq, upR_a, upR_i]); try assumption) (by simp (disch := decide) only [scX, upI_eq, upI_a, upI_i, upR_eq, upR_a, upR_i, upI_ro, upI_rw, up1_same, up1_eq, ht, E1, E2, E3, E4, E5, E6, E7])) | (exact st _ ((tsH_28s c1 (by dsimp only; omega)).trans (onw_p (by dsimp only; exact ⟨by omega, le0 y333.2.2 rfl, by omega⟩))) (by repeat' (first | assumption | exact FW.rf | refine FW.up ?_ (by unfold wS; omega) | (refine FW.tr ?_ (by assumption)))) (by (try simp (disch := decide) only [upI_eq, upI_a, upI_i, upR_eq, upR_a, upR_i]); try assumption) (by (try simp (disch := decide) only [upI_eq, upI_a, upI_i, upR_eq, upR_a, upR_i]); try assumption)) | (exact no _ ((tsH_28 c1).trans (onw_n (by intro h; dsimp only at h; omega))) (by repeat' (first | assumption | exact FW.rf | refine FW.up ?_ (by unfold wS; omega) | (refine FW.tr ?_ (by assumption)))) (by (try simp (disch := decide) only [upI_eq, upI_a, upI_i, upR_eq, upR_a, upR_i]); try assumption))
theorem m_h29 {m g op v p t : Int} (hA : SA al) (hR : MR hr) (hd : 4 ≤ d) (hM : MB hi m B) (hS : Sh B) (hg : 0 ≤ g ∧ g < nFn B) (h36 : hi 49 36 = 1) (h38 : hi 49 38 = 0) (ht : hi 49 35 = t) (ht0 : 0 ≤ t ∧ t ≤ 16) (hvX : vX B (t, hi 75, hi 76)) (c1 : op = 29)
    (ok : ∀ L Y hi', tsH B g op v p (t, hi 75, hi 76) = some L → FLW op v p Y L → FW wS hi hi' → hi' 49 36 = 1 → hi' 49 38 = 0 → scX hi' = Y → Q (some none) al hi' hr)
    (st : ∀ hi', tsH B g op v p (t, hi 75, hi 76) = some [] → FW wS hi hi' → hi' 49 36 = 1 → hi' 49 38 = 1 → Q (some none) al hi' hr)
    (no : ∀ hi', tsH B g op v p (t, hi 75, hi 76) = none → FW wS hi hi' → hi' 49 36 = 0 → Q (some none) al hi' hr) : Wp d 255 386 [vR (some 49), vI m, vI (10 * m + g), vI op, vI v, none, none, none, none] [] al hi hr Q := by
  have kM : isK al 49 13 := hA.k (by decide) (by decide) rfl
  have E1 : t - 1 - 1 = t - 2 := by omega
  have E2 : t - 2 + 1 = t - 1 := by omega
  have E3 : t - 1 + 1 = t := by omega
  have E4 : t - 2 - 1 = t - 3 := by omega
  have E5 : t - 3 + 1 = t - 2 := by omega
  have E6 : t + 1 + 1 = t + 2 := by omega
  have E7 : t + 1 - 1 = t := by omega
  have hv75 : ∀ k, 0 ≤ k → k < t → vT B (hi 75 k) := hvX.2.1
  have W1 := wh_b (hi 75 (t - 3))
  have K6 := k6d (hi 75 (t - 3))
  refine s255_386.mpr ?_
  refine (s255_387 (by omega) kM).mpr ?_
  refine m_pop hA hR (by omega) (by (try simp (disch := decide) only [upI_eq, upI_a, upI_i, upR_eq, upR_a, upR_i]); first | assumption | rfl) (by omega) (by (try simp (disch := decide) only [upI_eq, upI_a, upI_i, upR_eq, upR_a, upR_i]); first | assumption | rfl) (by omega) (fun y387 => ?_) (fun v387 hi387 w387 z387 u387 x387 => ?_)
  · skip
    refine s255_390.mpr (s255_392.mpr (s255_393.mpr ?_))
    refine (s255_394 (by omega) kM).mpr ?_
    refine m_popFor hA hR (by omega) (by (try simp (disch := decide) only [upI_eq, upI_a, upI_i, upR_eq, upR_a, upR_i]); first | assumption | rfl) (by omega) (by (try simp (disch := decide) only [upI_eq, upI_a, upI_i, upR_eq, upR_a, upR_i]); first | assumption | rfl) (by omega) (fun y394 => ?_) (fun hi394 t394 w394 z394 u394 v394 x394 => ?_)
    · skip
      try simp (disch := decide) only [upI_eq, upI_a, upI_i, upR_eq, upR_a, upR_i, E1, E4] at y394
      try simp (disch := decide) only [upI_eq, upI_a, upI_i, upR_eq, upR_a, upR_i, E1, E4] at x394
      refine s255_397.mpr ?_
      refine (s255_398 (by omega) kM).mpr ?_
      refine m_popRow hA hR (by omega) (by (try simp (disch := decide) only [upI_eq, upI_a, upI_i, upR_eq, upR_a, upR_i]); first | assumption | rfl) (by omega) (by (try simp (disch := decide) only [upI_eq, upI_a, upI_i, upR_eq, upR_a, upR_i]); first | assumption | rfl) (by omega) (fun y398 => ?_) (fun y398 => ?_) (fun q398 hi398 t398 w398 z398 s398 u398 v398 x398 => ?_)
      · skip
        try simp (disch := decide) only [upI_eq, upI_a, upI_i, upR_eq, upR_a, upR_i, E1, E4] at y398
        try simp (disch := decide) only [upI_eq, upI_a, upI_i, upR_eq, upR_a, upR_i, E1, E4] at x398
        refine s255_401.mpr (s255_403.mpr ?_)
        refine (s255_404 kM).mpr ?_
        try simp (disch := first | decide | assumption | omega) only [kon, knt_some, knt_none, Option.toList_some, Option.toList_none, List.cons_append, List.nil_append, upI_eq, upI_a, upI_i, upR_eq, upR_a, upR_i, h36, ht, E1, E2, E3, E4, E5, E6, E7, fAdd_id, fSub_id, fMul_id]
        refine s255_407.mpr (wif (fun c407 => ?_) (fun c407 => ?_))
        · first
          | (exfalso; omega)
          | skip
            refine (s255_583).mpr ?_
            first | (exfalso; omega) | (exact ok _ _ _ ((tsH_29n c1 (by dsimp only; intro h6; rw [h6] at y398; exact absurd y398.2.2 (by decide))).trans (onw_p (by dsimp only; exact ⟨by omega, le0 y394.2.2 rfl, Or.inr ⟨by omega, by unfold itm; first | (rw [if_pos c426]; exact y443.2) | (rw [if_neg c426]; exact y443.2)⟩⟩))) (flw1 (by rw [c1]; decide)) (by repeat' (first | assumption | exact FW.rf | refine FW.up ?_ (by unfold wS; omega) | (refine FW.tr ?_ (by assumption)))) (by (try simp (disch := decide) only [upI_eq, upI_a, upI_i, upR_eq, upR_a, upR_i]); try assumption) (by (try simp (disch := decide) only [upI_eq, upI_a, upI_i, upR_eq, upR_a, upR_i]); try assumption) (by simp (disch := decide) only [scX, upI_eq, upI_a, upI_i, upR_eq, upR_a, upR_i, upI_ro, upI_rw, up1_same, up1_eq, ht, E1, E2, E3, E4, E5, E6, E7])) | (exact st _ ((tsH_29s c1 (by dsimp only; omega)).trans (onw_p (by dsimp only; exact ⟨by omega, le0 y394.2.2 rfl, by omega⟩))) (by repeat' (first | assumption | exact FW.rf | refine FW.up ?_ (by unfold wS; omega) | (refine FW.tr ?_ (by assumption)))) (by (try simp (disch := decide) only [upI_eq, upI_a, upI_i, upR_eq, upR_a, upR_i]); try assumption) (by (try simp (disch := decide) only [upI_eq, upI_a, upI_i, upR_eq, upR_a, upR_i]); try assumption)) | (exact no _ ((tsH_29 c1).trans (onw_n (by intro h; dsimp only [itm] at h; first | omega | (rw [if_pos c426] at h; omega) | (rw [if_neg c426] at h; omega)))) (by repeat' (first | assumption | exact FW.rf | refine FW.up ?_ (by unfold wS; omega) | (refine FW.tr ?_ (by assumption)))) (by (try simp (disch := decide) only [upI_eq, upI_a, upI_i, upR_eq, upR_a, upR_i]); try assumption))
        · first
          | (exfalso; omega)
          | skip
            refine s255_410.mpr ?_
            refine (s255_411 kM).mpr ?_
            try simp (disch := first | decide | assumption | omega) only [kon, knt_some, knt_none, Option.toList_some, Option.toList_none, List.cons_append, List.nil_append, upI_eq, upI_a, upI_i, upR_eq, upR_a, upR_i, h36, ht, E1, E2, E3, E4, E5, E6, E7, fAdd_id, fSub_id, fMul_id]
            refine s255_414.mpr (wif (fun c414 => ?_) (fun c414 => ?_))
            · first
              | (exfalso; omega)
              | skip
                refine s255_417.mpr (s255_418.mpr (s255_420.mpr ?_))
                refine (s255_422 (by omega)).mpr ?_
                refine m_kind.mpr ?_
                refine s255_425.mpr ?_
                refine s255_426.mpr (wif (fun c426 => ?_) (fun c426 => ?_))
                · first
                  | (exfalso; omega)
                  | skip
                    refine s255_429.mpr (s255_430.mpr ?_)
                    refine (s255_443 (by omega) kM).mpr ?_
                    refine m_fits hA hR (by omega) (by (try simp (disch := decide) only [upI_eq, upI_a, upI_i, upR_eq, upR_a, upR_i]); first | assumption | rfl) (by omega) (fun y443 => ?_) (fun y443 => ?_)
                    · skip
                      refine s255_446.mpr ?_
                      refine (s255_583).mpr ?_
                      first | (exfalso; omega) | (exact ok _ _ _ ((tsH_29n c1 (by dsimp only; intro h6; rw [h6] at y398; exact absurd y398.2.2 (by decide))).trans (onw_p (by dsimp only; exact ⟨by omega, le0 y394.2.2 rfl, Or.inr ⟨by omega, by unfold itm; first | (rw [if_pos c426]; exact y443.2) | (rw [if_neg c426]; exact y443.2)⟩⟩))) (flw1 (by rw [c1]; decide)) (by repeat' (first | assumption | exact FW.rf | refine FW.up ?_ (by unfold wS; omega) | (refine FW.tr ?_ (by assumption)))) (by (try simp (disch := decide) only [upI_eq, upI_a, upI_i, upR_eq, upR_a, upR_i]); try assumption) (by (try simp (disch := decide) only [upI_eq, upI_a, upI_i, upR_eq, upR_a, upR_i]); try assumption) (by simp (disch := decide) only [scX, upI_eq, upI_a, upI_i, upR_eq, upR_a, upR_i, upI_ro, upI_rw, up1_same, up1_eq, ht, E1, E2, E3, E4, E5, E6, E7])) | (exact st _ ((tsH_29s c1 (by dsimp only; omega)).trans (onw_p (by dsimp only; exact ⟨by omega, le0 y394.2.2 rfl, by omega⟩))) (by repeat' (first | assumption | exact FW.rf | refine FW.up ?_ (by unfold wS; omega) | (refine FW.tr ?_ (by assumption)))) (by (try simp (disch := decide) only [upI_eq, upI_a, upI_i, upR_eq, upR_a, upR_i]); try assumption) (by (try simp (disch := decide) only [upI_eq, upI_a, upI_i, upR_eq, upR_a, upR_i]); try assumption)) | (exact no _ ((tsH_29 c1).trans (onw_n (by intro h; dsimp only [itm] at h; first | omega | (rw [if_pos c426] at h; omega) | (rw [if_neg c426] at h; omega)))) (by repeat' (first | assumption | exact FW.rf | refine FW.up ?_ (by unfold wS; omega) | (refine FW.tr ?_ (by assumption)))) (by (try simp (disch := decide) only [upI_eq, upI_a, upI_i, upR_eq, upR_a, upR_i]); try assumption))
                    · skip
                      refine s255_446.mpr ?_
                      refine (s255_583).mpr ?_
                      first | (exfalso; omega) | (exact ok _ _ _ ((tsH_29n c1 (by dsimp only; intro h6; rw [h6] at y398; exact absurd y398.2.2 (by decide))).trans (onw_p (by dsimp only; exact ⟨by omega, le0 y394.2.2 rfl, Or.inr ⟨by omega, by unfold itm; first | (rw [if_pos c426]; exact y443.2) | (rw [if_neg c426]; exact y443.2)⟩⟩))) (flw1 (by rw [c1]; decide)) (by repeat' (first | assumption | exact FW.rf | refine FW.up ?_ (by unfold wS; omega) | (refine FW.tr ?_ (by assumption)))) (by (try simp (disch := decide) only [upI_eq, upI_a, upI_i, upR_eq, upR_a, upR_i]); try assumption) (by (try simp (disch := decide) only [upI_eq, upI_a, upI_i, upR_eq, upR_a, upR_i]); try assumption) (by simp (disch := decide) only [scX, upI_eq, upI_a, upI_i, upR_eq, upR_a, upR_i, upI_ro, upI_rw, up1_same, up1_eq, ht, E1, E2, E3, E4, E5, E6, E7])) | (exact st _ ((tsH_29s c1 (by dsimp only; omega)).trans (onw_p (by dsimp only; exact ⟨by omega, le0 y394.2.2 rfl, by omega⟩))) (by repeat' (first | assumption | exact FW.rf | refine FW.up ?_ (by unfold wS; omega) | (refine FW.tr ?_ (by assumption)))) (by (try simp (disch := decide) only [upI_eq, upI_a, upI_i, upR_eq, upR_a, upR_i]); try assumption) (by (try simp (disch := decide) only [upI_eq, upI_a, upI_i, upR_eq, upR_a, upR_i]); try assumption)) | (exact no _ ((tsH_29 c1).trans (onw_n (by intro h; dsimp only [itm] at h; first | omega | (rw [if_pos c426] at h; omega) | (rw [if_neg c426] at h; omega)))) (by repeat' (first | assumption | exact FW.rf | refine FW.up ?_ (by unfold wS; omega) | (refine FW.tr ?_ (by assumption)))) (by (try simp (disch := decide) only [upI_eq, upI_a, upI_i, upR_eq, upR_a, upR_i]); try assumption))
                · first
                  | (exfalso; omega)
                  | skip
                    refine s255_433.mpr (s255_434.mpr (s255_436.mpr ?_))
                    refine (s255_438 (by omega)).mpr ?_
                    refine (m_which (vT_rng (hv75 _ (by omega) (by omega)))).mpr ?_
                    refine s255_441.mpr (s255_442.mpr ?_)
                    try simp (disch := first | decide | assumption | omega) only [kon, knt_some, knt_none, Option.toList_some, Option.toList_none, List.cons_append, List.nil_append, upI_eq, upI_a, upI_i, upR_eq, upR_a, upR_i, h36, ht, E1, E2, E3, E4, E5, E6, E7, fAdd_id, fSub_id, fMul_id]
                    refine (s255_443 (by omega) kM).mpr ?_
                    refine m_fits hA hR (by omega) (by (try simp (disch := decide) only [upI_eq, upI_a, upI_i, upR_eq, upR_a, upR_i]); first | assumption | rfl) (by omega) (fun y443 => ?_) (fun y443 => ?_)
                    · skip
                      refine s255_446.mpr ?_
                      refine (s255_583).mpr ?_
                      first | (exfalso; omega) | (exact ok _ _ _ ((tsH_29n c1 (by dsimp only; intro h6; rw [h6] at y398; exact absurd y398.2.2 (by decide))).trans (onw_p (by dsimp only; exact ⟨by omega, le0 y394.2.2 rfl, Or.inr ⟨by omega, by unfold itm; first | (rw [if_pos c426]; exact y443.2) | (rw [if_neg c426]; exact y443.2)⟩⟩))) (flw1 (by rw [c1]; decide)) (by repeat' (first | assumption | exact FW.rf | refine FW.up ?_ (by unfold wS; omega) | (refine FW.tr ?_ (by assumption)))) (by (try simp (disch := decide) only [upI_eq, upI_a, upI_i, upR_eq, upR_a, upR_i]); try assumption) (by (try simp (disch := decide) only [upI_eq, upI_a, upI_i, upR_eq, upR_a, upR_i]); try assumption) (by simp (disch := decide) only [scX, upI_eq, upI_a, upI_i, upR_eq, upR_a, upR_i, upI_ro, upI_rw, up1_same, up1_eq, ht, E1, E2, E3, E4, E5, E6, E7])) | (exact st _ ((tsH_29s c1 (by dsimp only; omega)).trans (onw_p (by dsimp only; exact ⟨by omega, le0 y394.2.2 rfl, by omega⟩))) (by repeat' (first | assumption | exact FW.rf | refine FW.up ?_ (by unfold wS; omega) | (refine FW.tr ?_ (by assumption)))) (by (try simp (disch := decide) only [upI_eq, upI_a, upI_i, upR_eq, upR_a, upR_i]); try assumption) (by (try simp (disch := decide) only [upI_eq, upI_a, upI_i, upR_eq, upR_a, upR_i]); try assumption)) | (exact no _ ((tsH_29 c1).trans (onw_n (by intro h; dsimp only [itm] at h; first | omega | (rw [if_pos c426] at h; omega) | (rw [if_neg c426] at h; omega)))) (by repeat' (first | assumption | exact FW.rf | refine FW.up ?_ (by unfold wS; omega) | (refine FW.tr ?_ (by assumption)))) (by (try simp (disch := decide) only [upI_eq, upI_a, upI_i, upR_eq, upR_a, upR_i]); try assumption))
                    · skip
                      refine s255_446.mpr ?_
                      refine (s255_583).mpr ?_
                      first | (exfalso; omega) | (exact ok _ _ _ ((tsH_29n c1 (by dsimp only; intro h6; rw [h6] at y398; exact absurd y398.2.2 (by decide))).trans (onw_p (by dsimp only; exact ⟨by omega, le0 y394.2.2 rfl, Or.inr ⟨by omega, by unfold itm; first | (rw [if_pos c426]; exact y443.2) | (rw [if_neg c426]; exact y443.2)⟩⟩))) (flw1 (by rw [c1]; decide)) (by repeat' (first | assumption | exact FW.rf | refine FW.up ?_ (by unfold wS; omega) | (refine FW.tr ?_ (by assumption)))) (by (try simp (disch := decide) only [upI_eq, upI_a, upI_i, upR_eq, upR_a, upR_i]); try assumption) (by (try simp (disch := decide) only [upI_eq, upI_a, upI_i, upR_eq, upR_a, upR_i]); try assumption) (by simp (disch := decide) only [scX, upI_eq, upI_a, upI_i, upR_eq, upR_a, upR_i, upI_ro, upI_rw, up1_same, up1_eq, ht, E1, E2, E3, E4, E5, E6, E7])) | (exact st _ ((tsH_29s c1 (by dsimp only; omega)).trans (onw_p (by dsimp only; exact ⟨by omega, le0 y394.2.2 rfl, by omega⟩))) (by repeat' (first | assumption | exact FW.rf | refine FW.up ?_ (by unfold wS; omega) | (refine FW.tr ?_ (by assumption)))) (by (try simp (disch := decide) only [upI_eq, upI_a, upI_i, upR_eq, upR_a, upR_i]); try assumption) (by (try simp (disch := decide) only [upI_eq, upI_a, upI_i, upR_eq, upR_a, upR_i]); try assumption)) | (exact no _ ((tsH_29 c1).trans (onw_n (by intro h; dsimp only [itm] at h; first | omega | (rw [if_pos c426] at h; omega) | (rw [if_neg c426] at h; omega)))) (by repeat' (first | assumption | exact FW.rf | refine FW.up ?_ (by unfold wS; omega) | (refine FW.tr ?_ (by assumption)))) (by (try simp (disch := decide) only [upI_eq, upI_a, upI_i, upR_eq, upR_a, upR_i]); try assumption))
            · first
              | (exfalso; omega)
              | skip
                refine (s255_583).mpr ?_
                first | (exfalso; omega) | (exact ok _ _ _ ((tsH_29n c1 (by dsimp only; intro h6; rw [h6] at y398; exact absurd y398.2.2 (by decide))).trans (onw_p (by dsimp only; exact ⟨by omega, le0 y394.2.2 rfl, Or.inr ⟨by omega, by unfold itm; first | (rw [if_pos c426]; exact y443.2) | (rw [if_neg c426]; exact y443.2)⟩⟩))) (flw1 (by rw [c1]; decide)) (by repeat' (first | assumption | exact FW.rf | refine FW.up ?_ (by unfold wS; omega) | (refine FW.tr ?_ (by assumption)))) (by (try simp (disch := decide) only [upI_eq, upI_a, upI_i, upR_eq, upR_a, upR_i]); try assumption) (by (try simp (disch := decide) only [upI_eq, upI_a, upI_i, upR_eq, upR_a, upR_i]); try assumption) (by simp (disch := decide) only [scX, upI_eq, upI_a, upI_i, upR_eq, upR_a, upR_i, upI_ro, upI_rw, up1_same, up1_eq, ht, E1, E2, E3, E4, E5, E6, E7])) | (exact st _ ((tsH_29s c1 (by dsimp only; omega)).trans (onw_p (by dsimp only; exact ⟨by omega, le0 y394.2.2 rfl, by omega⟩))) (by repeat' (first | assumption | exact FW.rf | refine FW.up ?_ (by unfold wS; omega) | (refine FW.tr ?_ (by assumption)))) (by (try simp (disch := decide) only [upI_eq, upI_a, upI_i, upR_eq, upR_a, upR_i]); try assumption) (by (try simp (disch := decide) only [upI_eq, upI_a, upI_i, upR_eq, upR_a, upR_i]); try assumption)) | (exact no _ ((tsH_29 c1).trans (onw_n (by intro h; dsimp only [itm] at h; first | omega | (rw [if_pos c426] at h; omega) | (rw [if_neg c426] at h; omega)))) (by repeat' (first | assumption | exact FW.rf | refine FW.up ?_ (by unfold wS; omega) | (refine FW.tr ?_ (by assumption)))) (by (try simp (disch := decide) only [upI_eq, upI_a, upI_i, upR_eq, upR_a, upR_i]); try assumption))
      · skip
        try simp (disch := decide) only [upI_eq, upI_a, upI_i, upR_eq, upR_a, upR_i, E1, E4] at y398
        try simp (disch := decide) only [upI_eq, upI_a, upI_i, upR_eq, upR_a, upR_i, E1, E4] at x398
        refine s255_401.mpr (s255_403.mpr ?_)
        refine (s255_404 kM).mpr ?_
        try simp (disch := first | decide | assumption | omega) only [kon, knt_some, knt_none, Option.toList_some, Option.toList_none, List.cons_append, List.nil_append, upI_eq, upI_a, upI_i, upR_eq, upR_a, upR_i, h36, ht, E1, E2, E3, E4, E5, E6, E7, fAdd_id, fSub_id, fMul_id]
        refine s255_407.mpr (wif (fun c407 => ?_) (fun c407 => ?_))
        · first
          | (exfalso; omega)
          | skip
            refine (s255_583).mpr ?_
            first | (exfalso; omega) | (exact ok _ _ _ ((tsH_29n c1 (by dsimp only; intro h6; rw [h6] at y398; exact absurd y398.2.2 (by decide))).trans (onw_p (by dsimp only; exact ⟨by omega, le0 y394.2.2 rfl, Or.inr ⟨by omega, by unfold itm; first | (rw [if_pos c426]; exact y443.2) | (rw [if_neg c426]; exact y443.2)⟩⟩))) (flw1 (by rw [c1]; decide)) (by repeat' (first | assumption | exact FW.rf | refine FW.up ?_ (by unfold wS; omega) | (refine FW.tr ?_ (by assumption)))) (by (try simp (disch := decide) only [upI_eq, upI_a, upI_i, upR_eq, upR_a, upR_i]); try assumption) (by (try simp (disch := decide) only [upI_eq, upI_a, upI_i, upR_eq, upR_a, upR_i]); try assumption) (by simp (disch := decide) only [scX, upI_eq, upI_a, upI_i, upR_eq, upR_a, upR_i, upI_ro, upI_rw, up1_same, up1_eq, ht, E1, E2, E3, E4, E5, E6, E7])) | (exact st _ ((tsH_29s c1 (by dsimp only; omega)).trans (onw_p (by dsimp only; exact ⟨by omega, le0 y394.2.2 rfl, by omega⟩))) (by repeat' (first | assumption | exact FW.rf | refine FW.up ?_ (by unfold wS; omega) | (refine FW.tr ?_ (by assumption)))) (by (try simp (disch := decide) only [upI_eq, upI_a, upI_i, upR_eq, upR_a, upR_i]); try assumption) (by (try simp (disch := decide) only [upI_eq, upI_a, upI_i, upR_eq, upR_a, upR_i]); try assumption)) | (exact no _ ((tsH_29 c1).trans (onw_n (by intro h; dsimp only [itm] at h; first | omega | (rw [if_pos c426] at h; omega) | (rw [if_neg c426] at h; omega)))) (by repeat' (first | assumption | exact FW.rf | refine FW.up ?_ (by unfold wS; omega) | (refine FW.tr ?_ (by assumption)))) (by (try simp (disch := decide) only [upI_eq, upI_a, upI_i, upR_eq, upR_a, upR_i]); try assumption))
        · first
          | (exfalso; omega)
          | skip
            refine s255_410.mpr ?_
            refine (s255_411 kM).mpr ?_
            try simp (disch := first | decide | assumption | omega) only [kon, knt_some, knt_none, Option.toList_some, Option.toList_none, List.cons_append, List.nil_append, upI_eq, upI_a, upI_i, upR_eq, upR_a, upR_i, h36, ht, E1, E2, E3, E4, E5, E6, E7, fAdd_id, fSub_id, fMul_id]
            refine s255_414.mpr (wif (fun c414 => ?_) (fun c414 => ?_))
            · first
              | (exfalso; omega)
              | skip
                refine s255_417.mpr (s255_418.mpr (s255_420.mpr ?_))
                refine (s255_422 (by omega)).mpr ?_
                refine m_kind.mpr ?_
                refine s255_425.mpr ?_
                refine s255_426.mpr (wif (fun c426 => ?_) (fun c426 => ?_))
                · first
                  | (exfalso; omega)
                  | skip
                    refine s255_429.mpr (s255_430.mpr ?_)
                    refine (s255_443 (by omega) kM).mpr ?_
                    refine m_fits hA hR (by omega) (by (try simp (disch := decide) only [upI_eq, upI_a, upI_i, upR_eq, upR_a, upR_i]); first | assumption | rfl) (by omega) (fun y443 => ?_) (fun y443 => ?_)
                    · skip
                      refine s255_446.mpr ?_
                      refine (s255_583).mpr ?_
                      first | (exfalso; omega) | (exact ok _ _ _ ((tsH_29n c1 (by dsimp only; intro h6; rw [h6] at y398; exact absurd y398.2.2 (by decide))).trans (onw_p (by dsimp only; exact ⟨by omega, le0 y394.2.2 rfl, Or.inr ⟨by omega, by unfold itm; first | (rw [if_pos c426]; exact y443.2) | (rw [if_neg c426]; exact y443.2)⟩⟩))) (flw1 (by rw [c1]; decide)) (by repeat' (first | assumption | exact FW.rf | refine FW.up ?_ (by unfold wS; omega) | (refine FW.tr ?_ (by assumption)))) (by (try simp (disch := decide) only [upI_eq, upI_a, upI_i, upR_eq, upR_a, upR_i]); try assumption) (by (try simp (disch := decide) only [upI_eq, upI_a, upI_i, upR_eq, upR_a, upR_i]); try assumption) (by simp (disch := decide) only [scX, upI_eq, upI_a, upI_i, upR_eq, upR_a, upR_i, upI_ro, upI_rw, up1_same, up1_eq, ht, E1, E2, E3, E4, E5, E6, E7])) | (exact st _ ((tsH_29s c1 (by dsimp only; omega)).trans (onw_p (by dsimp only; exact ⟨by omega, le0 y394.2.2 rfl, by omega⟩))) (by repeat' (first | assumption | exact FW.rf | refine FW.up ?_ (by unfold wS; omega) | (refine FW.tr ?_ (by assumption)))) (by (try simp (disch := decide) only [upI_eq, upI_a, upI_i, upR_eq, upR_a, upR_i]); try assumption) (by (try simp (disch := decide) only [upI_eq, upI_a, upI_i, upR_eq, upR_a, upR_i]); try assumption)) | (exact no _ ((tsH_29 c1).trans (onw_n (by intro h; dsimp only [itm] at h; first | omega | (rw [if_pos c426] at h; omega) | (rw [if_neg c426] at h; omega)))) (by repeat' (first | assumption | exact FW.rf | refine FW.up ?_ (by unfold wS; omega) | (refine FW.tr ?_ (by assumption)))) (by (try simp (disch := decide) only [upI_eq, upI_a, upI_i, upR_eq, upR_a, upR_i]); try assumption))
                    · skip
                      refine s255_446.mpr ?_
                      refine (s255_583).mpr ?_
                      first | (exfalso; omega) | (exact ok _ _ _ ((tsH_29n c1 (by dsimp only; intro h6; rw [h6] at y398; exact absurd y398.2.2 (by decide))).trans (onw_p (by dsimp only; exact ⟨by omega, le0 y394.2.2 rfl, Or.inr ⟨by omega, by unfold itm; first | (rw [if_pos c426]; exact y443.2) | (rw [if_neg c426]; exact y443.2)⟩⟩))) (flw1 (by rw [c1]; decide)) (by repeat' (first | assumption | exact FW.rf | refine FW.up ?_ (by unfold wS; omega) | (refine FW.tr ?_ (by assumption)))) (by (try simp (disch := decide) only [upI_eq, upI_a, upI_i, upR_eq, upR_a, upR_i]); try assumption) (by (try simp (disch := decide) only [upI_eq, upI_a, upI_i, upR_eq, upR_a, upR_i]); try assumption) (by simp (disch := decide) only [scX, upI_eq, upI_a, upI_i, upR_eq, upR_a, upR_i, upI_ro, upI_rw, up1_same, up1_eq, ht, E1, E2, E3, E4, E5, E6, E7])) | (exact st _ ((tsH_29s c1 (by dsimp only; omega)).trans (onw_p (by dsimp only; exact ⟨by omega, le0 y394.2.2 rfl, by omega⟩))) (by repeat' (first | assumption | exact FW.rf | refine FW.up ?_ (by unfold wS; omega) | (refine FW.tr ?_ (by assumption)))) (by (try simp (disch := decide) only [upI_eq, upI_a, upI_i, upR_eq, upR_a, upR_i]); try assumption) (by (try simp (disch := decide) only [upI_eq, upI_a, upI_i, upR_eq, upR_a, upR_i]); try assumption)) | (exact no _ ((tsH_29 c1).trans (onw_n (by intro h; dsimp only [itm] at h; first | omega | (rw [if_pos c426] at h; omega) | (rw [if_neg c426] at h; omega)))) (by repeat' (first | assumption | exact FW.rf | refine FW.up ?_ (by unfold wS; omega) | (refine FW.tr ?_ (by assumption)))) (by (try simp (disch := decide) only [upI_eq, upI_a, upI_i, upR_eq, upR_a, upR_i]); try assumption))
                · first
                  | (exfalso; omega)
                  | skip
                    refine s255_433.mpr (s255_434.mpr (s255_436.mpr ?_))
                    refine (s255_438 (by omega)).mpr ?_
                    refine (m_which (vT_rng (hv75 _ (by omega) (by omega)))).mpr ?_
                    refine s255_441.mpr (s255_442.mpr ?_)
                    try simp (disch := first | decide | assumption | omega) only [kon, knt_some, knt_none, Option.toList_some, Option.toList_none, List.cons_append, List.nil_append, upI_eq, upI_a, upI_i, upR_eq, upR_a, upR_i, h36, ht, E1, E2, E3, E4, E5, E6, E7, fAdd_id, fSub_id, fMul_id]
                    refine (s255_443 (by omega) kM).mpr ?_
                    refine m_fits hA hR (by omega) (by (try simp (disch := decide) only [upI_eq, upI_a, upI_i, upR_eq, upR_a, upR_i]); first | assumption | rfl) (by omega) (fun y443 => ?_) (fun y443 => ?_)
                    · skip
                      refine s255_446.mpr ?_
                      refine (s255_583).mpr ?_
                      first | (exfalso; omega) | (exact ok _ _ _ ((tsH_29n c1 (by dsimp only; intro h6; rw [h6] at y398; exact absurd y398.2.2 (by decide))).trans (onw_p (by dsimp only; exact ⟨by omega, le0 y394.2.2 rfl, Or.inr ⟨by omega, by unfold itm; first | (rw [if_pos c426]; exact y443.2) | (rw [if_neg c426]; exact y443.2)⟩⟩))) (flw1 (by rw [c1]; decide)) (by repeat' (first | assumption | exact FW.rf | refine FW.up ?_ (by unfold wS; omega) | (refine FW.tr ?_ (by assumption)))) (by (try simp (disch := decide) only [upI_eq, upI_a, upI_i, upR_eq, upR_a, upR_i]); try assumption) (by (try simp (disch := decide) only [upI_eq, upI_a, upI_i, upR_eq, upR_a, upR_i]); try assumption) (by simp (disch := decide) only [scX, upI_eq, upI_a, upI_i, upR_eq, upR_a, upR_i, upI_ro, upI_rw, up1_same, up1_eq, ht, E1, E2, E3, E4, E5, E6, E7])) | (exact st _ ((tsH_29s c1 (by dsimp only; omega)).trans (onw_p (by dsimp only; exact ⟨by omega, le0 y394.2.2 rfl, by omega⟩))) (by repeat' (first | assumption | exact FW.rf | refine FW.up ?_ (by unfold wS; omega) | (refine FW.tr ?_ (by assumption)))) (by (try simp (disch := decide) only [upI_eq, upI_a, upI_i, upR_eq, upR_a, upR_i]); try assumption) (by (try simp (disch := decide) only [upI_eq, upI_a, upI_i, upR_eq, upR_a, upR_i]); try assumption)) | (exact no _ ((tsH_29 c1).trans (onw_n (by intro h; dsimp only [itm] at h; first | omega | (rw [if_pos c426] at h; omega) | (rw [if_neg c426] at h; omega)))) (by repeat' (first | assumption | exact FW.rf | refine FW.up ?_ (by unfold wS; omega) | (refine FW.tr ?_ (by assumption)))) (by (try simp (disch := decide) only [upI_eq, upI_a, upI_i, upR_eq, upR_a, upR_i]); try assumption))
                    · skip
                      refine s255_446.mpr ?_
                      refine (s255_583).mpr ?_
                      first | (exfalso; omega) | (exact ok _ _ _ ((tsH_29n c1 (by dsimp only; intro h6; rw [h6] at y398; exact absurd y398.2.2 (by decide))).trans (onw_p (by dsimp only; exact ⟨by omega, le0 y394.2.2 rfl, Or.inr ⟨by omega, by unfold itm; first | (rw [if_pos c426]; exact y443.2) | (rw [if_neg c426]; exact y443.2)⟩⟩))) (flw1 (by rw [c1]; decide)) (by repeat' (first | assumption | exact FW.rf | refine FW.up ?_ (by unfold wS; omega) | (refine FW.tr ?_ (by assumption)))) (by (try simp (disch := decide) only [upI_eq, upI_a, upI_i, upR_eq, upR_a, upR_i]); try assumption) (by (try simp (disch := decide) only [upI_eq, upI_a, upI_i, upR_eq, upR_a, upR_i]); try assumption) (by simp (disch := decide) only [scX, upI_eq, upI_a, upI_i, upR_eq, upR_a, upR_i, upI_ro, upI_rw, up1_same, up1_eq, ht, E1, E2, E3, E4, E5, E6, E7])) | (exact st _ ((tsH_29s c1 (by dsimp only; omega)).trans (onw_p (by dsimp only; exact ⟨by omega, le0 y394.2.2 rfl, by omega⟩))) (by repeat' (first | assumption | exact FW.rf | refine FW.up ?_ (by unfold wS; omega) | (refine FW.tr ?_ (by assumption)))) (by (try simp (disch := decide) only [upI_eq, upI_a, upI_i, upR_eq, upR_a, upR_i]); try assumption) (by (try simp (disch := decide) only [upI_eq, upI_a, upI_i, upR_eq, upR_a, upR_i]); try assumption)) | (exact no _ ((tsH_29 c1).trans (onw_n (by intro h; dsimp only [itm] at h; first | omega | (rw [if_pos c426] at h; omega) | (rw [if_neg c426] at h; omega)))) (by repeat' (first | assumption | exact FW.rf | refine FW.up ?_ (by unfold wS; omega) | (refine FW.tr ?_ (by assumption)))) (by (try simp (disch := decide) only [upI_eq, upI_a, upI_i, upR_eq, upR_a, upR_i]); try assumption))
            · first
              | (exfalso; omega)
              | skip
                refine (s255_583).mpr ?_
                first | (exfalso; omega) | (exact ok _ _ _ ((tsH_29n c1 (by dsimp only; intro h6; rw [h6] at y398; exact absurd y398.2.2 (by decide))).trans (onw_p (by dsimp only; exact ⟨by omega, le0 y394.2.2 rfl, Or.inr ⟨by omega, by unfold itm; first | (rw [if_pos c426]; exact y443.2) | (rw [if_neg c426]; exact y443.2)⟩⟩))) (flw1 (by rw [c1]; decide)) (by repeat' (first | assumption | exact FW.rf | refine FW.up ?_ (by unfold wS; omega) | (refine FW.tr ?_ (by assumption)))) (by (try simp (disch := decide) only [upI_eq, upI_a, upI_i, upR_eq, upR_a, upR_i]); try assumption) (by (try simp (disch := decide) only [upI_eq, upI_a, upI_i, upR_eq, upR_a, upR_i]); try assumption) (by simp (disch := decide) only [scX, upI_eq, upI_a, upI_i, upR_eq, upR_a, upR_i, upI_ro, upI_rw, up1_same, up1_eq, ht, E1, E2, E3, E4, E5, E6, E7])) | (exact st _ ((tsH_29s c1 (by dsimp only; omega)).trans (onw_p (by dsimp only; exact ⟨by omega, le0 y394.2.2 rfl, by omega⟩))) (by repeat' (first | assumption | exact FW.rf | refine FW.up ?_ (by unfold wS; omega) | (refine FW.tr ?_ (by assumption)))) (by (try simp (disch := decide) only [upI_eq, upI_a, upI_i, upR_eq, upR_a, upR_i]); try assumption) (by (try simp (disch := decide) only [upI_eq, upI_a, upI_i, upR_eq, upR_a, upR_i]); try assumption)) | (exact no _ ((tsH_29 c1).trans (onw_n (by intro h; dsimp only [itm] at h; first | omega | (rw [if_pos c426] at h; omega) | (rw [if_neg c426] at h; omega)))) (by repeat' (first | assumption | exact FW.rf | refine FW.up ?_ (by unfold wS; omega) | (refine FW.tr ?_ (by assumption)))) (by (try simp (disch := decide) only [upI_eq, upI_a, upI_i, upR_eq, upR_a, upR_i]); try assumption))
      · skip
        try simp (disch := decide) only [upI_eq, upI_a, upI_i, upR_eq, upR_a, upR_i, E1, E4] at y398
        try simp (disch := decide) only [upI_eq, upI_a, upI_i, upR_eq, upR_a, upR_i, E1, E4] at x398
        refine s255_401.mpr (s255_403.mpr ?_)
        refine (s255_404 kM).mpr ?_
        try simp (disch := first | decide | assumption | omega) only [kon, knt_some, knt_none, Option.toList_some, Option.toList_none, List.cons_append, List.nil_append, upI_eq, upI_a, upI_i, upR_eq, upR_a, upR_i, h36, ht, E1, E2, E3, E4, E5, E6, E7, fAdd_id, fSub_id, fMul_id]
        refine s255_407.mpr (wif (fun c407 => ?_) (fun c407 => ?_))
        · first
          | (exfalso; omega)
          | skip
            refine (s255_583).mpr ?_
            first | (exfalso; omega) | (exact ok _ _ _ ((tsH_29n c1 (by dsimp only; intro h6; rw [h6] at y398; exact absurd y398.2.2 (by decide))).trans (onw_p (by dsimp only; exact ⟨by omega, le0 y394.2.2 rfl, Or.inr ⟨by omega, by unfold itm; first | (rw [if_pos c426]; exact y443.2) | (rw [if_neg c426]; exact y443.2)⟩⟩))) (flw1 (by rw [c1]; decide)) (by repeat' (first | assumption | exact FW.rf | refine FW.up ?_ (by unfold wS; omega) | (refine FW.tr ?_ (by assumption)))) (by (try simp (disch := decide) only [upI_eq, upI_a, upI_i, upR_eq, upR_a, upR_i]); try assumption) (by (try simp (disch := decide) only [upI_eq, upI_a, upI_i, upR_eq, upR_a, upR_i]); try assumption) (by simp (disch := decide) only [scX, upI_eq, upI_a, upI_i, upR_eq, upR_a, upR_i, upI_ro, upI_rw, up1_same, up1_eq, ht, E1, E2, E3, E4, E5, E6, E7])) | (exact st _ ((tsH_29s c1 (by dsimp only; omega)).trans (onw_p (by dsimp only; exact ⟨by omega, le0 y394.2.2 rfl, by omega⟩))) (by repeat' (first | assumption | exact FW.rf | refine FW.up ?_ (by unfold wS; omega) | (refine FW.tr ?_ (by assumption)))) (by (try simp (disch := decide) only [upI_eq, upI_a, upI_i, upR_eq, upR_a, upR_i]); try assumption) (by (try simp (disch := decide) only [upI_eq, upI_a, upI_i, upR_eq, upR_a, upR_i]); try assumption)) | (exact no _ ((tsH_29 c1).trans (onw_n (by intro h; dsimp only [itm] at h; first | omega | (rw [if_pos c426] at h; omega) | (rw [if_neg c426] at h; omega)))) (by repeat' (first | assumption | exact FW.rf | refine FW.up ?_ (by unfold wS; omega) | (refine FW.tr ?_ (by assumption)))) (by (try simp (disch := decide) only [upI_eq, upI_a, upI_i, upR_eq, upR_a, upR_i]); try assumption))
        · first
          | (exfalso; omega)
          | skip
            refine s255_410.mpr ?_
            refine (s255_411 kM).mpr ?_
            try simp (disch := first | decide | assumption | omega) only [kon, knt_some, knt_none, Option.toList_some, Option.toList_none, List.cons_append, List.nil_append, upI_eq, upI_a, upI_i, upR_eq, upR_a, upR_i, h36, ht, E1, E2, E3, E4, E5, E6, E7, fAdd_id, fSub_id, fMul_id]
            refine s255_414.mpr (wif (fun c414 => ?_) (fun c414 => ?_))
            · first
              | (exfalso; omega)
              | skip
                refine s255_417.mpr (s255_418.mpr (s255_420.mpr ?_))
                refine (s255_422 (by omega)).mpr ?_
                refine m_kind.mpr ?_
                refine s255_425.mpr ?_
                refine s255_426.mpr (wif (fun c426 => ?_) (fun c426 => ?_))
                · first
                  | (exfalso; omega)
                  | skip
                    refine s255_429.mpr (s255_430.mpr ?_)
                    refine (s255_443 (by omega) kM).mpr ?_
                    refine m_fits hA hR (by omega) (by (try simp (disch := decide) only [upI_eq, upI_a, upI_i, upR_eq, upR_a, upR_i]); first | assumption | rfl) (by omega) (fun y443 => ?_) (fun y443 => ?_)
                    · skip
                      refine s255_446.mpr ?_
                      refine (s255_583).mpr ?_
                      first | (exfalso; omega) | (exact ok _ _ _ ((tsH_29n c1 (by dsimp only; intro h6; rw [h6] at y398; exact absurd y398.2.2 (by decide))).trans (onw_p (by dsimp only; exact ⟨by omega, le0 y394.2.2 rfl, Or.inr ⟨by omega, by unfold itm; first | (rw [if_pos c426]; exact y443.2) | (rw [if_neg c426]; exact y443.2)⟩⟩))) (flw1 (by rw [c1]; decide)) (by repeat' (first | assumption | exact FW.rf | refine FW.up ?_ (by unfold wS; omega) | (refine FW.tr ?_ (by assumption)))) (by (try simp (disch := decide) only [upI_eq, upI_a, upI_i, upR_eq, upR_a, upR_i]); try assumption) (by (try simp (disch := decide) only [upI_eq, upI_a, upI_i, upR_eq, upR_a, upR_i]); try assumption) (by simp (disch := decide) only [scX, upI_eq, upI_a, upI_i, upR_eq, upR_a, upR_i, upI_ro, upI_rw, up1_same, up1_eq, ht, E1, E2, E3, E4, E5, E6, E7])) | (exact st _ ((tsH_29s c1 (by dsimp only; omega)).trans (onw_p (by dsimp only; exact ⟨by omega, le0 y394.2.2 rfl, by omega⟩))) (by repeat' (first | assumption | exact FW.rf | refine FW.up ?_ (by unfold wS; omega) | (refine FW.tr ?_ (by assumption)))) (by (try simp (disch := decide) only [upI_eq, upI_a, upI_i, upR_eq, upR_a, upR_i]); try assumption) (by (try simp (disch := decide) only [upI_eq, upI_a, upI_i, upR_eq, upR_a, upR_i]); try assumption)) | (exact no _ ((tsH_29 c1).trans (onw_n (by intro h; dsimp only [itm] at h; first | omega | (rw [if_pos c426] at h; omega) | (rw [if_neg c426] at h; omega)))) (by repeat' (first | assumption | exact FW.rf | refine FW.up ?_ (by unfold wS; omega) | (refine FW.tr ?_ (by assumption)))) (by (try simp (disch := decide) only [upI_eq, upI_a, upI_i, upR_eq, upR_a, upR_i]); try assumption))
                    · skip
                      refine s255_446.mpr ?_
                      refine (s255_583).mpr ?_
                      first | (exfalso; omega) | (exact ok _ _ _ ((tsH_29n c1 (by dsimp only; intro h6; rw [h6] at y398; exact absurd y398.2.2 (by decide))).trans (onw_p (by dsimp only; exact ⟨by omega, le0 y394.2.2 rfl, Or.inr ⟨by omega, by unfold itm; first | (rw [if_pos c426]; exact y443.2) | (rw [if_neg c426]; exact y443.2)⟩⟩))) (flw1 (by rw [c1]; decide)) (by repeat' (first | assumption | exact FW.rf | refine FW.up ?_ (by unfold wS; omega) | (refine FW.tr ?_ (by assumption)))) (by (try simp (disch := decide) only [upI_eq, upI_a, upI_i, upR_eq, upR_a, upR_i]); try assumption) (by (try simp (disch := decide) only [upI_eq, upI_a, upI_i, upR_eq, upR_a, upR_i]); try assumption) (by simp (disch := decide) only [scX, upI_eq, upI_a, upI_i, upR_eq, upR_a, upR_i, upI_ro, upI_rw, up1_same, up1_eq, ht, E1, E2, E3, E4, E5, E6, E7])) | (exact st _ ((tsH_29s c1 (by dsimp only; omega)).trans (onw_p (by dsimp only; exact ⟨by omega, le0 y394.2.2 rfl, by omega⟩))) (by repeat' (first | assumption | exact FW.rf | refine FW.up ?_ (by unfold wS; omega) | (refine FW.tr ?_ (by assumption)))) (by (try simp (disch := decide) only [upI_eq, upI_a, upI_i, upR_eq, upR_a, upR_i]); try assumption) (by (try simp (disch := decide) only [upI_eq, upI_a, upI_i, upR_eq, upR_a, upR_i]); try assumption)) | (exact no _ ((tsH_29 c1).trans (onw_n (by intro h; dsimp only [itm] at h; first | omega | (rw [if_pos c426] at h; omega) | (rw [if_neg c426] at h; omega)))) (by repeat' (first | assumption | exact FW.rf | refine FW.up ?_ (by unfold wS; omega) | (refine FW.tr ?_ (by assumption)))) (by (try simp (disch := decide) only [upI_eq, upI_a, upI_i, upR_eq, upR_a, upR_i]); try assumption))
                · first
                  | (exfalso; omega)
                  | skip
                    refine s255_433.mpr (s255_434.mpr (s255_436.mpr ?_))
                    refine (s255_438 (by omega)).mpr ?_
                    refine (m_which (vT_rng (hv75 _ (by omega) (by omega)))).mpr ?_
                    refine s255_441.mpr (s255_442.mpr ?_)
                    try simp (disch := first | decide | assumption | omega) only [kon, knt_some, knt_none, Option.toList_some, Option.toList_none, List.cons_append, List.nil_append, upI_eq, upI_a, upI_i, upR_eq, upR_a, upR_i, h36, ht, E1, E2, E3, E4, E5, E6, E7, fAdd_id, fSub_id, fMul_id]
                    refine (s255_443 (by omega) kM).mpr ?_
                    refine m_fits hA hR (by omega) (by (try simp (disch := decide) only [upI_eq, upI_a, upI_i, upR_eq, upR_a, upR_i]); first | assumption | rfl) (by omega) (fun y443 => ?_) (fun y443 => ?_)
                    · skip
                      refine s255_446.mpr ?_
                      refine (s255_583).mpr ?_
                      first | (exfalso; omega) | (exact ok _ _ _ ((tsH_29n c1 (by dsimp only; intro h6; rw [h6] at y398; exact absurd y398.2.2 (by decide))).trans (onw_p (by dsimp only; exact ⟨by omega, le0 y394.2.2 rfl, Or.inr ⟨by omega, by unfold itm; first | (rw [if_pos c426]; exact y443.2) | (rw [if_neg c426]; exact y443.2)⟩⟩))) (flw1 (by rw [c1]; decide)) (by repeat' (first | assumption | exact FW.rf | refine FW.up ?_ (by unfold wS; omega) | (refine FW.tr ?_ (by assumption)))) (by (try simp (disch := decide) only [upI_eq, upI_a, upI_i, upR_eq, upR_a, upR_i]); try assumption) (by (try simp (disch := decide) only [upI_eq, upI_a, upI_i, upR_eq, upR_a, upR_i]); try assumption) (by simp (disch := decide) only [scX, upI_eq, upI_a, upI_i, upR_eq, upR_a, upR_i, upI_ro, upI_rw, up1_same, up1_eq, ht, E1, E2, E3, E4, E5, E6, E7])) | (exact st _ ((tsH_29s c1 (by dsimp only; omega)).trans (onw_p (by dsimp only; exact ⟨by omega, le0 y394.2.2 rfl, by omega⟩))) (by repeat' (first | assumption | exact FW.rf | refine FW.up ?_ (by unfold wS; omega) | (refine FW.tr ?_ (by assumption)))) (by (try simp (disch := decide) only [upI_eq, upI_a, upI_i, upR_eq, upR_a, upR_i]); try assumption) (by (try simp (disch := decide) only [upI_eq, upI_a, upI_i, upR_eq, upR_a, upR_i]); try assumption)) | (exact no _ ((tsH_29 c1).trans (onw_n (by intro h; dsimp only [itm] at h; first | omega | (rw [if_pos c426] at h; omega) | (rw [if_neg c426] at h; omega)))) (by repeat' (first | assumption | exact FW.rf | refine FW.up ?_ (by unfold wS; omega) | (refine FW.tr ?_ (by assumption)))) (by (try simp (disch := decide) only [upI_eq, upI_a, upI_i, upR_eq, upR_a, upR_i]); try assumption))
                    · skip
                      refine s255_446.mpr ?_
                      refine (s255_583).mpr ?_
                      first | (exfalso; omega) | (exact ok _ _ _ ((tsH_29n c1 (by dsimp only; intro h6; rw [h6] at y398; exact absurd y398.2.2 (by decide))).trans (onw_p (by dsimp only; exact ⟨by omega, le0 y394.2.2 rfl, Or.inr ⟨by omega, by unfold itm; first | (rw [if_pos c426]; exact y443.2) | (rw [if_neg c426]; exact y443.2)⟩⟩))) (flw1 (by rw [c1]; decide)) (by repeat' (first | assumption | exact FW.rf | refine FW.up ?_ (by unfold wS; omega) | (refine FW.tr ?_ (by assumption)))) (by (try simp (disch := decide) only [upI_eq, upI_a, upI_i, upR_eq, upR_a, upR_i]); try assumption) (by (try simp (disch := decide) only [upI_eq, upI_a, upI_i, upR_eq, upR_a, upR_i]); try assumption) (by simp (disch := decide) only [scX, upI_eq, upI_a, upI_i, upR_eq, upR_a, upR_i, upI_ro, upI_rw, up1_same, up1_eq, ht, E1, E2, E3, E4, E5, E6, E7])) | (exact st _ ((tsH_29s c1 (by dsimp only; omega)).trans (onw_p (by dsimp only; exact ⟨by omega, le0 y394.2.2 rfl, by omega⟩))) (by repeat' (first | assumption | exact FW.rf | refine FW.up ?_ (by unfold wS; omega) | (refine FW.tr ?_ (by assumption)))) (by (try simp (disch := decide) only [upI_eq, upI_a, upI_i, upR_eq, upR_a, upR_i]); try assumption) (by (try simp (disch := decide) only [upI_eq, upI_a, upI_i, upR_eq, upR_a, upR_i]); try assumption)) | (exact no _ ((tsH_29 c1).trans (onw_n (by intro h; dsimp only [itm] at h; first | omega | (rw [if_pos c426] at h; omega) | (rw [if_neg c426] at h; omega)))) (by repeat' (first | assumption | exact FW.rf | refine FW.up ?_ (by unfold wS; omega) | (refine FW.tr ?_ (by assumption)))) (by (try simp (disch := decide) only [upI_eq, upI_a, upI_i, upR_eq, upR_a, upR_i]); try assumption))
            · first
              | (exfalso; omega)
              | skip
                refine (s255_583).mpr ?_
                first | (exfalso; omega) | (exact ok _ _ _ ((tsH_29n c1 (by dsimp only; intro h6; rw [h6] at y398; exact absurd y398.2.2 (by decide))).trans (onw_p (by dsimp only; exact ⟨by omega, le0 y394.2.2 rfl, Or.inr ⟨by omega, by unfold itm; first | (rw [if_pos c426]; exact y443.2) | (rw [if_neg c426]; exact y443.2)⟩⟩))) (flw1 (by rw [c1]; decide)) (by repeat' (first | assumption | exact FW.rf | refine FW.up ?_ (by unfold wS; omega) | (refine FW.tr ?_ (by assumption)))) (by (try simp (disch := decide) only [upI_eq, upI_a, upI_i, upR_eq, upR_a, upR_i]); try assumption) (by (try simp (disch := decide) only [upI_eq, upI_a, upI_i, upR_eq, upR_a, upR_i]); try assumption) (by simp (disch := decide) only [scX, upI_eq, upI_a, upI_i, upR_eq, upR_a, upR_i, upI_ro, upI_rw, up1_same, up1_eq, ht, E1, E2, E3, E4, E5, E6, E7])) | (exact st _ ((tsH_29s c1 (by dsimp only; omega)).trans (onw_p (by dsimp only; exact ⟨by omega, le0 y394.2.2 rfl, by omega⟩))) (by repeat' (first | assumption | exact FW.rf | refine FW.up ?_ (by unfold wS; omega) | (refine FW.tr ?_ (by assumption)))) (by (try simp (disch := decide) only [upI_eq, upI_a, upI_i, upR_eq, upR_a, upR_i]); try assumption) (by (try simp (disch := decide) only [upI_eq, upI_a, upI_i, upR_eq, upR_a, upR_i]); try assumption)) | (exact no _ ((tsH_29 c1).trans (onw_n (by intro h; dsimp only [itm] at h; first | omega | (rw [if_pos c426] at h; omega) | (rw [if_neg c426] at h; omega)))) (by repeat' (first | assumption | exact FW.rf | refine FW.up ?_ (by unfold wS; omega) | (refine FW.tr ?_ (by assumption)))) (by (try simp (disch := decide) only [upI_eq, upI_a, upI_i, upR_eq, upR_a, upR_i]); try assumption))
    · skip
      try simp (disch := decide) only [upI_eq, upI_a, upI_i, upR_eq, upR_a, upR_i, E1, E4] at y394
      try simp (disch := decide) only [upI_eq, upI_a, upI_i, upR_eq, upR_a, upR_i, E1, E4] at x394
      refine s255_397.mpr ?_
      refine (s255_398 (by omega) kM).mpr ?_
      refine m_popRow hA hR (by omega) (by (try simp (disch := decide) only [upI_eq, upI_a, upI_i, upR_eq, upR_a, upR_i]); first | assumption | rfl) (by omega) (by (try simp (disch := decide) only [upI_eq, upI_a, upI_i, upR_eq, upR_a, upR_i]); first | assumption | rfl) (by omega) (fun y398 => ?_) (fun y398 => ?_) (fun q398 hi398 t398 w398 z398 s398 u398 v398 x398 => ?_)
      · skip
        try simp (disch := decide) only [upI_eq, upI_a, upI_i, upR_eq, upR_a, upR_i, E1, E4] at y398
        try simp (disch := decide) only [upI_eq, upI_a, upI_i, upR_eq, upR_a, upR_i, E1, E4] at x398
        refine s255_401.mpr (s255_403.mpr ?_)
        refine (s255_404 kM).mpr ?_
        try simp (disch := first | decide | assumption | omega) only [kon, knt_some, knt_none, Option.toList_some, Option.toList_none, List.cons_append, List.nil_append, upI_eq, upI_a, upI_i, upR_eq, upR_a, upR_i, h36, ht, E1, E2, E3, E4, E5, E6, E7, fAdd_id, fSub_id, fMul_id]
        refine s255_407.mpr (wif (fun c407 => ?_) (fun c407 => ?_))
        · first
          | (exfalso; omega)
          | skip
            refine (s255_583).mpr ?_
            first | (exfalso; omega) | (exact ok _ _ _ ((tsH_29n c1 (by dsimp only; intro h6; rw [h6] at y398; exact absurd y398.2.2 (by decide))).trans (onw_p (by dsimp only; exact ⟨by omega, le0 y394.2.2 rfl, Or.inr ⟨by omega, by unfold itm; first | (rw [if_pos c426]; exact y443.2) | (rw [if_neg c426]; exact y443.2)⟩⟩))) (flw1 (by rw [c1]; decide)) (by repeat' (first | assumption | exact FW.rf | refine FW.up ?_ (by unfold wS; omega) | (refine FW.tr ?_ (by assumption)))) (by (try simp (disch := decide) only [upI_eq, upI_a, upI_i, upR_eq, upR_a, upR_i]); try assumption) (by (try simp (disch := decide) only [upI_eq, upI_a, upI_i, upR_eq, upR_a, upR_i]); try assumption) (by simp (disch := decide) only [scX, upI_eq, upI_a, upI_i, upR_eq, upR_a, upR_i, upI_ro, upI_rw, up1_same, up1_eq, ht, E1, E2, E3, E4, E5, E6, E7])) | (exact st _ ((tsH_29s c1 (by dsimp only; omega)).trans (onw_p (by dsimp only; exact ⟨by omega, le0 y394.2.2 rfl, by omega⟩))) (by repeat' (first | assumption | exact FW.rf | refine FW.up ?_ (by unfold wS; omega) | (refine FW.tr ?_ (by assumption)))) (by (try simp (disch := decide) only [upI_eq, upI_a, upI_i, upR_eq, upR_a, upR_i]); try assumption) (by (try simp (disch := decide) only [upI_eq, upI_a, upI_i, upR_eq, upR_a, upR_i]); try assumption)) | (exact no _ ((tsH_29 c1).trans (onw_n (by intro h; dsimp only [itm] at h; first | omega | (rw [if_pos c426] at h; omega) | (rw [if_neg c426] at h; omega)))) (by repeat' (first | assumption | exact FW.rf | refine FW.up ?_ (by unfold wS; omega) | (refine FW.tr ?_ (by assumption)))) (by (try simp (disch := decide) only [upI_eq, upI_a, upI_i, upR_eq, upR_a, upR_i]); try assumption))
        · first
          | (exfalso; omega)
          | skip
            refine s255_410.mpr ?_
            refine (s255_411 kM).mpr ?_
            try simp (disch := first | decide | assumption | omega) only [kon, knt_some, knt_none, Option.toList_some, Option.toList_none, List.cons_append, List.nil_append, upI_eq, upI_a, upI_i, upR_eq, upR_a, upR_i, h36, ht, E1, E2, E3, E4, E5, E6, E7, fAdd_id, fSub_id, fMul_id]
            refine s255_414.mpr (wif (fun c414 => ?_) (fun c414 => ?_))
            · first
              | (exfalso; omega)
              | skip
                refine s255_417.mpr (s255_418.mpr (s255_420.mpr ?_))
                refine (s255_422 (by omega)).mpr ?_
                refine m_kind.mpr ?_
                refine s255_425.mpr ?_
                refine s255_426.mpr (wif (fun c426 => ?_) (fun c426 => ?_))
                · first
                  | (exfalso; omega)
                  | skip
                    refine s255_429.mpr (s255_430.mpr ?_)
                    refine (s255_443 (by omega) kM).mpr ?_
                    refine m_fits hA hR (by omega) (by (try simp (disch := decide) only [upI_eq, upI_a, upI_i, upR_eq, upR_a, upR_i]); first | assumption | rfl) (by omega) (fun y443 => ?_) (fun y443 => ?_)
                    · skip
                      refine s255_446.mpr ?_
                      refine (s255_583).mpr ?_
                      first | (exfalso; omega) | (exact ok _ _ _ ((tsH_29n c1 (by dsimp only; intro h6; rw [h6] at y398; exact absurd y398.2.2 (by decide))).trans (onw_p (by dsimp only; exact ⟨by omega, le0 y394.2.2 rfl, Or.inr ⟨by omega, by unfold itm; first | (rw [if_pos c426]; exact y443.2) | (rw [if_neg c426]; exact y443.2)⟩⟩))) (flw1 (by rw [c1]; decide)) (by repeat' (first | assumption | exact FW.rf | refine FW.up ?_ (by unfold wS; omega) | (refine FW.tr ?_ (by assumption)))) (by (try simp (disch := decide) only [upI_eq, upI_a, upI_i, upR_eq, upR_a, upR_i]); try assumption) (by (try simp (disch := decide) only [upI_eq, upI_a, upI_i, upR_eq, upR_a, upR_i]); try assumption) (by simp (disch := decide) only [scX, upI_eq, upI_a, upI_i, upR_eq, upR_a, upR_i, upI_ro, upI_rw, up1_same, up1_eq, ht, E1, E2, E3, E4, E5, E6, E7])) | (exact st _ ((tsH_29s c1 (by dsimp only; omega)).trans (onw_p (by dsimp only; exact ⟨by omega, le0 y394.2.2 rfl, by omega⟩))) (by repeat' (first | assumption | exact FW.rf | refine FW.up ?_ (by unfold wS; omega) | (refine FW.tr ?_ (by assumption)))) (by (try simp (disch := decide) only [upI_eq, upI_a, upI_i, upR_eq, upR_a, upR_i]); try assumption) (by (try simp (disch := decide) only [upI_eq, upI_a, upI_i, upR_eq, upR_a, upR_i]); try assumption)) | (exact no _ ((tsH_29 c1).trans (onw_n (by intro h; dsimp only [itm] at h; first | omega | (rw [if_pos c426] at h; omega) | (rw [if_neg c426] at h; omega)))) (by repeat' (first | assumption | exact FW.rf | refine FW.up ?_ (by unfold wS; omega) | (refine FW.tr ?_ (by assumption)))) (by (try simp (disch := decide) only [upI_eq, upI_a, upI_i, upR_eq, upR_a, upR_i]); try assumption))
                    · skip
                      refine s255_446.mpr ?_
                      refine (s255_583).mpr ?_
                      first | (exfalso; omega) | (exact ok _ _ _ ((tsH_29n c1 (by dsimp only; intro h6; rw [h6] at y398; exact absurd y398.2.2 (by decide))).trans (onw_p (by dsimp only; exact ⟨by omega, le0 y394.2.2 rfl, Or.inr ⟨by omega, by unfold itm; first | (rw [if_pos c426]; exact y443.2) | (rw [if_neg c426]; exact y443.2)⟩⟩))) (flw1 (by rw [c1]; decide)) (by repeat' (first | assumption | exact FW.rf | refine FW.up ?_ (by unfold wS; omega) | (refine FW.tr ?_ (by assumption)))) (by (try simp (disch := decide) only [upI_eq, upI_a, upI_i, upR_eq, upR_a, upR_i]); try assumption) (by (try simp (disch := decide) only [upI_eq, upI_a, upI_i, upR_eq, upR_a, upR_i]); try assumption) (by simp (disch := decide) only [scX, upI_eq, upI_a, upI_i, upR_eq, upR_a, upR_i, upI_ro, upI_rw, up1_same, up1_eq, ht, E1, E2, E3, E4, E5, E6, E7])) | (exact st _ ((tsH_29s c1 (by dsimp only; omega)).trans (onw_p (by dsimp only; exact ⟨by omega, le0 y394.2.2 rfl, by omega⟩))) (by repeat' (first | assumption | exact FW.rf | refine FW.up ?_ (by unfold wS; omega) | (refine FW.tr ?_ (by assumption)))) (by (try simp (disch := decide) only [upI_eq, upI_a, upI_i, upR_eq, upR_a, upR_i]); try assumption) (by (try simp (disch := decide) only [upI_eq, upI_a, upI_i, upR_eq, upR_a, upR_i]); try assumption)) | (exact no _ ((tsH_29 c1).trans (onw_n (by intro h; dsimp only [itm] at h; first | omega | (rw [if_pos c426] at h; omega) | (rw [if_neg c426] at h; omega)))) (by repeat' (first | assumption | exact FW.rf | refine FW.up ?_ (by unfold wS; omega) | (refine FW.tr ?_ (by assumption)))) (by (try simp (disch := decide) only [upI_eq, upI_a, upI_i, upR_eq, upR_a, upR_i]); try assumption))
                · first
                  | (exfalso; omega)
                  | skip
                    refine s255_433.mpr (s255_434.mpr (s255_436.mpr ?_))
                    refine (s255_438 (by omega)).mpr ?_
                    refine (m_which (vT_rng (hv75 _ (by omega) (by omega)))).mpr ?_
                    refine s255_441.mpr (s255_442.mpr ?_)
                    try simp (disch := first | decide | assumption | omega) only [kon, knt_some, knt_none, Option.toList_some, Option.toList_none, List.cons_append, List.nil_append, upI_eq, upI_a, upI_i, upR_eq, upR_a, upR_i, h36, ht, E1, E2, E3, E4, E5, E6, E7, fAdd_id, fSub_id, fMul_id]
                    refine (s255_443 (by omega) kM).mpr ?_
                    refine m_fits hA hR (by omega) (by (try simp (disch := decide) only [upI_eq, upI_a, upI_i, upR_eq, upR_a, upR_i]); first | assumption | rfl) (by omega) (fun y443 => ?_) (fun y443 => ?_)
                    · skip
                      refine s255_446.mpr ?_
                      refine (s255_583).mpr ?_
                      first | (exfalso; omega) | (exact ok _ _ _ ((tsH_29n c1 (by dsimp only; intro h6; rw [h6] at y398; exact absurd y398.2.2 (by decide))).trans (onw_p (by dsimp only; exact ⟨by omega, le0 y394.2.2 rfl, Or.inr ⟨by omega, by unfold itm; first | (rw [if_pos c426]; exact y443.2) | (rw [if_neg c426]; exact y443.2)⟩⟩))) (flw1 (by rw [c1]; decide)) (by repeat' (first | assumption | exact FW.rf | refine FW.up ?_ (by unfold wS; omega) | (refine FW.tr ?_ (by assumption)))) (by (try simp (disch := decide) only [upI_eq, upI_a, upI_i, upR_eq, upR_a, upR_i]); try assumption) (by (try simp (disch := decide) only [upI_eq, upI_a, upI_i, upR_eq, upR_a, upR_i]); try assumption) (by simp (disch := decide) only [scX, upI_eq, upI_a, upI_i, upR_eq, upR_a, upR_i, upI_ro, upI_rw, up1_same, up1_eq, ht, E1, E2, E3, E4, E5, E6, E7])) | (exact st _ ((tsH_29s c1 (by dsimp only; omega)).trans (onw_p (by dsimp only; exact ⟨by omega, le0 y394.2.2 rfl, by omega⟩))) (by repeat' (first | assumption | exact FW.rf | refine FW.up ?_ (by unfold wS; omega) | (refine FW.tr ?_ (by assumption)))) (by (try simp (disch := decide) only [upI_eq, upI_a, upI_i, upR_eq, upR_a, upR_i]); try assumption) (by (try simp (disch := decide) only [upI_eq, upI_a, upI_i, upR_eq, upR_a, upR_i]); try assumption)) | (exact no _ ((tsH_29 c1).trans (onw_n (by intro h; dsimp only [itm] at h; first | omega | (rw [if_pos c426] at h; omega) | (rw [if_neg c426] at h; omega)))) (by repeat' (first | assumption | exact FW.rf | refine FW.up ?_ (by unfold wS; omega) | (refine FW.tr ?_ (by assumption)))) (by (try simp (disch := decide) only [upI_eq, upI_a, upI_i, upR_eq, upR_a, upR_i]); try assumption))
                    · skip
                      refine s255_446.mpr ?_
                      refine (s255_583).mpr ?_
                      first | (exfalso; omega) | (exact ok _ _ _ ((tsH_29n c1 (by dsimp only; intro h6; rw [h6] at y398; exact absurd y398.2.2 (by decide))).trans (onw_p (by dsimp only; exact ⟨by omega, le0 y394.2.2 rfl, Or.inr ⟨by omega, by unfold itm; first | (rw [if_pos c426]; exact y443.2) | (rw [if_neg c426]; exact y443.2)⟩⟩))) (flw1 (by rw [c1]; decide)) (by repeat' (first | assumption | exact FW.rf | refine FW.up ?_ (by unfold wS; omega) | (refine FW.tr ?_ (by assumption)))) (by (try simp (disch := decide) only [upI_eq, upI_a, upI_i, upR_eq, upR_a, upR_i]); try assumption) (by (try simp (disch := decide) only [upI_eq, upI_a, upI_i, upR_eq, upR_a, upR_i]); try assumption) (by simp (disch := decide) only [scX, upI_eq, upI_a, upI_i, upR_eq, upR_a, upR_i, upI_ro, upI_rw, up1_same, up1_eq, ht, E1, E2, E3, E4, E5, E6, E7])) | (exact st _ ((tsH_29s c1 (by dsimp only; omega)).trans (onw_p (by dsimp only; exact ⟨by omega, le0 y394.2.2 rfl, by omega⟩))) (by repeat' (first | assumption | exact FW.rf | refine FW.up ?_ (by unfold wS; omega) | (refine FW.tr ?_ (by assumption)))) (by (try simp (disch := decide) only [upI_eq, upI_a, upI_i, upR_eq, upR_a, upR_i]); try assumption) (by (try simp (disch := decide) only [upI_eq, upI_a, upI_i, upR_eq, upR_a, upR_i]); try assumption)) | (exact no _ ((tsH_29 c1).trans (onw_n (by intro h; dsimp only [itm] at h; first | omega | (rw [if_pos c426] at h; omega) | (rw [if_neg c426] at h; omega)))) (by repeat' (first | assumption | exact FW.rf | refine FW.up ?_ (by unfold wS; omega) | (refine FW.tr ?_ (by assumption)))) (by (try simp (disch := decide) only [upI_eq, upI_a, upI_i, upR_eq, upR_a, upR_i]); try assumption))
            · first
              | (exfalso; omega)
              | skip
                refine (s255_583).mpr ?_
                first | (exfalso; omega) | (exact ok _ _ _ ((tsH_29n c1 (by dsimp only; intro h6; rw [h6] at y398; exact absurd y398.2.2 (by decide))).trans (onw_p (by dsimp only; exact ⟨by omega, le0 y394.2.2 rfl, Or.inr ⟨by omega, by unfold itm; first | (rw [if_pos c426]; exact y443.2) | (rw [if_neg c426]; exact y443.2)⟩⟩))) (flw1 (by rw [c1]; decide)) (by repeat' (first | assumption | exact FW.rf | refine FW.up ?_ (by unfold wS; omega) | (refine FW.tr ?_ (by assumption)))) (by (try simp (disch := decide) only [upI_eq, upI_a, upI_i, upR_eq, upR_a, upR_i]); try assumption) (by (try simp (disch := decide) only [upI_eq, upI_a, upI_i, upR_eq, upR_a, upR_i]); try assumption) (by simp (disch := decide) only [scX, upI_eq, upI_a, upI_i, upR_eq, upR_a, upR_i, upI_ro, upI_rw, up1_same, up1_eq, ht, E1, E2, E3, E4, E5, E6, E7])) | (exact st _ ((tsH_29s c1 (by dsimp only; omega)).trans (onw_p (by dsimp only; exact ⟨by omega, le0 y394.2.2 rfl, by omega⟩))) (by repeat' (first | assumption | exact FW.rf | refine FW.up ?_ (by unfold wS; omega) | (refine FW.tr ?_ (by assumption)))) (by (try simp (disch := decide) only [upI_eq, upI_a, upI_i, upR_eq, upR_a, upR_i]); try assumption) (by (try simp (disch := decide) only [upI_eq, upI_a, upI_i, upR_eq, upR_a, upR_i]); try assumption)) | (exact no _ ((tsH_29 c1).trans (onw_n (by intro h; dsimp only [itm] at h; first | omega | (rw [if_pos c426] at h; omega) | (rw [if_neg c426] at h; omega)))) (by repeat' (first | assumption | exact FW.rf | refine FW.up ?_ (by unfold wS; omega) | (refine FW.tr ?_ (by assumption)))) (by (try simp (disch := decide) only [upI_eq, upI_a, upI_i, upR_eq, upR_a, upR_i]); try assumption))
      · skip
        try simp (disch := decide) only [upI_eq, upI_a, upI_i, upR_eq, upR_a, upR_i, E1, E4] at y398
        try simp (disch := decide) only [upI_eq, upI_a, upI_i, upR_eq, upR_a, upR_i, E1, E4] at x398
        refine s255_401.mpr (s255_403.mpr ?_)
        refine (s255_404 kM).mpr ?_
        try simp (disch := first | decide | assumption | omega) only [kon, knt_some, knt_none, Option.toList_some, Option.toList_none, List.cons_append, List.nil_append, upI_eq, upI_a, upI_i, upR_eq, upR_a, upR_i, h36, ht, E1, E2, E3, E4, E5, E6, E7, fAdd_id, fSub_id, fMul_id]
        refine s255_407.mpr (wif (fun c407 => ?_) (fun c407 => ?_))
        · first
          | (exfalso; omega)
          | skip
            refine (s255_583).mpr ?_
            first | (exfalso; omega) | (exact ok _ _ _ ((tsH_29n c1 (by dsimp only; intro h6; rw [h6] at y398; exact absurd y398.2.2 (by decide))).trans (onw_p (by dsimp only; exact ⟨by omega, le0 y394.2.2 rfl, Or.inr ⟨by omega, by unfold itm; first | (rw [if_pos c426]; exact y443.2) | (rw [if_neg c426]; exact y443.2)⟩⟩))) (flw1 (by rw [c1]; decide)) (by repeat' (first | assumption | exact FW.rf | refine FW.up ?_ (by unfold wS; omega) | (refine FW.tr ?_ (by assumption)))) (by (try simp (disch := decide) only [upI_eq, upI_a, upI_i, upR_eq, upR_a, upR_i]); try assumption) (by (try simp (disch := decide) only [upI_eq, upI_a, upI_i, upR_eq, upR_a, upR_i]); try assumption) (by simp (disch := decide) only [scX, upI_eq, upI_a, upI_i, upR_eq, upR_a, upR_i, upI_ro, upI_rw, up1_same, up1_eq, ht, E1, E2, E3, E4, E5, E6, E7])) | (exact st _ ((tsH_29s c1 (by dsimp only; omega)).trans (onw_p (by dsimp only; exact ⟨by omega, le0 y394.2.2 rfl, by omega⟩))) (by repeat' (first | assumption | exact FW.rf | refine FW.up ?_ (by unfold wS; omega) | (refine FW.tr ?_ (by assumption)))) (by (try simp (disch := decide) only [upI_eq, upI_a, upI_i, upR_eq, upR_a, upR_i]); try assumption) (by (try simp (disch := decide) only [upI_eq, upI_a, upI_i, upR_eq, upR_a, upR_i]); try assumption)) | (exact no _ ((tsH_29 c1).trans (onw_n (by intro h; dsimp only [itm] at h; first | omega | (rw [if_pos c426] at h; omega) | (rw [if_neg c426] at h; omega)))) (by repeat' (first | assumption | exact FW.rf | refine FW.up ?_ (by unfold wS; omega) | (refine FW.tr ?_ (by assumption)))) (by (try simp (disch := decide) only [upI_eq, upI_a, upI_i, upR_eq, upR_a, upR_i]); try assumption))
        · first
          | (exfalso; omega)
          | skip
            refine s255_410.mpr ?_
            refine (s255_411 kM).mpr ?_
            try simp (disch := first | decide | assumption | omega) only [kon, knt_some, knt_none, Option.toList_some, Option.toList_none, List.cons_append, List.nil_append, upI_eq, upI_a, upI_i, upR_eq, upR_a, upR_i, h36, ht, E1, E2, E3, E4, E5, E6, E7, fAdd_id, fSub_id, fMul_id]
            refine s255_414.mpr (wif (fun c414 => ?_) (fun c414 => ?_))
            · first
              | (exfalso; omega)
              | skip
                refine s255_417.mpr (s255_418.mpr (s255_420.mpr ?_))
                refine (s255_422 (by omega)).mpr ?_
                refine m_kind.mpr ?_
                refine s255_425.mpr ?_
                refine s255_426.mpr (wif (fun c426 => ?_) (fun c426 => ?_))
                · first
                  | (exfalso; omega)
                  | skip
                    refine s255_429.mpr (s255_430.mpr ?_)
                    refine (s255_443 (by omega) kM).mpr ?_
                    refine m_fits hA hR (by omega) (by (try simp (disch := decide) only [upI_eq, upI_a, upI_i, upR_eq, upR_a, upR_i]); first | assumption | rfl) (by omega) (fun y443 => ?_) (fun y443 => ?_)
                    · skip
                      refine s255_446.mpr ?_
                      refine (s255_583).mpr ?_
                      first | (exfalso; omega) | (exact ok _ _ _ ((tsH_29n c1 (by dsimp only; intro h6; rw [h6] at y398; exact absurd y398.2.2 (by decide))).trans (onw_p (by dsimp only; exact ⟨by omega, le0 y394.2.2 rfl, Or.inr ⟨by omega, by unfold itm; first | (rw [if_pos c426]; exact y443.2) | (rw [if_neg c426]; exact y443.2)⟩⟩))) (flw1 (by rw [c1]; decide)) (by repeat' (first | assumption | exact FW.rf | refine FW.up ?_ (by unfold wS; omega) | (refine FW.tr ?_ (by assumption)))) (by (try simp (disch := decide) only [upI_eq, upI_a, upI_i, upR_eq, upR_a, upR_i]); try assumption) (by (try simp (disch := decide) only [upI_eq, upI_a, upI_i, upR_eq, upR_a, upR_i]); try assumption) (by simp (disch := decide) only [scX, upI_eq, upI_a, upI_i, upR_eq, upR_a, upR_i, upI_ro, upI_rw, up1_same, up1_eq, ht, E1, E2, E3, E4, E5, E6, E7])) | (exact st _ ((tsH_29s c1 (by dsimp only; omega)).trans (onw_p (by dsimp only; exact ⟨by omega, le0 y394.2.2 rfl, by omega⟩))) (by repeat' (first | assumption | exact FW.rf | refine FW.up ?_ (by unfold wS; omega) | (refine FW.tr ?_ (by assumption)))) (by (try simp (disch := decide) only [upI_eq, upI_a, upI_i, upR_eq, upR_a, upR_i]); try assumption) (by (try simp (disch := decide) only [upI_eq, upI_a, upI_i, upR_eq, upR_a, upR_i]); try assumption)) | (exact no _ ((tsH_29 c1).trans (onw_n (by intro h; dsimp only [itm] at h; first | omega | (rw [if_pos c426] at h; omega) | (rw [if_neg c426] at h; omega)))) (by repeat' (first | assumption | exact FW.rf | refine FW.up ?_ (by unfold wS; omega) | (refine FW.tr ?_ (by assumption)))) (by (try simp (disch := decide) only [upI_eq, upI_a, upI_i, upR_eq, upR_a, upR_i]); try assumption))
                    · skip
                      refine s255_446.mpr ?_
                      refine (s255_583).mpr ?_
                      first | (exfalso; omega) | (exact ok _ _ _ ((tsH_29n c1 (by dsimp only; intro h6; rw [h6] at y398; exact absurd y398.2.2 (by decide))).trans (onw_p (by dsimp only; exact ⟨by omega, le0 y394.2.2 rfl, Or.inr ⟨by omega, by unfold itm; first | (rw [if_pos c426]; exact y443.2) | (rw [if_neg c426]; exact y443.2)⟩⟩))) (flw1 (by rw [c1]; decide)) (by repeat' (first | assumption | exact FW.rf | refine FW.up ?_ (by unfold wS; omega) | (refine FW.tr ?_ (by assumption)))) (by (try simp (disch := decide) only [upI_eq, upI_a, upI_i, upR_eq, upR_a, upR_i]); try assumption) (by (try simp (disch := decide) only [upI_eq, upI_a, upI_i, upR_eq, upR_a, upR_i]); try assumption) (by simp (disch := decide) only [scX, upI_eq, upI_a, upI_i, upR_eq, upR_a, upR_i, upI_ro, upI_rw, up1_same, up1_eq, ht, E1, E2, E3, E4, E5, E6, E7])) | (exact st _ ((tsH_29s c1 (by dsimp only; omega)).trans (onw_p (by dsimp only; exact ⟨by omega, le0 y394.2.2 rfl, by omega⟩))) (by repeat' (first | assumption | exact FW.rf | refine FW.up ?_ (by unfold wS; omega) | (refine FW.tr ?_ (by assumption)))) (by (try simp (disch := decide) only [upI_eq, upI_a, upI_i, upR_eq, upR_a, upR_i]); try assumption) (by (try simp (disch := decide) only [upI_eq, upI_a, upI_i, upR_eq, upR_a, upR_i]); try assumption)) | (exact no _ ((tsH_29 c1).trans (onw_n (by intro h; dsimp only [itm] at h; first | omega | (rw [if_pos c426] at h; omega) | (rw [if_neg c426] at h; omega)))) (by repeat' (first | assumption | exact FW.rf | refine FW.up ?_ (by unfold wS; omega) | (refine FW.tr ?_ (by assumption)))) (by (try simp (disch := decide) only [upI_eq, upI_a, upI_i, upR_eq, upR_a, upR_i]); try assumption))
                · first
                  | (exfalso; omega)
                  | skip
                    refine s255_433.mpr (s255_434.mpr (s255_436.mpr ?_))
                    refine (s255_438 (by omega)).mpr ?_
                    refine (m_which (vT_rng (hv75 _ (by omega) (by omega)))).mpr ?_
                    refine s255_441.mpr (s255_442.mpr ?_)
                    try simp (disch := first | decide | assumption | omega) only [kon, knt_some, knt_none, Option.toList_some, Option.toList_none, List.cons_append, List.nil_append, upI_eq, upI_a, upI_i, upR_eq, upR_a, upR_i, h36, ht, E1, E2, E3, E4, E5, E6, E7, fAdd_id, fSub_id, fMul_id]
                    refine (s255_443 (by omega) kM).mpr ?_
                    refine m_fits hA hR (by omega) (by (try simp (disch := decide) only [upI_eq, upI_a, upI_i, upR_eq, upR_a, upR_i]); first | assumption | rfl) (by omega) (fun y443 => ?_) (fun y443 => ?_)
                    · skip
                      refine s255_446.mpr ?_
                      refine (s255_583).mpr ?_
                      first | (exfalso; omega) | (exact ok _ _ _ ((tsH_29n c1 (by dsimp only; intro h6; rw [h6] at y398; exact absurd y398.2.2 (by decide))).trans (onw_p (by dsimp only; exact ⟨by omega, le0 y394.2.2 rfl, Or.inr ⟨by omega, by unfold itm; first | (rw [if_pos c426]; exact y443.2) | (rw [if_neg c426]; exact y443.2)⟩⟩))) (flw1 (by rw [c1]; decide)) (by repeat' (first | assumption | exact FW.rf | refine FW.up ?_ (by unfold wS; omega) | (refine FW.tr ?_ (by assumption)))) (by (try simp (disch := decide) only [upI_eq, upI_a, upI_i, upR_eq, upR_a, upR_i]); try assumption) (by (try simp (disch := decide) only [upI_eq, upI_a, upI_i, upR_eq, upR_a, upR_i]); try assumption) (by simp (disch := decide) only [scX, upI_eq, upI_a, upI_i, upR_eq, upR_a, upR_i, upI_ro, upI_rw, up1_same, up1_eq, ht, E1, E2, E3, E4, E5, E6, E7])) | (exact st _ ((tsH_29s c1 (by dsimp only; omega)).trans (onw_p (by dsimp only; exact ⟨by omega, le0 y394.2.2 rfl, by omega⟩))) (by repeat' (first | assumption | exact FW.rf | refine FW.up ?_ (by unfold wS; omega) | (refine FW.tr ?_ (by assumption)))) (by (try simp (disch := decide) only [upI_eq, upI_a, upI_i, upR_eq, upR_a, upR_i]); try assumption) (by (try simp (disch := decide) only [upI_eq, upI_a, upI_i, upR_eq, upR_a, upR_i]); try assumption)) | (exact no _ ((tsH_29 c1).trans (onw_n (by intro h; dsimp only [itm] at h; first | omega | (rw [if_pos c426] at h; omega) | (rw [if_neg c426] at h; omega)))) (by repeat' (first | assumption | exact FW.rf | refine FW.up ?_ (by unfold wS; omega) | (refine FW.tr ?_ (by assumption)))) (by (try simp (disch := decide) only [upI_eq, upI_a, upI_i, upR_eq, upR_a, upR_i]); try assumption))
                    · skip
                      refine s255_446.mpr ?_
                      refine (s255_583).mpr ?_
                      first | (exfalso; omega) | (exact ok _ _ _ ((tsH_29n c1 (by dsimp only; intro h6; rw [h6] at y398; exact absurd y398.2.2 (by decide))).trans (onw_p (by dsimp only; exact ⟨by omega, le0 y394.2.2 rfl, Or.inr ⟨by omega, by unfold itm; first | (rw [if_pos c426]; exact y443.2) | (rw [if_neg c426]; exact y443.2)⟩⟩))) (flw1 (by rw [c1]; decide)) (by repeat' (first | assumption | exact FW.rf | refine FW.up ?_ (by unfold wS; omega) | (refine FW.tr ?_ (by assumption)))) (by (try simp (disch := decide) only [upI_eq, upI_a, upI_i, upR_eq, upR_a, upR_i]); try assumption) (by (try simp (disch := decide) only [upI_eq, upI_a, upI_i, upR_eq, upR_a, upR_i]); try assumption) (by simp (disch := decide) only [scX, upI_eq, upI_a, upI_i, upR_eq, upR_a, upR_i, upI_ro, upI_rw, up1_same, up1_eq, ht, E1, E2, E3, E4, E5, E6, E7])) | (exact st _ ((tsH_29s c1 (by dsimp only; omega)).trans (onw_p (by dsimp only; exact ⟨by omega, le0 y394.2.2 rfl, by omega⟩))) (by repeat' (first | assumption | exact FW.rf | refine FW.up ?_ (by unfold wS; omega) | (refine FW.tr ?_ (by assumption)))) (by (try simp (disch := decide) only [upI_eq, upI_a, upI_i, upR_eq, upR_a, upR_i]); try assumption) (by (try simp (disch := decide) only [upI_eq, upI_a, upI_i, upR_eq, upR_a, upR_i]); try assumption)) | (exact no _ ((tsH_29 c1).trans (onw_n (by intro h; dsimp only [itm] at h; first | omega | (rw [if_pos c426] at h; omega) | (rw [if_neg c426] at h; omega)))) (by repeat' (first | assumption | exact FW.rf | refine FW.up ?_ (by unfold wS; omega) | (refine FW.tr ?_ (by assumption)))) (by (try simp (disch := decide) only [upI_eq, upI_a, upI_i, upR_eq, upR_a, upR_i]); try assumption))
            · first
              | (exfalso; omega)
              | skip
                refine (s255_583).mpr ?_
                first | (exfalso; omega) | (exact ok _ _ _ ((tsH_29n c1 (by dsimp only; intro h6; rw [h6] at y398; exact absurd y398.2.2 (by decide))).trans (onw_p (by dsimp only; exact ⟨by omega, le0 y394.2.2 rfl, Or.inr ⟨by omega, by unfold itm; first | (rw [if_pos c426]; exact y443.2) | (rw [if_neg c426]; exact y443.2)⟩⟩))) (flw1 (by rw [c1]; decide)) (by repeat' (first | assumption | exact FW.rf | refine FW.up ?_ (by unfold wS; omega) | (refine FW.tr ?_ (by assumption)))) (by (try simp (disch := decide) only [upI_eq, upI_a, upI_i, upR_eq, upR_a, upR_i]); try assumption) (by (try simp (disch := decide) only [upI_eq, upI_a, upI_i, upR_eq, upR_a, upR_i]); try assumption) (by simp (disch := decide) only [scX, upI_eq, upI_a, upI_i, upR_eq, upR_a, upR_i, upI_ro, upI_rw, up1_same, up1_eq, ht, E1, E2, E3, E4, E5, E6, E7])) | (exact st _ ((tsH_29s c1 (by dsimp only; omega)).trans (onw_p (by dsimp only; exact ⟨by omega, le0 y394.2.2 rfl, by omega⟩))) (by repeat' (first | assumption | exact FW.rf | refine FW.up ?_ (by unfold wS; omega) | (refine FW.tr ?_ (by assumption)))) (by (try simp (disch := decide) only [upI_eq, upI_a, upI_i, upR_eq, upR_a, upR_i]); try assumption) (by (try simp (disch := decide) only [upI_eq, upI_a, upI_i, upR_eq, upR_a, upR_i]); try assumption)) | (exact no _ ((tsH_29 c1).trans (onw_n (by intro h; dsimp only [itm] at h; first | omega | (rw [if_pos c426] at h; omega) | (rw [if_neg c426] at h; omega)))) (by repeat' (first | assumption | exact FW.rf | refine FW.up ?_ (by unfold wS; omega) | (refine FW.tr ?_ (by assumption)))) (by (try simp (disch := decide) only [upI_eq, upI_a, upI_i, upR_eq, upR_a, upR_i]); try assumption))
      · skip
        try simp (disch := decide) only [upI_eq, upI_a, upI_i, upR_eq, upR_a, upR_i, E1, E4] at y398
        try simp (disch := decide) only [upI_eq, upI_a, upI_i, upR_eq, upR_a, upR_i, E1, E4] at x398
        refine s255_401.mpr (s255_403.mpr ?_)
        refine (s255_404 kM).mpr ?_
        try simp (disch := first | decide | assumption | omega) only [kon, knt_some, knt_none, Option.toList_some, Option.toList_none, List.cons_append, List.nil_append, upI_eq, upI_a, upI_i, upR_eq, upR_a, upR_i, h36, ht, E1, E2, E3, E4, E5, E6, E7, fAdd_id, fSub_id, fMul_id]
        refine s255_407.mpr (wif (fun c407 => ?_) (fun c407 => ?_))
        · first
          | (exfalso; omega)
          | skip
            refine (s255_583).mpr ?_
            first | (exfalso; omega) | (exact ok _ _ _ ((tsH_29n c1 (by dsimp only; intro h6; rw [h6] at y398; exact absurd y398.2.2 (by decide))).trans (onw_p (by dsimp only; exact ⟨by omega, le0 y394.2.2 rfl, Or.inr ⟨by omega, by unfold itm; first | (rw [if_pos c426]; exact y443.2) | (rw [if_neg c426]; exact y443.2)⟩⟩))) (flw1 (by rw [c1]; decide)) (by repeat' (first | assumption | exact FW.rf | refine FW.up ?_ (by unfold wS; omega) | (refine FW.tr ?_ (by assumption)))) (by (try simp (disch := decide) only [upI_eq, upI_a, upI_i, upR_eq, upR_a, upR_i]); try assumption) (by (try simp (disch := decide) only [upI_eq, upI_a, upI_i, upR_eq, upR_a, upR_i]); try assumption) (by simp (disch := decide) only [scX, upI_eq, upI_a, upI_i, upR_eq, upR_a, upR_i, upI_ro, upI_rw, up1_same, up1_eq, ht, E1, E2, E3, E4, E5, E6, E7])) | (exact st _ ((tsH_29s c1 (by dsimp only; omega)).trans (onw_p (by dsimp only; exact ⟨by omega, le0 y394.2.2 rfl, by omega⟩))) (by repeat' (first | assumption | exact FW.rf | refine FW.up ?_ (by unfold wS; omega) | (refine FW.tr ?_ (by assumption)))) (by (try simp (disch := decide) only [upI_eq, upI_a, upI_i, upR_eq, upR_a, upR_i]); try assumption) (by (try simp (disch := decide) only [upI_eq, upI_a, upI_i, upR_eq, upR_a, upR_i]); try assumption)) | (exact no _ ((tsH_29 c1).trans (onw_n (by intro h; dsimp only [itm] at h; first | omega | (rw [if_pos c426] at h; omega) | (rw [if_neg c426] at h; omega)))) (by repeat' (first | assumption | exact FW.rf | refine FW.up ?_ (by unfold wS; omega) | (refine FW.tr ?_ (by assumption)))) (by (try simp (disch := decide) only [upI_eq, upI_a, upI_i, upR_eq, upR_a, upR_i]); try assumption))
        · first
          | (exfalso; omega)
          | skip
            refine s255_410.mpr ?_
            refine (s255_411 kM).mpr ?_
            try simp (disch := first | decide | assumption | omega) only [kon, knt_some, knt_none, Option.toList_some, Option.toList_none, List.cons_append, List.nil_append, upI_eq, upI_a, upI_i, upR_eq, upR_a, upR_i, h36, ht, E1, E2, E3, E4, E5, E6, E7, fAdd_id, fSub_id, fMul_id]
            refine s255_414.mpr (wif (fun c414 => ?_) (fun c414 => ?_))
            · first
              | (exfalso; omega)
              | skip
                refine s255_417.mpr (s255_418.mpr (s255_420.mpr ?_))
                refine (s255_422 (by omega)).mpr ?_
                refine m_kind.mpr ?_
                refine s255_425.mpr ?_
                refine s255_426.mpr (wif (fun c426 => ?_) (fun c426 => ?_))
                · first
                  | (exfalso; omega)
                  | skip
                    refine s255_429.mpr (s255_430.mpr ?_)
                    refine (s255_443 (by omega) kM).mpr ?_
                    refine m_fits hA hR (by omega) (by (try simp (disch := decide) only [upI_eq, upI_a, upI_i, upR_eq, upR_a, upR_i]); first | assumption | rfl) (by omega) (fun y443 => ?_) (fun y443 => ?_)
                    · skip
                      refine s255_446.mpr ?_
                      refine (s255_583).mpr ?_
                      first | (exfalso; omega) | (exact ok _ _ _ ((tsH_29n c1 (by dsimp only; intro h6; rw [h6] at y398; exact absurd y398.2.2 (by decide))).trans (onw_p (by dsimp only; exact ⟨by omega, le0 y394.2.2 rfl, Or.inr ⟨by omega, by unfold itm; first | (rw [if_pos c426]; exact y443.2) | (rw [if_neg c426]; exact y443.2)⟩⟩))) (flw1 (by rw [c1]; decide)) (by repeat' (first | assumption | exact FW.rf | refine FW.up ?_ (by unfold wS; omega) | (refine FW.tr ?_ (by assumption)))) (by (try simp (disch := decide) only [upI_eq, upI_a, upI_i, upR_eq, upR_a, upR_i]); try assumption) (by (try simp (disch := decide) only [upI_eq, upI_a, upI_i, upR_eq, upR_a, upR_i]); try assumption) (by simp (disch := decide) only [scX, upI_eq, upI_a, upI_i, upR_eq, upR_a, upR_i, upI_ro, upI_rw, up1_same, up1_eq, ht, E1, E2, E3, E4, E5, E6, E7])) | (exact st _ ((tsH_29s c1 (by dsimp only; omega)).trans (onw_p (by dsimp only; exact ⟨by omega, le0 y394.2.2 rfl, by omega⟩))) (by repeat' (first | assumption | exact FW.rf | refine FW.up ?_ (by unfold wS; omega) | (refine FW.tr ?_ (by assumption)))) (by (try simp (disch := decide) only [upI_eq, upI_a, upI_i, upR_eq, upR_a, upR_i]); try assumption) (by (try simp (disch := decide) only [upI_eq, upI_a, upI_i, upR_eq, upR_a, upR_i]); try assumption)) | (exact no _ ((tsH_29 c1).trans (onw_n (by intro h; dsimp only [itm] at h; first | omega | (rw [if_pos c426] at h; omega) | (rw [if_neg c426] at h; omega)))) (by repeat' (first | assumption | exact FW.rf | refine FW.up ?_ (by unfold wS; omega) | (refine FW.tr ?_ (by assumption)))) (by (try simp (disch := decide) only [upI_eq, upI_a, upI_i, upR_eq, upR_a, upR_i]); try assumption))
                    · skip
                      refine s255_446.mpr ?_
                      refine (s255_583).mpr ?_
                      first | (exfalso; omega) | (exact ok _ _ _ ((tsH_29n c1 (by dsimp only; intro h6; rw [h6] at y398; exact absurd y398.2.2 (by decide))).trans (onw_p (by dsimp only; exact ⟨by omega, le0 y394.2.2 rfl, Or.inr ⟨by omega, by unfold itm; first | (rw [if_pos c426]; exact y443.2) | (rw [if_neg c426]; exact y443.2)⟩⟩))) (flw1 (by rw [c1]; decide)) (by repeat' (first | assumption | exact FW.rf | refine FW.up ?_ (by unfold wS; omega) | (refine FW.tr ?_ (by assumption)))) (by (try simp (disch := decide) only [upI_eq, upI_a, upI_i, upR_eq, upR_a, upR_i]); try assumption) (by (try simp (disch := decide) only [upI_eq, upI_a, upI_i, upR_eq, upR_a, upR_i]); try assumption) (by simp (disch := decide) only [scX, upI_eq, upI_a, upI_i, upR_eq, upR_a, upR_i, upI_ro, upI_rw, up1_same, up1_eq, ht, E1, E2, E3, E4, E5, E6, E7])) | (exact st _ ((tsH_29s c1 (by dsimp only; omega)).trans (onw_p (by dsimp only; exact ⟨by omega, le0 y394.2.2 rfl, by omega⟩))) (by repeat' (first | assumption | exact FW.rf | refine FW.up ?_ (by unfold wS; omega) | (refine FW.tr ?_ (by assumption)))) (by (try simp (disch := decide) only [upI_eq, upI_a, upI_i, upR_eq, upR_a, upR_i]); try assumption) (by (try simp (disch := decide) only [upI_eq, upI_a, upI_i, upR_eq, upR_a, upR_i]); try assumption)) | (exact no _ ((tsH_29 c1).trans (onw_n (by intro h; dsimp only [itm] at h; first | omega | (rw [if_pos c426] at h; omega) | (rw [if_neg c426] at h; omega)))) (by repeat' (first | assumption | exact FW.rf | refine FW.up ?_ (by unfold wS; omega) | (refine FW.tr ?_ (by assumption)))) (by (try simp (disch := decide) only [upI_eq, upI_a, upI_i, upR_eq, upR_a, upR_i]); try assumption))
                · first
                  | (exfalso; omega)
                  | skip
                    refine s255_433.mpr (s255_434.mpr (s255_436.mpr ?_))
                    refine (s255_438 (by omega)).mpr ?_
                    refine (m_which (vT_rng (hv75 _ (by omega) (by omega)))).mpr ?_
                    refine s255_441.mpr (s255_442.mpr ?_)
                    try simp (disch := first | decide | assumption | omega) only [kon, knt_some, knt_none, Option.toList_some, Option.toList_none, List.cons_append, List.nil_append, upI_eq, upI_a, upI_i, upR_eq, upR_a, upR_i, h36, ht, E1, E2, E3, E4, E5, E6, E7, fAdd_id, fSub_id, fMul_id]
                    refine (s255_443 (by omega) kM).mpr ?_
                    refine m_fits hA hR (by omega) (by (try simp (disch := decide) only [upI_eq, upI_a, upI_i, upR_eq, upR_a, upR_i]); first | assumption | rfl) (by omega) (fun y443 => ?_) (fun y443 => ?_)
                    · skip
                      refine s255_446.mpr ?_
                      refine (s255_583).mpr ?_
                      first | (exfalso; omega) | (exact ok _ _ _ ((tsH_29n c1 (by dsimp only; intro h6; rw [h6] at y398; exact absurd y398.2.2 (by decide))).trans (onw_p (by dsimp only; exact ⟨by omega, le0 y394.2.2 rfl, Or.inr ⟨by omega, by unfold itm; first | (rw [if_pos c426]; exact y443.2) | (rw [if_neg c426]; exact y443.2)⟩⟩))) (flw1 (by rw [c1]; decide)) (by repeat' (first | assumption | exact FW.rf | refine FW.up ?_ (by unfold wS; omega) | (refine FW.tr ?_ (by assumption)))) (by (try simp (disch := decide) only [upI_eq, upI_a, upI_i, upR_eq, upR_a, upR_i]); try assumption) (by (try simp (disch := decide) only [upI_eq, upI_a, upI_i, upR_eq, upR_a, upR_i]); try assumption) (by simp (disch := decide) only [scX, upI_eq, upI_a, upI_i, upR_eq, upR_a, upR_i, upI_ro, upI_rw, up1_same, up1_eq, ht, E1, E2, E3, E4, E5, E6, E7])) | (exact st _ ((tsH_29s c1 (by dsimp only; omega)).trans (onw_p (by dsimp only; exact ⟨by omega, le0 y394.2.2 rfl, by omega⟩))) (by repeat' (first | assumption | exact FW.rf | refine FW.up ?_ (by unfold wS; omega) | (refine FW.tr ?_ (by assumption)))) (by (try simp (disch := decide) only [upI_eq, upI_a, upI_i, upR_eq, upR_a, upR_i]); try assumption) (by (try simp (disch := decide) only [upI_eq, upI_a, upI_i, upR_eq, upR_a, upR_i]); try assumption)) | (exact no _ ((tsH_29 c1).trans (onw_n (by intro h; dsimp only [itm] at h; first | omega | (rw [if_pos c426] at h; omega) | (rw [if_neg c426] at h; omega)))) (by repeat' (first | assumption | exact FW.rf | refine FW.up ?_ (by unfold wS; omega) | (refine FW.tr ?_ (by assumption)))) (by (try simp (disch := decide) only [upI_eq, upI_a, upI_i, upR_eq, upR_a, upR_i]); try assumption))
                    · skip
                      refine s255_446.mpr ?_
                      refine (s255_583).mpr ?_
                      first | (exfalso; omega) | (exact ok _ _ _ ((tsH_29n c1 (by dsimp only; intro h6; rw [h6] at y398; exact absurd y398.2.2 (by decide))).trans (onw_p (by dsimp only; exact ⟨by omega, le0 y394.2.2 rfl, Or.inr ⟨by omega, by unfold itm; first | (rw [if_pos c426]; exact y443.2) | (rw [if_neg c426]; exact y443.2)⟩⟩))) (flw1 (by rw [c1]; decide)) (by repeat' (first | assumption | exact FW.rf | refine FW.up ?_ (by unfold wS; omega) | (refine FW.tr ?_ (by assumption)))) (by (try simp (disch := decide) only [upI_eq, upI_a, upI_i, upR_eq, upR_a, upR_i]); try assumption) (by (try simp (disch := decide) only [upI_eq, upI_a, upI_i, upR_eq, upR_a, upR_i]); try assumption) (by simp (disch := decide) only [scX, upI_eq, upI_a, upI_i, upR_eq, upR_a, upR_i, upI_ro, upI_rw, up1_same, up1_eq, ht, E1, E2, E3, E4, E5, E6, E7])) | (exact st _ ((tsH_29s c1 (by dsimp only; omega)).trans (onw_p (by dsimp only; exact ⟨by omega, le0 y394.2.2 rfl, by omega⟩))) (by repeat' (first | assumption | exact FW.rf | refine FW.up ?_ (by unfold wS; omega) | (refine FW.tr ?_ (by assumption)))) (by (try simp (disch := decide) only [upI_eq, upI_a, upI_i, upR_eq, upR_a, upR_i]); try assumption) (by (try simp (disch := decide) only [upI_eq, upI_a, upI_i, upR_eq, upR_a, upR_i]); try assumption)) | (exact no _ ((tsH_29 c1).trans (onw_n (by intro h; dsimp only [itm] at h; first | omega | (rw [if_pos c426] at h; omega) | (rw [if_neg c426] at h; omega)))) (by repeat' (first | assumption | exact FW.rf | refine FW.up ?_ (by unfold wS; omega) | (refine FW.tr ?_ (by assumption)))) (by (try simp (disch := decide) only [upI_eq, upI_a, upI_i, upR_eq, upR_a, upR_i]); try assumption))
            · first
              | (exfalso; omega)
              | skip
                refine (s255_583).mpr ?_
                first | (exfalso; omega) | (exact ok _ _ _ ((tsH_29n c1 (by dsimp only; intro h6; rw [h6] at y398; exact absurd y398.2.2 (by decide))).trans (onw_p (by dsimp only; exact ⟨by omega, le0 y394.2.2 rfl, Or.inr ⟨by omega, by unfold itm; first | (rw [if_pos c426]; exact y443.2) | (rw [if_neg c426]; exact y443.2)⟩⟩))) (flw1 (by rw [c1]; decide)) (by repeat' (first | assumption | exact FW.rf | refine FW.up ?_ (by unfold wS; omega) | (refine FW.tr ?_ (by assumption)))) (by (try simp (disch := decide) only [upI_eq, upI_a, upI_i, upR_eq, upR_a, upR_i]); try assumption) (by (try simp (disch := decide) only [upI_eq, upI_a, upI_i, upR_eq, upR_a, upR_i]); try assumption) (by simp (disch := decide) only [scX, upI_eq, upI_a, upI_i, upR_eq, upR_a, upR_i, upI_ro, upI_rw, up1_same, up1_eq, ht, E1, E2, E3, E4, E5, E6, E7])) | (exact st _ ((tsH_29s c1 (by dsimp only; omega)).trans (onw_p (by dsimp only; exact ⟨by omega, le0 y394.2.2 rfl, by omega⟩))) (by repeat' (first | assumption | exact FW.rf | refine FW.up ?_ (by unfold wS; omega) | (refine FW.tr ?_ (by assumption)))) (by (try simp (disch := decide) only [upI_eq, upI_a, upI_i, upR_eq, upR_a, upR_i]); try assumption) (by (try simp (disch := decide) only [upI_eq, upI_a, upI_i, upR_eq, upR_a, upR_i]); try assumption)) | (exact no _ ((tsH_29 c1).trans (onw_n (by intro h; dsimp only [itm] at h; first | omega | (rw [if_pos c426] at h; omega) | (rw [if_neg c426] at h; omega)))) (by repeat' (first | assumption | exact FW.rf | refine FW.up ?_ (by unfold wS; omega) | (refine FW.tr ?_ (by assumption)))) (by (try simp (disch := decide) only [upI_eq, upI_a, upI_i, upR_eq, upR_a, upR_i]); try assumption))
  · skip
    refine s255_390.mpr (s255_392.mpr (s255_393.mpr ?_))
    refine (s255_394 (by omega) kM).mpr ?_
    refine m_popFor hA hR (by omega) (by (try simp (disch := decide) only [upI_eq, upI_a, upI_i, upR_eq, upR_a, upR_i]); first | assumption | rfl) (by omega) (by (try simp (disch := decide) only [upI_eq, upI_a, upI_i, upR_eq, upR_a, upR_i]); first | assumption | rfl) (by omega) (fun y394 => ?_) (fun hi394 t394 w394 z394 u394 v394 x394 => ?_)
    · skip
      try simp (disch := decide) only [upI_eq, upI_a, upI_i, upR_eq, upR_a, upR_i, E1, E4] at y394
      try simp (disch := decide) only [upI_eq, upI_a, upI_i, upR_eq, upR_a, upR_i, E1, E4] at x394
      refine s255_397.mpr ?_
      refine (s255_398 (by omega) kM).mpr ?_
      refine m_popRow hA hR (by omega) (by (try simp (disch := decide) only [upI_eq, upI_a, upI_i, upR_eq, upR_a, upR_i]); first | assumption | rfl) (by omega) (by (try simp (disch := decide) only [upI_eq, upI_a, upI_i, upR_eq, upR_a, upR_i]); first | assumption | rfl) (by omega) (fun y398 => ?_) (fun y398 => ?_) (fun q398 hi398 t398 w398 z398 s398 u398 v398 x398 => ?_)
      · skip
        try simp (disch := decide) only [upI_eq, upI_a, upI_i, upR_eq, upR_a, upR_i, E1, E4] at y398
        try simp (disch := decide) only [upI_eq, upI_a, upI_i, upR_eq, upR_a, upR_i, E1, E4] at x398
        refine s255_401.mpr (s255_403.mpr ?_)
        refine (s255_404 kM).mpr ?_
        try simp (disch := first | decide | assumption | omega) only [kon, knt_some, knt_none, Option.toList_some, Option.toList_none, List.cons_append, List.nil_append, upI_eq, upI_a, upI_i, upR_eq, upR_a, upR_i, h36, ht, E1, E2, E3, E4, E5, E6, E7, fAdd_id, fSub_id, fMul_id]
        refine s255_407.mpr (wif (fun c407 => ?_) (fun c407 => ?_))
        · first
          | (exfalso; omega)
          | skip
            refine (s255_583).mpr ?_
            first | (exfalso; omega) | (exact ok _ _ _ ((tsH_29n c1 (by dsimp only; intro h6; rw [h6] at y398; exact absurd y398.2.2 (by decide))).trans (onw_p (by dsimp only; exact ⟨by omega, le0 y394.2.2 rfl, Or.inr ⟨by omega, by unfold itm; first | (rw [if_pos c426]; exact y443.2) | (rw [if_neg c426]; exact y443.2)⟩⟩))) (flw1 (by rw [c1]; decide)) (by repeat' (first | assumption | exact FW.rf | refine FW.up ?_ (by unfold wS; omega) | (refine FW.tr ?_ (by assumption)))) (by (try simp (disch := decide) only [upI_eq, upI_a, upI_i, upR_eq, upR_a, upR_i]); try assumption) (by (try simp (disch := decide) only [upI_eq, upI_a, upI_i, upR_eq, upR_a, upR_i]); try assumption) (by simp (disch := decide) only [scX, upI_eq, upI_a, upI_i, upR_eq, upR_a, upR_i, upI_ro, upI_rw, up1_same, up1_eq, ht, E1, E2, E3, E4, E5, E6, E7])) | (exact st _ ((tsH_29s c1 (by dsimp only; omega)).trans (onw_p (by dsimp only; exact ⟨by omega, le0 y394.2.2 rfl, by omega⟩))) (by repeat' (first | assumption | exact FW.rf | refine FW.up ?_ (by unfold wS; omega) | (refine FW.tr ?_ (by assumption)))) (by (try simp (disch := decide) only [upI_eq, upI_a, upI_i, upR_eq, upR_a, upR_i]); try assumption) (by (try simp (disch := decide) only [upI_eq, upI_a, upI_i, upR_eq, upR_a, upR_i]); try assumption)) | (exact no _ ((tsH_29 c1).trans (onw_n (by intro h; dsimp only [itm] at h; first | omega | (rw [if_pos c426] at h; omega) | (rw [if_neg c426] at h; omega)))) (by repeat' (first | assumption | exact FW.rf | refine FW.up ?_ (by unfold wS; omega) | (refine FW.tr ?_ (by assumption)))) (by (try simp (disch := decide) only [upI_eq, upI_a, upI_i, upR_eq, upR_a, upR_i]); try assumption))
        · first
          | (exfalso; omega)
          | skip
            refine s255_410.mpr ?_
            refine (s255_411 kM).mpr ?_
            try simp (disch := first | decide | assumption | omega) only [kon, knt_some, knt_none, Option.toList_some, Option.toList_none, List.cons_append, List.nil_append, upI_eq, upI_a, upI_i, upR_eq, upR_a, upR_i, h36, ht, E1, E2, E3, E4, E5, E6, E7, fAdd_id, fSub_id, fMul_id]
            refine s255_414.mpr (wif (fun c414 => ?_) (fun c414 => ?_))
            · first
              | (exfalso; omega)
              | skip
                refine s255_417.mpr (s255_418.mpr (s255_420.mpr ?_))
                refine (s255_422 (by omega)).mpr ?_
                refine m_kind.mpr ?_
                refine s255_425.mpr ?_
                refine s255_426.mpr (wif (fun c426 => ?_) (fun c426 => ?_))
                · first
                  | (exfalso; omega)
                  | skip
                    refine s255_429.mpr (s255_430.mpr ?_)
                    refine (s255_443 (by omega) kM).mpr ?_
                    refine m_fits hA hR (by omega) (by (try simp (disch := decide) only [upI_eq, upI_a, upI_i, upR_eq, upR_a, upR_i]); first | assumption | rfl) (by omega) (fun y443 => ?_) (fun y443 => ?_)
                    · skip
                      refine s255_446.mpr ?_
                      refine (s255_583).mpr ?_
                      first | (exfalso; omega) | (exact ok _ _ _ ((tsH_29n c1 (by dsimp only; intro h6; rw [h6] at y398; exact absurd y398.2.2 (by decide))).trans (onw_p (by dsimp only; exact ⟨by omega, le0 y394.2.2 rfl, Or.inr ⟨by omega, by unfold itm; first | (rw [if_pos c426]; exact y443.2) | (rw [if_neg c426]; exact y443.2)⟩⟩))) (flw1 (by rw [c1]; decide)) (by repeat' (first | assumption | exact FW.rf | refine FW.up ?_ (by unfold wS; omega) | (refine FW.tr ?_ (by assumption)))) (by (try simp (disch := decide) only [upI_eq, upI_a, upI_i, upR_eq, upR_a, upR_i]); try assumption) (by (try simp (disch := decide) only [upI_eq, upI_a, upI_i, upR_eq, upR_a, upR_i]); try assumption) (by simp (disch := decide) only [scX, upI_eq, upI_a, upI_i, upR_eq, upR_a, upR_i, upI_ro, upI_rw, up1_same, up1_eq, ht, E1, E2, E3, E4, E5, E6, E7])) | (exact st _ ((tsH_29s c1 (by dsimp only; omega)).trans (onw_p (by dsimp only; exact ⟨by omega, le0 y394.2.2 rfl, by omega⟩))) (by repeat' (first | assumption | exact FW.rf | refine FW.up ?_ (by unfold wS; omega) | (refine FW.tr ?_ (by assumption)))) (by (try simp (disch := decide) only [upI_eq, upI_a, upI_i, upR_eq, upR_a, upR_i]); try assumption) (by (try simp (disch := decide) only [upI_eq, upI_a, upI_i, upR_eq, upR_a, upR_i]); try assumption)) | (exact no _ ((tsH_29 c1).trans (onw_n (by intro h; dsimp only [itm] at h; first | omega | (rw [if_pos c426] at h; omega) | (rw [if_neg c426] at h; omega)))) (by repeat' (first | assumption | exact FW.rf | refine FW.up ?_ (by unfold wS; omega) | (refine FW.tr ?_ (by assumption)))) (by (try simp (disch := decide) only [upI_eq, upI_a, upI_i, upR_eq, upR_a, upR_i]); try assumption))
                    · skip
                      refine s255_446.mpr ?_
                      refine (s255_583).mpr ?_
                      first | (exfalso; omega) | (exact ok _ _ _ ((tsH_29n c1 (by dsimp only; intro h6; rw [h6] at y398; exact absurd y398.2.2 (by decide))).trans (onw_p (by dsimp only; exact ⟨by omega, le0 y394.2.2 rfl, Or.inr ⟨by omega, by unfold itm; first | (rw [if_pos c426]; exact y443.2) | (rw [if_neg c426]; exact y443.2)⟩⟩))) (flw1 (by rw [c1]; decide)) (by repeat' (first | assumption | exact FW.rf | refine FW.up ?_ (by unfold wS; omega) | (refine FW.tr ?_ (by assumption)))) (by (try simp (disch := decide) only [upI_eq, upI_a, upI_i, upR_eq, upR_a, upR_i]); try assumption) (by (try simp (disch := decide) only [upI_eq, upI_a, upI_i, upR_eq, upR_a, upR_i]); try assumption) (by simp (disch := decide) only [scX, upI_eq, upI_a, upI_i, upR_eq, upR_a, upR_i, upI_ro, upI_rw, up1_same, up1_eq, ht, E1, E2, E3, E4, E5, E6, E7])) | (exact st _ ((tsH_29s c1 (by dsimp only; omega)).trans (onw_p (by dsimp only; exact ⟨by omega, le0 y394.2.2 rfl, by omega⟩))) (by repeat' (first | assumption | exact FW.rf | refine FW.up ?_ (by unfold wS; omega) | (refine FW.tr ?_ (by assumption)))) (by (try simp (disch := decide) only [upI_eq, upI_a, upI_i, upR_eq, upR_a, upR_i]); try assumption) (by (try simp (disch := decide) only [upI_eq, upI_a, upI_i, upR_eq, upR_a, upR_i]); try assumption)) | (exact no _ ((tsH_29 c1).trans (onw_n (by intro h; dsimp only [itm] at h; first | omega | (rw [if_pos c426] at h; omega) | (rw [if_neg c426] at h; omega)))) (by repeat' (first | assumption | exact FW.rf | refine FW.up ?_ (by unfold wS; omega) | (refine FW.tr ?_ (by assumption)))) (by (try simp (disch := decide) only [upI_eq, upI_a, upI_i, upR_eq, upR_a, upR_i]); try assumption))
                · first
                  | (exfalso; omega)
                  | skip
                    refine s255_433.mpr (s255_434.mpr (s255_436.mpr ?_))
                    refine (s255_438 (by omega)).mpr ?_
                    refine (m_which (vT_rng (hv75 _ (by omega) (by omega)))).mpr ?_
                    refine s255_441.mpr (s255_442.mpr ?_)
                    try simp (disch := first | decide | assumption | omega) only [kon, knt_some, knt_none, Option.toList_some, Option.toList_none, List.cons_append, List.nil_append, upI_eq, upI_a, upI_i, upR_eq, upR_a, upR_i, h36, ht, E1, E2, E3, E4, E5, E6, E7, fAdd_id, fSub_id, fMul_id]
                    refine (s255_443 (by omega) kM).mpr ?_
                    refine m_fits hA hR (by omega) (by (try simp (disch := decide) only [upI_eq, upI_a, upI_i, upR_eq, upR_a, upR_i]); first | assumption | rfl) (by omega) (fun y443 => ?_) (fun y443 => ?_)
                    · skip
                      refine s255_446.mpr ?_
                      refine (s255_583).mpr ?_
                      first | (exfalso; omega) | (exact ok _ _ _ ((tsH_29n c1 (by dsimp only; intro h6; rw [h6] at y398; exact absurd y398.2.2 (by decide))).trans (onw_p (by dsimp only; exact ⟨by omega, le0 y394.2.2 rfl, Or.inr ⟨by omega, by unfold itm; first | (rw [if_pos c426]; exact y443.2) | (rw [if_neg c426]; exact y443.2)⟩⟩))) (flw1 (by rw [c1]; decide)) (by repeat' (first | assumption | exact FW.rf | refine FW.up ?_ (by unfold wS; omega) | (refine FW.tr ?_ (by assumption)))) (by (try simp (disch := decide) only [upI_eq, upI_a, upI_i, upR_eq, upR_a, upR_i]); try assumption) (by (try simp (disch := decide) only [upI_eq, upI_a, upI_i, upR_eq, upR_a, upR_i]); try assumption) (by simp (disch := decide) only [scX, upI_eq, upI_a, upI_i, upR_eq, upR_a, upR_i, upI_ro, upI_rw, up1_same, up1_eq, ht, E1, E2, E3, E4, E5, E6, E7])) | (exact st _ ((tsH_29s c1 (by dsimp only; omega)).trans (onw_p (by dsimp only; exact ⟨by omega, le0 y394.2.2 rfl, by omega⟩))) (by repeat' (first | assumption | exact FW.rf | refine FW.up ?_ (by unfold wS; omega) | (refine FW.tr ?_ (by assumption)))) (by (try simp (disch := decide) only [upI_eq, upI_a, upI_i, upR_eq, upR_a, upR_i]); try assumption) (by (try simp (disch := decide) only [upI_eq, upI_a, upI_i, upR_eq, upR_a, upR_i]); try assumption)) | (exact no _ ((tsH_29 c1).trans (onw_n (by intro h; dsimp only [itm] at h; first | omega | (rw [if_pos c426] at h; omega) | (rw [if_neg c426] at h; omega)))) (by repeat' (first | assumption | exact FW.rf | refine FW.up ?_ (by unfold wS; omega) | (refine FW.tr ?_ (by assumption)))) (by (try simp (disch := decide) only [upI_eq, upI_a, upI_i, upR_eq, upR_a, upR_i]); try assumption))
                    · skip
                      refine s255_446.mpr ?_
                      refine (s255_583).mpr ?_
                      first | (exfalso; omega) | (exact ok _ _ _ ((tsH_29n c1 (by dsimp only; intro h6; rw [h6] at y398; exact absurd y398.2.2 (by decide))).trans (onw_p (by dsimp only; exact ⟨by omega, le0 y394.2.2 rfl, Or.inr ⟨by omega, by unfold itm; first | (rw [if_pos c426]; exact y443.2) | (rw [if_neg c426]; exact y443.2)⟩⟩))) (flw1 (by rw [c1]; decide)) (by repeat' (first | assumption | exact FW.rf | refine FW.up ?_ (by unfold wS; omega) | (refine FW.tr ?_ (by assumption)))) (by (try simp (disch := decide) only [upI_eq, upI_a, upI_i, upR_eq, upR_a, upR_i]); try assumption) (by (try simp (disch := decide) only [upI_eq, upI_a, upI_i, upR_eq, upR_a, upR_i]); try assumption) (by simp (disch := decide) only [scX, upI_eq, upI_a, upI_i, upR_eq, upR_a, upR_i, upI_ro, upI_rw, up1_same, up1_eq, ht, E1, E2, E3, E4, E5, E6, E7])) | (exact st _ ((tsH_29s c1 (by dsimp only; omega)).trans (onw_p (by dsimp only; exact ⟨by omega, le0 y394.2.2 rfl, by omega⟩))) (by repeat' (first | assumption | exact FW.rf | refine FW.up ?_ (by unfold wS; omega) | (refine FW.tr ?_ (by assumption)))) (by (try simp (disch := decide) only [upI_eq, upI_a, upI_i, upR_eq, upR_a, upR_i]); try assumption) (by (try simp (disch := decide) only [upI_eq, upI_a, upI_i, upR_eq, upR_a, upR_i]); try assumption)) | (exact no _ ((tsH_29 c1).trans (onw_n (by intro h; dsimp only [itm] at h; first | omega | (rw [if_pos c426] at h; omega) | (rw [if_neg c426] at h; omega)))) (by repeat' (first | assumption | exact FW.rf | refine FW.up ?_ (by unfold wS; omega) | (refine FW.tr ?_ (by assumption)))) (by (try simp (disch := decide) only [upI_eq, upI_a, upI_i, upR_eq, upR_a, upR_i]); try assumption))
            · first
              | (exfalso; omega)
              | skip
                refine (s255_583).mpr ?_
                first | (exfalso; omega) | (exact ok _ _ _ ((tsH_29n c1 (by dsimp only; intro h6; rw [h6] at y398; exact absurd y398.2.2 (by decide))).trans (onw_p (by dsimp only; exact ⟨by omega, le0 y394.2.2 rfl, Or.inr ⟨by omega, by unfold itm; first | (rw [if_pos c426]; exact y443.2) | (rw [if_neg c426]; exact y443.2)⟩⟩))) (flw1 (by rw [c1]; decide)) (by repeat' (first | assumption | exact FW.rf | refine FW.up ?_ (by unfold wS; omega) | (refine FW.tr ?_ (by assumption)))) (by (try simp (disch := decide) only [upI_eq, upI_a, upI_i, upR_eq, upR_a, upR_i]); try assumption) (by (try simp (disch := decide) only [upI_eq, upI_a, upI_i, upR_eq, upR_a, upR_i]); try assumption) (by simp (disch := decide) only [scX, upI_eq, upI_a, upI_i, upR_eq, upR_a, upR_i, upI_ro, upI_rw, up1_same, up1_eq, ht, E1, E2, E3, E4, E5, E6, E7])) | (exact st _ ((tsH_29s c1 (by dsimp only; omega)).trans (onw_p (by dsimp only; exact ⟨by omega, le0 y394.2.2 rfl, by omega⟩))) (by repeat' (first | assumption | exact FW.rf | refine FW.up ?_ (by unfold wS; omega) | (refine FW.tr ?_ (by assumption)))) (by (try simp (disch := decide) only [upI_eq, upI_a, upI_i, upR_eq, upR_a, upR_i]); try assumption) (by (try simp (disch := decide) only [upI_eq, upI_a, upI_i, upR_eq, upR_a, upR_i]); try assumption)) | (exact no _ ((tsH_29 c1).trans (onw_n (by intro h; dsimp only [itm] at h; first | omega | (rw [if_pos c426] at h; omega) | (rw [if_neg c426] at h; omega)))) (by repeat' (first | assumption | exact FW.rf | refine FW.up ?_ (by unfold wS; omega) | (refine FW.tr ?_ (by assumption)))) (by (try simp (disch := decide) only [upI_eq, upI_a, upI_i, upR_eq, upR_a, upR_i]); try assumption))
      · skip
        try simp (disch := decide) only [upI_eq, upI_a, upI_i, upR_eq, upR_a, upR_i, E1, E4] at y398
        try simp (disch := decide) only [upI_eq, upI_a, upI_i, upR_eq, upR_a, upR_i, E1, E4] at x398
        refine s255_401.mpr (s255_403.mpr ?_)
        refine (s255_404 kM).mpr ?_
        try simp (disch := first | decide | assumption | omega) only [kon, knt_some, knt_none, Option.toList_some, Option.toList_none, List.cons_append, List.nil_append, upI_eq, upI_a, upI_i, upR_eq, upR_a, upR_i, h36, ht, E1, E2, E3, E4, E5, E6, E7, fAdd_id, fSub_id, fMul_id]
        refine s255_407.mpr (wif (fun c407 => ?_) (fun c407 => ?_))
        · first
          | (exfalso; omega)
          | skip
            refine (s255_583).mpr ?_
            first | (exfalso; omega) | (exact ok _ _ _ ((tsH_29n c1 (by dsimp only; intro h6; rw [h6] at y398; exact absurd y398.2.2 (by decide))).trans (onw_p (by dsimp only; exact ⟨by omega, le0 y394.2.2 rfl, Or.inr ⟨by omega, by unfold itm; first | (rw [if_pos c426]; exact y443.2) | (rw [if_neg c426]; exact y443.2)⟩⟩))) (flw1 (by rw [c1]; decide)) (by repeat' (first | assumption | exact FW.rf | refine FW.up ?_ (by unfold wS; omega) | (refine FW.tr ?_ (by assumption)))) (by (try simp (disch := decide) only [upI_eq, upI_a, upI_i, upR_eq, upR_a, upR_i]); try assumption) (by (try simp (disch := decide) only [upI_eq, upI_a, upI_i, upR_eq, upR_a, upR_i]); try assumption) (by simp (disch := decide) only [scX, upI_eq, upI_a, upI_i, upR_eq, upR_a, upR_i, upI_ro, upI_rw, up1_same, up1_eq, ht, E1, E2, E3, E4, E5, E6, E7])) | (exact st _ ((tsH_29s c1 (by dsimp only; omega)).trans (onw_p (by dsimp only; exact ⟨by omega, le0 y394.2.2 rfl, by omega⟩))) (by repeat' (first | assumption | exact FW.rf | refine FW.up ?_ (by unfold wS; omega) | (refine FW.tr ?_ (by assumption)))) (by (try simp (disch := decide) only [upI_eq, upI_a, upI_i, upR_eq, upR_a, upR_i]); try assumption) (by (try simp (disch := decide) only [upI_eq, upI_a, upI_i, upR_eq, upR_a, upR_i]); try assumption)) | (exact no _ ((tsH_29 c1).trans (onw_n (by intro h; dsimp only [itm] at h; first | omega | (rw [if_pos c426] at h; omega) | (rw [if_neg c426] at h; omega)))) (by repeat' (first | assumption | exact FW.rf | refine FW.up ?_ (by unfold wS; omega) | (refine FW.tr ?_ (by assumption)))) (by (try simp (disch := decide) only [upI_eq, upI_a, upI_i, upR_eq, upR_a, upR_i]); try assumption))
        · first
          | (exfalso; omega)
          | skip
            refine s255_410.mpr ?_
            refine (s255_411 kM).mpr ?_
            try simp (disch := first | decide | assumption | omega) only [kon, knt_some, knt_none, Option.toList_some, Option.toList_none, List.cons_append, List.nil_append, upI_eq, upI_a, upI_i, upR_eq, upR_a, upR_i, h36, ht, E1, E2, E3, E4, E5, E6, E7, fAdd_id, fSub_id, fMul_id]
            refine s255_414.mpr (wif (fun c414 => ?_) (fun c414 => ?_))
            · first
              | (exfalso; omega)
              | skip
                refine s255_417.mpr (s255_418.mpr (s255_420.mpr ?_))
                refine (s255_422 (by omega)).mpr ?_
                refine m_kind.mpr ?_
                refine s255_425.mpr ?_
                refine s255_426.mpr (wif (fun c426 => ?_) (fun c426 => ?_))
                · first
                  | (exfalso; omega)
                  | skip
                    refine s255_429.mpr (s255_430.mpr ?_)
                    refine (s255_443 (by omega) kM).mpr ?_
                    refine m_fits hA hR (by omega) (by (try simp (disch := decide) only [upI_eq, upI_a, upI_i, upR_eq, upR_a, upR_i]); first | assumption | rfl) (by omega) (fun y443 => ?_) (fun y443 => ?_)
                    · skip
                      refine s255_446.mpr ?_
                      refine (s255_583).mpr ?_
                      first | (exfalso; omega) | (exact ok _ _ _ ((tsH_29n c1 (by dsimp only; intro h6; rw [h6] at y398; exact absurd y398.2.2 (by decide))).trans (onw_p (by dsimp only; exact ⟨by omega, le0 y394.2.2 rfl, Or.inr ⟨by omega, by unfold itm; first | (rw [if_pos c426]; exact y443.2) | (rw [if_neg c426]; exact y443.2)⟩⟩))) (flw1 (by rw [c1]; decide)) (by repeat' (first | assumption | exact FW.rf | refine FW.up ?_ (by unfold wS; omega) | (refine FW.tr ?_ (by assumption)))) (by (try simp (disch := decide) only [upI_eq, upI_a, upI_i, upR_eq, upR_a, upR_i]); try assumption) (by (try simp (disch := decide) only [upI_eq, upI_a, upI_i, upR_eq, upR_a, upR_i]); try assumption) (by simp (disch := decide) only [scX, upI_eq, upI_a, upI_i, upR_eq, upR_a, upR_i, upI_ro, upI_rw, up1_same, up1_eq, ht, E1, E2, E3, E4, E5, E6, E7])) | (exact st _ ((tsH_29s c1 (by dsimp only; omega)).trans (onw_p (by dsimp only; exact ⟨by omega, le0 y394.2.2 rfl, by omega⟩))) (by repeat' (first | assumption | exact FW.rf | refine FW.up ?_ (by unfold wS; omega) | (refine FW.tr ?_ (by assumption)))) (by (try simp (disch := decide) only [upI_eq, upI_a, upI_i, upR_eq, upR_a, upR_i]); try assumption) (by (try simp (disch := decide) only [upI_eq, upI_a, upI_i, upR_eq, upR_a, upR_i]); try assumption)) | (exact no _ ((tsH_29 c1).trans (onw_n (by intro h; dsimp only [itm] at h; first | omega | (rw [if_pos c426] at h; omega) | (rw [if_neg c426] at h; omega)))) (by repeat' (first | assumption | exact FW.rf | refine FW.up ?_ (by unfold wS; omega) | (refine FW.tr ?_ (by assumption)))) (by (try simp (disch := decide) only [upI_eq, upI_a, upI_i, upR_eq, upR_a, upR_i]); try assumption))
                    · skip
                      refine s255_446.mpr ?_
                      refine (s255_583).mpr ?_
                      first | (exfalso; omega) | (exact ok _ _ _ ((tsH_29n c1 (by dsimp only; intro h6; rw [h6] at y398; exact absurd y398.2.2 (by decide))).trans (onw_p (by dsimp only; exact ⟨by omega, le0 y394.2.2 rfl, Or.inr ⟨by omega, by unfold itm; first | (rw [if_pos c426]; exact y443.2) | (rw [if_neg c426]; exact y443.2)⟩⟩))) (flw1 (by rw [c1]; decide)) (by repeat' (first | assumption | exact FW.rf | refine FW.up ?_ (by unfold wS; omega) | (refine FW.tr ?_ (by assumption)))) (by (try simp (disch := decide) only [upI_eq, upI_a, upI_i, upR_eq, upR_a, upR_i]); try assumption) (by (try simp (disch := decide) only [upI_eq, upI_a, upI_i, upR_eq, upR_a, upR_i]); try assumption) (by simp (disch := decide) only [scX, upI_eq, upI_a, upI_i, upR_eq, upR_a, upR_i, upI_ro, upI_rw, up1_same, up1_eq, ht, E1, E2, E3, E4, E5, E6, E7])) | (exact st _ ((tsH_29s c1 (by dsimp only; omega)).trans (onw_p (by dsimp only; exact ⟨by omega, le0 y394.2.2 rfl, by omega⟩))) (by repeat' (first | assumption | exact FW.rf | refine FW.up ?_ (by unfold wS; omega) | (refine FW.tr ?_ (by assumption)))) (by (try simp (disch := decide) only [upI_eq, upI_a, upI_i, upR_eq, upR_a, upR_i]); try assumption) (by (try simp (disch := decide) only [upI_eq, upI_a, upI_i, upR_eq, upR_a, upR_i]); try assumption)) | (exact no _ ((tsH_29 c1).trans (onw_n (by intro h; dsimp only [itm] at h; first | omega | (rw [if_pos c426] at h; omega) | (rw [if_neg c426] at h; omega)))) (by repeat' (first | assumption | exact FW.rf | refine FW.up ?_ (by unfold wS; omega) | (refine FW.tr ?_ (by assumption)))) (by (try simp (disch := decide) only [upI_eq, upI_a, upI_i, upR_eq, upR_a, upR_i]); try assumption))
                · first
                  | (exfalso; omega)
                  | skip
                    refine s255_433.mpr (s255_434.mpr (s255_436.mpr ?_))
                    refine (s255_438 (by omega)).mpr ?_
                    refine (m_which (vT_rng (hv75 _ (by omega) (by omega)))).mpr ?_
                    refine s255_441.mpr (s255_442.mpr ?_)
                    try simp (disch := first | decide | assumption | omega) only [kon, knt_some, knt_none, Option.toList_some, Option.toList_none, List.cons_append, List.nil_append, upI_eq, upI_a, upI_i, upR_eq, upR_a, upR_i, h36, ht, E1, E2, E3, E4, E5, E6, E7, fAdd_id, fSub_id, fMul_id]
                    refine (s255_443 (by omega) kM).mpr ?_
                    refine m_fits hA hR (by omega) (by (try simp (disch := decide) only [upI_eq, upI_a, upI_i, upR_eq, upR_a, upR_i]); first | assumption | rfl) (by omega) (fun y443 => ?_) (fun y443 => ?_)
                    · skip
                      refine s255_446.mpr ?_
                      refine (s255_583).mpr ?_
                      first | (exfalso; omega) | (exact ok _ _ _ ((tsH_29n c1 (by dsimp only; intro h6; rw [h6] at y398; exact absurd y398.2.2 (by decide))).trans (onw_p (by dsimp only; exact ⟨by omega, le0 y394.2.2 rfl, Or.inr ⟨by omega, by unfold itm; first | (rw [if_pos c426]; exact y443.2) | (rw [if_neg c426]; exact y443.2)⟩⟩))) (flw1 (by rw [c1]; decide)) (by repeat' (first | assumption | exact FW.rf | refine FW.up ?_ (by unfold wS; omega) | (refine FW.tr ?_ (by assumption)))) (by (try simp (disch := decide) only [upI_eq, upI_a, upI_i, upR_eq, upR_a, upR_i]); try assumption) (by (try simp (disch := decide) only [upI_eq, upI_a, upI_i, upR_eq, upR_a, upR_i]); try assumption) (by simp (disch := decide) only [scX, upI_eq, upI_a, upI_i, upR_eq, upR_a, upR_i, upI_ro, upI_rw, up1_same, up1_eq, ht, E1, E2, E3, E4, E5, E6, E7])) | (exact st _ ((tsH_29s c1 (by dsimp only; omega)).trans (onw_p (by dsimp only; exact ⟨by omega, le0 y394.2.2 rfl, by omega⟩))) (by repeat' (first | assumption | exact FW.rf | refine FW.up ?_ (by unfold wS; omega) | (refine FW.tr ?_ (by assumption)))) (by (try simp (disch := decide) only [upI_eq, upI_a, upI_i, upR_eq, upR_a, upR_i]); try assumption) (by (try simp (disch := decide) only [upI_eq, upI_a, upI_i, upR_eq, upR_a, upR_i]); try assumption)) | (exact no _ ((tsH_29 c1).trans (onw_n (by intro h; dsimp only [itm] at h; first | omega | (rw [if_pos c426] at h; omega) | (rw [if_neg c426] at h; omega)))) (by repeat' (first | assumption | exact FW.rf | refine FW.up ?_ (by unfold wS; omega) | (refine FW.tr ?_ (by assumption)))) (by (try simp (disch := decide) only [upI_eq, upI_a, upI_i, upR_eq, upR_a, upR_i]); try assumption))
                    · skip
                      refine s255_446.mpr ?_
                      refine (s255_583).mpr ?_
                      first | (exfalso; omega) | (exact ok _ _ _ ((tsH_29n c1 (by dsimp only; intro h6; rw [h6] at y398; exact absurd y398.2.2 (by decide))).trans (onw_p (by dsimp only; exact ⟨by omega, le0 y394.2.2 rfl, Or.inr ⟨by omega, by unfold itm; first | (rw [if_pos c426]; exact y443.2) | (rw [if_neg c426]; exact y443.2)⟩⟩))) (flw1 (by rw [c1]; decide)) (by repeat' (first | assumption | exact FW.rf | refine FW.up ?_ (by unfold wS; omega) | (refine FW.tr ?_ (by assumption)))) (by (try simp (disch := decide) only [upI_eq, upI_a, upI_i, upR_eq, upR_a, upR_i]); try assumption) (by (try simp (disch := decide) only [upI_eq, upI_a, upI_i, upR_eq, upR_a, upR_i]); try assumption) (by simp (disch := decide) only [scX, upI_eq, upI_a, upI_i, upR_eq, upR_a, upR_i, upI_ro, upI_rw, up1_same, up1_eq, ht, E1, E2, E3, E4, E5, E6, E7])) | (exact st _ ((tsH_29s c1 (by dsimp only; omega)).trans (onw_p (by dsimp only; exact ⟨by omega, le0 y394.2.2 rfl, by omega⟩))) (by repeat' (first | assumption | exact FW.rf | refine FW.up ?_ (by unfold wS; omega) | (refine FW.tr ?_ (by assumption)))) (by (try simp (disch := decide) only [upI_eq, upI_a, upI_i, upR_eq, upR_a, upR_i]); try assumption) (by (try simp (disch := decide) only [upI_eq, upI_a, upI_i, upR_eq, upR_a, upR_i]); try assumption)) | (exact no _ ((tsH_29 c1).trans (onw_n (by intro h; dsimp only [itm] at h; first | omega | (rw [if_pos c426] at h; omega) | (rw [if_neg c426] at h; omega)))) (by repeat' (first | assumption | exact FW.rf | refine FW.up ?_ (by unfold wS; omega) | (refine FW.tr ?_ (by assumption)))) (by (try simp (disch := decide) only [upI_eq, upI_a, upI_i, upR_eq, upR_a, upR_i]); try assumption))
            · first
              | (exfalso; omega)
              | skip
                refine (s255_583).mpr ?_
                first | (exfalso; omega) | (exact ok _ _ _ ((tsH_29n c1 (by dsimp only; intro h6; rw [h6] at y398; exact absurd y398.2.2 (by decide))).trans (onw_p (by dsimp only; exact ⟨by omega, le0 y394.2.2 rfl, Or.inr ⟨by omega, by unfold itm; first | (rw [if_pos c426]; exact y443.2) | (rw [if_neg c426]; exact y443.2)⟩⟩))) (flw1 (by rw [c1]; decide)) (by repeat' (first | assumption | exact FW.rf | refine FW.up ?_ (by unfold wS; omega) | (refine FW.tr ?_ (by assumption)))) (by (try simp (disch := decide) only [upI_eq, upI_a, upI_i, upR_eq, upR_a, upR_i]); try assumption) (by (try simp (disch := decide) only [upI_eq, upI_a, upI_i, upR_eq, upR_a, upR_i]); try assumption) (by simp (disch := decide) only [scX, upI_eq, upI_a, upI_i, upR_eq, upR_a, upR_i, upI_ro, upI_rw, up1_same, up1_eq, ht, E1, E2, E3, E4, E5, E6, E7])) | (exact st _ ((tsH_29s c1 (by dsimp only; omega)).trans (onw_p (by dsimp only; exact ⟨by omega, le0 y394.2.2 rfl, by omega⟩))) (by repeat' (first | assumption | exact FW.rf | refine FW.up ?_ (by unfold wS; omega) | (refine FW.tr ?_ (by assumption)))) (by (try simp (disch := decide) only [upI_eq, upI_a, upI_i, upR_eq, upR_a, upR_i]); try assumption) (by (try simp (disch := decide) only [upI_eq, upI_a, upI_i, upR_eq, upR_a, upR_i]); try assumption)) | (exact no _ ((tsH_29 c1).trans (onw_n (by intro h; dsimp only [itm] at h; first | omega | (rw [if_pos c426] at h; omega) | (rw [if_neg c426] at h; omega)))) (by repeat' (first | assumption | exact FW.rf | refine FW.up ?_ (by unfold wS; omega) | (refine FW.tr ?_ (by assumption)))) (by (try simp (disch := decide) only [upI_eq, upI_a, upI_i, upR_eq, upR_a, upR_i]); try assumption))
      · skip
        try simp (disch := decide) only [upI_eq, upI_a, upI_i, upR_eq, upR_a, upR_i, E1, E4] at y398
        try simp (disch := decide) only [upI_eq, upI_a, upI_i, upR_eq, upR_a, upR_i, E1, E4] at x398
        refine s255_401.mpr (s255_403.mpr ?_)
        refine (s255_404 kM).mpr ?_
        try simp (disch := first | decide | assumption | omega) only [kon, knt_some, knt_none, Option.toList_some, Option.toList_none, List.cons_append, List.nil_append, upI_eq, upI_a, upI_i, upR_eq, upR_a, upR_i, h36, ht, E1, E2, E3, E4, E5, E6, E7, fAdd_id, fSub_id, fMul_id]
        refine s255_407.mpr (wif (fun c407 => ?_) (fun c407 => ?_))
        · first
          | (exfalso; omega)
          | skip
            refine (s255_583).mpr ?_
            first | (exfalso; omega) | (exact ok _ _ _ ((tsH_29n c1 (by dsimp only; intro h6; rw [h6] at y398; exact absurd y398.2.2 (by decide))).trans (onw_p (by dsimp only; exact ⟨by omega, le0 y394.2.2 rfl, Or.inr ⟨by omega, by unfold itm; first | (rw [if_pos c426]; exact y443.2) | (rw [if_neg c426]; exact y443.2)⟩⟩))) (flw1 (by rw [c1]; decide)) (by repeat' (first | assumption | exact FW.rf | refine FW.up ?_ (by unfold wS; omega) | (refine FW.tr ?_ (by assumption)))) (by (try simp (disch := decide) only [upI_eq, upI_a, upI_i, upR_eq, upR_a, upR_i]); try assumption) (by (try simp (disch := decide) only [upI_eq, upI_a, upI_i, upR_eq, upR_a, upR_i]); try assumption) (by simp (disch := decide) only [scX, upI_eq, upI_a, upI_i, upR_eq, upR_a, upR_i, upI_ro, upI_rw, up1_same, up1_eq, ht, E1, E2, E3, E4, E5, E6, E7])) | (exact st _ ((tsH_29s c1 (by dsimp only; omega)).trans (onw_p (by dsimp only; exact ⟨by omega, le0 y394.2.2 rfl, by omega⟩))) (by repeat' (first | assumption | exact FW.rf | refine FW.up ?_ (by unfold wS; omega) | (refine FW.tr ?_ (by assumption)))) (by (try simp (disch := decide) only [upI_eq, upI_a, upI_i, upR_eq, upR_a, upR_i]); try assumption) (by (try simp (disch := decide) only [upI_eq, upI_a, upI_i, upR_eq, upR_a, upR_i]); try assumption)) | (exact no _ ((tsH_29 c1).trans (onw_n (by intro h; dsimp only [itm] at h; first | omega | (rw [if_pos c426] at h; omega) | (rw [if_neg c426] at h; omega)))) (by repeat' (first | assumption | exact FW.rf | refine FW.up ?_ (by unfold wS; omega) | (refine FW.tr ?_ (by assumption)))) (by (try simp (disch := decide) only [upI_eq, upI_a, upI_i, upR_eq, upR_a, upR_i]); try assumption))
        · first
          | (exfalso; omega)
          | skip
            refine s255_410.mpr ?_
            refine (s255_411 kM).mpr ?_
            try simp (disch := first | decide | assumption | omega) only [kon, knt_some, knt_none, Option.toList_some, Option.toList_none, List.cons_append, List.nil_append, upI_eq, upI_a, upI_i, upR_eq, upR_a, upR_i, h36, ht, E1, E2, E3, E4, E5, E6, E7, fAdd_id, fSub_id, fMul_id]
            refine s255_414.mpr (wif (fun c414 => ?_) (fun c414 => ?_))
            · first
              | (exfalso; omega)
              | skip
                refine s255_417.mpr (s255_418.mpr (s255_420.mpr ?_))
                refine (s255_422 (by omega)).mpr ?_
                refine m_kind.mpr ?_
                refine s255_425.mpr ?_
                refine s255_426.mpr (wif (fun c426 => ?_) (fun c426 => ?_))
                · first
                  | (exfalso; omega)
                  | skip
                    refine s255_429.mpr (s255_430.mpr ?_)
                    refine (s255_443 (by omega) kM).mpr ?_
                    refine m_fits hA hR (by omega) (by (try simp (disch := decide) only [upI_eq, upI_a, upI_i, upR_eq, upR_a, upR_i]); first | assumption | rfl) (by omega) (fun y443 => ?_) (fun y443 => ?_)
                    · skip
                      refine s255_446.mpr ?_
                      refine (s255_583).mpr ?_
                      first | (exfalso; omega) | (exact ok _ _ _ ((tsH_29n c1 (by dsimp only; intro h6; rw [h6] at y398; exact absurd y398.2.2 (by decide))).trans (onw_p (by dsimp only; exact ⟨by omega, le0 y394.2.2 rfl, Or.inr ⟨by omega, by unfold itm; first | (rw [if_pos c426]; exact y443.2) | (rw [if_neg c426]; exact y443.2)⟩⟩))) (flw1 (by rw [c1]; decide)) (by repeat' (first | assumption | exact FW.rf | refine FW.up ?_ (by unfold wS; omega) | (refine FW.tr ?_ (by assumption)))) (by (try simp (disch := decide) only [upI_eq, upI_a, upI_i, upR_eq, upR_a, upR_i]); try assumption) (by (try simp (disch := decide) only [upI_eq, upI_a, upI_i, upR_eq, upR_a, upR_i]); try assumption) (by simp (disch := decide) only [scX, upI_eq, upI_a, upI_i, upR_eq, upR_a, upR_i, upI_ro, upI_rw, up1_same, up1_eq, ht, E1, E2, E3, E4, E5, E6, E7])) | (exact st _ ((tsH_29s c1 (by dsimp only; omega)).trans (onw_p (by dsimp only; exact ⟨by omega, le0 y394.2.2 rfl, by omega⟩))) (by repeat' (first | assumption | exact FW.rf | refine FW.up ?_ (by unfold wS; omega) | (refine FW.tr ?_ (by assumption)))) (by (try simp (disch := decide) only [upI_eq, upI_a, upI_i, upR_eq, upR_a, upR_i]); try assumption) (by (try simp (disch := decide) only [upI_eq, upI_a, upI_i, upR_eq, upR_a, upR_i]); try assumption)) | (exact no _ ((tsH_29 c1).trans (onw_n (by intro h; dsimp only [itm] at h; first | omega | (rw [if_pos c426] at h; omega) | (rw [if_neg c426] at h; omega)))) (by repeat' (first | assumption | exact FW.rf | refine FW.up ?_ (by unfold wS; omega) | (refine FW.tr ?_ (by assumption)))) (by (try simp (disch := decide) only [upI_eq, upI_a, upI_i, upR_eq, upR_a, upR_i]); try assumption))
                    · skip
                      refine s255_446.mpr ?_
                      refine (s255_583).mpr ?_
                      first | (exfalso; omega) | (exact ok _ _ _ ((tsH_29n c1 (by dsimp only; intro h6; rw [h6] at y398; exact absurd y398.2.2 (by decide))).trans (onw_p (by dsimp only; exact ⟨by omega, le0 y394.2.2 rfl, Or.inr ⟨by omega, by unfold itm; first | (rw [if_pos c426]; exact y443.2) | (rw [if_neg c426]; exact y443.2)⟩⟩))) (flw1 (by rw [c1]; decide)) (by repeat' (first | assumption | exact FW.rf | refine FW.up ?_ (by unfold wS; omega) | (refine FW.tr ?_ (by assumption)))) (by (try simp (disch := decide) only [upI_eq, upI_a, upI_i, upR_eq, upR_a, upR_i]); try assumption) (by (try simp (disch := decide) only [upI_eq, upI_a, upI_i, upR_eq, upR_a, upR_i]); try assumption) (by simp (disch := decide) only [scX, upI_eq, upI_a, upI_i, upR_eq, upR_a, upR_i, upI_ro, upI_rw, up1_same, up1_eq, ht, E1, E2, E3, E4, E5, E6, E7])) | (exact st _ ((tsH_29s c1 (by dsimp only; omega)).trans (onw_p (by dsimp only; exact ⟨by omega, le0 y394.2.2 rfl, by omega⟩))) (by repeat' (first | assumption | exact FW.rf | refine FW.up ?_ (by unfold wS; omega) | (refine FW.tr ?_ (by assumption)))) (by (try simp (disch := decide) only [upI_eq, upI_a, upI_i, upR_eq, upR_a, upR_i]); try assumption) (by (try simp (disch := decide) only [upI_eq, upI_a, upI_i, upR_eq, upR_a, upR_i]); try assumption)) | (exact no _ ((tsH_29 c1).trans (onw_n (by intro h; dsimp only [itm] at h; first | omega | (rw [if_pos c426] at h; omega) | (rw [if_neg c426] at h; omega)))) (by repeat' (first | assumption | exact FW.rf | refine FW.up ?_ (by unfold wS; omega) | (refine FW.tr ?_ (by assumption)))) (by (try simp (disch := decide) only [upI_eq, upI_a, upI_i, upR_eq, upR_a, upR_i]); try assumption))
                · first
                  | (exfalso; omega)
                  | skip
                    refine s255_433.mpr (s255_434.mpr (s255_436.mpr ?_))
                    refine (s255_438 (by omega)).mpr ?_
                    refine (m_which (vT_rng (hv75 _ (by omega) (by omega)))).mpr ?_
                    refine s255_441.mpr (s255_442.mpr ?_)
                    try simp (disch := first | decide | assumption | omega) only [kon, knt_some, knt_none, Option.toList_some, Option.toList_none, List.cons_append, List.nil_append, upI_eq, upI_a, upI_i, upR_eq, upR_a, upR_i, h36, ht, E1, E2, E3, E4, E5, E6, E7, fAdd_id, fSub_id, fMul_id]
                    refine (s255_443 (by omega) kM).mpr ?_
                    refine m_fits hA hR (by omega) (by (try simp (disch := decide) only [upI_eq, upI_a, upI_i, upR_eq, upR_a, upR_i]); first | assumption | rfl) (by omega) (fun y443 => ?_) (fun y443 => ?_)
                    · skip
                      refine s255_446.mpr ?_
                      refine (s255_583).mpr ?_
                      first | (exfalso; omega) | (exact ok _ _ _ ((tsH_29n c1 (by dsimp only; intro h6; rw [h6] at y398; exact absurd y398.2.2 (by decide))).trans (onw_p (by dsimp only; exact ⟨by omega, le0 y394.2.2 rfl, Or.inr ⟨by omega, by unfold itm; first | (rw [if_pos c426]; exact y443.2) | (rw [if_neg c426]; exact y443.2)⟩⟩))) (flw1 (by rw [c1]; decide)) (by repeat' (first | assumption | exact FW.rf | refine FW.up ?_ (by unfold wS; omega) | (refine FW.tr ?_ (by assumption)))) (by (try simp (disch := decide) only [upI_eq, upI_a, upI_i, upR_eq, upR_a, upR_i]); try assumption) (by (try simp (disch := decide) only [upI_eq, upI_a, upI_i, upR_eq, upR_a, upR_i]); try assumption) (by simp (disch := decide) only [scX, upI_eq, upI_a, upI_i, upR_eq, upR_a, upR_i, upI_ro, upI_rw, up1_same, up1_eq, ht, E1, E2, E3, E4, E5, E6, E7])) | (exact st _ ((tsH_29s c1 (by dsimp only; omega)).trans (onw_p (by dsimp only; exact ⟨by omega, le0 y394.2.2 rfl, by omega⟩))) (by repeat' (first | assumption | exact FW.rf | refine FW.up ?_ (by unfold wS; omega) | (refine FW.tr ?_ (by assumption)))) (by (try simp (disch := decide) only [upI_eq, upI_a, upI_i, upR_eq, upR_a, upR_i]); try assumption) (by (try simp (disch := decide) only [upI_eq, upI_a, upI_i, upR_eq, upR_a, upR_i]); try assumption)) | (exact no _ ((tsH_29 c1).trans (onw_n (by intro h; dsimp only [itm] at h; first | omega | (rw [if_pos c426] at h; omega) | (rw [if_neg c426] at h; omega)))) (by repeat' (first | assumption | exact FW.rf | refine FW.up ?_ (by unfold wS; omega) | (refine FW.tr ?_ (by assumption)))) (by (try simp (disch := decide) only [upI_eq, upI_a, upI_i, upR_eq, upR_a, upR_i]); try assumption))
                    · skip
                      refine s255_446.mpr ?_
                      refine (s255_583).mpr ?_
                      first | (exfalso; omega) | (exact ok _ _ _ ((tsH_29n c1 (by dsimp only; intro h6; rw [h6] at y398; exact absurd y398.2.2 (by decide))).trans (onw_p (by dsimp only; exact ⟨by omega, le0 y394.2.2 rfl, Or.inr ⟨by omega, by unfold itm; first | (rw [if_pos c426]; exact y443.2) | (rw [if_neg c426]; exact y443.2)⟩⟩))) (flw1 (by rw [c1]; decide)) (by repeat' (first | assumption | exact FW.rf | refine FW.up ?_ (by unfold wS; omega) | (refine FW.tr ?_ (by assumption)))) (by (try simp (disch := decide) only [upI_eq, upI_a, upI_i, upR_eq, upR_a, upR_i]); try assumption) (by (try simp (disch := decide) only [upI_eq, upI_a, upI_i, upR_eq, upR_a, upR_i]); try assumption) (by simp (disch := decide) only [scX, upI_eq, upI_a, upI_i, upR_eq, upR_a, upR_i, upI_ro, upI_rw, up1_same, up1_eq, ht, E1, E2, E3, E4, E5, E6, E7])) | (exact st _ ((tsH_29s c1 (by dsimp only; omega)).trans (onw_p (by dsimp only; exact ⟨by omega, le0 y394.2.2 rfl, by omega⟩))) (by repeat' (first | assumption | exact FW.rf | refine FW.up ?_ (by unfold wS; omega) | (refine FW.tr ?_ (by assumption)))) (by (try simp (disch := decide) only [upI_eq, upI_a, upI_i, upR_eq, upR_a, upR_i]); try assumption) (by (try simp (disch := decide) only [upI_eq, upI_a, upI_i, upR_eq, upR_a, upR_i]); try assumption)) | (exact no _ ((tsH_29 c1).trans (onw_n (by intro h; dsimp only [itm] at h; first | omega | (rw [if_pos c426] at h; omega) | (rw [if_neg c426] at h; omega)))) (by repeat' (first | assumption | exact FW.rf | refine FW.up ?_ (by unfold wS; omega) | (refine FW.tr ?_ (by assumption)))) (by (try simp (disch := decide) only [upI_eq, upI_a, upI_i, upR_eq, upR_a, upR_i]); try assumption))
            · first
              | (exfalso; omega)
              | skip
                refine (s255_583).mpr ?_
                first | (exfalso; omega) | (exact ok _ _ _ ((tsH_29n c1 (by dsimp only; intro h6; rw [h6] at y398; exact absurd y398.2.2 (by decide))).trans (onw_p (by dsimp only; exact ⟨by omega, le0 y394.2.2 rfl, Or.inr ⟨by omega, by unfold itm; first | (rw [if_pos c426]; exact y443.2) | (rw [if_neg c426]; exact y443.2)⟩⟩))) (flw1 (by rw [c1]; decide)) (by repeat' (first | assumption | exact FW.rf | refine FW.up ?_ (by unfold wS; omega) | (refine FW.tr ?_ (by assumption)))) (by (try simp (disch := decide) only [upI_eq, upI_a, upI_i, upR_eq, upR_a, upR_i]); try assumption) (by (try simp (disch := decide) only [upI_eq, upI_a, upI_i, upR_eq, upR_a, upR_i]); try assumption) (by simp (disch := decide) only [scX, upI_eq, upI_a, upI_i, upR_eq, upR_a, upR_i, upI_ro, upI_rw, up1_same, up1_eq, ht, E1, E2, E3, E4, E5, E6, E7])) | (exact st _ ((tsH_29s c1 (by dsimp only; omega)).trans (onw_p (by dsimp only; exact ⟨by omega, le0 y394.2.2 rfl, by omega⟩))) (by repeat' (first | assumption | exact FW.rf | refine FW.up ?_ (by unfold wS; omega) | (refine FW.tr ?_ (by assumption)))) (by (try simp (disch := decide) only [upI_eq, upI_a, upI_i, upR_eq, upR_a, upR_i]); try assumption) (by (try simp (disch := decide) only [upI_eq, upI_a, upI_i, upR_eq, upR_a, upR_i]); try assumption)) | (exact no _ ((tsH_29 c1).trans (onw_n (by intro h; dsimp only [itm] at h; first | omega | (rw [if_pos c426] at h; omega) | (rw [if_neg c426] at h; omega)))) (by repeat' (first | assumption | exact FW.rf | refine FW.up ?_ (by unfold wS; omega) | (refine FW.tr ?_ (by assumption)))) (by (try simp (disch := decide) only [upI_eq, upI_a, upI_i, upR_eq, upR_a, upR_i]); try assumption))
    · skip
      try simp (disch := decide) only [upI_eq, upI_a, upI_i, upR_eq, upR_a, upR_i, E1, E4] at y394
      try simp (disch := decide) only [upI_eq, upI_a, upI_i, upR_eq, upR_a, upR_i, E1, E4] at x394
      refine s255_397.mpr ?_
      refine (s255_398 (by omega) kM).mpr ?_
      refine m_popRow hA hR (by omega) (by (try simp (disch := decide) only [upI_eq, upI_a, upI_i, upR_eq, upR_a, upR_i]); first | assumption | rfl) (by omega) (by (try simp (disch := decide) only [upI_eq, upI_a, upI_i, upR_eq, upR_a, upR_i]); first | assumption | rfl) (by omega) (fun y398 => ?_) (fun y398 => ?_) (fun q398 hi398 t398 w398 z398 s398 u398 v398 x398 => ?_)
      · skip
        try simp (disch := decide) only [upI_eq, upI_a, upI_i, upR_eq, upR_a, upR_i, E1, E4] at y398
        try simp (disch := decide) only [upI_eq, upI_a, upI_i, upR_eq, upR_a, upR_i, E1, E4] at x398
        refine s255_401.mpr (s255_403.mpr ?_)
        refine (s255_404 kM).mpr ?_
        try simp (disch := first | decide | assumption | omega) only [kon, knt_some, knt_none, Option.toList_some, Option.toList_none, List.cons_append, List.nil_append, upI_eq, upI_a, upI_i, upR_eq, upR_a, upR_i, h36, ht, E1, E2, E3, E4, E5, E6, E7, fAdd_id, fSub_id, fMul_id]
        refine s255_407.mpr (wif (fun c407 => ?_) (fun c407 => ?_))
        · first
          | (exfalso; omega)
          | skip
            refine (s255_583).mpr ?_
            first | (exfalso; omega) | (exact ok _ _ _ ((tsH_29n c1 (by dsimp only; intro h6; rw [h6] at y398; exact absurd y398.2.2 (by decide))).trans (onw_p (by dsimp only; exact ⟨by omega, le0 y394.2.2 rfl, Or.inr ⟨by omega, by unfold itm; first | (rw [if_pos c426]; exact y443.2) | (rw [if_neg c426]; exact y443.2)⟩⟩))) (flw1 (by rw [c1]; decide)) (by repeat' (first | assumption | exact FW.rf | refine FW.up ?_ (by unfold wS; omega) | (refine FW.tr ?_ (by assumption)))) (by (try simp (disch := decide) only [upI_eq, upI_a, upI_i, upR_eq, upR_a, upR_i]); try assumption) (by (try simp (disch := decide) only [upI_eq, upI_a, upI_i, upR_eq, upR_a, upR_i]); try assumption) (by simp (disch := decide) only [scX, upI_eq, upI_a, upI_i, upR_eq, upR_a, upR_i, upI_ro, upI_rw, up1_same, up1_eq, ht, E1, E2, E3, E4, E5, E6, E7])) | (exact st _ ((tsH_29s c1 (by dsimp only; omega)).trans (onw_p (by dsimp only; exact ⟨by omega, le0 y394.2.2 rfl, by omega⟩))) (by repeat' (first | assumption | exact FW.rf | refine FW.up ?_ (by unfold wS; omega) | (refine FW.tr ?_ (by assumption)))) (by (try simp (disch := decide) only [upI_eq, upI_a, upI_i, upR_eq, upR_a, upR_i]); try assumption) (by (try simp (disch := decide) only [upI_eq, upI_a, upI_i, upR_eq, upR_a, upR_i]); try assumption)) | (exact no _ ((tsH_29 c1).trans (onw_n (by intro h; dsimp only [itm] at h; first | omega | (rw [if_pos c426] at h; omega) | (rw [if_neg c426] at h; omega)))) (by repeat' (first | assumption | exact FW.rf | refine FW.up ?_ (by unfold wS; omega) | (refine FW.tr ?_ (by assumption)))) (by (try simp (disch := decide) only [upI_eq, upI_a, upI_i, upR_eq, upR_a, upR_i]); try assumption))
        · first
          | (exfalso; omega)
          | skip
            refine s255_410.mpr ?_
            refine (s255_411 kM).mpr ?_
            try simp (disch := first | decide | assumption | omega) only [kon, knt_some, knt_none, Option.toList_some, Option.toList_none, List.cons_append, List.nil_append, upI_eq, upI_a, upI_i, upR_eq, upR_a, upR_i, h36, ht, E1, E2, E3, E4, E5, E6, E7, fAdd_id, fSub_id, fMul_id]
            refine s255_414.mpr (wif (fun c414 => ?_) (fun c414 => ?_))
            · first
              | (exfalso; omega)
              | skip
                refine s255_417.mpr (s255_418.mpr (s255_420.mpr ?_))
                refine (s255_422 (by omega)).mpr ?_
                refine m_kind.mpr ?_
                refine s255_425.mpr ?_
                refine s255_426.mpr (wif (fun c426 => ?_) (fun c426 => ?_))
                · first
                  | (exfalso; omega)
                  | skip
                    refine s255_429.mpr (s255_430.mpr ?_)
                    refine (s255_443 (by omega) kM).mpr ?_
                    refine m_fits hA hR (by omega) (by (try simp (disch := decide) only [upI_eq, upI_a, upI_i, upR_eq, upR_a, upR_i]); first | assumption | rfl) (by omega) (fun y443 => ?_) (fun y443 => ?_)
                    · skip
                      refine s255_446.mpr ?_
                      refine (s255_583).mpr ?_
                      first | (exfalso; omega) | (exact ok _ _ _ ((tsH_29n c1 (by dsimp only; intro h6; rw [h6] at y398; exact absurd y398.2.2 (by decide))).trans (onw_p (by dsimp only; exact ⟨by omega, le0 y394.2.2 rfl, Or.inr ⟨by omega, by unfold itm; first | (rw [if_pos c426]; exact y443.2) | (rw [if_neg c426]; exact y443.2)⟩⟩))) (flw1 (by rw [c1]; decide)) (by repeat' (first | assumption | exact FW.rf | refine FW.up ?_ (by unfold wS; omega) | (refine FW.tr ?_ (by assumption)))) (by (try simp (disch := decide) only [upI_eq, upI_a, upI_i, upR_eq, upR_a, upR_i]); try assumption) (by (try simp (disch := decide) only [upI_eq, upI_a, upI_i, upR_eq, upR_a, upR_i]); try assumption) (by simp (disch := decide) only [scX, upI_eq, upI_a, upI_i, upR_eq, upR_a, upR_i, upI_ro, upI_rw, up1_same, up1_eq, ht, E1, E2, E3, E4, E5, E6, E7])) | (exact st _ ((tsH_29s c1 (by dsimp only; omega)).trans (onw_p (by dsimp only; exact ⟨by omega, le0 y394.2.2 rfl, by omega⟩))) (by repeat' (first | assumption | exact FW.rf | refine FW.up ?_ (by unfold wS; omega) | (refine FW.tr ?_ (by assumption)))) (by (try simp (disch := decide) only [upI_eq, upI_a, upI_i, upR_eq, upR_a, upR_i]); try assumption) (by (try simp (disch := decide) only [upI_eq, upI_a, upI_i, upR_eq, upR_a, upR_i]); try assumption)) | (exact no _ ((tsH_29 c1).trans (onw_n (by intro h; dsimp only [itm] at h; first | omega | (rw [if_pos c426] at h; omega) | (rw [if_neg c426] at h; omega)))) (by repeat' (first | assumption | exact FW.rf | refine FW.up ?_ (by unfold wS; omega) | (refine FW.tr ?_ (by assumption)))) (by (try simp (disch := decide) only [upI_eq, upI_a, upI_i, upR_eq, upR_a, upR_i]); try assumption))
                    · skip
                      refine s255_446.mpr ?_
                      refine (s255_583).mpr ?_
                      first | (exfalso; omega) | (exact ok _ _ _ ((tsH_29n c1 (by dsimp only; intro h6; rw [h6] at y398; exact absurd y398.2.2 (by decide))).trans (onw_p (by dsimp only; exact ⟨by omega, le0 y394.2.2 rfl, Or.inr ⟨by omega, by unfold itm; first | (rw [if_pos c426]; exact y443.2) | (rw [if_neg c426]; exact y443.2)⟩⟩))) (flw1 (by rw [c1]; decide)) (by repeat' (first | assumption | exact FW.rf | refine FW.up ?_ (by unfold wS; omega) | (refine FW.tr ?_ (by assumption)))) (by (try simp (disch := decide) only [upI_eq, upI_a, upI_i, upR_eq, upR_a, upR_i]); try assumption) (by (try simp (disch := decide) only [upI_eq, upI_a, upI_i, upR_eq, upR_a, upR_i]); try assumption) (by simp (disch := decide) only [scX, upI_eq, upI_a, upI_i, upR_eq, upR_a, upR_i, upI_ro, upI_rw, up1_same, up1_eq, ht, E1, E2, E3, E4, E5, E6, E7])) | (exact st _ ((tsH_29s c1 (by dsimp only; omega)).trans (onw_p (by dsimp only; exact ⟨by omega, le0 y394.2.2 rfl, by omega⟩))) (by repeat' (first | assumption | exact FW.rf | refine FW.up ?_ (by unfold wS; omega) | (refine FW.tr ?_ (by assumption)))) (by (try simp (disch := decide) only [upI_eq, upI_a, upI_i, upR_eq, upR_a, upR_i]); try assumption) (by (try simp (disch := decide) only [upI_eq, upI_a, upI_i, upR_eq, upR_a, upR_i]); try assumption)) | (exact no _ ((tsH_29 c1).trans (onw_n (by intro h; dsimp only [itm] at h; first | omega | (rw [if_pos c426] at h; omega) | (rw [if_neg c426] at h; omega)))) (by repeat' (first | assumption | exact FW.rf | refine FW.up ?_ (by unfold wS; omega) | (refine FW.tr ?_ (by assumption)))) (by (try simp (disch := decide) only [upI_eq, upI_a, upI_i, upR_eq, upR_a, upR_i]); try assumption))
                · first
                  | (exfalso; omega)
                  | skip
                    refine s255_433.mpr (s255_434.mpr (s255_436.mpr ?_))
                    refine (s255_438 (by omega)).mpr ?_
                    refine (m_which (vT_rng (hv75 _ (by omega) (by omega)))).mpr ?_
                    refine s255_441.mpr (s255_442.mpr ?_)
                    try simp (disch := first | decide | assumption | omega) only [kon, knt_some, knt_none, Option.toList_some, Option.toList_none, List.cons_append, List.nil_append, upI_eq, upI_a, upI_i, upR_eq, upR_a, upR_i, h36, ht, E1, E2, E3, E4, E5, E6, E7, fAdd_id, fSub_id, fMul_id]
                    refine (s255_443 (by omega) kM).mpr ?_
                    refine m_fits hA hR (by omega) (by (try simp (disch := decide) only [upI_eq, upI_a, upI_i, upR_eq, upR_a, upR_i]); first | assumption | rfl) (by omega) (fun y443 => ?_) (fun y443 => ?_)
                    · skip
                      refine s255_446.mpr ?_
                      refine (s255_583).mpr ?_
                      first | (exfalso; omega) | (exact ok _ _ _ ((tsH_29n c1 (by dsimp only; intro h6; rw [h6] at y398; exact absurd y398.2.2 (by decide))).trans (onw_p (by dsimp only; exact ⟨by omega, le0 y394.2.2 rfl, Or.inr ⟨by omega, by unfold itm; first | (rw [if_pos c426]; exact y443.2) | (rw [if_neg c426]; exact y443.2)⟩⟩))) (flw1 (by rw [c1]; decide)) (by repeat' (first | assumption | exact FW.rf | refine FW.up ?_ (by unfold wS; omega) | (refine FW.tr ?_ (by assumption)))) (by (try simp (disch := decide) only [upI_eq, upI_a, upI_i, upR_eq, upR_a, upR_i]); try assumption) (by (try simp (disch := decide) only [upI_eq, upI_a, upI_i, upR_eq, upR_a, upR_i]); try assumption) (by simp (disch := decide) only [scX, upI_eq, upI_a, upI_i, upR_eq, upR_a, upR_i, upI_ro, upI_rw, up1_same, up1_eq, ht, E1, E2, E3, E4, E5, E6, E7])) | (exact st _ ((tsH_29s c1 (by dsimp only; omega)).trans (onw_p (by dsimp only; exact ⟨by omega, le0 y394.2.2 rfl, by omega⟩))) (by repeat' (first | assumption | exact FW.rf | refine FW.up ?_ (by unfold wS; omega) | (refine FW.tr ?_ (by assumption)))) (by (try simp (disch := decide) only [upI_eq, upI_a, upI_i, upR_eq, upR_a, upR_i]); try assumption) (by (try simp (disch := decide) only [upI_eq, upI_a, upI_i, upR_eq, upR_a, upR_i]); try assumption)) | (exact no _ ((tsH_29 c1).trans (onw_n (by intro h; dsimp only [itm] at h; first | omega | (rw [if_pos c426] at h; omega) | (rw [if_neg c426] at h; omega)))) (by repeat' (first | assumption | exact FW.rf | refine FW.up ?_ (by unfold wS; omega) | (refine FW.tr ?_ (by assumption)))) (by (try simp (disch := decide) only [upI_eq, upI_a, upI_i, upR_eq, upR_a, upR_i]); try assumption))
                    · skip
                      refine s255_446.mpr ?_
                      refine (s255_583).mpr ?_
                      first | (exfalso; omega) | (exact ok _ _ _ ((tsH_29n c1 (by dsimp only; intro h6; rw [h6] at y398; exact absurd y398.2.2 (by decide))).trans (onw_p (by dsimp only; exact ⟨by omega, le0 y394.2.2 rfl, Or.inr ⟨by omega, by unfold itm; first | (rw [if_pos c426]; exact y443.2) | (rw [if_neg c426]; exact y443.2)⟩⟩))) (flw1 (by rw [c1]; decide)) (by repeat' (first | assumption | exact FW.rf | refine FW.up ?_ (by unfold wS; omega) | (refine FW.tr ?_ (by assumption)))) (by (try simp (disch := decide) only [upI_eq, upI_a, upI_i, upR_eq, upR_a, upR_i]); try assumption) (by (try simp (disch := decide) only [upI_eq, upI_a, upI_i, upR_eq, upR_a, upR_i]); try assumption) (by simp (disch := decide) only [scX, upI_eq, upI_a, upI_i, upR_eq, upR_a, upR_i, upI_ro, upI_rw, up1_same, up1_eq, ht, E1, E2, E3, E4, E5, E6, E7])) | (exact st _ ((tsH_29s c1 (by dsimp only; omega)).trans (onw_p (by dsimp only; exact ⟨by omega, le0 y394.2.2 rfl, by omega⟩))) (by repeat' (first | assumption | exact FW.rf | refine FW.up ?_ (by unfold wS; omega) | (refine FW.tr ?_ (by assumption)))) (by (try simp (disch := decide) only [upI_eq, upI_a, upI_i, upR_eq, upR_a, upR_i]); try assumption) (by (try simp (disch := decide) only [upI_eq, upI_a, upI_i, upR_eq, upR_a, upR_i]); try assumption)) | (exact no _ ((tsH_29 c1).trans (onw_n (by intro h; dsimp only [itm] at h; first | omega | (rw [if_pos c426] at h; omega) | (rw [if_neg c426] at h; omega)))) (by repeat' (first | assumption | exact FW.rf | refine FW.up ?_ (by unfold wS; omega) | (refine FW.tr ?_ (by assumption)))) (by (try simp (disch := decide) only [upI_eq, upI_a, upI_i, upR_eq, upR_a, upR_i]); try assumption))
            · first
              | (exfalso; omega)
              | skip
                refine (s255_583).mpr ?_
                first | (exfalso; omega) | (exact ok _ _ _ ((tsH_29n c1 (by dsimp only; intro h6; rw [h6] at y398; exact absurd y398.2.2 (by decide))).trans (onw_p (by dsimp only; exact ⟨by omega, le0 y394.2.2 rfl, Or.inr ⟨by omega, by unfold itm; first | (rw [if_pos c426]; exact y443.2) | (rw [if_neg c426]; exact y443.2)⟩⟩))) (flw1 (by rw [c1]; decide)) (by repeat' (first | assumption | exact FW.rf | refine FW.up ?_ (by unfold wS; omega) | (refine FW.tr ?_ (by assumption)))) (by (try simp (disch := decide) only [upI_eq, upI_a, upI_i, upR_eq, upR_a, upR_i]); try assumption) (by (try simp (disch := decide) only [upI_eq, upI_a, upI_i, upR_eq, upR_a, upR_i]); try assumption) (by simp (disch := decide) only [scX, upI_eq, upI_a, upI_i, upR_eq, upR_a, upR_i, upI_ro, upI_rw, up1_same, up1_eq, ht, E1, E2, E3, E4, E5, E6, E7])) | (exact st _ ((tsH_29s c1 (by dsimp only; omega)).trans (onw_p (by dsimp only; exact ⟨by omega, le0 y394.2.2 rfl, by omega⟩))) (by repeat' (first | assumption | exact FW.rf | refine FW.up ?_ (by unfold wS; omega) | (refine FW.tr ?_ (by assumption)))) (by (try simp (disch := decide) only [upI_eq, upI_a, upI_i, upR_eq, upR_a, upR_i]); try assumption) (by (try simp (disch := decide) only [upI_eq, upI_a, upI_i, upR_eq, upR_a, upR_i]); try assumption)) | (exact no _ ((tsH_29 c1).trans (onw_n (by intro h; dsimp only [itm] at h; first | omega | (rw [if_pos c426] at h; omega) | (rw [if_neg c426] at h; omega)))) (by repeat' (first | assumption | exact FW.rf | refine FW.up ?_ (by unfold wS; omega) | (refine FW.tr ?_ (by assumption)))) (by (try simp (disch := decide) only [upI_eq, upI_a, upI_i, upR_eq, upR_a, upR_i]); try assumption))
      · skip
        try simp (disch := decide) only [upI_eq, upI_a, upI_i, upR_eq, upR_a, upR_i, E1, E4] at y398
        try simp (disch := decide) only [upI_eq, upI_a, upI_i, upR_eq, upR_a, upR_i, E1, E4] at x398
        refine s255_401.mpr (s255_403.mpr ?_)
        refine (s255_404 kM).mpr ?_
        try simp (disch := first | decide | assumption | omega) only [kon, knt_some, knt_none, Option.toList_some, Option.toList_none, List.cons_append, List.nil_append, upI_eq, upI_a, upI_i, upR_eq, upR_a, upR_i, h36, ht, E1, E2, E3, E4, E5, E6, E7, fAdd_id, fSub_id, fMul_id]
        refine s255_407.mpr (wif (fun c407 => ?_) (fun c407 => ?_))
        · first
          | (exfalso; omega)
          | skip
            refine (s255_583).mpr ?_
            first | (exfalso; omega) | (exact ok _ _ _ ((tsH_29n c1 (by dsimp only; intro h6; rw [h6] at y398; exact absurd y398.2.2 (by decide))).trans (onw_p (by dsimp only; exact ⟨by omega, le0 y394.2.2 rfl, Or.inr ⟨by omega, by unfold itm; first | (rw [if_pos c426]; exact y443.2) | (rw [if_neg c426]; exact y443.2)⟩⟩))) (flw1 (by rw [c1]; decide)) (by repeat' (first | assumption | exact FW.rf | refine FW.up ?_ (by unfold wS; omega) | (refine FW.tr ?_ (by assumption)))) (by (try simp (disch := decide) only [upI_eq, upI_a, upI_i, upR_eq, upR_a, upR_i]); try assumption) (by (try simp (disch := decide) only [upI_eq, upI_a, upI_i, upR_eq, upR_a, upR_i]); try assumption) (by simp (disch := decide) only [scX, upI_eq, upI_a, upI_i, upR_eq, upR_a, upR_i, upI_ro, upI_rw, up1_same, up1_eq, ht, E1, E2, E3, E4, E5, E6, E7])) | (exact st _ ((tsH_29s c1 (by dsimp only; omega)).trans (onw_p (by dsimp only; exact ⟨by omega, le0 y394.2.2 rfl, by omega⟩))) (by repeat' (first | assumption | exact FW.rf | refine FW.up ?_ (by unfold wS; omega) | (refine FW.tr ?_ (by assumption)))) (by (try simp (disch := decide) only [upI_eq, upI_a, upI_i, upR_eq, upR_a, upR_i]); try assumption) (by (try simp (disch := decide) only [upI_eq, upI_a, upI_i, upR_eq, upR_a, upR_i]); try assumption)) | (exact no _ ((tsH_29 c1).trans (onw_n (by intro h; dsimp only [itm] at h; first | omega | (rw [if_pos c426] at h; omega) | (rw [if_neg c426] at h; omega)))) (by repeat' (first | assumption | exact FW.rf | refine FW.up ?_ (by unfold wS; omega) | (refine FW.tr ?_ (by assumption)))) (by (try simp (disch := decide) only [upI_eq, upI_a, upI_i, upR_eq, upR_a, upR_i]); try assumption))
        · first
          | (exfalso; omega)
          | skip
            refine s255_410.mpr ?_
            refine (s255_411 kM).mpr ?_
            try simp (disch := first | decide | assumption | omega) only [kon, knt_some, knt_none, Option.toList_some, Option.toList_none, List.cons_append, List.nil_append, upI_eq, upI_a, upI_i, upR_eq, upR_a, upR_i, h36, ht, E1, E2, E3, E4, E5, E6, E7, fAdd_id, fSub_id, fMul_id]
            refine s255_414.mpr (wif (fun c414 => ?_) (fun c414 => ?_))
            · first
              | (exfalso; omega)
              | skip
                refine s255_417.mpr (s255_418.mpr (s255_420.mpr ?_))
                refine (s255_422 (by omega)).mpr ?_
                refine m_kind.mpr ?_
                refine s255_425.mpr ?_
                refine s255_426.mpr (wif (fun c426 => ?_) (fun c426 => ?_))
                · first
                  | (exfalso; omega)
                  | skip
                    refine s255_429.mpr (s255_430.mpr ?_)
                    refine (s255_443 (by omega) kM).mpr ?_
                    refine m_fits hA hR (by omega) (by (try simp (disch := decide) only [upI_eq, upI_a, upI_i, upR_eq, upR_a, upR_i]); first | assumption | rfl) (by omega) (fun y443 => ?_) (fun y443 => ?_)
                    · skip
                      refine s255_446.mpr ?_
                      refine (s255_583).mpr ?_
                      first | (exfalso; omega) | (exact ok _ _ _ ((tsH_29n c1 (by dsimp only; intro h6; rw [h6] at y398; exact absurd y398.2.2 (by decide))).trans (onw_p (by dsimp only; exact ⟨by omega, le0 y394.2.2 rfl, Or.inr ⟨by omega, by unfold itm; first | (rw [if_pos c426]; exact y443.2) | (rw [if_neg c426]; exact y443.2)⟩⟩))) (flw1 (by rw [c1]; decide)) (by repeat' (first | assumption | exact FW.rf | refine FW.up ?_ (by unfold wS; omega) | (refine FW.tr ?_ (by assumption)))) (by (try simp (disch := decide) only [upI_eq, upI_a, upI_i, upR_eq, upR_a, upR_i]); try assumption) (by (try simp (disch := decide) only [upI_eq, upI_a, upI_i, upR_eq, upR_a, upR_i]); try assumption) (by simp (disch := decide) only [scX, upI_eq, upI_a, upI_i, upR_eq, upR_a, upR_i, upI_ro, upI_rw, up1_same, up1_eq, ht, E1, E2, E3, E4, E5, E6, E7])) | (exact st _ ((tsH_29s c1 (by dsimp only; omega)).trans (onw_p (by dsimp only; exact ⟨by omega, le0 y394.2.2 rfl, by omega⟩))) (by repeat' (first | assumption | exact FW.rf | refine FW.up ?_ (by unfold wS; omega) | (refine FW.tr ?_ (by assumption)))) (by (try simp (disch := decide) only [upI_eq, upI_a, upI_i, upR_eq, upR_a, upR_i]); try assumption) (by (try simp (disch := decide) only [upI_eq, upI_a, upI_i, upR_eq, upR_a, upR_i]); try assumption)) | (exact no _ ((tsH_29 c1).trans (onw_n (by intro h; dsimp only [itm] at h; first | omega | (rw [if_pos c426] at h; omega) | (rw [if_neg c426] at h; omega)))) (by repeat' (first | assumption | exact FW.rf | refine FW.up ?_ (by unfold wS; omega) | (refine FW.tr ?_ (by assumption)))) (by (try simp (disch := decide) only [upI_eq, upI_a, upI_i, upR_eq, upR_a, upR_i]); try assumption))
                    · skip
                      refine s255_446.mpr ?_
                      refine (s255_583).mpr ?_
                      first | (exfalso; omega) | (exact ok _ _ _ ((tsH_29n c1 (by dsimp only; intro h6; rw [h6] at y398; exact absurd y398.2.2 (by decide))).trans (onw_p (by dsimp only; exact ⟨by omega, le0 y394.2.2 rfl, Or.inr ⟨by omega, by unfold itm; first | (rw [if_pos c426]; exact y443.2) | (rw [if_neg c426]; exact y443.2)⟩⟩))) (flw1 (by rw [c1]; decide)) (by repeat' (first | assumption | exact FW.rf | refine FW.up ?_ (by unfold wS; omega) | (refine FW.tr ?_ (by assumption)))) (by (try simp (disch := decide) only [upI_eq, upI_a, upI_i, upR_eq, upR_a, upR_i]); try assumption) (by (try simp (disch := decide) only [upI_eq, upI_a, upI_i, upR_eq, upR_a, upR_i]); try assumption) (by simp (disch := decide) only [scX, upI_eq, upI_a, upI_i, upR_eq, upR_a, upR_i, upI_ro, upI_rw, up1_same, up1_eq, ht, E1, E2, E3, E4, E5, E6, E7])) | (exact st _ ((tsH_29s c1 (by dsimp only; omega)).trans (onw_p (by dsimp only; exact ⟨by omega, le0 y394.2.2 rfl, by omega⟩))) (by repeat' (first | assumption | exact FW.rf | refine FW.up ?_ (by unfold wS; omega) | (refine FW.tr ?_ (by assumption)))) (by (try simp (disch := decide) only [upI_eq, upI_a, upI_i, upR_eq, upR_a, upR_i]); try assumption) (by (try simp (disch := decide) only [upI_eq, upI_a, upI_i, upR_eq, upR_a, upR_i]); try assumption)) | (exact no _ ((tsH_29 c1).trans (onw_n (by intro h; dsimp only [itm] at h; first | omega | (rw [if_pos c426] at h; omega) | (rw [if_neg c426] at h; omega)))) (by repeat' (first | assumption | exact FW.rf | refine FW.up ?_ (by unfold wS; omega) | (refine FW.tr ?_ (by assumption)))) (by (try simp (disch := decide) only [upI_eq, upI_a, upI_i, upR_eq, upR_a, upR_i]); try assumption))
                · first
                  | (exfalso; omega)
                  | skip
                    refine s255_433.mpr (s255_434.mpr (s255_436.mpr ?_))
                    refine (s255_438 (by omega)).mpr ?_
                    refine (m_which (vT_rng (hv75 _ (by omega) (by omega)))).mpr ?_
                    refine s255_441.mpr (s255_442.mpr ?_)
                    try simp (disch := first | decide | assumption | omega) only [kon, knt_some, knt_none, Option.toList_some, Option.toList_none, List.cons_append, List.nil_append, upI_eq, upI_a, upI_i, upR_eq, upR_a, upR_i, h36, ht, E1, E2, E3, E4, E5, E6, E7, fAdd_id, fSub_id, fMul_id]
                    refine (s255_443 (by omega) kM).mpr ?_
                    refine m_fits hA hR (by omega) (by (try simp (disch := decide) only [upI_eq, upI_a, upI_i, upR_eq, upR_a, upR_i]); first | assumption | rfl) (by omega) (fun y443 => ?_) (fun y443 => ?_)
                    · skip
                      refine s255_446.mpr ?_
                      refine (s255_583).mpr ?_
                      first | (exfalso; omega) | (exact ok _ _ _ ((tsH_29n c1 (by dsimp only; intro h6; rw [h6] at y398; exact absurd y398.2.2 (by decide))).trans (onw_p (by dsimp only; exact ⟨by omega, le0 y394.2.2 rfl, Or.inr ⟨by omega, by unfold itm; first | (rw [if_pos c426]; exact y443.2) | (rw [if_neg c426]; exact y443.2)⟩⟩))) (flw1 (by rw [c1]; decide)) (by repeat' (first | assumption | exact FW.rf | refine FW.up ?_ (by unfold wS; omega) | (refine FW.tr ?_ (by assumption)))) (by (try simp (disch := decide) only [upI_eq, upI_a, upI_i, upR_eq, upR_a, upR_i]); try assumption) (by (try simp (disch := decide) only [upI_eq, upI_a, upI_i, upR_eq, upR_a, upR_i]); try assumption) (by simp (disch := decide) only [scX, upI_eq, upI_a, upI_i, upR_eq, upR_a, upR_i, upI_ro, upI_rw, up1_same, up1_eq, ht, E1, E2, E3, E4, E5, E6, E7])) | (exact st _ ((tsH_29s c1 (by dsimp only; omega)).trans (onw_p (by dsimp only; exact ⟨by omega, le0 y394.2.2 rfl, by omega⟩))) (by repeat' (first | assumption | exact FW.rf | refine FW.up ?_ (by unfold wS; omega) | (refine FW.tr ?_ (by assumption)))) (by (try simp (disch := decide) only [upI_eq, upI_a, upI_i, upR_eq, upR_a, upR_i]); try assumption) (by (try simp (disch := decide) only [upI_eq, upI_a, upI_i, upR_eq, upR_a, upR_i]); try assumption)) | (exact no _ ((tsH_29 c1).trans (onw_n (by intro h; dsimp only [itm] at h; first | omega | (rw [if_pos c426] at h; omega) | (rw [if_neg c426] at h; omega)))) (by repeat' (first | assumption | exact FW.rf | refine FW.up ?_ (by unfold wS; omega) | (refine FW.tr ?_ (by assumption)))) (by (try simp (disch := decide) only [upI_eq, upI_a, upI_i, upR_eq, upR_a, upR_i]); try assumption))
                    · skip
                      refine s255_446.mpr ?_
                      refine (s255_583).mpr ?_
                      first | (exfalso; omega) | (exact ok _ _ _ ((tsH_29n c1 (by dsimp only; intro h6; rw [h6] at y398; exact absurd y398.2.2 (by decide))).trans (onw_p (by dsimp only; exact ⟨by omega, le0 y394.2.2 rfl, Or.inr ⟨by omega, by unfold itm; first | (rw [if_pos c426]; exact y443.2) | (rw [if_neg c426]; exact y443.2)⟩⟩))) (flw1 (by rw [c1]; decide)) (by repeat' (first | assumption | exact FW.rf | refine FW.up ?_ (by unfold wS; omega) | (refine FW.tr ?_ (by assumption)))) (by (try simp (disch := decide) only [upI_eq, upI_a, upI_i, upR_eq, upR_a, upR_i]); try assumption) (by (try simp (disch := decide) only [upI_eq, upI_a, upI_i, upR_eq, upR_a, upR_i]); try assumption) (by simp (disch := decide) only [scX, upI_eq, upI_a, upI_i, upR_eq, upR_a, upR_i, upI_ro, upI_rw, up1_same, up1_eq, ht, E1, E2, E3, E4, E5, E6, E7])) | (exact st _ ((tsH_29s c1 (by dsimp only; omega)).trans (onw_p (by dsimp only; exact ⟨by omega, le0 y394.2.2 rfl, by omega⟩))) (by repeat' (first | assumption | exact FW.rf | refine FW.up ?_ (by unfold wS; omega) | (refine FW.tr ?_ (by assumption)))) (by (try simp (disch := decide) only [upI_eq, upI_a, upI_i, upR_eq, upR_a, upR_i]); try assumption) (by (try simp (disch := decide) only [upI_eq, upI_a, upI_i, upR_eq, upR_a, upR_i]); try assumption)) | (exact no _ ((tsH_29 c1).trans (onw_n (by intro h; dsimp only [itm] at h; first | omega | (rw [if_pos c426] at h; omega) | (rw [if_neg c426] at h; omega)))) (by repeat' (first | assumption | exact FW.rf | refine FW.up ?_ (by unfold wS; omega) | (refine FW.tr ?_ (by assumption)))) (by (try simp (disch := decide) only [upI_eq, upI_a, upI_i, upR_eq, upR_a, upR_i]); try assumption))
            · first
              | (exfalso; omega)
              | skip
                refine (s255_583).mpr ?_
                first | (exfalso; omega) | (exact ok _ _ _ ((tsH_29n c1 (by dsimp only; intro h6; rw [h6] at y398; exact absurd y398.2.2 (by decide))).trans (onw_p (by dsimp only; exact ⟨by omega, le0 y394.2.2 rfl, Or.inr ⟨by omega, by unfold itm; first | (rw [if_pos c426]; exact y443.2) | (rw [if_neg c426]; exact y443.2)⟩⟩))) (flw1 (by rw [c1]; decide)) (by repeat' (first | assumption | exact FW.rf | refine FW.up ?_ (by unfold wS; omega) | (refine FW.tr ?_ (by assumption)))) (by (try simp (disch := decide) only [upI_eq, upI_a, upI_i, upR_eq, upR_a, upR_i]); try assumption) (by (try simp (disch := decide) only [upI_eq, upI_a, upI_i, upR_eq, upR_a, upR_i]); try assumption) (by simp (disch := decide) only [scX, upI_eq, upI_a, upI_i, upR_eq, upR_a, upR_i, upI_ro, upI_rw, up1_same, up1_eq, ht, E1, E2, E3, E4, E5, E6, E7])) | (exact st _ ((tsH_29s c1 (by dsimp only; omega)).trans (onw_p (by dsimp only; exact ⟨by omega, le0 y394.2.2 rfl, by omega⟩))) (by repeat' (first | assumption | exact FW.rf | refine FW.up ?_ (by unfold wS; omega) | (refine FW.tr ?_ (by assumption)))) (by (try simp (disch := decide) only [upI_eq, upI_a, upI_i, upR_eq, upR_a, upR_i]); try assumption) (by (try simp (disch := decide) only [upI_eq, upI_a, upI_i, upR_eq, upR_a, upR_i]); try assumption)) | (exact no _ ((tsH_29 c1).trans (onw_n (by intro h; dsimp only [itm] at h; first | omega | (rw [if_pos c426] at h; omega) | (rw [if_neg c426] at h; omega)))) (by repeat' (first | assumption | exact FW.rf | refine FW.up ?_ (by unfold wS; omega) | (refine FW.tr ?_ (by assumption)))) (by (try simp (disch := decide) only [upI_eq, upI_a, upI_i, upR_eq, upR_a, upR_i]); try assumption))
      · skip
        try simp (disch := decide) only [upI_eq, upI_a, upI_i, upR_eq, upR_a, upR_i, E1, E4] at y398
        try simp (disch := decide) only [upI_eq, upI_a, upI_i, upR_eq, upR_a, upR_i, E1, E4] at x398
        refine s255_401.mpr (s255_403.mpr ?_)
        refine (s255_404 kM).mpr ?_
        try simp (disch := first | decide | assumption | omega) only [kon, knt_some, knt_none, Option.toList_some, Option.toList_none, List.cons_append, List.nil_append, upI_eq, upI_a, upI_i, upR_eq, upR_a, upR_i, h36, ht, E1, E2, E3, E4, E5, E6, E7, fAdd_id, fSub_id, fMul_id]
        refine s255_407.mpr (wif (fun c407 => ?_) (fun c407 => ?_))
        · first
          | (exfalso; omega)
          | skip
            refine (s255_583).mpr ?_
            first | (exfalso; omega) | (exact ok _ _ _ ((tsH_29n c1 (by dsimp only; intro h6; rw [h6] at y398; exact absurd y398.2.2 (by decide))).trans (onw_p (by dsimp only; exact ⟨by omega, le0 y394.2.2 rfl, Or.inr ⟨by omega, by unfold itm; first | (rw [if_pos c426]; exact y443.2) | (rw [if_neg c426]; exact y443.2)⟩⟩))) (flw1 (by rw [c1]; decide)) (by repeat' (first | assumption | exact FW.rf | refine FW.up ?_ (by unfold wS; omega) | (refine FW.tr ?_ (by assumption)))) (by (try simp (disch := decide) only [upI_eq, upI_a, upI_i, upR_eq, upR_a, upR_i]); try assumption) (by (try simp (disch := decide) only [upI_eq, upI_a, upI_i, upR_eq, upR_a, upR_i]); try assumption) (by simp (disch := decide) only [scX, upI_eq, upI_a, upI_i, upR_eq, upR_a, upR_i, upI_ro, upI_rw, up1_same, up1_eq, ht, E1, E2, E3, E4, E5, E6, E7])) | (exact st _ ((tsH_29s c1 (by dsimp only; omega)).trans (onw_p (by dsimp only; exact ⟨by omega, le0 y394.2.2 rfl, by omega⟩))) (by repeat' (first | assumption | exact FW.rf | refine FW.up ?_ (by unfold wS; omega) | (refine FW.tr ?_ (by assumption)))) (by (try simp (disch := decide) only [upI_eq, upI_a, upI_i, upR_eq, upR_a, upR_i]); try assumption) (by (try simp (disch := decide) only [upI_eq, upI_a, upI_i, upR_eq, upR_a, upR_i]); try assumption)) | (exact no _ ((tsH_29 c1).trans (onw_n (by intro h; dsimp only [itm] at h; first | omega | (rw [if_pos c426] at h; omega) | (rw [if_neg c426] at h; omega)))) (by repeat' (first | assumption | exact FW.rf | refine FW.up ?_ (by unfold wS; omega) | (refine FW.tr ?_ (by assumption)))) (by (try simp (disch := decide) only [upI_eq, upI_a, upI_i, upR_eq, upR_a, upR_i]); try assumption))
        · first
          | (exfalso; omega)
          | skip
            refine s255_410.mpr ?_
            refine (s255_411 kM).mpr ?_
            try simp (disch := first | decide | assumption | omega) only [kon, knt_some, knt_none, Option.toList_some, Option.toList_none, List.cons_append, List.nil_append, upI_eq, upI_a, upI_i, upR_eq, upR_a, upR_i, h36, ht, E1, E2, E3, E4, E5, E6, E7, fAdd_id, fSub_id, fMul_id]
            refine s255_414.mpr (wif (fun c414 => ?_) (fun c414 => ?_))
            · first
              | (exfalso; omega)
              | skip
                refine s255_417.mpr (s255_418.mpr (s255_420.mpr ?_))
                refine (s255_422 (by omega)).mpr ?_
                refine m_kind.mpr ?_
                refine s255_425.mpr ?_
                refine s255_426.mpr (wif (fun c426 => ?_) (fun c426 => ?_))
                · first
                  | (exfalso; omega)
                  | skip
                    refine s255_429.mpr (s255_430.mpr ?_)
                    refine (s255_443 (by omega) kM).mpr ?_
                    refine m_fits hA hR (by omega) (by (try simp (disch := decide) only [upI_eq, upI_a, upI_i, upR_eq, upR_a, upR_i]); first | assumption | rfl) (by omega) (fun y443 => ?_) (fun y443 => ?_)
                    · skip
                      refine s255_446.mpr ?_
                      refine (s255_583).mpr ?_
                      first | (exfalso; omega) | (exact ok _ _ _ ((tsH_29n c1 (by dsimp only; intro h6; rw [h6] at y398; exact absurd y398.2.2 (by decide))).trans (onw_p (by dsimp only; exact ⟨by omega, le0 y394.2.2 rfl, Or.inr ⟨by omega, by unfold itm; first | (rw [if_pos c426]; exact y443.2) | (rw [if_neg c426]; exact y443.2)⟩⟩))) (flw1 (by rw [c1]; decide)) (by repeat' (first | assumption | exact FW.rf | refine FW.up ?_ (by unfold wS; omega) | (refine FW.tr ?_ (by assumption)))) (by (try simp (disch := decide) only [upI_eq, upI_a, upI_i, upR_eq, upR_a, upR_i]); try assumption) (by (try simp (disch := decide) only [upI_eq, upI_a, upI_i, upR_eq, upR_a, upR_i]); try assumption) (by simp (disch := decide) only [scX, upI_eq, upI_a, upI_i, upR_eq, upR_a, upR_i, upI_ro, upI_rw, up1_same, up1_eq, ht, E1, E2, E3, E4, E5, E6, E7])) | (exact st _ ((tsH_29s c1 (by dsimp only; omega)).trans (onw_p (by dsimp only; exact ⟨by omega, le0 y394.2.2 rfl, by omega⟩))) (by repeat' (first | assumption | exact FW.rf | refine FW.up ?_ (by unfold wS; omega) | (refine FW.tr ?_ (by assumption)))) (by (try simp (disch := decide) only [upI_eq, upI_a, upI_i, upR_eq, upR_a, upR_i]); try assumption) (by (try simp (disch := decide) only [upI_eq, upI_a, upI_i, upR_eq, upR_a, upR_i]); try assumption)) | (exact no _ ((tsH_29 c1).trans (onw_n (by intro h; dsimp only [itm] at h; first | omega | (rw [if_pos c426] at h; omega) | (rw [if_neg c426] at h; omega)))) (by repeat' (first | assumption | exact FW.rf | refine FW.up ?_ (by unfold wS; omega) | (refine FW.tr ?_ (by assumption)))) (by (try simp (disch := decide) only [upI_eq, upI_a, upI_i, upR_eq, upR_a, upR_i]); try assumption))
                    · skip
                      refine s255_446.mpr ?_
                      refine (s255_583).mpr ?_
                      first | (exfalso; omega) | (exact ok _ _ _ ((tsH_29n c1 (by dsimp only; intro h6; rw [h6] at y398; exact absurd y398.2.2 (by decide))).trans (onw_p (by dsimp only; exact ⟨by omega, le0 y394.2.2 rfl, Or.inr ⟨by omega, by unfold itm; first | (rw [if_pos c426]; exact y443.2) | (rw [if_neg c426]; exact y443.2)⟩⟩))) (flw1 (by rw [c1]; decide)) (by repeat' (first | assumption | exact FW.rf | refine FW.up ?_ (by unfold wS; omega) | (refine FW.tr ?_ (by assumption)))) (by (try simp (disch := decide) only [upI_eq, upI_a, upI_i, upR_eq, upR_a, upR_i]); try assumption) (by (try simp (disch := decide) only [upI_eq, upI_a, upI_i, upR_eq, upR_a, upR_i]); try assumption) (by simp (disch := decide) only [scX, upI_eq, upI_a, upI_i, upR_eq, upR_a, upR_i, upI_ro, upI_rw, up1_same, up1_eq, ht, E1, E2, E3, E4, E5, E6, E7])) | (exact st _ ((tsH_29s c1 (by dsimp only; omega)).trans (onw_p (by dsimp only; exact ⟨by omega, le0 y394.2.2 rfl, by omega⟩))) (by repeat' (first | assumption | exact FW.rf | refine FW.up ?_ (by unfold wS; omega) | (refine FW.tr ?_ (by assumption)))) (by (try simp (disch := decide) only [upI_eq, upI_a, upI_i, upR_eq, upR_a, upR_i]); try assumption) (by (try simp (disch := decide) only [upI_eq, upI_a, upI_i, upR_eq, upR_a, upR_i]); try assumption)) | (exact no _ ((tsH_29 c1).trans (onw_n (by intro h; dsimp only [itm] at h; first | omega | (rw [if_pos c426] at h; omega) | (rw [if_neg c426] at h; omega)))) (by repeat' (first | assumption | exact FW.rf | refine FW.up ?_ (by unfold wS; omega) | (refine FW.tr ?_ (by assumption)))) (by (try simp (disch := decide) only [upI_eq, upI_a, upI_i, upR_eq, upR_a, upR_i]); try assumption))
                · first
                  | (exfalso; omega)
                  | skip
                    refine s255_433.mpr (s255_434.mpr (s255_436.mpr ?_))
                    refine (s255_438 (by omega)).mpr ?_
                    refine (m_which (vT_rng (hv75 _ (by omega) (by omega)))).mpr ?_
                    refine s255_441.mpr (s255_442.mpr ?_)
                    try simp (disch := first | decide | assumption | omega) only [kon, knt_some, knt_none, Option.toList_some, Option.toList_none, List.cons_append, List.nil_append, upI_eq, upI_a, upI_i, upR_eq, upR_a, upR_i, h36, ht, E1, E2, E3, E4, E5, E6, E7, fAdd_id, fSub_id, fMul_id]
                    refine (s255_443 (by omega) kM).mpr ?_
                    refine m_fits hA hR (by omega) (by (try simp (disch := decide) only [upI_eq, upI_a, upI_i, upR_eq, upR_a, upR_i]); first | assumption | rfl) (by omega) (fun y443 => ?_) (fun y443 => ?_)
                    · skip
                      refine s255_446.mpr ?_
                      refine (s255_583).mpr ?_
                      first | (exfalso; omega) | (exact ok _ _ _ ((tsH_29n c1 (by dsimp only; intro h6; rw [h6] at y398; exact absurd y398.2.2 (by decide))).trans (onw_p (by dsimp only; exact ⟨by omega, le0 y394.2.2 rfl, Or.inr ⟨by omega, by unfold itm; first | (rw [if_pos c426]; exact y443.2) | (rw [if_neg c426]; exact y443.2)⟩⟩))) (flw1 (by rw [c1]; decide)) (by repeat' (first | assumption | exact FW.rf | refine FW.up ?_ (by unfold wS; omega) | (refine FW.tr ?_ (by assumption)))) (by (try simp (disch := decide) only [upI_eq, upI_a, upI_i, upR_eq, upR_a, upR_i]); try assumption) (by (try simp (disch := decide) only [upI_eq, upI_a, upI_i, upR_eq, upR_a, upR_i]); try assumption) (by simp (disch := decide) only [scX, upI_eq, upI_a, upI_i, upR_eq, upR_a, upR_i, upI_ro, upI_rw, up1_same, up1_eq, ht, E1, E2, E3, E4, E5, E6, E7])) | (exact st _ ((tsH_29s c1 (by dsimp only; omega)).trans (onw_p (by dsimp only; exact ⟨by omega, le0 y394.2.2 rfl, by omega⟩))) (by repeat' (first | assumption | exact FW.rf | refine FW.up ?_ (by unfold wS; omega) | (refine FW.tr ?_ (by assumption)))) (by (try simp (disch := decide) only [upI_eq, upI_a, upI_i, upR_eq, upR_a, upR_i]); try assumption) (by (try simp (disch := decide) only [upI_eq, upI_a, upI_i, upR_eq, upR_a, upR_i]); try assumption)) | (exact no _ ((tsH_29 c1).trans (onw_n (by intro h; dsimp only [itm] at h; first | omega | (rw [if_pos c426] at h; omega) | (rw [if_neg c426] at h; omega)))) (by repeat' (first | assumption | exact FW.rf | refine FW.up ?_ (by unfold wS; omega) | (refine FW.tr ?_ (by assumption)))) (by (try simp (disch := decide) only [upI_eq, upI_a, upI_i, upR_eq, upR_a, upR_i]); try assumption))
                    · skip
                      refine s255_446.mpr ?_
                      refine (s255_583).mpr ?_
                      first | (exfalso; omega) | (exact ok _ _ _ ((tsH_29n c1 (by dsimp only; intro h6; rw [h6] at y398; exact absurd y398.2.2 (by decide))).trans (onw_p (by dsimp only; exact ⟨by omega, le0 y394.2.2 rfl, Or.inr ⟨by omega, by unfold itm; first | (rw [if_pos c426]; exact y443.2) | (rw [if_neg c426]; exact y443.2)⟩⟩))) (flw1 (by rw [c1]; decide)) (by repeat' (first | assumption | exact FW.rf | refine FW.up ?_ (by unfold wS; omega) | (refine FW.tr ?_ (by assumption)))) (by (try simp (disch := decide) only [upI_eq, upI_a, upI_i, upR_eq, upR_a, upR_i]); try assumption) (by (try simp (disch := decide) only [upI_eq, upI_a, upI_i, upR_eq, upR_a, upR_i]); try assumption) (by simp (disch := decide) only [scX, upI_eq, upI_a, upI_i, upR_eq, upR_a, upR_i, upI_ro, upI_rw, up1_same, up1_eq, ht, E1, E2, E3, E4, E5, E6, E7])) | (exact st _ ((tsH_29s c1 (by dsimp only; omega)).trans (onw_p (by dsimp only; exact ⟨by omega, le0 y394.2.2 rfl, by omega⟩))) (by repeat' (first | assumption | exact FW.rf | refine FW.up ?_ (by unfold wS; omega) | (refine FW.tr ?_ (by assumption)))) (by (try simp (disch := decide) only [upI_eq, upI_a, upI_i, upR_eq, upR_a, upR_i]); try assumption) (by (try simp (disch := decide) only [upI_eq, upI_a, upI_i, upR_eq, upR_a, upR_i]); try assumption)) | (exact no _ ((tsH_29 c1).trans (onw_n (by intro h; dsimp only [itm] at h; first | omega | (rw [if_pos c426] at h; omega) | (rw [if_neg c426] at h; omega)))) (by repeat' (first | assumption | exact FW.rf | refine FW.up ?_ (by unfold wS; omega) | (refine FW.tr ?_ (by assumption)))) (by (try simp (disch := decide) only [upI_eq, upI_a, upI_i, upR_eq, upR_a, upR_i]); try assumption))
            · first
              | (exfalso; omega)
              | skip
                refine (s255_583).mpr ?_
                first | (exfalso; omega) | (exact ok _ _ _ ((tsH_29n c1 (by dsimp only; intro h6; rw [h6] at y398; exact absurd y398.2.2 (by decide))).trans (onw_p (by dsimp only; exact ⟨by omega, le0 y394.2.2 rfl, Or.inr ⟨by omega, by unfold itm; first | (rw [if_pos c426]; exact y443.2) | (rw [if_neg c426]; exact y443.2)⟩⟩))) (flw1 (by rw [c1]; decide)) (by repeat' (first | assumption | exact FW.rf | refine FW.up ?_ (by unfold wS; omega) | (refine FW.tr ?_ (by assumption)))) (by (try simp (disch := decide) only [upI_eq, upI_a, upI_i, upR_eq, upR_a, upR_i]); try assumption) (by (try simp (disch := decide) only [upI_eq, upI_a, upI_i, upR_eq, upR_a, upR_i]); try assumption) (by simp (disch := decide) only [scX, upI_eq, upI_a, upI_i, upR_eq, upR_a, upR_i, upI_ro, upI_rw, up1_same, up1_eq, ht, E1, E2, E3, E4, E5, E6, E7])) | (exact st _ ((tsH_29s c1 (by dsimp only; omega)).trans (onw_p (by dsimp only; exact ⟨by omega, le0 y394.2.2 rfl, by omega⟩))) (by repeat' (first | assumption | exact FW.rf | refine FW.up ?_ (by unfold wS; omega) | (refine FW.tr ?_ (by assumption)))) (by (try simp (disch := decide) only [upI_eq, upI_a, upI_i, upR_eq, upR_a, upR_i]); try assumption) (by (try simp (disch := decide) only [upI_eq, upI_a, upI_i, upR_eq, upR_a, upR_i]); try assumption)) | (exact no _ ((tsH_29 c1).trans (onw_n (by intro h; dsimp only [itm] at h; first | omega | (rw [if_pos c426] at h; omega) | (rw [if_neg c426] at h; omega)))) (by repeat' (first | assumption | exact FW.rf | refine FW.up ?_ (by unfold wS; omega) | (refine FW.tr ?_ (by assumption)))) (by (try simp (disch := decide) only [upI_eq, upI_a, upI_i, upR_eq, upR_a, upR_i]); try assumption))
theorem m_h30 {m g op v p t : Int} (hA : SA al) (hR : MR hr) (hd : 4 ≤ d) (hM : MB hi m B) (hS : Sh B) (hg : 0 ≤ g ∧ g < nFn B) (h36 : hi 49 36 = 1) (h38 : hi 49 38 = 0) (ht : hi 49 35 = t) (ht0 : 0 ≤ t ∧ t ≤ 16) (hvX : vX B (t, hi 75, hi 76)) (c1 : op = 30) (hv0 : 0 ≤ v) (hvn : v < nFn B)
    (ok : ∀ L Y hi', tsH B g op v p (t, hi 75, hi 76) = some L → FLW op v p Y L → FW wS hi hi' → hi' 49 36 = 1 → hi' 49 38 = 0 → scX hi' = Y → Q (some none) al hi' hr)
    (st : ∀ hi', tsH B g op v p (t, hi 75, hi 76) = some [] → FW wS hi hi' → hi' 49 36 = 1 → hi' 49 38 = 1 → Q (some none) al hi' hr)
    (no : ∀ hi', tsH B g op v p (t, hi 75, hi 76) = none → FW wS hi hi' → hi' 49 36 = 0 → Q (some none) al hi' hr) : Wp d 255 449 [vR (some 49), vI m, vI (10 * m + g), vI op, vI v, none, none, none, none] [] al hi hr Q := by
  have kM : isK al 49 13 := hA.k (by decide) (by decide) rfl
  obtain ⟨hm0, hm1, h52, hB, m1, m2, m3, m4, m5, m6⟩ := id hM
  obtain ⟨r0, r1, hSR, p30, c0, c8, hSC, p50, f0, f1, hSF⟩ := id hS
  have m6r : ∀ g, 0 ≤ g → g < nFn B → hi 66 (10 * m + g) = rTy B g := fun g a b => (m6 g a b).2.2.1
  have l66 := SA.len (a := 66) (n := 130) hA (by decide) (by decide) rfl
  have l76 := SA.len (a := 76) (n := 10) hA (by decide) (by decide) rfl
  have e66 := m6r v (by omega) hvn
  obtain ⟨n0, n4, -⟩ := hSF v (by omega) hvn
  refine s255_449.mpr (s255_450.mpr (s255_452.mpr (s255_453.mpr (s255_454.mpr (s255_456.mpr ?_)))))
  try simp (disch := first | decide | assumption | omega) only [kon, knt_some, knt_none, Option.toList_some, Option.toList_none, List.cons_append, List.nil_append, upI_eq, upI_a, upI_i, upR_eq, upR_a, upR_i, h36, e66, fAdd_id, fMul_id]
  refine (s255_457 (by omega) kM).mpr ?_
  refine m_takes (B := B) hA hR (by omega) hM ⟨by omega, hvn⟩ hS h36 (by omega) ht ht0 (fun y457 z457 x457 => ?_) (fun hi457 w457 z457 x457 => ?_)
  · skip
    refine s255_460.mpr ?_
    refine (s255_461 kM).mpr ?_
    try simp (disch := first | decide | assumption | omega) only [kon, knt_some, knt_none, Option.toList_some, Option.toList_none, List.cons_append, List.nil_append, upI_eq, upI_a, upI_i, upR_eq, upR_a, upR_i, h36, e66, fAdd_id, fMul_id]
    refine s255_464.mpr (wif (fun c464 => ?_) (fun c464 => ?_))
    · skip
      refine (s255_583).mpr ?_
      first | (exfalso; omega) | (exact ok _ _ _ ((tsH_30 c1).trans (onw_p ⟨z457, x457⟩)) (by rw [if_pos (by assumption)]; exact flw1 (by rw [c1]; decide)) (by repeat' (first | assumption | exact FW.rf | refine FW.up ?_ (by unfold wS; omega) | (refine FW.tr ?_ (by assumption)))) (by (try simp (disch := decide) only [upI_eq, upI_a, upI_i, upR_eq, upR_a, upR_i]); try assumption) (by (try simp (disch := decide) only [upI_eq, upI_a, upI_i, upR_eq, upR_a, upR_i]); try assumption) (by simp (disch := decide) only [scX, upI_eq, upI_a, upI_i, upR_eq, upR_a, upR_i, upI_ro, upI_rw])) | (exact ok _ _ _ ((tsH_30 c1).trans (onw_p ⟨z457, x457⟩)) (by rw [if_neg (by assumption)]; exact flw1 (by rw [c1]; decide)) (by repeat' (first | assumption | exact FW.rf | refine FW.up ?_ (by unfold wS; omega) | (refine FW.tr ?_ (by assumption)))) (by (try simp (disch := decide) only [upI_eq, upI_a, upI_i, upR_eq, upR_a, upR_i]); try assumption) (by (try simp (disch := decide) only [upI_eq, upI_a, upI_i, upR_eq, upR_a, upR_i]); try assumption) (by simp (disch := decide) only [scX, upI_eq, upI_a, upI_i, upR_eq, upR_a, upR_i, upI_ro, upI_rw])) | (exact no _ ((tsH_30 c1).trans (onw_n (by intro h; rcases x457 with h9 | h9; omega; exact h9 h))) (by repeat' (first | assumption | exact FW.rf | refine FW.up ?_ (by unfold wS; omega) | (refine FW.tr ?_ (by assumption)))) (by (try simp (disch := decide) only [upI_eq, upI_a, upI_i, upR_eq, upR_a, upR_i]); try assumption))
    · skip
      refine s255_467.mpr ((s255_468 kM).mpr ?_)
      rw [mr_18 hR]
      refine s255_471.mpr (s255_473.mpr (s255_474.mpr (s255_475.mpr (s255_477.mpr ?_))))
      try simp (disch := first | decide | assumption | omega) only [kon, knt_some, knt_none, Option.toList_some, Option.toList_none, List.cons_append, List.nil_append, upI_eq, upI_a, upI_i, upR_eq, upR_a, upR_i, h36, e66, fAdd_id, fMul_id]
      refine (s255_478 (hA.k (by decide) (by decide) rfl) (by first | assumption | omega) (by first | assumption | omega)).mpr ?_
      refine s255_479.mpr ?_
      try simp (disch := first | decide | assumption | omega) only [kon, knt_some, knt_none, Option.toList_some, Option.toList_none, List.cons_append, List.nil_append, upI_eq, upI_a, upI_i, upR_eq, upR_a, upR_i, h36, e66, fAdd_id, fMul_id]
      refine s255_480.mpr (wif (fun c480 => ?_) (fun c480 => ?_))
      · skip
        refine (s255_583).mpr ?_
        first | (exfalso; omega) | (exact ok _ _ _ ((tsH_30 c1).trans (onw_p ⟨z457, x457⟩)) (by rw [if_pos (by assumption)]; exact flw1 (by rw [c1]; decide)) (by repeat' (first | assumption | exact FW.rf | refine FW.up ?_ (by unfold wS; omega) | (refine FW.tr ?_ (by assumption)))) (by (try simp (disch := decide) only [upI_eq, upI_a, upI_i, upR_eq, upR_a, upR_i]); try assumption) (by (try simp (disch := decide) only [upI_eq, upI_a, upI_i, upR_eq, upR_a, upR_i]); try assumption) (by simp (disch := decide) only [scX, upI_eq, upI_a, upI_i, upR_eq, upR_a, upR_i, upI_ro, upI_rw])) | (exact ok _ _ _ ((tsH_30 c1).trans (onw_p ⟨z457, x457⟩)) (by rw [if_neg (by assumption)]; exact flw1 (by rw [c1]; decide)) (by repeat' (first | assumption | exact FW.rf | refine FW.up ?_ (by unfold wS; omega) | (refine FW.tr ?_ (by assumption)))) (by (try simp (disch := decide) only [upI_eq, upI_a, upI_i, upR_eq, upR_a, upR_i]); try assumption) (by (try simp (disch := decide) only [upI_eq, upI_a, upI_i, upR_eq, upR_a, upR_i]); try assumption) (by simp (disch := decide) only [scX, upI_eq, upI_a, upI_i, upR_eq, upR_a, upR_i, upI_ro, upI_rw])) | (exact no _ ((tsH_30 c1).trans (onw_n (by intro h; rcases x457 with h9 | h9; omega; exact h9 h))) (by repeat' (first | assumption | exact FW.rf | refine FW.up ?_ (by unfold wS; omega) | (refine FW.tr ?_ (by assumption)))) (by (try simp (disch := decide) only [upI_eq, upI_a, upI_i, upR_eq, upR_a, upR_i]); try assumption))
      · skip
        refine s255_483.mpr (s255_484.mpr ((s255_485 kM).mpr ?_))
        rw [mr_18 hR]
        refine s255_488.mpr (s255_490.mpr (s255_491.mpr (s255_492.mpr (s255_494.mpr ?_))))
        try simp (disch := first | decide | assumption | omega) only [kon, knt_some, knt_none, Option.toList_some, Option.toList_none, List.cons_append, List.nil_append, upI_eq, upI_a, upI_i, upR_eq, upR_a, upR_i, h36, e66, fAdd_id, fMul_id]
        refine (s255_495 (hA.k (by decide) (by decide) rfl) (by first | assumption | omega) (by first | assumption | omega)).mpr ?_
        try simp (disch := first | decide | assumption | omega) only [kon, knt_some, knt_none, Option.toList_some, Option.toList_none, List.cons_append, List.nil_append, upI_eq, upI_a, upI_i, upR_eq, upR_a, upR_i, h36, e66, fAdd_id, fMul_id]
        refine (s255_496 (by omega) kM).mpr ?_
        refine m_push hA hR (by (try simp (disch := decide) only [upI_eq, upI_a, upI_i, upR_eq, upR_a, upR_i]); first | assumption | rfl) (by omega) ?_
        refine s255_499.mpr ?_
        refine (s255_583).mpr ?_
        first | (exfalso; omega) | (exact ok _ _ _ ((tsH_30 c1).trans (onw_p ⟨z457, x457⟩)) (by rw [if_pos (by assumption)]; exact flw1 (by rw [c1]; decide)) (by repeat' (first | assumption | exact FW.rf | refine FW.up ?_ (by unfold wS; omega) | (refine FW.tr ?_ (by assumption)))) (by (try simp (disch := decide) only [upI_eq, upI_a, upI_i, upR_eq, upR_a, upR_i]); try assumption) (by (try simp (disch := decide) only [upI_eq, upI_a, upI_i, upR_eq, upR_a, upR_i]); try assumption) (by simp (disch := decide) only [scX, upI_eq, upI_a, upI_i, upR_eq, upR_a, upR_i, upI_ro, upI_rw])) | (exact ok _ _ _ ((tsH_30 c1).trans (onw_p ⟨z457, x457⟩)) (by rw [if_neg (by assumption)]; exact flw1 (by rw [c1]; decide)) (by repeat' (first | assumption | exact FW.rf | refine FW.up ?_ (by unfold wS; omega) | (refine FW.tr ?_ (by assumption)))) (by (try simp (disch := decide) only [upI_eq, upI_a, upI_i, upR_eq, upR_a, upR_i]); try assumption) (by (try simp (disch := decide) only [upI_eq, upI_a, upI_i, upR_eq, upR_a, upR_i]); try assumption) (by simp (disch := decide) only [scX, upI_eq, upI_a, upI_i, upR_eq, upR_a, upR_i, upI_ro, upI_rw])) | (exact no _ ((tsH_30 c1).trans (onw_n (by intro h; rcases x457 with h9 | h9; omega; exact h9 h))) (by repeat' (first | assumption | exact FW.rf | refine FW.up ?_ (by unfold wS; omega) | (refine FW.tr ?_ (by assumption)))) (by (try simp (disch := decide) only [upI_eq, upI_a, upI_i, upR_eq, upR_a, upR_i]); try assumption))
  · skip
    refine s255_460.mpr ?_
    refine (s255_461 kM).mpr ?_
    try simp (disch := first | decide | assumption | omega) only [kon, knt_some, knt_none, Option.toList_some, Option.toList_none, List.cons_append, List.nil_append, upI_eq, upI_a, upI_i, upR_eq, upR_a, upR_i, h36, e66, fAdd_id, fMul_id]
    refine s255_464.mpr (wif (fun c464 => ?_) (fun c464 => ?_))
    · skip
      refine (s255_583).mpr ?_
      first | (exfalso; omega) | (exact ok _ _ _ ((tsH_30 c1).trans (onw_p ⟨z457, x457⟩)) (by rw [if_pos (by assumption)]; exact flw1 (by rw [c1]; decide)) (by repeat' (first | assumption | exact FW.rf | refine FW.up ?_ (by unfold wS; omega) | (refine FW.tr ?_ (by assumption)))) (by (try simp (disch := decide) only [upI_eq, upI_a, upI_i, upR_eq, upR_a, upR_i]); try assumption) (by (try simp (disch := decide) only [upI_eq, upI_a, upI_i, upR_eq, upR_a, upR_i]); try assumption) (by simp (disch := decide) only [scX, upI_eq, upI_a, upI_i, upR_eq, upR_a, upR_i, upI_ro, upI_rw])) | (exact ok _ _ _ ((tsH_30 c1).trans (onw_p ⟨z457, x457⟩)) (by rw [if_neg (by assumption)]; exact flw1 (by rw [c1]; decide)) (by repeat' (first | assumption | exact FW.rf | refine FW.up ?_ (by unfold wS; omega) | (refine FW.tr ?_ (by assumption)))) (by (try simp (disch := decide) only [upI_eq, upI_a, upI_i, upR_eq, upR_a, upR_i]); try assumption) (by (try simp (disch := decide) only [upI_eq, upI_a, upI_i, upR_eq, upR_a, upR_i]); try assumption) (by simp (disch := decide) only [scX, upI_eq, upI_a, upI_i, upR_eq, upR_a, upR_i, upI_ro, upI_rw])) | (exact no _ ((tsH_30 c1).trans (onw_n (by intro h; rcases x457 with h9 | h9; omega; exact h9 h))) (by repeat' (first | assumption | exact FW.rf | refine FW.up ?_ (by unfold wS; omega) | (refine FW.tr ?_ (by assumption)))) (by (try simp (disch := decide) only [upI_eq, upI_a, upI_i, upR_eq, upR_a, upR_i]); try assumption))
    · skip
      refine s255_467.mpr ((s255_468 kM).mpr ?_)
      rw [mr_18 hR]
      refine s255_471.mpr (s255_473.mpr (s255_474.mpr (s255_475.mpr (s255_477.mpr ?_))))
      try simp (disch := first | decide | assumption | omega) only [kon, knt_some, knt_none, Option.toList_some, Option.toList_none, List.cons_append, List.nil_append, upI_eq, upI_a, upI_i, upR_eq, upR_a, upR_i, h36, e66, fAdd_id, fMul_id]
      refine (s255_478 (hA.k (by decide) (by decide) rfl) (by first | assumption | omega) (by first | assumption | omega)).mpr ?_
      refine s255_479.mpr ?_
      try simp (disch := first | decide | assumption | omega) only [kon, knt_some, knt_none, Option.toList_some, Option.toList_none, List.cons_append, List.nil_append, upI_eq, upI_a, upI_i, upR_eq, upR_a, upR_i, h36, e66, fAdd_id, fMul_id]
      refine s255_480.mpr (wif (fun c480 => ?_) (fun c480 => ?_))
      · skip
        refine (s255_583).mpr ?_
        first | (exfalso; omega) | (exact ok _ _ _ ((tsH_30 c1).trans (onw_p ⟨z457, x457⟩)) (by rw [if_pos (by assumption)]; exact flw1 (by rw [c1]; decide)) (by repeat' (first | assumption | exact FW.rf | refine FW.up ?_ (by unfold wS; omega) | (refine FW.tr ?_ (by assumption)))) (by (try simp (disch := decide) only [upI_eq, upI_a, upI_i, upR_eq, upR_a, upR_i]); try assumption) (by (try simp (disch := decide) only [upI_eq, upI_a, upI_i, upR_eq, upR_a, upR_i]); try assumption) (by simp (disch := decide) only [scX, upI_eq, upI_a, upI_i, upR_eq, upR_a, upR_i, upI_ro, upI_rw])) | (exact ok _ _ _ ((tsH_30 c1).trans (onw_p ⟨z457, x457⟩)) (by rw [if_neg (by assumption)]; exact flw1 (by rw [c1]; decide)) (by repeat' (first | assumption | exact FW.rf | refine FW.up ?_ (by unfold wS; omega) | (refine FW.tr ?_ (by assumption)))) (by (try simp (disch := decide) only [upI_eq, upI_a, upI_i, upR_eq, upR_a, upR_i]); try assumption) (by (try simp (disch := decide) only [upI_eq, upI_a, upI_i, upR_eq, upR_a, upR_i]); try assumption) (by simp (disch := decide) only [scX, upI_eq, upI_a, upI_i, upR_eq, upR_a, upR_i, upI_ro, upI_rw])) | (exact no _ ((tsH_30 c1).trans (onw_n (by intro h; rcases x457 with h9 | h9; omega; exact h9 h))) (by repeat' (first | assumption | exact FW.rf | refine FW.up ?_ (by unfold wS; omega) | (refine FW.tr ?_ (by assumption)))) (by (try simp (disch := decide) only [upI_eq, upI_a, upI_i, upR_eq, upR_a, upR_i]); try assumption))
      · skip
        refine s255_483.mpr (s255_484.mpr ((s255_485 kM).mpr ?_))
        rw [mr_18 hR]
        refine s255_488.mpr (s255_490.mpr (s255_491.mpr (s255_492.mpr (s255_494.mpr ?_))))
        try simp (disch := first | decide | assumption | omega) only [kon, knt_some, knt_none, Option.toList_some, Option.toList_none, List.cons_append, List.nil_append, upI_eq, upI_a, upI_i, upR_eq, upR_a, upR_i, h36, e66, fAdd_id, fMul_id]
        refine (s255_495 (hA.k (by decide) (by decide) rfl) (by first | assumption | omega) (by first | assumption | omega)).mpr ?_
        try simp (disch := first | decide | assumption | omega) only [kon, knt_some, knt_none, Option.toList_some, Option.toList_none, List.cons_append, List.nil_append, upI_eq, upI_a, upI_i, upR_eq, upR_a, upR_i, h36, e66, fAdd_id, fMul_id]
        refine (s255_496 (by omega) kM).mpr ?_
        refine m_push hA hR (by (try simp (disch := decide) only [upI_eq, upI_a, upI_i, upR_eq, upR_a, upR_i]); first | assumption | rfl) (by omega) ?_
        refine s255_499.mpr ?_
        refine (s255_583).mpr ?_
        first | (exfalso; omega) | (exact ok _ _ _ ((tsH_30 c1).trans (onw_p ⟨z457, x457⟩)) (by rw [if_pos (by assumption)]; exact flw1 (by rw [c1]; decide)) (by repeat' (first | assumption | exact FW.rf | refine FW.up ?_ (by unfold wS; omega) | (refine FW.tr ?_ (by assumption)))) (by (try simp (disch := decide) only [upI_eq, upI_a, upI_i, upR_eq, upR_a, upR_i]); try assumption) (by (try simp (disch := decide) only [upI_eq, upI_a, upI_i, upR_eq, upR_a, upR_i]); try assumption) (by simp (disch := decide) only [scX, upI_eq, upI_a, upI_i, upR_eq, upR_a, upR_i, upI_ro, upI_rw])) | (exact ok _ _ _ ((tsH_30 c1).trans (onw_p ⟨z457, x457⟩)) (by rw [if_neg (by assumption)]; exact flw1 (by rw [c1]; decide)) (by repeat' (first | assumption | exact FW.rf | refine FW.up ?_ (by unfold wS; omega) | (refine FW.tr ?_ (by assumption)))) (by (try simp (disch := decide) only [upI_eq, upI_a, upI_i, upR_eq, upR_a, upR_i]); try assumption) (by (try simp (disch := decide) only [upI_eq, upI_a, upI_i, upR_eq, upR_a, upR_i]); try assumption) (by simp (disch := decide) only [scX, upI_eq, upI_a, upI_i, upR_eq, upR_a, upR_i, upI_ro, upI_rw])) | (exact no _ ((tsH_30 c1).trans (onw_n (by intro h; rcases x457 with h9 | h9; omega; exact h9 h))) (by repeat' (first | assumption | exact FW.rf | refine FW.up ?_ (by unfold wS; omega) | (refine FW.tr ?_ (by assumption)))) (by (try simp (disch := decide) only [upI_eq, upI_a, upI_i, upR_eq, upR_a, upR_i]); try assumption))
theorem m_h31 {m g op v p t : Int} (hA : SA al) (hR : MR hr) (hd : 4 ≤ d) (hM : MB hi m B) (hS : Sh B) (hg : 0 ≤ g ∧ g < nFn B) (h36 : hi 49 36 = 1) (h38 : hi 49 38 = 0) (ht : hi 49 35 = t) (ht0 : 0 ≤ t ∧ t ≤ 16) (hvX : vX B (t, hi 75, hi 76)) (c1 : op = 31)
    (ok : ∀ L Y hi', tsH B g op v p (t, hi 75, hi 76) = some L → FLW op v p Y L → FW wS hi hi' → hi' 49 36 = 1 → hi' 49 38 = 0 → scX hi' = Y → Q (some none) al hi' hr)
    (st : ∀ hi', tsH B g op v p (t, hi 75, hi 76) = some [] → FW wS hi hi' → hi' 49 36 = 1 → hi' 49 38 = 1 → Q (some none) al hi' hr)
    (no : ∀ hi', tsH B g op v p (t, hi 75, hi 76) = none → FW wS hi hi' → hi' 49 36 = 0 → Q (some none) al hi' hr) : Wp d 255 502 [vR (some 49), vI m, vI (10 * m + g), vI op, vI v, none, none, none, none] [] al hi hr Q := by
  have kM : isK al 49 13 := hA.k (by decide) (by decide) rfl
  obtain ⟨hm0, hm1, h52, hB, m1, m2, m3, m4, m5, m6⟩ := id hM
  obtain ⟨r0, r1, hSR, p30, c0, c8, hSC, p50, f0, f1, hSF⟩ := id hS
  have m6r : ∀ g, 0 ≤ g → g < nFn B → hi 66 (10 * m + g) = rTy B g := fun g a b => (m6 g a b).2.2.1
  have l66 := SA.len (a := 66) (n := 130) hA (by decide) (by decide) rfl
  have l76 := SA.len (a := 76) (n := 10) hA (by decide) (by decide) rfl
  have e66 := m6r g hg.1 hg.2
  -- the locals
  have T548 : ∀ (C : Prop) (hi' : HI) (r : Int), FW wS hi hi' → hi' 76 = hi 76 → hi' 49 36 = r → hi' 49 38 = 0 → (r = 0 ∨ r = 1) → (r = 1 → C) → (r = 0 → ¬ C) → (C ↔ (if rTy B g = -1 then t = 0 else t = 1 ∧ leT (hi 75 0) (rTy B g))) → Wp d 255 548 [vR (some 49), vI m, vI (10 * m + g), vI op, vI v, none, none, none, vI 0] [] al hi' hr Q := by
    intro C hi' r hw h76 h36 h38 hr2 hr1 hr0 hC
    refine wp_cnt (N := 10) (fun k ls hi2 => ls = [vR (some 49), vI m, vI (10 * m + g), vI op, vI v, none, none, none, vI k] ∧ FW wS hi hi2 ∧ hi2 76 = hi 76 ∧ hi2 49 38 = 0 ∧ (hi2 49 36 = 0 ∨ hi2 49 36 = 1) ∧ (hi2 49 36 = 1 → C ∧ ∀ j : Int, 0 ≤ j → j < k → ¬ linT (hi 76 j)) ∧ (hi2 49 36 = 0 → ¬ (C ∧ ∀ j : Int, 0 ≤ j → j < k → ¬ linT (hi 76 j)))) ?_ ?_ _ _ ⟨rfl, hw, h76, h38, by rw [h36]; exact hr2, fun h => ⟨hr1 (by omega), fun j a b => by omega⟩, fun h q => hr0 (by omega) q.1⟩
    · rintro k ls hi2 hk ⟨rfl, hw, h76, h38, h36, ho, hz⟩ nx
      refine s255_548.mpr (s255_550.mpr ?_)
      refine s255_552.mpr (wif (fun c552 => ?_) (fun c552 => ?_))
      · skip
        refine s255_555.mpr (s255_556.mpr ((s255_557 kM).mpr ?_))
        rw [mr_34 hR]
        refine s255_560.mpr ?_
        refine (s255_562 (hA.k (by decide) (by decide) rfl) (by first | assumption | omega) (by first | assumption | omega)).mpr ?_
        try simp (disch := first | decide | assumption | omega) only [kon, knt_some, knt_none, Option.toList_some, Option.toList_none, List.cons_append, List.nil_append, fAdd_id]
        refine (s255_563 (by omega)).mpr ?_
        refine m_isLinear (by omega) (fun y563 => ?_) (fun y563 => ?_)
        · skip
          refine s255_566.mpr (wif (fun c566 => ?_) (fun c566 => ?_))
          · skip
            refine s255_569.mpr (s255_570.mpr ?_)
            refine (s255_574 (by omega) kM).mpr ?_
            refine m_wants hA (by omega) rfl h36 (fun y574 => ?_) (fun y574 => ?_)
            · skip
              refine s255_577.mpr (s255_580.mpr ?_)
              try simp (disch := first | decide | assumption | omega) only [kon, knt_some, knt_none, Option.toList_some, Option.toList_none, List.cons_append, List.nil_append, fAdd_id]
              rw [h76] at y563
              first | (exfalso; omega) | (exact nx _ _ ⟨rfl, hw, h76, h38, h36, fun h => ⟨(ho h).1, fun j a b => by by_cases e : j = k; (subst e; exact y563); exact (ho h).2 j a (by omega)⟩, fun h => by omega⟩) | (refine nx _ _ ⟨rfl, FW.up hw (by unfold wS; omega), by rw [upI_ro (by decide)]; exact h76, by (try simp (disch := decide) only [upI_eq, upI_a, upI_i, upR_eq, upR_a, upR_i]); exact h38, Or.inl upI_eq, fun h => by rw [upI_eq] at h; omega, fun _ q => ?_⟩; first | exact q.2 k (by omega) (by omega) y563 | (by_cases h0 : hi2 49 36 = 0; exact hz h0 ⟨q.1, fun j a b => q.2 j a (by omega)⟩; omega))
            · skip
              refine s255_577.mpr (s255_580.mpr ?_)
              try simp (disch := first | decide | assumption | omega) only [kon, knt_some, knt_none, Option.toList_some, Option.toList_none, List.cons_append, List.nil_append, fAdd_id]
              rw [h76] at y563
              first | (exfalso; omega) | (exact nx _ _ ⟨rfl, hw, h76, h38, h36, fun h => ⟨(ho h).1, fun j a b => by by_cases e : j = k; (subst e; exact y563); exact (ho h).2 j a (by omega)⟩, fun h => by omega⟩) | (refine nx _ _ ⟨rfl, FW.up hw (by unfold wS; omega), by rw [upI_ro (by decide)]; exact h76, by (try simp (disch := decide) only [upI_eq, upI_a, upI_i, upR_eq, upR_a, upR_i]); exact h38, Or.inl upI_eq, fun h => by rw [upI_eq] at h; omega, fun _ q => ?_⟩; first | exact q.2 k (by omega) (by omega) y563 | (by_cases h0 : hi2 49 36 = 0; exact hz h0 ⟨q.1, fun j a b => q.2 j a (by omega)⟩; omega))
          · skip
            refine s255_573.mpr ?_
            refine (s255_574 (by omega) kM).mpr ?_
            refine m_wants hA (by omega) rfl h36 (fun y574 => ?_) (fun y574 => ?_)
            · skip
              refine s255_577.mpr (s255_580.mpr ?_)
              try simp (disch := first | decide | assumption | omega) only [kon, knt_some, knt_none, Option.toList_some, Option.toList_none, List.cons_append, List.nil_append, fAdd_id]
              rw [h76] at y563
              first | (exfalso; omega) | (exact nx _ _ ⟨rfl, hw, h76, h38, h36, fun h => ⟨(ho h).1, fun j a b => by by_cases e : j = k; (subst e; exact y563); exact (ho h).2 j a (by omega)⟩, fun h => by omega⟩) | (refine nx _ _ ⟨rfl, FW.up hw (by unfold wS; omega), by rw [upI_ro (by decide)]; exact h76, by (try simp (disch := decide) only [upI_eq, upI_a, upI_i, upR_eq, upR_a, upR_i]); exact h38, Or.inl upI_eq, fun h => by rw [upI_eq] at h; omega, fun _ q => ?_⟩; first | exact q.2 k (by omega) (by omega) y563 | (by_cases h0 : hi2 49 36 = 0; exact hz h0 ⟨q.1, fun j a b => q.2 j a (by omega)⟩; omega))
            · skip
              refine s255_577.mpr (s255_580.mpr ?_)
              try simp (disch := first | decide | assumption | omega) only [kon, knt_some, knt_none, Option.toList_some, Option.toList_none, List.cons_append, List.nil_append, fAdd_id]
              rw [h76] at y563
              first | (exfalso; omega) | (exact nx _ _ ⟨rfl, hw, h76, h38, h36, fun h => ⟨(ho h).1, fun j a b => by by_cases e : j = k; (subst e; exact y563); exact (ho h).2 j a (by omega)⟩, fun h => by omega⟩) | (refine nx _ _ ⟨rfl, FW.up hw (by unfold wS; omega), by rw [upI_ro (by decide)]; exact h76, by (try simp (disch := decide) only [upI_eq, upI_a, upI_i, upR_eq, upR_a, upR_i]); exact h38, Or.inl upI_eq, fun h => by rw [upI_eq] at h; omega, fun _ q => ?_⟩; first | exact q.2 k (by omega) (by omega) y563 | (by_cases h0 : hi2 49 36 = 0; exact hz h0 ⟨q.1, fun j a b => q.2 j a (by omega)⟩; omega))
        · skip
          refine s255_566.mpr (wif (fun c566 => ?_) (fun c566 => ?_))
          · skip
            refine s255_569.mpr (s255_570.mpr ?_)
            refine (s255_574 (by omega) kM).mpr ?_
            refine m_wants hA (by omega) rfl h36 (fun y574 => ?_) (fun y574 => ?_)
            · skip
              refine s255_577.mpr (s255_580.mpr ?_)
              try simp (disch := first | decide | assumption | omega) only [kon, knt_some, knt_none, Option.toList_some, Option.toList_none, List.cons_append, List.nil_append, fAdd_id]
              rw [h76] at y563
              first | (exfalso; omega) | (exact nx _ _ ⟨rfl, hw, h76, h38, h36, fun h => ⟨(ho h).1, fun j a b => by by_cases e : j = k; (subst e; exact y563); exact (ho h).2 j a (by omega)⟩, fun h => by omega⟩) | (refine nx _ _ ⟨rfl, FW.up hw (by unfold wS; omega), by rw [upI_ro (by decide)]; exact h76, by (try simp (disch := decide) only [upI_eq, upI_a, upI_i, upR_eq, upR_a, upR_i]); exact h38, Or.inl upI_eq, fun h => by rw [upI_eq] at h; omega, fun _ q => ?_⟩; first | exact q.2 k (by omega) (by omega) y563 | (by_cases h0 : hi2 49 36 = 0; exact hz h0 ⟨q.1, fun j a b => q.2 j a (by omega)⟩; omega))
            · skip
              refine s255_577.mpr (s255_580.mpr ?_)
              try simp (disch := first | decide | assumption | omega) only [kon, knt_some, knt_none, Option.toList_some, Option.toList_none, List.cons_append, List.nil_append, fAdd_id]
              rw [h76] at y563
              first | (exfalso; omega) | (exact nx _ _ ⟨rfl, hw, h76, h38, h36, fun h => ⟨(ho h).1, fun j a b => by by_cases e : j = k; (subst e; exact y563); exact (ho h).2 j a (by omega)⟩, fun h => by omega⟩) | (refine nx _ _ ⟨rfl, FW.up hw (by unfold wS; omega), by rw [upI_ro (by decide)]; exact h76, by (try simp (disch := decide) only [upI_eq, upI_a, upI_i, upR_eq, upR_a, upR_i]); exact h38, Or.inl upI_eq, fun h => by rw [upI_eq] at h; omega, fun _ q => ?_⟩; first | exact q.2 k (by omega) (by omega) y563 | (by_cases h0 : hi2 49 36 = 0; exact hz h0 ⟨q.1, fun j a b => q.2 j a (by omega)⟩; omega))
          · skip
            refine s255_573.mpr ?_
            refine (s255_574 (by omega) kM).mpr ?_
            refine m_wants hA (by omega) rfl h36 (fun y574 => ?_) (fun y574 => ?_)
            · skip
              refine s255_577.mpr (s255_580.mpr ?_)
              try simp (disch := first | decide | assumption | omega) only [kon, knt_some, knt_none, Option.toList_some, Option.toList_none, List.cons_append, List.nil_append, fAdd_id]
              rw [h76] at y563
              first | (exfalso; omega) | (exact nx _ _ ⟨rfl, hw, h76, h38, h36, fun h => ⟨(ho h).1, fun j a b => by by_cases e : j = k; (subst e; exact y563); exact (ho h).2 j a (by omega)⟩, fun h => by omega⟩) | (refine nx _ _ ⟨rfl, FW.up hw (by unfold wS; omega), by rw [upI_ro (by decide)]; exact h76, by (try simp (disch := decide) only [upI_eq, upI_a, upI_i, upR_eq, upR_a, upR_i]); exact h38, Or.inl upI_eq, fun h => by rw [upI_eq] at h; omega, fun _ q => ?_⟩; first | exact q.2 k (by omega) (by omega) y563 | (by_cases h0 : hi2 49 36 = 0; exact hz h0 ⟨q.1, fun j a b => q.2 j a (by omega)⟩; omega))
            · skip
              refine s255_577.mpr (s255_580.mpr ?_)
              try simp (disch := first | decide | assumption | omega) only [kon, knt_some, knt_none, Option.toList_some, Option.toList_none, List.cons_append, List.nil_append, fAdd_id]
              rw [h76] at y563
              first | (exfalso; omega) | (exact nx _ _ ⟨rfl, hw, h76, h38, h36, fun h => ⟨(ho h).1, fun j a b => by by_cases e : j = k; (subst e; exact y563); exact (ho h).2 j a (by omega)⟩, fun h => by omega⟩) | (refine nx _ _ ⟨rfl, FW.up hw (by unfold wS; omega), by rw [upI_ro (by decide)]; exact h76, by (try simp (disch := decide) only [upI_eq, upI_a, upI_i, upR_eq, upR_a, upR_i]); exact h38, Or.inl upI_eq, fun h => by rw [upI_eq] at h; omega, fun _ q => ?_⟩; first | exact q.2 k (by omega) (by omega) y563 | (by_cases h0 : hi2 49 36 = 0; exact hz h0 ⟨q.1, fun j a b => q.2 j a (by omega)⟩; omega))
      · skip
        exfalso; omega
    · rintro ls hi2 ⟨rfl, hw, h76, h38, h36, ho, hz⟩
      refine s255_548.mpr (s255_550.mpr ?_)
      refine s255_552.mpr (wif (fun c552 => ?_) (fun c552 => ?_))
      · skip
        exfalso; omega
      · skip
        refine (s255_583).mpr ?_
        rcases h36 with h0 | h1
        · exact no _ ((tsH_31 c1).trans (onw_n (fun q => hz h0 ⟨hC.mpr q.1, fun j a b => q.2 j a (by omega)⟩))) hw h0
        · exact ok _ _ _ ((tsH_31 c1).trans (onw_p ⟨hC.mp (ho h1).1, fun j a b => (ho h1).2 j a (by omega)⟩)) (Or.inr (Or.inr (Or.inl ⟨Or.inl c1, rfl⟩))) hw h1 h38 rfl
  have T548z : ∀ (hi' : HI), FW wS hi hi' → hi' 49 36 = 0 → tsH B g op v p (t, hi 75, hi 76) = none → Wp d 255 548 [vR (some 49), vI m, vI (10 * m + g), vI op, vI v, none, none, none, vI 0] [] al hi' hr Q := by
    intro hi' hw h36 hN
    refine wp_cnt (N := 10) (fun k ls hi2 => ls = [vR (some 49), vI m, vI (10 * m + g), vI op, vI v, none, none, none, vI k] ∧ FW wS hi hi2 ∧ hi2 49 36 = 0) ?_ ?_ _ _ ⟨rfl, hw, h36⟩
    · rintro k ls hi2 hk ⟨rfl, hw, h36⟩ nx
      refine s255_548.mpr (s255_550.mpr ?_)
      refine s255_552.mpr (wif (fun c552 => ?_) (fun c552 => ?_))
      · skip
        refine s255_555.mpr (s255_556.mpr ((s255_557 kM).mpr ?_))
        rw [mr_34 hR]
        refine s255_560.mpr ?_
        refine (s255_562 (hA.k (by decide) (by decide) rfl) (by first | assumption | omega) (by first | assumption | omega)).mpr ?_
        try simp (disch := first | decide | assumption | omega) only [kon, knt_some, knt_none, Option.toList_some, Option.toList_none, List.cons_append, List.nil_append, fAdd_id]
        refine (s255_563 (by omega)).mpr ?_
        refine m_isLinear (by omega) (fun y563 => ?_) (fun y563 => ?_)
        · skip
          refine s255_566.mpr (wif (fun c566 => ?_) (fun c566 => ?_))
          · skip
            refine s255_569.mpr (s255_570.mpr ?_)
            refine (s255_574 (by omega) kM).mpr ?_
            refine m_wants hA (by omega) h36 (by omega) (fun y574 => ?_) (fun y574 => ?_)
            · skip
              refine s255_577.mpr (s255_580.mpr ?_)
              try simp (disch := first | decide | assumption | omega) only [kon, knt_some, knt_none, Option.toList_some, Option.toList_none, List.cons_append, List.nil_append, fAdd_id]
              first | (exfalso; omega) | (exact nx _ _ ⟨rfl, FW.up hw (by unfold wS; omega), upI_eq⟩)
            · skip
              refine s255_577.mpr (s255_580.mpr ?_)
              try simp (disch := first | decide | assumption | omega) only [kon, knt_some, knt_none, Option.toList_some, Option.toList_none, List.cons_append, List.nil_append, fAdd_id]
              first | (exfalso; omega) | (exact nx _ _ ⟨rfl, FW.up hw (by unfold wS; omega), upI_eq⟩)
          · skip
            refine s255_573.mpr ?_
            refine (s255_574 (by omega) kM).mpr ?_
            refine m_wants hA (by omega) h36 (by omega) (fun y574 => ?_) (fun y574 => ?_)
            · skip
              refine s255_577.mpr (s255_580.mpr ?_)
              try simp (disch := first | decide | assumption | omega) only [kon, knt_some, knt_none, Option.toList_some, Option.toList_none, List.cons_append, List.nil_append, fAdd_id]
              first | (exfalso; omega) | (exact nx _ _ ⟨rfl, FW.up hw (by unfold wS; omega), upI_eq⟩)
            · skip
              refine s255_577.mpr (s255_580.mpr ?_)
              try simp (disch := first | decide | assumption | omega) only [kon, knt_some, knt_none, Option.toList_some, Option.toList_none, List.cons_append, List.nil_append, fAdd_id]
              first | (exfalso; omega) | (exact nx _ _ ⟨rfl, FW.up hw (by unfold wS; omega), upI_eq⟩)
        · skip
          refine s255_566.mpr (wif (fun c566 => ?_) (fun c566 => ?_))
          · skip
            refine s255_569.mpr (s255_570.mpr ?_)
            refine (s255_574 (by omega) kM).mpr ?_
            refine m_wants hA (by omega) h36 (by omega) (fun y574 => ?_) (fun y574 => ?_)
            · skip
              refine s255_577.mpr (s255_580.mpr ?_)
              try simp (disch := first | decide | assumption | omega) only [kon, knt_some, knt_none, Option.toList_some, Option.toList_none, List.cons_append, List.nil_append, fAdd_id]
              first | (exfalso; omega) | (exact nx _ _ ⟨rfl, FW.up hw (by unfold wS; omega), upI_eq⟩)
            · skip
              refine s255_577.mpr (s255_580.mpr ?_)
              try simp (disch := first | decide | assumption | omega) only [kon, knt_some, knt_none, Option.toList_some, Option.toList_none, List.cons_append, List.nil_append, fAdd_id]
              first | (exfalso; omega) | (exact nx _ _ ⟨rfl, FW.up hw (by unfold wS; omega), upI_eq⟩)
          · skip
            refine s255_573.mpr ?_
            refine (s255_574 (by omega) kM).mpr ?_
            refine m_wants hA (by omega) h36 (by omega) (fun y574 => ?_) (fun y574 => ?_)
            · skip
              refine s255_577.mpr (s255_580.mpr ?_)
              try simp (disch := first | decide | assumption | omega) only [kon, knt_some, knt_none, Option.toList_some, Option.toList_none, List.cons_append, List.nil_append, fAdd_id]
              first | (exfalso; omega) | (exact nx _ _ ⟨rfl, FW.up hw (by unfold wS; omega), upI_eq⟩)
            · skip
              refine s255_577.mpr (s255_580.mpr ?_)
              try simp (disch := first | decide | assumption | omega) only [kon, knt_some, knt_none, Option.toList_some, Option.toList_none, List.cons_append, List.nil_append, fAdd_id]
              first | (exfalso; omega) | (exact nx _ _ ⟨rfl, FW.up hw (by unfold wS; omega), upI_eq⟩)
      · skip
        exfalso; omega
    · rintro ls hi2 ⟨rfl, hw, h36⟩
      refine s255_548.mpr (s255_550.mpr ?_)
      refine s255_552.mpr (wif (fun c552 => ?_) (fun c552 => ?_))
      · skip
        exfalso; omega
      · skip
        refine (s255_583).mpr ?_
        exact no _ hN hw h36
  by_cases hr9 : rTy B g = -1
  · skip
    refine s255_502.mpr ((s255_503 kM).mpr ?_)
    rw [mr_18 hR]
    refine s255_506.mpr ?_
    refine (s255_507 (hA.k (by decide) (by decide) rfl) (by first | assumption | omega) (by first | assumption | omega)).mpr ?_
    refine s255_508.mpr ?_
    try simp (disch := first | decide | assumption | omega) only [kon, knt_some, knt_none, Option.toList_some, Option.toList_none, List.cons_append, List.nil_append, upI_eq, upI_a, upI_i, upR_eq, upR_a, upR_i, h36, e66, ht]
    refine s255_509.mpr (wif (fun c509 => ?_) (fun c509 => ?_))
    · skip
      refine s255_522.mpr (s255_523.mpr ?_)
      refine (s255_524 kM).mpr ?_
      try simp (disch := first | decide | assumption | omega) only [kon, knt_some, knt_none, Option.toList_some, Option.toList_none, List.cons_append, List.nil_append, upI_eq, upI_a, upI_i, upR_eq, upR_a, upR_i, h36, e66, ht]
      refine s255_527.mpr (wif (fun c527 => ?_) (fun c527 => ?_))
      · skip
        refine s255_541.mpr ?_
        refine (s255_542 (by omega) kM).mpr ?_
        refine m_wants hA (by omega) (by (try simp (disch := decide) only [upI_eq, upI_a, upI_i, upR_eq, upR_a, upR_i]); first | assumption | rfl) (by omega) (fun y542 => ?_) (fun y542 => ?_)
        · skip
          refine s255_545.mpr (s255_546.mpr ?_)
          first | (exfalso; omega) | (exact T548 (t = 0) _ 1 FW.rf rfl h36 h38 (by omega) (by omega) (by omega) (by rw [if_pos hr9])) | (exact T548z _ (by repeat' (first | assumption | exact FW.rf | refine FW.up ?_ (by unfold wS; omega) | (refine FW.tr ?_ (by assumption)))) upI_eq ((tsH_31 c1).trans (onw_n (by rw [if_pos hr9]; dsimp only; omega))))
        · skip
          refine s255_545.mpr (s255_546.mpr ?_)
          first | (exfalso; omega) | (exact T548 (t = 0) _ 1 FW.rf rfl h36 h38 (by omega) (by omega) (by omega) (by rw [if_pos hr9])) | (exact T548z _ (by repeat' (first | assumption | exact FW.rf | refine FW.up ?_ (by unfold wS; omega) | (refine FW.tr ?_ (by assumption)))) upI_eq ((tsH_31 c1).trans (onw_n (by rw [if_pos hr9]; dsimp only; omega))))
      · skip
        refine s255_530.mpr ?_
        refine (s255_531 kM).mpr ?_
        try simp (disch := first | decide | assumption | omega) only [kon, knt_some, knt_none, Option.toList_some, Option.toList_none, List.cons_append, List.nil_append, upI_eq, upI_a, upI_i, upR_eq, upR_a, upR_i, h36, e66, ht]
        refine s255_534.mpr (wif (fun c534 => ?_) (fun c534 => ?_))
        · skip
          refine s255_537.mpr (s255_538.mpr ?_)
          refine (s255_542 (by omega) kM).mpr ?_
          refine m_wants hA (by omega) (by (try simp (disch := decide) only [upI_eq, upI_a, upI_i, upR_eq, upR_a, upR_i]); first | assumption | rfl) (by omega) (fun y542 => ?_) (fun y542 => ?_)
          · skip
            refine s255_545.mpr (s255_546.mpr ?_)
            first | (exfalso; omega) | (exact T548 (t = 0) _ 1 FW.rf rfl h36 h38 (by omega) (by omega) (by omega) (by rw [if_pos hr9])) | (exact T548z _ (by repeat' (first | assumption | exact FW.rf | refine FW.up ?_ (by unfold wS; omega) | (refine FW.tr ?_ (by assumption)))) upI_eq ((tsH_31 c1).trans (onw_n (by rw [if_pos hr9]; dsimp only; omega))))
          · skip
            refine s255_545.mpr (s255_546.mpr ?_)
            first | (exfalso; omega) | (exact T548 (t = 0) _ 1 FW.rf rfl h36 h38 (by omega) (by omega) (by omega) (by rw [if_pos hr9])) | (exact T548z _ (by repeat' (first | assumption | exact FW.rf | refine FW.up ?_ (by unfold wS; omega) | (refine FW.tr ?_ (by assumption)))) upI_eq ((tsH_31 c1).trans (onw_n (by rw [if_pos hr9]; dsimp only; omega))))
        · skip
          refine s255_541.mpr ?_
          refine (s255_542 (by omega) kM).mpr ?_
          refine m_wants hA (by omega) (by (try simp (disch := decide) only [upI_eq, upI_a, upI_i, upR_eq, upR_a, upR_i]); first | assumption | rfl) (by omega) (fun y542 => ?_) (fun y542 => ?_)
          · skip
            refine s255_545.mpr (s255_546.mpr ?_)
            first | (exfalso; omega) | (exact T548 (t = 0) _ 1 FW.rf rfl h36 h38 (by omega) (by omega) (by omega) (by rw [if_pos hr9])) | (exact T548z _ (by repeat' (first | assumption | exact FW.rf | refine FW.up ?_ (by unfold wS; omega) | (refine FW.tr ?_ (by assumption)))) upI_eq ((tsH_31 c1).trans (onw_n (by rw [if_pos hr9]; dsimp only; omega))))
          · skip
            refine s255_545.mpr (s255_546.mpr ?_)
            first | (exfalso; omega) | (exact T548 (t = 0) _ 1 FW.rf rfl h36 h38 (by omega) (by omega) (by omega) (by rw [if_pos hr9])) | (exact T548z _ (by repeat' (first | assumption | exact FW.rf | refine FW.up ?_ (by unfold wS; omega) | (refine FW.tr ?_ (by assumption)))) upI_eq ((tsH_31 c1).trans (onw_n (by rw [if_pos hr9]; dsimp only; omega))))
    · skip
      refine s255_512.mpr (s255_513.mpr ((s255_514 kM).mpr ?_))
      rw [mr_18 hR]
      refine s255_517.mpr ?_
      refine (s255_518 (hA.k (by decide) (by decide) rfl) (by first | assumption | omega) (by first | assumption | omega)).mpr ?_
      try simp (disch := first | decide | assumption | omega) only [kon, knt_some, knt_none, Option.toList_some, Option.toList_none, List.cons_append, List.nil_append, upI_eq, upI_a, upI_i, upR_eq, upR_a, upR_i, h36, e66, ht]
      refine (s255_519 (by omega) kM).mpr ?_
      exfalso; omega
  · skip
    refine s255_502.mpr ((s255_503 kM).mpr ?_)
    rw [mr_18 hR]
    refine s255_506.mpr ?_
    refine (s255_507 (hA.k (by decide) (by decide) rfl) (by first | assumption | omega) (by first | assumption | omega)).mpr ?_
    refine s255_508.mpr ?_
    try simp (disch := first | decide | assumption | omega) only [kon, knt_some, knt_none, Option.toList_some, Option.toList_none, List.cons_append, List.nil_append, upI_eq, upI_a, upI_i, upR_eq, upR_a, upR_i, h36, e66, ht]
    refine s255_509.mpr (wif (fun c509 => ?_) (fun c509 => ?_))
    · skip
      refine s255_522.mpr (s255_523.mpr ?_)
      refine (s255_524 kM).mpr ?_
      try simp (disch := first | decide | assumption | omega) only [kon, knt_some, knt_none, Option.toList_some, Option.toList_none, List.cons_append, List.nil_append, upI_eq, upI_a, upI_i, upR_eq, upR_a, upR_i, h36, e66, ht]
      refine s255_527.mpr (wif (fun c527 => ?_) (fun c527 => ?_))
      · skip
        refine s255_541.mpr ?_
        refine (s255_542 (by omega) kM).mpr ?_
        refine m_wants hA (by omega) (by (try simp (disch := decide) only [upI_eq, upI_a, upI_i, upR_eq, upR_a, upR_i]); first | assumption | rfl) (by omega) (fun y542 => ?_) (fun y542 => ?_)
        · skip
          refine s255_545.mpr (s255_546.mpr ?_)
          first | (exfalso; omega) | (exact T548 (t = 1 ∧ leT (hi 75 0) (rTy B g)) _ 1 (by repeat' (first | assumption | exact FW.rf | refine FW.up ?_ (by unfold wS; omega) | (refine FW.tr ?_ (by assumption)))) (upI_ro (by decide)) (by (try simp (disch := decide) only [upI_eq, upI_a, upI_i, upR_eq, upR_a, upR_i]); exact h36) (by (try simp (disch := decide) only [upI_eq, upI_a, upI_i, upR_eq, upR_a, upR_i]); exact h38) (by omega) (fun _ => ⟨by omega, by rw [show (0 : Int) = t - 1 by omega]; exact y519.2.2⟩) (by omega) (by rw [if_neg hr9])) | (exact T548z _ (by repeat' (first | assumption | exact FW.rf | refine FW.up ?_ (by unfold wS; omega) | (refine FW.tr ?_ (by assumption)))) (by (try simp (disch := decide) only [upI_eq, upI_a, upI_i, upR_eq, upR_a, upR_i]); try assumption) ((tsH_31 c1).trans (onw_n (by rw [if_neg hr9]; dsimp only; rintro ⟨⟨q1, q2⟩, -⟩; rw [show (0 : Int) = t - 1 by omega] at q2; omega))))
        · skip
          refine s255_545.mpr (s255_546.mpr ?_)
          first | (exfalso; omega) | (exact T548 (t = 1 ∧ leT (hi 75 0) (rTy B g)) _ 1 (by repeat' (first | assumption | exact FW.rf | refine FW.up ?_ (by unfold wS; omega) | (refine FW.tr ?_ (by assumption)))) (upI_ro (by decide)) (by (try simp (disch := decide) only [upI_eq, upI_a, upI_i, upR_eq, upR_a, upR_i]); exact h36) (by (try simp (disch := decide) only [upI_eq, upI_a, upI_i, upR_eq, upR_a, upR_i]); exact h38) (by omega) (fun _ => ⟨by omega, by rw [show (0 : Int) = t - 1 by omega]; exact y519.2.2⟩) (by omega) (by rw [if_neg hr9])) | (exact T548z _ (by repeat' (first | assumption | exact FW.rf | refine FW.up ?_ (by unfold wS; omega) | (refine FW.tr ?_ (by assumption)))) (by (try simp (disch := decide) only [upI_eq, upI_a, upI_i, upR_eq, upR_a, upR_i]); try assumption) ((tsH_31 c1).trans (onw_n (by rw [if_neg hr9]; dsimp only; rintro ⟨⟨q1, q2⟩, -⟩; rw [show (0 : Int) = t - 1 by omega] at q2; omega))))
      · skip
        refine s255_530.mpr ?_
        refine (s255_531 kM).mpr ?_
        try simp (disch := first | decide | assumption | omega) only [kon, knt_some, knt_none, Option.toList_some, Option.toList_none, List.cons_append, List.nil_append, upI_eq, upI_a, upI_i, upR_eq, upR_a, upR_i, h36, e66, ht]
        refine s255_534.mpr (wif (fun c534 => ?_) (fun c534 => ?_))
        · skip
          refine s255_537.mpr (s255_538.mpr ?_)
          refine (s255_542 (by omega) kM).mpr ?_
          refine m_wants hA (by omega) (by (try simp (disch := decide) only [upI_eq, upI_a, upI_i, upR_eq, upR_a, upR_i]); first | assumption | rfl) (by omega) (fun y542 => ?_) (fun y542 => ?_)
          · skip
            refine s255_545.mpr (s255_546.mpr ?_)
            first | (exfalso; omega) | (exact T548 (t = 1 ∧ leT (hi 75 0) (rTy B g)) _ 1 (by repeat' (first | assumption | exact FW.rf | refine FW.up ?_ (by unfold wS; omega) | (refine FW.tr ?_ (by assumption)))) (upI_ro (by decide)) (by (try simp (disch := decide) only [upI_eq, upI_a, upI_i, upR_eq, upR_a, upR_i]); exact h36) (by (try simp (disch := decide) only [upI_eq, upI_a, upI_i, upR_eq, upR_a, upR_i]); exact h38) (by omega) (fun _ => ⟨by omega, by rw [show (0 : Int) = t - 1 by omega]; exact y519.2.2⟩) (by omega) (by rw [if_neg hr9])) | (exact T548z _ (by repeat' (first | assumption | exact FW.rf | refine FW.up ?_ (by unfold wS; omega) | (refine FW.tr ?_ (by assumption)))) (by (try simp (disch := decide) only [upI_eq, upI_a, upI_i, upR_eq, upR_a, upR_i]); try assumption) ((tsH_31 c1).trans (onw_n (by rw [if_neg hr9]; dsimp only; rintro ⟨⟨q1, q2⟩, -⟩; rw [show (0 : Int) = t - 1 by omega] at q2; omega))))
          · skip
            refine s255_545.mpr (s255_546.mpr ?_)
            first | (exfalso; omega) | (exact T548 (t = 1 ∧ leT (hi 75 0) (rTy B g)) _ 1 (by repeat' (first | assumption | exact FW.rf | refine FW.up ?_ (by unfold wS; omega) | (refine FW.tr ?_ (by assumption)))) (upI_ro (by decide)) (by (try simp (disch := decide) only [upI_eq, upI_a, upI_i, upR_eq, upR_a, upR_i]); exact h36) (by (try simp (disch := decide) only [upI_eq, upI_a, upI_i, upR_eq, upR_a, upR_i]); exact h38) (by omega) (fun _ => ⟨by omega, by rw [show (0 : Int) = t - 1 by omega]; exact y519.2.2⟩) (by omega) (by rw [if_neg hr9])) | (exact T548z _ (by repeat' (first | assumption | exact FW.rf | refine FW.up ?_ (by unfold wS; omega) | (refine FW.tr ?_ (by assumption)))) (by (try simp (disch := decide) only [upI_eq, upI_a, upI_i, upR_eq, upR_a, upR_i]); try assumption) ((tsH_31 c1).trans (onw_n (by rw [if_neg hr9]; dsimp only; rintro ⟨⟨q1, q2⟩, -⟩; rw [show (0 : Int) = t - 1 by omega] at q2; omega))))
        · skip
          refine s255_541.mpr ?_
          refine (s255_542 (by omega) kM).mpr ?_
          refine m_wants hA (by omega) (by (try simp (disch := decide) only [upI_eq, upI_a, upI_i, upR_eq, upR_a, upR_i]); first | assumption | rfl) (by omega) (fun y542 => ?_) (fun y542 => ?_)
          · skip
            refine s255_545.mpr (s255_546.mpr ?_)
            first | (exfalso; omega) | (exact T548 (t = 1 ∧ leT (hi 75 0) (rTy B g)) _ 1 (by repeat' (first | assumption | exact FW.rf | refine FW.up ?_ (by unfold wS; omega) | (refine FW.tr ?_ (by assumption)))) (upI_ro (by decide)) (by (try simp (disch := decide) only [upI_eq, upI_a, upI_i, upR_eq, upR_a, upR_i]); exact h36) (by (try simp (disch := decide) only [upI_eq, upI_a, upI_i, upR_eq, upR_a, upR_i]); exact h38) (by omega) (fun _ => ⟨by omega, by rw [show (0 : Int) = t - 1 by omega]; exact y519.2.2⟩) (by omega) (by rw [if_neg hr9])) | (exact T548z _ (by repeat' (first | assumption | exact FW.rf | refine FW.up ?_ (by unfold wS; omega) | (refine FW.tr ?_ (by assumption)))) (by (try simp (disch := decide) only [upI_eq, upI_a, upI_i, upR_eq, upR_a, upR_i]); try assumption) ((tsH_31 c1).trans (onw_n (by rw [if_neg hr9]; dsimp only; rintro ⟨⟨q1, q2⟩, -⟩; rw [show (0 : Int) = t - 1 by omega] at q2; omega))))
          · skip
            refine s255_545.mpr (s255_546.mpr ?_)
            first | (exfalso; omega) | (exact T548 (t = 1 ∧ leT (hi 75 0) (rTy B g)) _ 1 (by repeat' (first | assumption | exact FW.rf | refine FW.up ?_ (by unfold wS; omega) | (refine FW.tr ?_ (by assumption)))) (upI_ro (by decide)) (by (try simp (disch := decide) only [upI_eq, upI_a, upI_i, upR_eq, upR_a, upR_i]); exact h36) (by (try simp (disch := decide) only [upI_eq, upI_a, upI_i, upR_eq, upR_a, upR_i]); exact h38) (by omega) (fun _ => ⟨by omega, by rw [show (0 : Int) = t - 1 by omega]; exact y519.2.2⟩) (by omega) (by rw [if_neg hr9])) | (exact T548z _ (by repeat' (first | assumption | exact FW.rf | refine FW.up ?_ (by unfold wS; omega) | (refine FW.tr ?_ (by assumption)))) (by (try simp (disch := decide) only [upI_eq, upI_a, upI_i, upR_eq, upR_a, upR_i]); try assumption) ((tsH_31 c1).trans (onw_n (by rw [if_neg hr9]; dsimp only; rintro ⟨⟨q1, q2⟩, -⟩; rw [show (0 : Int) = t - 1 by omega] at q2; omega))))
    · skip
      refine s255_512.mpr (s255_513.mpr ((s255_514 kM).mpr ?_))
      rw [mr_18 hR]
      refine s255_517.mpr ?_
      refine (s255_518 (hA.k (by decide) (by decide) rfl) (by first | assumption | omega) (by first | assumption | omega)).mpr ?_
      try simp (disch := first | decide | assumption | omega) only [kon, knt_some, knt_none, Option.toList_some, Option.toList_none, List.cons_append, List.nil_append, upI_eq, upI_a, upI_i, upR_eq, upR_a, upR_i, h36, e66, ht]
      refine (s255_519 (by omega) kM).mpr ?_
      refine m_popFor hA hR (by omega) (by (try simp (disch := decide) only [upI_eq, upI_a, upI_i, upR_eq, upR_a, upR_i]); first | assumption | rfl) (by omega) (by (try simp (disch := decide) only [upI_eq, upI_a, upI_i, upR_eq, upR_a, upR_i]); first | assumption | rfl) (by omega) (fun y519 => ?_) (fun hi519 t519 w519 z519 u519 v519 x519 => ?_)
      · skip
        refine s255_522.mpr (s255_523.mpr ?_)
        refine (s255_524 kM).mpr ?_
        try simp (disch := first | decide | assumption | omega) only [kon, knt_some, knt_none, Option.toList_some, Option.toList_none, List.cons_append, List.nil_append, upI_eq, upI_a, upI_i, upR_eq, upR_a, upR_i, h36, e66, ht]
        refine s255_527.mpr (wif (fun c527 => ?_) (fun c527 => ?_))
        · skip
          refine s255_541.mpr ?_
          refine (s255_542 (by omega) kM).mpr ?_
          refine m_wants hA (by omega) (by (try simp (disch := decide) only [upI_eq, upI_a, upI_i, upR_eq, upR_a, upR_i]); first | assumption | rfl) (by omega) (fun y542 => ?_) (fun y542 => ?_)
          · skip
            refine s255_545.mpr (s255_546.mpr ?_)
            first | (exfalso; omega) | (exact T548 (t = 1 ∧ leT (hi 75 0) (rTy B g)) _ 1 (by repeat' (first | assumption | exact FW.rf | refine FW.up ?_ (by unfold wS; omega) | (refine FW.tr ?_ (by assumption)))) (upI_ro (by decide)) (by (try simp (disch := decide) only [upI_eq, upI_a, upI_i, upR_eq, upR_a, upR_i]); exact h36) (by (try simp (disch := decide) only [upI_eq, upI_a, upI_i, upR_eq, upR_a, upR_i]); exact h38) (by omega) (fun _ => ⟨by omega, by rw [show (0 : Int) = t - 1 by omega]; exact y519.2.2⟩) (by omega) (by rw [if_neg hr9])) | (exact T548z _ (by repeat' (first | assumption | exact FW.rf | refine FW.up ?_ (by unfold wS; omega) | (refine FW.tr ?_ (by assumption)))) (by (try simp (disch := decide) only [upI_eq, upI_a, upI_i, upR_eq, upR_a, upR_i]); try assumption) ((tsH_31 c1).trans (onw_n (by rw [if_neg hr9]; dsimp only; rintro ⟨⟨q1, q2⟩, -⟩; rw [show (0 : Int) = t - 1 by omega] at q2; omega))))
          · skip
            refine s255_545.mpr (s255_546.mpr ?_)
            first | (exfalso; omega) | (exact T548 (t = 1 ∧ leT (hi 75 0) (rTy B g)) _ 1 (by repeat' (first | assumption | exact FW.rf | refine FW.up ?_ (by unfold wS; omega) | (refine FW.tr ?_ (by assumption)))) (upI_ro (by decide)) (by (try simp (disch := decide) only [upI_eq, upI_a, upI_i, upR_eq, upR_a, upR_i]); exact h36) (by (try simp (disch := decide) only [upI_eq, upI_a, upI_i, upR_eq, upR_a, upR_i]); exact h38) (by omega) (fun _ => ⟨by omega, by rw [show (0 : Int) = t - 1 by omega]; exact y519.2.2⟩) (by omega) (by rw [if_neg hr9])) | (exact T548z _ (by repeat' (first | assumption | exact FW.rf | refine FW.up ?_ (by unfold wS; omega) | (refine FW.tr ?_ (by assumption)))) (by (try simp (disch := decide) only [upI_eq, upI_a, upI_i, upR_eq, upR_a, upR_i]); try assumption) ((tsH_31 c1).trans (onw_n (by rw [if_neg hr9]; dsimp only; rintro ⟨⟨q1, q2⟩, -⟩; rw [show (0 : Int) = t - 1 by omega] at q2; omega))))
        · skip
          refine s255_530.mpr ?_
          refine (s255_531 kM).mpr ?_
          try simp (disch := first | decide | assumption | omega) only [kon, knt_some, knt_none, Option.toList_some, Option.toList_none, List.cons_append, List.nil_append, upI_eq, upI_a, upI_i, upR_eq, upR_a, upR_i, h36, e66, ht]
          refine s255_534.mpr (wif (fun c534 => ?_) (fun c534 => ?_))
          · skip
            refine s255_537.mpr (s255_538.mpr ?_)
            refine (s255_542 (by omega) kM).mpr ?_
            refine m_wants hA (by omega) (by (try simp (disch := decide) only [upI_eq, upI_a, upI_i, upR_eq, upR_a, upR_i]); first | assumption | rfl) (by omega) (fun y542 => ?_) (fun y542 => ?_)
            · skip
              refine s255_545.mpr (s255_546.mpr ?_)
              first | (exfalso; omega) | (exact T548 (t = 1 ∧ leT (hi 75 0) (rTy B g)) _ 1 (by repeat' (first | assumption | exact FW.rf | refine FW.up ?_ (by unfold wS; omega) | (refine FW.tr ?_ (by assumption)))) (upI_ro (by decide)) (by (try simp (disch := decide) only [upI_eq, upI_a, upI_i, upR_eq, upR_a, upR_i]); exact h36) (by (try simp (disch := decide) only [upI_eq, upI_a, upI_i, upR_eq, upR_a, upR_i]); exact h38) (by omega) (fun _ => ⟨by omega, by rw [show (0 : Int) = t - 1 by omega]; exact y519.2.2⟩) (by omega) (by rw [if_neg hr9])) | (exact T548z _ (by repeat' (first | assumption | exact FW.rf | refine FW.up ?_ (by unfold wS; omega) | (refine FW.tr ?_ (by assumption)))) (by (try simp (disch := decide) only [upI_eq, upI_a, upI_i, upR_eq, upR_a, upR_i]); try assumption) ((tsH_31 c1).trans (onw_n (by rw [if_neg hr9]; dsimp only; rintro ⟨⟨q1, q2⟩, -⟩; rw [show (0 : Int) = t - 1 by omega] at q2; omega))))
            · skip
              refine s255_545.mpr (s255_546.mpr ?_)
              first | (exfalso; omega) | (exact T548 (t = 1 ∧ leT (hi 75 0) (rTy B g)) _ 1 (by repeat' (first | assumption | exact FW.rf | refine FW.up ?_ (by unfold wS; omega) | (refine FW.tr ?_ (by assumption)))) (upI_ro (by decide)) (by (try simp (disch := decide) only [upI_eq, upI_a, upI_i, upR_eq, upR_a, upR_i]); exact h36) (by (try simp (disch := decide) only [upI_eq, upI_a, upI_i, upR_eq, upR_a, upR_i]); exact h38) (by omega) (fun _ => ⟨by omega, by rw [show (0 : Int) = t - 1 by omega]; exact y519.2.2⟩) (by omega) (by rw [if_neg hr9])) | (exact T548z _ (by repeat' (first | assumption | exact FW.rf | refine FW.up ?_ (by unfold wS; omega) | (refine FW.tr ?_ (by assumption)))) (by (try simp (disch := decide) only [upI_eq, upI_a, upI_i, upR_eq, upR_a, upR_i]); try assumption) ((tsH_31 c1).trans (onw_n (by rw [if_neg hr9]; dsimp only; rintro ⟨⟨q1, q2⟩, -⟩; rw [show (0 : Int) = t - 1 by omega] at q2; omega))))
          · skip
            refine s255_541.mpr ?_
            refine (s255_542 (by omega) kM).mpr ?_
            refine m_wants hA (by omega) (by (try simp (disch := decide) only [upI_eq, upI_a, upI_i, upR_eq, upR_a, upR_i]); first | assumption | rfl) (by omega) (fun y542 => ?_) (fun y542 => ?_)
            · skip
              refine s255_545.mpr (s255_546.mpr ?_)
              first | (exfalso; omega) | (exact T548 (t = 1 ∧ leT (hi 75 0) (rTy B g)) _ 1 (by repeat' (first | assumption | exact FW.rf | refine FW.up ?_ (by unfold wS; omega) | (refine FW.tr ?_ (by assumption)))) (upI_ro (by decide)) (by (try simp (disch := decide) only [upI_eq, upI_a, upI_i, upR_eq, upR_a, upR_i]); exact h36) (by (try simp (disch := decide) only [upI_eq, upI_a, upI_i, upR_eq, upR_a, upR_i]); exact h38) (by omega) (fun _ => ⟨by omega, by rw [show (0 : Int) = t - 1 by omega]; exact y519.2.2⟩) (by omega) (by rw [if_neg hr9])) | (exact T548z _ (by repeat' (first | assumption | exact FW.rf | refine FW.up ?_ (by unfold wS; omega) | (refine FW.tr ?_ (by assumption)))) (by (try simp (disch := decide) only [upI_eq, upI_a, upI_i, upR_eq, upR_a, upR_i]); try assumption) ((tsH_31 c1).trans (onw_n (by rw [if_neg hr9]; dsimp only; rintro ⟨⟨q1, q2⟩, -⟩; rw [show (0 : Int) = t - 1 by omega] at q2; omega))))
            · skip
              refine s255_545.mpr (s255_546.mpr ?_)
              first | (exfalso; omega) | (exact T548 (t = 1 ∧ leT (hi 75 0) (rTy B g)) _ 1 (by repeat' (first | assumption | exact FW.rf | refine FW.up ?_ (by unfold wS; omega) | (refine FW.tr ?_ (by assumption)))) (upI_ro (by decide)) (by (try simp (disch := decide) only [upI_eq, upI_a, upI_i, upR_eq, upR_a, upR_i]); exact h36) (by (try simp (disch := decide) only [upI_eq, upI_a, upI_i, upR_eq, upR_a, upR_i]); exact h38) (by omega) (fun _ => ⟨by omega, by rw [show (0 : Int) = t - 1 by omega]; exact y519.2.2⟩) (by omega) (by rw [if_neg hr9])) | (exact T548z _ (by repeat' (first | assumption | exact FW.rf | refine FW.up ?_ (by unfold wS; omega) | (refine FW.tr ?_ (by assumption)))) (by (try simp (disch := decide) only [upI_eq, upI_a, upI_i, upR_eq, upR_a, upR_i]); try assumption) ((tsH_31 c1).trans (onw_n (by rw [if_neg hr9]; dsimp only; rintro ⟨⟨q1, q2⟩, -⟩; rw [show (0 : Int) = t - 1 by omega] at q2; omega))))
      · skip
        refine s255_522.mpr (s255_523.mpr ?_)
        refine (s255_524 kM).mpr ?_
        try simp (disch := first | decide | assumption | omega) only [kon, knt_some, knt_none, Option.toList_some, Option.toList_none, List.cons_append, List.nil_append, upI_eq, upI_a, upI_i, upR_eq, upR_a, upR_i, h36, e66, ht]
        refine s255_527.mpr (wif (fun c527 => ?_) (fun c527 => ?_))
        · skip
          refine s255_541.mpr ?_
          refine (s255_542 (by omega) kM).mpr ?_
          refine m_wants hA (by omega) (by (try simp (disch := decide) only [upI_eq, upI_a, upI_i, upR_eq, upR_a, upR_i]); first | assumption | rfl) (by omega) (fun y542 => ?_) (fun y542 => ?_)
          · skip
            refine s255_545.mpr (s255_546.mpr ?_)
            first | (exfalso; omega) | (exact T548 (t = 1 ∧ leT (hi 75 0) (rTy B g)) _ 1 (by repeat' (first | assumption | exact FW.rf | refine FW.up ?_ (by unfold wS; omega) | (refine FW.tr ?_ (by assumption)))) (upI_ro (by decide)) (by (try simp (disch := decide) only [upI_eq, upI_a, upI_i, upR_eq, upR_a, upR_i]); exact h36) (by (try simp (disch := decide) only [upI_eq, upI_a, upI_i, upR_eq, upR_a, upR_i]); exact h38) (by omega) (fun _ => ⟨by omega, by rw [show (0 : Int) = t - 1 by omega]; exact y519.2.2⟩) (by omega) (by rw [if_neg hr9])) | (exact T548z _ (by repeat' (first | assumption | exact FW.rf | refine FW.up ?_ (by unfold wS; omega) | (refine FW.tr ?_ (by assumption)))) (by (try simp (disch := decide) only [upI_eq, upI_a, upI_i, upR_eq, upR_a, upR_i]); try assumption) ((tsH_31 c1).trans (onw_n (by rw [if_neg hr9]; dsimp only; rintro ⟨⟨q1, q2⟩, -⟩; rw [show (0 : Int) = t - 1 by omega] at q2; omega))))
          · skip
            refine s255_545.mpr (s255_546.mpr ?_)
            first | (exfalso; omega) | (exact T548 (t = 1 ∧ leT (hi 75 0) (rTy B g)) _ 1 (by repeat' (first | assumption | exact FW.rf | refine FW.up ?_ (by unfold wS; omega) | (refine FW.tr ?_ (by assumption)))) (upI_ro (by decide)) (by (try simp (disch := decide) only [upI_eq, upI_a, upI_i, upR_eq, upR_a, upR_i]); exact h36) (by (try simp (disch := decide) only [upI_eq, upI_a, upI_i, upR_eq, upR_a, upR_i]); exact h38) (by omega) (fun _ => ⟨by omega, by rw [show (0 : Int) = t - 1 by omega]; exact y519.2.2⟩) (by omega) (by rw [if_neg hr9])) | (exact T548z _ (by repeat' (first | assumption | exact FW.rf | refine FW.up ?_ (by unfold wS; omega) | (refine FW.tr ?_ (by assumption)))) (by (try simp (disch := decide) only [upI_eq, upI_a, upI_i, upR_eq, upR_a, upR_i]); try assumption) ((tsH_31 c1).trans (onw_n (by rw [if_neg hr9]; dsimp only; rintro ⟨⟨q1, q2⟩, -⟩; rw [show (0 : Int) = t - 1 by omega] at q2; omega))))
        · skip
          refine s255_530.mpr ?_
          refine (s255_531 kM).mpr ?_
          try simp (disch := first | decide | assumption | omega) only [kon, knt_some, knt_none, Option.toList_some, Option.toList_none, List.cons_append, List.nil_append, upI_eq, upI_a, upI_i, upR_eq, upR_a, upR_i, h36, e66, ht]
          refine s255_534.mpr (wif (fun c534 => ?_) (fun c534 => ?_))
          · skip
            refine s255_537.mpr (s255_538.mpr ?_)
            refine (s255_542 (by omega) kM).mpr ?_
            refine m_wants hA (by omega) (by (try simp (disch := decide) only [upI_eq, upI_a, upI_i, upR_eq, upR_a, upR_i]); first | assumption | rfl) (by omega) (fun y542 => ?_) (fun y542 => ?_)
            · skip
              refine s255_545.mpr (s255_546.mpr ?_)
              first | (exfalso; omega) | (exact T548 (t = 1 ∧ leT (hi 75 0) (rTy B g)) _ 1 (by repeat' (first | assumption | exact FW.rf | refine FW.up ?_ (by unfold wS; omega) | (refine FW.tr ?_ (by assumption)))) (upI_ro (by decide)) (by (try simp (disch := decide) only [upI_eq, upI_a, upI_i, upR_eq, upR_a, upR_i]); exact h36) (by (try simp (disch := decide) only [upI_eq, upI_a, upI_i, upR_eq, upR_a, upR_i]); exact h38) (by omega) (fun _ => ⟨by omega, by rw [show (0 : Int) = t - 1 by omega]; exact y519.2.2⟩) (by omega) (by rw [if_neg hr9])) | (exact T548z _ (by repeat' (first | assumption | exact FW.rf | refine FW.up ?_ (by unfold wS; omega) | (refine FW.tr ?_ (by assumption)))) (by (try simp (disch := decide) only [upI_eq, upI_a, upI_i, upR_eq, upR_a, upR_i]); try assumption) ((tsH_31 c1).trans (onw_n (by rw [if_neg hr9]; dsimp only; rintro ⟨⟨q1, q2⟩, -⟩; rw [show (0 : Int) = t - 1 by omega] at q2; omega))))
            · skip
              refine s255_545.mpr (s255_546.mpr ?_)
              first | (exfalso; omega) | (exact T548 (t = 1 ∧ leT (hi 75 0) (rTy B g)) _ 1 (by repeat' (first | assumption | exact FW.rf | refine FW.up ?_ (by unfold wS; omega) | (refine FW.tr ?_ (by assumption)))) (upI_ro (by decide)) (by (try simp (disch := decide) only [upI_eq, upI_a, upI_i, upR_eq, upR_a, upR_i]); exact h36) (by (try simp (disch := decide) only [upI_eq, upI_a, upI_i, upR_eq, upR_a, upR_i]); exact h38) (by omega) (fun _ => ⟨by omega, by rw [show (0 : Int) = t - 1 by omega]; exact y519.2.2⟩) (by omega) (by rw [if_neg hr9])) | (exact T548z _ (by repeat' (first | assumption | exact FW.rf | refine FW.up ?_ (by unfold wS; omega) | (refine FW.tr ?_ (by assumption)))) (by (try simp (disch := decide) only [upI_eq, upI_a, upI_i, upR_eq, upR_a, upR_i]); try assumption) ((tsH_31 c1).trans (onw_n (by rw [if_neg hr9]; dsimp only; rintro ⟨⟨q1, q2⟩, -⟩; rw [show (0 : Int) = t - 1 by omega] at q2; omega))))
          · skip
            refine s255_541.mpr ?_
            refine (s255_542 (by omega) kM).mpr ?_
            refine m_wants hA (by omega) (by (try simp (disch := decide) only [upI_eq, upI_a, upI_i, upR_eq, upR_a, upR_i]); first | assumption | rfl) (by omega) (fun y542 => ?_) (fun y542 => ?_)
            · skip
              refine s255_545.mpr (s255_546.mpr ?_)
              first | (exfalso; omega) | (exact T548 (t = 1 ∧ leT (hi 75 0) (rTy B g)) _ 1 (by repeat' (first | assumption | exact FW.rf | refine FW.up ?_ (by unfold wS; omega) | (refine FW.tr ?_ (by assumption)))) (upI_ro (by decide)) (by (try simp (disch := decide) only [upI_eq, upI_a, upI_i, upR_eq, upR_a, upR_i]); exact h36) (by (try simp (disch := decide) only [upI_eq, upI_a, upI_i, upR_eq, upR_a, upR_i]); exact h38) (by omega) (fun _ => ⟨by omega, by rw [show (0 : Int) = t - 1 by omega]; exact y519.2.2⟩) (by omega) (by rw [if_neg hr9])) | (exact T548z _ (by repeat' (first | assumption | exact FW.rf | refine FW.up ?_ (by unfold wS; omega) | (refine FW.tr ?_ (by assumption)))) (by (try simp (disch := decide) only [upI_eq, upI_a, upI_i, upR_eq, upR_a, upR_i]); try assumption) ((tsH_31 c1).trans (onw_n (by rw [if_neg hr9]; dsimp only; rintro ⟨⟨q1, q2⟩, -⟩; rw [show (0 : Int) = t - 1 by omega] at q2; omega))))
            · skip
              refine s255_545.mpr (s255_546.mpr ?_)
              first | (exfalso; omega) | (exact T548 (t = 1 ∧ leT (hi 75 0) (rTy B g)) _ 1 (by repeat' (first | assumption | exact FW.rf | refine FW.up ?_ (by unfold wS; omega) | (refine FW.tr ?_ (by assumption)))) (upI_ro (by decide)) (by (try simp (disch := decide) only [upI_eq, upI_a, upI_i, upR_eq, upR_a, upR_i]); exact h36) (by (try simp (disch := decide) only [upI_eq, upI_a, upI_i, upR_eq, upR_a, upR_i]); exact h38) (by omega) (fun _ => ⟨by omega, by rw [show (0 : Int) = t - 1 by omega]; exact y519.2.2⟩) (by omega) (by rw [if_neg hr9])) | (exact T548z _ (by repeat' (first | assumption | exact FW.rf | refine FW.up ?_ (by unfold wS; omega) | (refine FW.tr ?_ (by assumption)))) (by (try simp (disch := decide) only [upI_eq, upI_a, upI_i, upR_eq, upR_a, upR_i]); try assumption) ((tsH_31 c1).trans (onw_n (by rw [if_neg hr9]; dsimp only; rintro ⟨⟨q1, q2⟩, -⟩; rw [show (0 : Int) = t - 1 by omega] at q2; omega))))
theorem m_heaps {m g op v p t : Int} (hA : SA al) (hR : MR hr) (hd : 4 ≤ d) (hM : MB hi m B) (hS : Sh B) (hg : 0 ≤ g ∧ g < nFn B) (h36 : hi 49 36 = 1) (h38 : hi 49 38 = 0) (ht : hi 49 35 = t) (ht0 : 0 ≤ t ∧ t ≤ 16) (hvX : vX B (t, hi 75, hi 76)) (hop : 20 ≤ op ∧ op < 32) (hv0 : op = 22 ∨ op = 23 ∨ op = 24 ∨ op = 26 ∨ op = 30 → 0 ≤ v ∧ v ≤ 255) (hv : op = 30 → v < nFn B) (hv5 : op = 23 ∨ op = 24 → v ≤ 5)
    (ok : ∀ L Y hi', tsH B g op v p (t, hi 75, hi 76) = some L → FLW op v p Y L → FW wS hi hi' → hi' 49 36 = 1 → hi' 49 38 = 0 → scX hi' = Y → Q (some none) al hi' hr)
    (st : ∀ hi', tsH B g op v p (t, hi 75, hi 76) = some [] → FW wS hi hi' → hi' 49 36 = 1 → hi' 49 38 = 1 → Q (some none) al hi' hr)
    (no : ∀ hi', tsH B g op v p (t, hi 75, hi 76) = none → FW wS hi hi' → hi' 49 36 = 0 → Q (some none) al hi' hr) : Ev d 255 [vR (some 49), vI m, vI (10 * m + g), vI op, vI v] al hi hr Q := by
  rw [e255]
  refine s255_0.mpr ?_
  refine g255_1 (fun c1 => ?_) (fun c1 => ?_) (fun c1 => ?_) (fun c1 => ?_) (fun c1 => ?_) (fun c1 => ?_) (fun c1 => ?_) (fun c1 => ?_) (fun c1 => ?_) (fun c1 => ?_) (fun c1 => ?_)
  · skip
    have c1 := List.mem_singleton.mp c1
    exact m_h20 hA hR hd hM hS hg h36 h38 ht ht0 hvX c1 ok st no
  · skip
    have c1 := List.mem_singleton.mp c1
    exact m_h21 hA hR hd hM hS hg h36 h38 ht ht0 hvX c1 ok st no
  · skip
    have c1 := List.mem_singleton.mp c1
    exact m_h22 hA hR hd hM hS hg h36 h38 ht ht0 hvX c1 (hv0 (by omega)) ok st no
  · skip
    have c1 := List.mem_singleton.mp c1
    exact m_h23 hA hR hd hM hS hg h36 h38 ht ht0 hvX c1 ⟨(hv0 (by omega)).1, hv5 (by omega)⟩ ok st no
  · skip
    have c1 := List.mem_singleton.mp c1
    exact m_h24 hA hR hd hM hS hg h36 h38 ht ht0 hvX c1 ⟨(hv0 (by omega)).1, hv5 (by omega)⟩ ok st no
  · skip
    simp only [List.mem_cons, List.not_mem_nil, or_false] at c1
    rcases c1 with c1 | c1
    · exact m_h25 hA hR hd hM hS hg h36 h38 ht ht0 hvX c1 ok st no
    · exact m_h26 hA hR hd hM hS hg h36 h38 ht ht0 hvX c1 (hv0 (by omega)) ok st no
  · skip
    have c1 := List.mem_singleton.mp c1
    exact m_h27 hA hR hd hM hS hg h36 h38 ht ht0 hvX c1 ok st no
  · skip
    have c1 := List.mem_singleton.mp c1
    exact m_h28 hA hR hd hM hS hg h36 h38 ht ht0 hvX c1 ok st no
  · skip
    have c1 := List.mem_singleton.mp c1
    exact m_h29 hA hR hd hM hS hg h36 h38 ht ht0 hvX c1 ok st no
  · skip
    have c1 := List.mem_singleton.mp c1
    exact m_h30 hA hR hd hM hS hg h36 h38 ht ht0 hvX c1 (hv0 (by omega)).1 (hv c1) ok st no
  · skip
    exact m_h31 hA hR hd hM hS hg h36 h38 ht ht0 hvX (by simp only [List.mem_cons, List.not_mem_nil, or_false] at c1; omega) ok st no
end MT4
