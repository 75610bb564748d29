/-! THE SPEC, 3: what an instruction leaves -/
section TY1
noncomputable def onw (c : Prop) (l : List (Int × Tst)) : Option (List (Int × Tst)) := @ite _ c (Classical.propDecidable c) (some l) none
theorem onw_p {c : Prop} {l : List (Int × Tst)} (h : c) : onw c l = some l := if_pos h
theorem onw_n {c : Prop} {l : List (Int × Tst)} (h : ¬ c) : onw c l = none := if_neg h
theorem onw_s {c : Prop} {l l' : List (Int × Tst)} (h : onw c l = some l') : c ∧ l' = l := by
  by_cases hc : c
  · rw [onw_p hc] at h; cases h; exact ⟨hc, rfl⟩
  · rw [onw_n hc] at h; cases h
variable (B : Int → Int) (f : Int)
def fTy (r k : Int) : Int := tyV B (pFld B r k)
def ldM (c s t : Int) : Int := tyV B (pMs B c s t)
def pTy (g k : Int) : Int := tyV B (pPar B g k)
def rTy (g : Int) : Int := tyV B (pRes B g)
def opA (p : Int) : Int := B (cAt B f + p)
def agA (p : Int) : Int := B (cAt B f + p + 1)
def endT (a t : Int) : Prop := kindM a = 5 ∧ tnS B (whichM a) (stateM a) = 1 + sideM a ∧ t < nMs B (whichM a) (stateM a)
def ldT (a t : Int) : Int := ldM B (whichM a) (stateM a) t
def nxT (a t : Int) : Int := a - 2048 * stateM a + 2048 * thM B (whichM a) (stateM a) t
def parT (g : Int) (X : Tst) : Prop := nPar B g ≤ X.1 ∧ ∀ k, 0 ≤ k → k < nPar B g → leT (X.2.1 (X.1 - nPar B g + k)) (pTy B g k)
def itm (a : Int) : Int := if kindM a = 2 then 0 else 1 + 8 * whichM a
def rcv (X : Tst) (t : Int) : Tst :=
  let a := X.2.1 (X.1 - 1)
  if ldT B a t = -1 then (X.1, up1 X.2.1 (X.1 - 1) (nxT B a t), X.2.2) else (X.1 + 1, up1 (up1 X.2.1 (X.1 - 1) (nxT B a t)) X.1 (ldT B a t), X.2.2)
noncomputable def tsP (op v p : Int) (X : Tst) : Option (List (Int × Tst)) :=
  if op = 0 then onw True [(p + 5, (X.1 + 1, up1 X.2.1 X.1 0, X.2.2))]
  else if op = 1 then onw True [(p + 1, (X.1 + 1, up1 X.2.1 X.1 6, X.2.2))]
  else if op = 2 then onw (X.2.2 v ≠ 7) [(p + 2, (X.1 + 1, up1 X.2.1 X.1 (X.2.2 v), if linT (X.2.2 v) then up1 X.2.2 v 7 else X.2.2))]
  else if op = 3 then onw (¬ linT (X.2.2 v) ∧ 0 < X.1) [(p + 2, (X.1 - 1, X.2.1, up1 X.2.2 v (X.2.1 (X.1 - 1))))]
  else if op = 4 then onw (0 < X.1 ∧ ¬ linT (X.2.1 (X.1 - 1))) [(p + 1, (X.1 - 1, X.2.1, X.2.2))]
  else if op = 5 then onw (0 < X.1 ∧ ¬ linT (X.2.1 (X.1 - 1))) [(p + 1, (X.1 + 1, up1 X.2.1 X.1 (X.2.1 (X.1 - 1)), X.2.2))]
  else if op = 6 then onw (1 < X.1) [(p + 1, (X.1, up1 (up1 X.2.1 (X.1 - 2) (X.2.1 (X.1 - 1))) (X.1 - 1) (X.2.1 (X.1 - 2)), X.2.2))]
  else if op = 19 then onw (0 < X.1 ∧ (X.2.1 (X.1 - 1) = 6 ∨ heapT (X.2.1 (X.1 - 1)))) [(p + 1, (X.1, up1 X.2.1 (X.1 - 1) 0, X.2.2))]
  else onw (1 < X.1 ∧ X.2.1 (X.1 - 1) = 0 ∧ X.2.1 (X.1 - 2) = 0) [(p + 1, (X.1 - 1, up1 X.2.1 (X.1 - 2) 0, X.2.2))]
noncomputable def tsH (op v p : Int) (X : Tst) : Option (List (Int × Tst)) :=
  if op = 20 then onw True [(v, X)]
  else if op = 21 then onw (0 < X.1 ∧ X.2.1 (X.1 - 1) = 0) [(v, (X.1 - 1, X.2.1, X.2.2)), (p + 2, (X.1 - 1, X.2.1, X.2.2))]
  else if op = 22 then onw True [(p + 2, (X.1 + 1, up1 X.2.1 X.1 (1 + 8 * v), X.2.2))]
  else if op = 23 then onw (0 < X.1 ∧ (X.2.1 (X.1 - 1) = 6 ∨ (kindM (X.2.1 (X.1 - 1)) = 1 ∧ v < nFld B (whichM (X.2.1 (X.1 - 1)))))) (if X.2.1 (X.1 - 1) = 6 then [] else [(p + 2, (X.1, up1 X.2.1 (X.1 - 1) (fTy B (whichM (X.2.1 (X.1 - 1))) v), X.2.2))])
  else if op = 24 then onw (1 < X.1 ∧ (X.2.1 (X.1 - 2) = 6 ∨ (kindM (X.2.1 (X.1 - 2)) = 1 ∧ v < nFld B (whichM (X.2.1 (X.1 - 2))) ∧ leT (X.2.1 (X.1 - 1)) (fTy B (whichM (X.2.1 (X.1 - 2))) v)))) (if X.2.1 (X.1 - 2) = 6 then [] else [(p + 2, (X.1 - 2, X.2.1, X.2.2))])
  else if op = 25 then onw (0 < X.1 ∧ X.2.1 (X.1 - 1) = 0) [(p + 1, (X.1, up1 X.2.1 (X.1 - 1) 2, X.2.2))]
  else if op = 26 then onw (0 < X.1 ∧ X.2.1 (X.1 - 1) = 0) [(p + 2, (X.1, up1 X.2.1 (X.1 - 1) (3 + 8 * v), X.2.2))]
  else if op = 27 then onw (0 < X.1 ∧ (X.2.1 (X.1 - 1) = 6 ∨ kindM (X.2.1 (X.1 - 1)) = 2 ∨ kindM (X.2.1 (X.1 - 1)) = 3)) (if X.2.1 (X.1 - 1) = 6 then [] else [(p + 1, (X.1, up1 X.2.1 (X.1 - 1) 0, X.2.2))])
  else if op = 28 then onw (1 < X.1 ∧ X.2.1 (X.1 - 1) = 0 ∧ (X.2.1 (X.1 - 2) = 6 ∨ kindM (X.2.1 (X.1 - 2)) = 2 ∨ kindM (X.2.1 (X.1 - 2)) = 3)) (if X.2.1 (X.1 - 2) = 6 then [] else [(p + 1, (X.1 - 1, up1 X.2.1 (X.1 - 2) (itm (X.2.1 (X.1 - 2))), X.2.2))])
  else if op = 29 then onw (2 < X.1 ∧ X.2.1 (X.1 - 2) = 0 ∧ (X.2.1 (X.1 - 3) = 6 ∨ ((kindM (X.2.1 (X.1 - 3)) = 2 ∨ kindM (X.2.1 (X.1 - 3)) = 3) ∧ leT (X.2.1 (X.1 - 1)) (itm (X.2.1 (X.1 - 3)))))) (if X.2.1 (X.1 - 3) = 6 then [] else [(p + 1, (X.1 - 3, X.2.1, X.2.2))])
  else if op = 30 then onw (parT B v X) [(p + 2, if rTy B v = -1 then (X.1 - nPar B v, X.2.1, X.2.2) else (X.1 - nPar B v + 1, up1 X.2.1 (X.1 - nPar B v) (rTy B v), X.2.2))]
  else onw ((if rTy B f = -1 then X.1 = 0 else X.1 = 1 ∧ leT (X.2.1 0) (rTy B f)) ∧ ∀ k, 0 ≤ k → k < 10 → ¬ linT (X.2.2 k)) []
noncomputable def tsL (op v p : Int) (X : Tst) : Option (List (Int × Tst)) :=
  if op = 32 then onw True [(p + 2, (X.1 + 1, up1 X.2.1 X.1 (4 + 8 * v), X.2.2))]
  else if op = 33 then onw (0 < X.1 ∧ kindM (X.2.1 (X.1 - 1)) = 4 ∧ v < nFld B (whichM (X.2.1 (X.1 - 1)))) [(p + 2, (X.1 + 1, up1 X.2.1 X.1 0, X.2.2))]
  else if op = 34 then onw (1 < X.1 ∧ X.2.1 (X.1 - 1) = 0 ∧ kindM (X.2.1 (X.1 - 2)) = 4 ∧ v < nFld B (whichM (X.2.1 (X.1 - 2)))) [(p + 2, (X.1 - 1, X.2.1, X.2.2))]
  else if op = 35 then onw (0 < X.1 ∧ kindM (X.2.1 (X.1 - 1)) = 4) [(p + 1, (X.1 - 1, X.2.1, X.2.2))]
  else if op = 36 then onw True [(p + 2, (X.1 + 2, up1 (up1 X.2.1 X.1 (5 + 8 * v)) (X.1 + 1) (5 + 8 * v + 524288), X.2.2))]
  else if op = 37 then (@ite _ (0 < X.1 ∧ endT B (X.2.1 (X.1 - 1)) v ∧ ldT B (X.2.1 (X.1 - 1)) v = -1) (Classical.propDecidable _) (some [(p + 2, (X.1, up1 X.2.1 (X.1 - 1) (nxT B (X.2.1 (X.1 - 1)) v), X.2.2))])
    (onw (1 < X.1 ∧ endT B (X.2.1 (X.1 - 2)) v ∧ ldT B (X.2.1 (X.1 - 2)) v ≠ -1 ∧ leT (X.2.1 (X.1 - 1)) (ldT B (X.2.1 (X.1 - 2)) v)) [(p + 2, (X.1 - 1, up1 X.2.1 (X.1 - 2) (nxT B (X.2.1 (X.1 - 2)) v), X.2.2))]))
  else if op = 38 then onw (0 < X.1 ∧ kindM (X.2.1 (X.1 - 1)) = 5 ∧ tnS B (whichM (X.2.1 (X.1 - 1))) (stateM (X.2.1 (X.1 - 1))) = 2 - sideM (X.2.1 (X.1 - 1)) ∧ nMs B (whichM (X.2.1 (X.1 - 1))) (stateM (X.2.1 (X.1 - 1))) = v) ((List.range v.toNat).map fun (t : Nat) => (B (cAt B f + p + 2 + (t : Int)), rcv B X (t : Int)))
  else if op = 39 then onw (0 < X.1 ∧ kindM (X.2.1 (X.1 - 1)) = 5 ∧ tnS B (whichM (X.2.1 (X.1 - 1))) (stateM (X.2.1 (X.1 - 1))) = 0) [(p + 1, (X.1 - 1, X.2.1, X.2.2))]
  else if op = 40 then onw (rTy B v = -1 ∧ (∀ k, 0 ≤ k → k < nPar B v → ¬ heapT (pTy B v k)) ∧ parT B v X) [(p + 2, (X.1 - nPar B v, X.2.1, X.2.2))]
  else if op = 41 then onw True [(p + 1, X)]
  else if op = 42 then onw True []
  else onw (0 < X.1 ∧ X.2.1 (X.1 - 1) = 0) [(p + 1, (X.1 - 1, X.2.1, X.2.2))]
noncomputable def tstep (p : Int) (X : Tst) : Option (List (Int × Tst)) :=
  if opA B f p < 20 then tsP (opA B f p) (agA B f p) p X
  else if opA B f p < 32 then tsH B f (opA B f p) (agA B f p) p X
  else tsL B f (opA B f p) (agA B f p) p X
/-- an assignment that holds -/
def ent (k : Int) : Int := if k < nPar B f then pTy B f k else 7
def Clo (A : Int → Option Tst) : Prop := (∃ Z, A 0 = some Z ∧ leX (0, fun _ => 0, ent B f) Z) ∧ ∀ p X, 0 ≤ p → A p = some X → ∃ fl, tstep B f p X = some fl ∧ ∀ q ∈ fl, q.1 < cLen B f ∧ q.2.1 ≤ 16 ∧ ∃ Z, A q.1 = some Z ∧ leX q.2 Z
end TY1
section TY2
variable {B : Int → Int} {f : Int}
theorem mono1 {c c' : Prop} {q : Int} {Z Z' : Tst} {fl' : List (Int × Tst)} (h : onw c' [(q, Z')] = some fl') (hc : c' → c ∧ leX Z Z') : ∃ fl, onw c [(q, Z)] = some fl ∧ ∀ r ∈ fl, ∃ W, (r.1, W) ∈ fl' ∧ leX r.2 W := by
  obtain ⟨h1, rfl⟩ := onw_s h
  refine ⟨_, onw_p (hc h1).1, fun r hr => ?_⟩
  rw [List.mem_singleton] at hr
  subst hr
  exact ⟨Z', List.mem_singleton.mpr rfl, (hc h1).2⟩
theorem mono2 {c c' : Prop} {q q2 : Int} {Z Z' : Tst} {fl' : List (Int × Tst)} (h : onw c' [(q, Z'), (q2, Z')] = some fl') (hc : c' → c ∧ leX Z Z') : ∃ fl, onw c [(q, Z), (q2, Z)] = some fl ∧ ∀ r ∈ fl, ∃ W, (r.1, W) ∈ fl' ∧ leX r.2 W := by
  obtain ⟨h1, rfl⟩ := onw_s h
  refine ⟨_, onw_p (hc h1).1, fun r hr => ?_⟩
  simp only [List.mem_cons, List.not_mem_nil, or_false] at hr
  rcases hr with rfl | rfl
  · exact ⟨Z', by simp, (hc h1).2⟩
  · exact ⟨Z', by simp, (hc h1).2⟩
theorem mono0 {c c' : Prop} {fl' : List (Int × Tst)} (h : onw c' [] = some fl') (hc : c' → c) : ∃ fl, onw c [] = some fl ∧ ∀ r ∈ fl, ∃ W, (r.1, W) ∈ fl' ∧ leX r.2 W := by
  obtain ⟨h1, rfl⟩ := onw_s h
  exact ⟨_, onw_p (hc h1), fun r hr => nomatch hr⟩
/-- one that stops at NIL -/
theorem monoN {c c' : Prop} {a a' q : Int} {Z Z' : Tst} {fl' : List (Int × Tst)} (h : onw c' (if a' = 6 then [] else [(q, Z')]) = some fl') (hc : c' → c ∧ (a ≠ 6 → a' ≠ 6 ∧ leX Z Z')) : ∃ fl, onw c (if a = 6 then [] else [(q, Z)]) = some fl ∧ ∀ r ∈ fl, ∃ W, (r.1, W) ∈ fl' ∧ leX r.2 W := by
  obtain ⟨h1, rfl⟩ := onw_s h
  refine ⟨_, onw_p (hc h1).1, fun r hr => ?_⟩
  by_cases ha : a = 6
  · rw [if_pos ha] at hr; exact nomatch hr
  · rw [if_neg ha, List.mem_singleton] at hr
    subst hr
    obtain ⟨h2, h3⟩ := (hc h1).2 ha
    rw [if_neg h2]
    exact ⟨Z', List.mem_singleton.mpr rfl, h3⟩
theorem lU {n : Int} {s s' : Int → Int} {i a b : Int} (hs : ∀ k, 0 ≤ k → k < n → k ≠ i → leT (s k) (s' k)) (h : leT a b) : ∀ k, 0 ≤ k → k < n → leT (up1 s i a k) (up1 s' i b k) := by
  intro k h0 h1
  by_cases hk : k = i
  · subst hk; rw [up1_eq, up1_eq]; exact h
  · rw [up1_ne hk, up1_ne hk]; exact hs k h0 h1 hk
theorem lUL {s s' : Int → Int} {i a b : Int} (hs : ∀ k, 0 ≤ k → k < 10 → leL (s k) (s' k)) (h : leL a b) : ∀ k, 0 ≤ k → k < 10 → leL (up1 s i a k) (up1 s' i b k) := by
  intro k h0 h1
  by_cases hk : k = i
  · subst hk; rw [up1_eq, up1_eq]; exact h
  · rw [up1_ne hk, up1_ne hk]; exact hs k h0 h1
theorem le0 {a b : Int} (h : leT a b) (hb : b = 0) : a = 0 := by subst hb; exact leT_eq h (by decide)
theorem le6 {a b : Int} (h : leT a b) (hb : b = 6) : a = 6 := by subst hb; exact leT_eq h (by decide)
theorem leK {a b : Int} (h : leT a b) (ha : a ≠ 6) : a = b := by
  rcases h with h | h
  · exact h
  · exact absurd h.1 ha
theorem leK4 {a b : Int} (h : leT a b) (hb : 4 ≤ kindM b) : a = b := leT_k h (Or.inr hb)
theorem parT_mono {g h : Int} {s s' : Int → Int} {l l' : Int → Int} (hs : ∀ k, 0 ≤ k → k < h → leT (s k) (s' k)) (hp : parT B g (h, s', l')) : parT B g (h, s, l) :=
  ⟨hp.1, fun k h0 h1 => (hs _ (by have : nPar B g ≤ h := hp.1; show 0 ≤ h - nPar B g + k; omega) (by show h - nPar B g + k < h; omega)).tr (hp.2 k h0 h1)⟩
theorem mono_map {c c' : Prop} {n : Nat} {g : Nat → Int} {F F' : Nat → Tst} {fl' : List (Int × Tst)} (h : onw c' ((List.range n).map fun t => (g t, F' t)) = some fl') (hc : c' → c ∧ ∀ t, leX (F t) (F' t)) : ∃ fl, onw c ((List.range n).map fun t => (g t, F t)) = some fl ∧ ∀ r ∈ fl, ∃ W, (r.1, W) ∈ fl' ∧ leX r.2 W := by
  obtain ⟨h1, rfl⟩ := onw_s h
  refine ⟨_, onw_p (hc h1).1, fun r hr => ?_⟩
  rw [List.mem_map] at hr
  obtain ⟨t, ht, rfl⟩ := hr
  exact ⟨F' t, List.mem_map.mpr ⟨t, ht, rfl⟩, (hc h1).2 t⟩
theorem tsP_mono {op v p : Int} {X Y : Tst} {fl' : List (Int × Tst)} (hv : op = 2 ∨ op = 3 → 0 ≤ v ∧ v < 10) (hh : leX X Y) (h : tsP op v p Y = some fl') : ∃ fl, tsP op v p X = some fl ∧ ∀ r ∈ fl, ∃ W, (r.1, W) ∈ fl' ∧ leX r.2 W := by
  obtain ⟨n, s, l⟩ := X
  obtain ⟨n', s', l'⟩ := Y
  obtain ⟨hn, hs, hl⟩ := hh
  simp only at hn hs hl
  subst hn
  have hD : ∀ m, m ≤ n → ∀ k, 0 ≤ k → k < m → leT (s k) (s' k) := fun m hm k a b => hs k a (by omega)
  have hU : ∀ m i, m ≤ n + 1 → (i = n ∨ m ≤ n) → ∀ k, 0 ≤ k → k < m → k ≠ i → leT (s k) (s' k) := fun m i h1 h2 k a b c => hs k a (by omega)
  unfold tsP at h ⊢
  simp only at h ⊢
  by_cases c : op = 0
  · rw [if_pos c] at h ⊢
    exact mono1 h (fun q => ⟨trivial, rfl, lU (hU _ _ (by omega) (by omega)) leT.rf, hl⟩)
  rw [if_neg c] at h ⊢; clear c
  by_cases c : op = 1
  · rw [if_pos c] at h ⊢
    exact mono1 h (fun q => ⟨trivial, rfl, lU (hU _ _ (by omega) (by omega)) leT.rf, hl⟩)
  rw [if_neg c] at h ⊢; clear c
  by_cases c : op = 2
  · rw [if_pos c] at h ⊢
    obtain ⟨v0, v1⟩ := hv (Or.inl c)
    refine mono1 h (fun q => ?_)
    have hlv := hl v v0 v1
    rcases hlv with hlv | hlv
    · refine ⟨fun h7 => ?_, rfl, lU (hU _ _ (by omega) (by omega)) hlv, ?_⟩
      · rw [h7] at hlv
        rcases hlv with e | e
        · exact q e.symm
        · exact absurd e.1 (by decide)
      · show ∀ k, 0 ≤ k → k < 10 → leL ((if linT (l v) then up1 l v 7 else l) k) ((if linT (l' v) then up1 l' v 7 else l') k)
        rcases hlv with e | ⟨e, e2⟩
        · rw [e]
          split
          · exact lUL hl leL.rf
          · exact hl
        · rw [if_neg (by rw [e]; decide), if_neg (by omega)]
          exact hl
    · exact absurd hlv.1 q
  rw [if_neg c] at h ⊢; clear c
  by_cases c : op = 3
  · rw [if_pos c] at h ⊢
    obtain ⟨v0, v1⟩ := hv (Or.inr c)
    exact mono1 h (fun q => ⟨⟨leL_lin (hl v v0 v1) q.1, q.2⟩, rfl, hD _ (by omega), lUL hl (Or.inl (hs (n - 1) (by omega) (by omega)))⟩)
  rw [if_neg c] at h ⊢; clear c
  by_cases c : op = 4
  · rw [if_pos c] at h ⊢
    exact mono1 h (fun q => ⟨⟨q.1, leT_lin (hs (n - 1) (by omega) (by omega)) q.2⟩, rfl, hD _ (by omega), hl⟩)
  rw [if_neg c] at h ⊢; clear c
  by_cases c : op = 5
  · rw [if_pos c] at h ⊢
    exact mono1 h (fun q => ⟨⟨q.1, leT_lin (hs (n - 1) (by omega) (by omega)) q.2⟩, rfl, lU (hU _ _ (by omega) (by omega)) (hs (n - 1) (by omega) (by omega)), hl⟩)
  rw [if_neg c] at h ⊢; clear c
  by_cases c : op = 6
  · rw [if_pos c] at h ⊢
    exact mono1 h (fun q => ⟨q, rfl, lU (fun k a b _ => lU (hU n (n - 2) (by omega) (by omega)) (hs (n - 1) (by omega) (by omega)) k a b) (hs (n - 2) (by omega) (by omega)), hl⟩)
  rw [if_neg c] at h ⊢; clear c
  by_cases c : op = 19
  · rw [if_pos c] at h ⊢
    refine mono1 h (fun q => ⟨⟨q.1, ?_⟩, rfl, lU (hU _ _ (by omega) (by omega)) leT.rf, hl⟩)
    have ht := (hs (n - 1) (by omega) (by omega))
    rcases ht with e | e
    · rw [e]; exact q.2
    · exact Or.inl e.1
  rw [if_neg c] at h ⊢; clear c
  exact mono1 h (fun q => ⟨⟨q.1, le0 (hs (n - 1) (by omega) (by omega)) q.2.1, le0 (hs (n - 2) (by omega) (by omega)) q.2.2⟩, rfl, lU (hU _ _ (by omega) (by omega)) leT.rf, hl⟩)
theorem tsH_mono {op v p : Int} {X Y : Tst} {fl' : List (Int × Tst)} (hN : op = 30 ∨ op = 40 → 0 ≤ nPar B v) (hh : leX X Y) (h : tsH B f op v p Y = some fl') : ∃ fl, tsH B f op v p X = some fl ∧ ∀ r ∈ fl, ∃ W, (r.1, W) ∈ fl' ∧ leX r.2 W := by
  obtain ⟨n, s, l⟩ := X
  obtain ⟨n', s', l'⟩ := Y
  obtain ⟨hn, hs, hl⟩ := hh
  simp only at hn hs hl
  subst hn
  have hD : ∀ m, m ≤ n → ∀ k, 0 ≤ k → k < m → leT (s k) (s' k) := fun m hm k a b => hs k a (by omega)
  have hU : ∀ m i, m ≤ n + 1 → (i = n ∨ m ≤ n) → ∀ k, 0 ≤ k → k < m → k ≠ i → leT (s k) (s' k) := fun m i h1 h2 k a b c => hs k a (by omega)
  unfold tsH at h ⊢
  simp only at h ⊢
  by_cases c : op = 20
  · rw [if_pos c] at h ⊢
    exact mono1 h (fun q => ⟨trivial, rfl, hs, hl⟩)
  rw [if_neg c] at h ⊢; clear c
  by_cases c : op = 21
  · rw [if_pos c] at h ⊢
    exact mono2 h (fun q => ⟨⟨q.1, le0 (hs (n - 1) (by omega) (by omega)) q.2⟩, rfl, hD _ (by omega), hl⟩)
  rw [if_neg c] at h ⊢; clear c
  by_cases c : op = 22
  · rw [if_pos c] at h ⊢
    exact mono1 h (fun q => ⟨trivial, rfl, lU (hU _ _ (by omega) (by omega)) leT.rf, hl⟩)
  rw [if_neg c] at h ⊢; clear c
  by_cases c : op = 23
  · rw [if_pos c] at h ⊢
    refine monoN h (fun q => ?_)
    have h9 : 0 < n := by omega
    have ht := (hs (n - 1) (by omega) (by omega))
    by_cases e6 : s (n - 1) = 6
    · exact ⟨⟨q.1, Or.inl e6⟩, fun h => absurd e6 h⟩
    · have e := leK ht e6
      rw [e] at e6 ⊢
      exact ⟨q, fun _ => ⟨e6, rfl, lU (hU _ _ (by omega) (by omega)) leT.rf, hl⟩⟩
  rw [if_neg c] at h ⊢; clear c
  by_cases c : op = 24
  · rw [if_pos c] at h ⊢
    refine monoN h (fun q => ?_)
    have h9 : 0 < n := by omega
    have ht := (hs (n - 2) (by omega) (by omega))
    by_cases e6 : s (n - 2) = 6
    · exact ⟨⟨q.1, Or.inl e6⟩, fun h => absurd e6 h⟩
    · have e := leK ht e6
      rw [e] at e6 ⊢
      exact ⟨⟨q.1, Or.inr (by rcases q.2 with q2 | q2; exact absurd q2 e6; exact ⟨q2.1, q2.2.1, (hs (n - 1) (by omega) (by omega)).tr q2.2.2⟩)⟩, fun _ => ⟨e6, rfl, hD _ (by omega), hl⟩⟩
  rw [if_neg c] at h ⊢; clear c
  by_cases c : op = 25
  · rw [if_pos c] at h ⊢
    exact mono1 h (fun q => ⟨⟨q.1, le0 (hs (n - 1) (by omega) (by omega)) q.2⟩, rfl, lU (hU _ _ (by omega) (by omega)) leT.rf, hl⟩)
  rw [if_neg c] at h ⊢; clear c
  by_cases c : op = 26
  · rw [if_pos c] at h ⊢
    exact mono1 h (fun q => ⟨⟨q.1, le0 (hs (n - 1) (by omega) (by omega)) q.2⟩, rfl, lU (hU _ _ (by omega) (by omega)) leT.rf, hl⟩)
  rw [if_neg c] at h ⊢; clear c
  by_cases c : op = 27
  · rw [if_pos c] at h ⊢
    refine monoN h (fun q => ?_)
    have h9 : 0 < n := by omega
    have ht := (hs (n - 1) (by omega) (by omega))
    by_cases e6 : s (n - 1) = 6
    · exact ⟨⟨q.1, Or.inl e6⟩, fun h => absurd e6 h⟩
    · have e := leK ht e6
      rw [e] at e6 ⊢
      exact ⟨q, fun _ => ⟨e6, rfl, lU (hU _ _ (by omega) (by omega)) leT.rf, hl⟩⟩
  rw [if_neg c] at h ⊢; clear c
  by_cases c : op = 28
  · rw [if_pos c] at h ⊢
    refine monoN h (fun q => ?_)
    have h9 : 0 < n := by omega
    have ht := (hs (n - 2) (by omega) (by omega))
    by_cases e6 : s (n - 2) = 6
    · exact ⟨⟨q.1, le0 (hs (n - 1) (by omega) (by omega)) q.2.1, Or.inl e6⟩, fun h => absurd e6 h⟩
    · have e := leK ht e6
      rw [e] at e6 ⊢
      exact ⟨⟨q.1, le0 (hs (n - 1) (by omega) (by omega)) q.2.1, q.2.2⟩, fun _ => ⟨e6, rfl, lU (hU _ _ (by omega) (by omega)) leT.rf, hl⟩⟩
  rw [if_neg c] at h ⊢; clear c
  by_cases c : op = 29
  · rw [if_pos c] at h ⊢
    refine monoN h (fun q => ?_)
    have h9 : 0 < n := by omega
    have ht := (hs (n - 3) (by omega) (by omega))
    by_cases e6 : s (n - 3) = 6
    · exact ⟨⟨q.1, le0 (hs (n - 2) (by omega) (by omega)) q.2.1, Or.inl e6⟩, fun h => absurd e6 h⟩
    · have e := leK ht e6
      rw [e] at e6 ⊢
      exact ⟨⟨q.1, le0 (hs (n - 2) (by omega) (by omega)) q.2.1, Or.inr (by rcases q.2.2 with q2 | q2; exact absurd q2 e6; exact ⟨q2.1, (hs (n - 1) (by omega) (by omega)).tr q2.2⟩)⟩, fun _ => ⟨e6, rfl, hD _ (by omega), hl⟩⟩
  rw [if_neg c] at h ⊢; clear c
  by_cases c : op = 30
  · rw [if_pos c] at h ⊢
    refine mono1 h (fun q => ⟨parT_mono hs q, ?_⟩)
    have q1 : nPar B v ≤ n := q.1
    have h0 := hN (by omega)
    split
    · exact ⟨rfl, hD _ (by omega), hl⟩
    · exact ⟨rfl, lU (fun k a b c => hs k a (by omega)) leT.rf, hl⟩
  rw [if_neg c] at h ⊢; clear c
  refine mono0 h (fun q => ⟨?_, fun k a b => leL_lin (hl k a b) (q.2 k a b)⟩)
  have q1 := q.1
  split
  · rename_i hr; rw [if_pos hr] at q1; exact q1
  · rename_i hr; rw [if_neg hr] at q1; exact ⟨q1.1, (hs 0 (by omega) (by omega)).tr q1.2⟩
theorem tsL_mono {op v p : Int} {X Y : Tst} {fl' : List (Int × Tst)} (hN : op = 30 ∨ op = 40 → 0 ≤ nPar B v) (hh : leX X Y) (h : tsL B f op v p Y = some fl') : ∃ fl, tsL B f op v p X = some fl ∧ ∀ r ∈ fl, ∃ W, (r.1, W) ∈ fl' ∧ leX r.2 W := by
  obtain ⟨n, s, l⟩ := X
  obtain ⟨n', s', l'⟩ := Y
  obtain ⟨hn, hs, hl⟩ := hh
  simp only at hn hs hl
  subst hn
  have hD : ∀ m, m ≤ n → ∀ k, 0 ≤ k → k < m → leT (s k) (s' k) := fun m hm k a b => hs k a (by omega)
  have hU : ∀ m i, m ≤ n + 1 → (i = n ∨ m ≤ n) → ∀ k, 0 ≤ k → k < m → k ≠ i → leT (s k) (s' k) := fun m i h1 h2 k a b c => hs k a (by omega)
  unfold tsL at h ⊢
  simp only at h ⊢
  by_cases c : op = 32
  · rw [if_pos c] at h ⊢
    exact mono1 h (fun q => ⟨trivial, rfl, lU (hU _ _ (by omega) (by omega)) leT.rf, hl⟩)
  rw [if_neg c] at h ⊢; clear c
  by_cases c : op = 33
  · rw [if_pos c] at h ⊢
    refine mono1 h (fun q => ?_)
    have e := leK4 (hs (n - 1) (by omega) (by omega)) (by omega)
    rw [e]
    exact ⟨q, rfl, lU (hU _ _ (by omega) (by omega)) leT.rf, hl⟩
  rw [if_neg c] at h ⊢; clear c
  by_cases c : op = 34
  · rw [if_pos c] at h ⊢
    refine mono1 h (fun q => ?_)
    have e := leK4 (hs (n - 2) (by omega) (by omega)) (by omega)
    rw [e]
    exact ⟨⟨q.1, le0 (hs (n - 1) (by omega) (by omega)) q.2.1, q.2.2⟩, rfl, hD _ (by omega), hl⟩
  rw [if_neg c] at h ⊢; clear c
  by_cases c : op = 35
  · rw [if_pos c] at h ⊢
    refine mono1 h (fun q => ?_)
    have e := leK4 (hs (n - 1) (by omega) (by omega)) (by omega)
    rw [e]
    exact ⟨q, rfl, hD _ (by omega), hl⟩
  rw [if_neg c] at h ⊢; clear c
  by_cases c : op = 36
  · rw [if_pos c] at h ⊢
    exact mono1 h (fun q => ⟨trivial, rfl, lU (fun k a b c => lU (hU (n + 1) n (by omega) (by omega)) leT.rf k a (by omega)) leT.rf, hl⟩)
  rw [if_neg c] at h ⊢; clear c
  by_cases c : op = 37
  · rw [if_pos c] at h ⊢
    by_cases hc : 0 < n ∧ endT B (s' (n - 1)) v ∧ ldT B (s' (n - 1)) v = -1
    · rw [if_pos hc] at h
      cases h
      have e := leK4 (hs (n - 1) (by omega) (by omega)) (by have := hc.2.1.1; omega)
      rw [if_pos (by rw [e]; exact hc)]
      refine ⟨_, rfl, fun r hr => ?_⟩
      rw [List.mem_singleton] at hr
      subst hr
      rw [e]
      exact ⟨_, List.mem_singleton.mpr rfl, rfl, lU (hU n (n - 1) (by omega) (by omega)) leT.rf, hl⟩
    · rw [if_neg hc] at h
      by_cases hc2 : 0 < n ∧ endT B (s (n - 1)) v ∧ ldT B (s (n - 1)) v = -1
      · exfalso
        obtain ⟨q, -⟩ := onw_s h
        have ht := hs (n - 1) (by omega) (by omega)
        rcases ht with e | e
        · rw [e] at hc2; exact hc hc2
        · have := hc2.2.1.1; rw [e.1] at this; exact absurd this (by decide)
      · rw [if_neg hc2]
        refine mono1 h (fun q => ?_)
        have e := leK4 (hs (n - 2) (by omega) (by omega)) (by have := q.2.1.1; omega)
        rw [e]
        exact ⟨⟨q.1, q.2.1, q.2.2.1, (hs (n - 1) (by omega) (by omega)).tr q.2.2.2⟩, rfl, lU (hU _ _ (by omega) (by omega)) leT.rf, hl⟩
  rw [if_neg c] at h ⊢; clear c
  by_cases c : op = 38
  · rw [if_pos c] at h ⊢
    refine mono_map h (fun q => ?_)
    have e := leK4 (hs (n - 1) (by omega) (by omega)) (by omega)
    unfold rcv
    simp only
    rw [e]
    refine ⟨q, fun t => ?_⟩
    split
    · exact ⟨rfl, lU (hU _ _ (by omega) (by omega)) leT.rf, hl⟩
    · exact ⟨rfl, lU (fun k a b c => lU (hU n (n - 1) (by omega) (by omega)) leT.rf k a (by omega)) leT.rf, hl⟩
  rw [if_neg c] at h ⊢; clear c
  by_cases c : op = 39
  · rw [if_pos c] at h ⊢
    refine mono1 h (fun q => ?_)
    have e := leK4 (hs (n - 1) (by omega) (by omega)) (by omega)
    rw [e]
    exact ⟨q, rfl, hD _ (by omega), hl⟩
  rw [if_neg c] at h ⊢; clear c
  by_cases c : op = 40
  · rw [if_pos c] at h ⊢
    have h0 := hN (by omega)
    exact mono1 h (fun q => ⟨⟨q.1, q.2.1, parT_mono hs q.2.2⟩, rfl, hD _ (by omega), hl⟩)
  rw [if_neg c] at h ⊢; clear c
  by_cases c : op = 41
  · rw [if_pos c] at h ⊢
    exact mono1 h (fun q => ⟨trivial, rfl, hs, hl⟩)
  rw [if_neg c] at h ⊢; clear c
  by_cases c : op = 42
  · rw [if_pos c] at h ⊢
    exact mono0 h (fun q => trivial)
  rw [if_neg c] at h ⊢; clear c
  exact mono1 h (fun q => ⟨⟨q.1, le0 (hs (n - 1) (by omega) (by omega)) q.2⟩, rfl, hD _ (by omega), hl⟩)
theorem ts_mono {p : Int} {X Y : Tst} {fl' : List (Int × Tst)} (hv : opA B f p = 2 ∨ opA B f p = 3 → 0 ≤ agA B f p ∧ agA B f p < 10) (hN : opA B f p = 30 ∨ opA B f p = 40 → 0 ≤ nPar B (agA B f p)) (hh : leX X Y) (h : tstep B f p Y = some fl') : ∃ fl, tstep B f p X = some fl ∧ ∀ r ∈ fl, ∃ W, (r.1, W) ∈ fl' ∧ leX r.2 W := by
  unfold tstep at h ⊢
  split
  · rename_i c; rw [if_pos c] at h; exact tsP_mono hv hh h
  · rename_i c; rw [if_neg c] at h
    split
    · rename_i c2; rw [if_pos c2] at h; exact tsH_mono hN hh h
    · rename_i c2; rw [if_neg c2] at h; exact tsL_mono hN hh h
end TY2
