/-! what a text holds that was read -/
section SH
variable {B : Int → Int}
/-- a record, a contract, a function that were read -/
def ShR (B : Int → Int) (r : Int) : Prop := 1 ≤ nFld B r ∧ nFld B r ≤ 6 ∧ 3 ≤ pRec B r ∧ (∀ k : Int, 0 ≤ k → k < nFld B r → tyP B 15 0 (pFld B r k) = .ok (pFld B r (k + 1)) ∧ 3 ≤ pFld B r k) ∧ pFld B r (nFld B r) = pRec B (r + 1)
def ShS (B : Int → Int) (c s : Int) : Prop := 0 ≤ tnS B c s ∧ tnS B c s ≤ 2 ∧ 0 ≤ nMs B c s ∧ nMs B c s ≤ 4 ∧ (tnS B c s = 0 ↔ nMs B c s = 0) ∧ 3 ≤ pSt B c s ∧ (∀ t : Int, 0 ≤ t → t < nMs B c s → tyP B 49 1 (pMs B c s t) = .ok (skT B (pMs B c s t)) ∧ 0 ≤ thM B c s t ∧ thM B c s t ≤ 255 ∧ pMs B c s (t + 1) = skT B (pMs B c s t) + 1 ∧ 3 ≤ pMs B c s t) ∧ pMs B c s (nMs B c s) = pSt B c (s + 1)
def ShC (B : Int → Int) (c : Int) : Prop := 1 ≤ nSt B c ∧ nSt B c ≤ 8 ∧ 3 ≤ pCtr B c ∧ (∀ s : Int, 0 ≤ s → s < nSt B c → ShS B c s) ∧ pSt B c (nSt B c) = pCtr B (c + 1)
def ShF (B : Int → Int) (f : Int) : Prop := 0 ≤ nPar B f ∧ nPar B f ≤ 4 ∧ 3 ≤ pFn B f ∧ (∀ k : Int, 0 ≤ k → k < nPar B f → tyP B 63 0 (pPar B f k) = .ok (pPar B f (k + 1)) ∧ 3 ≤ pPar B f k) ∧ pPar B f (nPar B f) = pRes B f ∧ 3 ≤ pRes B f ∧ tyP B 63 1 (pRes B f) = .ok (cAt B f - 2) ∧ nPar B f ≤ nLoc B f ∧ nLoc B f ≤ 10 ∧ 1 ≤ cLen B f ∧ cLen B f ≤ 240 ∧ 3 ≤ cAt B f ∧ cdP B (cAt B f + cLen B f) (nLoc B f) (cLen B f).toNat (cAt B f) = .ok (cAt B f + cLen B f) ∧ cAt B f + cLen B f = pFn B (f + 1)
def Sh (B : Int → Int) : Prop := 0 ≤ nRec B ∧ nRec B ≤ 8 ∧ (∀ r : Int, 0 ≤ r → r < nRec B → ShR B r) ∧ 3 ≤ pCt0 B ∧ 0 ≤ nCtr B ∧ nCtr B ≤ 4 ∧ (∀ c : Int, 0 ≤ c → c < nCtr B → ShC B c) ∧ 3 ≤ pFn0 B ∧ 1 ≤ nFn B ∧ nFn B ≤ 10 ∧ (∀ f : Int, 0 ≤ f → f < nFn B → ShF B f)
theorem itr_t (g : Int → Int) {k : Int} (p : Int) (hk : 0 ≤ k) : itr g (k + 1).toNat p = g (itr g k.toNat p) := by
  rw [show (k + 1).toNat = k.toNat + 1 by omega, itr_s]
theorem lp_at {f : Int → Ex} {g : Int → Int} (hf : ∀ q q', f q = .ok q' → q' = g q) {n p q : Int} (h : lpE f n.toNat p = .ok q) {k : Int} (k0 : 0 ≤ k) (k1 : k < n) : f (itr g k.toNat p) = .ok (itr g (k + 1).toNat p) := by
  obtain ⟨r, h1, q', h2⟩ := lpE_mid h (j := k.toNat) (by omega)
  rw [lpE_itr hf _ _ _ h1] at h2
  rw [h2, itr_t _ _ k0, hf _ _ h2]
theorem lp_ge {f : Int → Ex} {g : Int → Int} (hf : ∀ q q', f q = .ok q' → q' = g q) (hg : ∀ q q', f q = .ok q' → q ≤ q') {n p q : Int} (h : lpE f n.toNat p = .ok q) {k : Int} (k0 : 0 ≤ k) (k1 : k ≤ n) : p ≤ itr g k.toNat p := by
  by_cases e : k = n
  · subst e
    have := lpE_ge hg _ _ _ h
    rw [lpE_itr hf _ _ _ h] at this
    exact this
  · obtain ⟨r, h1, -⟩ := lpE_mid h (j := k.toNat) (by omega)
    have := lpE_ge hg _ _ _ h1
    rw [lpE_itr hf _ _ _ h1] at this
    exact this
theorem sh_rec {r p' : Int} (r0 : 0 ≤ r) (h3 : 3 ≤ pRec B r) (h : recP B (pRec B r) = .ok p') : ShR B r := by
  obtain ⟨e, -, -, b1, b2⟩ := recP_sk h
  unfold recP at h
  cases hp : nmb B 1 6 (pRec B r) with
  | error q => rw [hp] at h; cases h
  | ok q =>
    rw [hp, bnd_ok] at h
    obtain ⟨rfl, -⟩ := nmb_ok hp
    refine ⟨b1, b2, h3, fun k k0 k1 => ⟨lp_at (g := skT B) (fun q q' h => tyP_sk h) h k0 k1, ?_⟩, ?_⟩
    · have := lp_ge (g := skT B) (fun q q' h => tyP_sk h) (fun p q h => by have := tyP_ge h; omega) h k0 (Int.le_of_lt k1)
      show 3 ≤ itr (skT B) k.toNat (pRec B r + 1)
      omega
    · unfold pRec; rw [itr_t _ _ r0]; rfl
theorem sh_st {c s p' : Int} (s0 : 0 ≤ s) (h3 : 3 ≤ pSt B c s) (h : stP B (pSt B c s) = .ok p') : ShS B c s := by
  obtain ⟨a1, a2, a3, a4, a5, h9⟩ := stP_hd h
  refine ⟨a1, a2, a3, a4, a5, h3, fun t t0 t1 => ?_, ?_⟩
  · have h1 : msP B (pMs B c s t) = .ok (pMs B c s (t + 1)) := lp_at (g := skM B) (fun q q' h => (msP_sk h).1) h9 t0 t1
    have hge := lp_ge (g := skM B) (fun q q' h => (msP_sk h).1) (fun p q h => by have := msP_ge h; omega) h9 t0 (Int.le_of_lt t1)
    have h2 := (msP_sk h1).1
    unfold msP at h1
    cases hp : tyP B 49 1 (pMs B c s t) with
    | error q => rw [hp] at h1; cases h1
    | ok q =>
      rw [hp, bnd_ok] at h1
      have := tyP_sk hp
      subst this
      obtain ⟨-, b1, b2⟩ := nmb_ok h1
      exact ⟨rfl, b1, b2, h2, by unfold pMs; omega⟩
  · unfold pSt; rw [itr_t _ _ s0]; rfl
theorem sh_ctr {c p' : Int} (c0 : 0 ≤ c) (h3 : 3 ≤ pCtr B c) (h : ctP B (pCtr B c) = .ok p') : ShC B c := by
  obtain ⟨b1, b2, b3⟩ := ctP_b h
  unfold ctP at h
  cases hp : nmb B 1 8 (pCtr B c) with
  | error q => rw [hp] at h; cases h
  | ok q =>
    rw [hp, bnd_ok] at h
    obtain ⟨rfl, -⟩ := nmb_ok hp
    refine ⟨b1, b2, h3, fun s s0 s1 => ?_, ?_⟩
    · have hge := lp_ge (g := skS B) (fun q q' h => (stP_sk h).1) (fun p q h => by have := (stP_sk h).2.2; omega) h s0 (Int.le_of_lt s1)
      have h1 : stP B (pSt B c s) = .ok (pSt B c (s + 1)) := lp_at (g := skS B) (fun q q' h => (stP_sk h).1) h s0 s1
      exact sh_st s0 (by unfold pSt; omega) h1
    · unfold pCtr; rw [itr_t _ _ c0]; rfl
theorem sh_fn {f p' : Int} (f0 : 0 ≤ f) (h3 : 3 ≤ pFn B f) (h : fnP B (pFn B f) = .ok p') : ShF B f := by
  obtain ⟨a1, a2, a3, a4, a5, a6, a7, a8, a9, h9⟩ := fnP_hd h
  obtain ⟨k1, k2⟩ := cd_end _ _ _ (by omega) (by omega) h9
  have hge := lp_ge (g := skT B) (fun q q' h => tyP_sk h) (fun p q h => by have := tyP_ge h; omega) a3 a1 (Int.le_refl _)
  refine ⟨a1, a2, h3, fun k k0 k1 => ⟨lp_at (g := skT B) (fun q q' h => tyP_sk h) a3 k0 k1, ?_⟩, rfl, ?_, ?_, a5, a6, a7, a8, ?_, ?_, ?_⟩
  · have := lp_ge (g := skT B) (fun q q' h => tyP_sk h) (fun p q h => by have := tyP_ge h; omega) a3 k0 (Int.le_of_lt k1)
    show 3 ≤ itr (skT B) k.toNat (pFn B f + 1)
    omega
  · show 3 ≤ itr (skT B) (B (pFn B f)).toNat (pFn B f + 1); omega
  · unfold cAt pRes; rw [show fL_ B (pFn B f) + 2 - 2 = fL_ B (pFn B f) by omega]; exact a4
  · unfold cAt; omega
  · unfold cAt cLen nLoc; rw [k1] at h9; exact h9
  · unfold cAt cLen; rw [show pFn B (f + 1) = skF B (pFn B f) from itr_t _ _ f0]; rfl
theorem sh_mod {n p' : Int} (h : modP B n = .ok p') : Sh B := by
  unfold modP at h
  cases h0 : nmb B 83 83 0 with
  | error q => rw [h0] at h; cases h
  | ok q0 =>
    rw [h0, bnd_ok] at h
    obtain ⟨rfl, -⟩ := nmb_ok h0
    cases h1 : nmb B 77 77 (0 + 1) with
    | error q => rw [h1] at h; cases h
    | ok q1 =>
      rw [h1, bnd_ok] at h
      obtain ⟨rfl, -⟩ := nmb_ok h1
      cases h2 : nmb B 0 8 (0 + 1 + 1) with
      | error q => rw [h2] at h; cases h
      | ok q2 =>
        rw [h2, bnd_ok] at h
        obtain ⟨rfl, r0, r1⟩ := nmb_ok h2
        cases h3 : lpE (recP B) (B (0 + 1 + 1)).toNat (0 + 1 + 1 + 1) with
        | error q => rw [h3] at h; cases h
        | ok q3 =>
          rw [h3, bnd_ok] at h
          have e3 : q3 = pCt0 B := lpE_itr (fun q q' h => (recP_sk h).1) _ _ _ h3
          have g3 : 3 ≤ q3 := lpE_ge (fun p q h => by have := (recP_sk h).2.2.1; omega) _ _ _ h3
          subst e3
          cases h4 : nmb B 0 4 (pCt0 B) with
          | error q => rw [h4] at h; cases h
          | ok q4 =>
            rw [h4, bnd_ok] at h
            obtain ⟨rfl, c0, c1⟩ := nmb_ok h4
            cases h5 : lpE (ctP B) (B (pCt0 B)).toNat (pCt0 B + 1) with
            | error q => rw [h5] at h; cases h
            | ok q5 =>
              rw [h5, bnd_ok] at h
              have e5 : q5 = pFn0 B := lpE_itr (fun q q' h => (ctP_sk h).1) _ _ _ h5
              have g5 : pCt0 B + 1 ≤ q5 := lpE_ge (fun p q h => by have := (ctP_sk h).2.2; omega) _ _ _ h5
              subst e5
              cases h6 : nmb B 1 10 (pFn0 B) with
              | error q => rw [h6] at h; cases h
              | ok q6 =>
                rw [h6, bnd_ok] at h
                obtain ⟨rfl, f0, f1⟩ := nmb_ok h6
                cases h7 : lpE (fnP B) (B (pFn0 B)).toNat (pFn0 B + 1) with
                | error q => rw [h7] at h; cases h
                | ok q7 =>
                  refine ⟨r0, r1, fun r a b => ?_, g3, c0, c1, fun c a b => ?_, by omega, f0, f1, fun f a b => ?_⟩
                  · have := lp_ge (g := skR B) (fun q q' h => (recP_sk h).1) (fun p q h => by have := (recP_sk h).2.2.1; omega) h3 a (Int.le_of_lt b)
                    exact sh_rec a this (lp_at (g := skR B) (fun q q' h => (recP_sk h).1) h3 a b)
                  · have := lp_ge (g := skC B) (fun q q' h => (ctP_sk h).1) (fun p q h => by have := (ctP_sk h).2.2; omega) h5 a (Int.le_of_lt b)
                    exact sh_ctr a (by unfold pCtr; omega) (lp_at (g := skC B) (fun q q' h => (ctP_sk h).1) h5 a b)
                  · have := lp_ge (g := skF B) (fun q q' h => (fnP_sk h).1) (fun p q h => by have := (fnP_sk h).2.2; omega) h7 a (Int.le_of_lt b)
                    exact sh_fn a (by unfold pFn; omega) (lp_at (g := skF B) (fun q q' h => (fnP_sk h).1) h7 a b)
end SH
