/-! THE SPEC, 5: the names in a text -/
section SN
noncomputable def ckE (c : Prop) (p q : Int) : Ex := @ite _ c (Classical.propDecidable c) (.ok p) (.error q)
theorem ckE_y {c : Prop} {p q : Int} (h : c) : ckE c p q = .ok p := if_pos h
theorem ckE_n {c : Prop} {p q : Int} (h : ¬ c) : ckE c p q = .error q := if_neg h
variable (B : Int → Int)
def plainR (r : Int) : Prop := ∀ k, 0 ≤ k → k < nFld B r → fTy B r k = 0
noncomputable def nmT (p : Int) : Ex :=
  if B p = 255 ∨ B p = 0 ∨ B p = 2 then .ok (p + 1)
  else if B p ≠ 5 then ckE (B (p + 1) < nRec B ∧ (B p = 4 → plainR B (B (p + 1)))) (p + 2) (p + 1)
  else if nCtr B ≤ B (p + 1) then .error (p + 1)
  else ckE (B (p + 2) < nSt B (B (p + 1))) (p + 4) (p + 2)
noncomputable def nmR (p : Int) : Ex := lpE (nmT B) (B p).toNat (p + 1)
noncomputable def nmM (n p : Int) : Ex := (nmT B p).bind fun q => if n ≤ B q then .error q else .ok (q + 1)
noncomputable def nmS (n p : Int) : Ex := lpE (nmM B n) (B (p + 1)).toNat (p + 2)
noncomputable def nmC (p : Int) : Ex := lpE (nmS B (B p)) (B p).toNat (p + 1)
/-- how long an instruction is -/
def ilen (q : Int) : Int := if oprn (B q) = 1 then 5 else if oprn (B q) = 0 then 1 else if oprn (B q) = 10 then 2 + B (q + 1) else 2
/-- an instruction of the code of n bytes at c begins at place -/
def bgn (c n p : Int) : Prop := 0 ≤ p ∧ p < n ∧ ∃ k : Nat, itr (fun q => q + ilen B (c + q)) k 0 = p
noncomputable def tgN (c n r : Int) : Ex := ckE (bgn B c n (B r)) (r + 1) r
noncomputable def insN (c n q : Int) : Ex :=
  if B q ∈ ([20, 21] : List Int) then ckE (bgn B c n (B (q + 1))) (q + ilen B q) (q + 1)
  else if B q ∈ ([22, 26] : List Int) then ckE (B (q + 1) < nRec B) (q + ilen B q) (q + 1)
  else if B q ∈ ([32] : List Int) then ckE (B (q + 1) < nRec B ∧ plainR B (B (q + 1))) (q + ilen B q) (q + 1)
  else if B q ∈ ([36] : List Int) then ckE (B (q + 1) < nCtr B) (q + ilen B q) (q + 1)
  else if B q ∈ ([30, 40] : List Int) then ckE (B (q + 1) < nFn B) (q + ilen B q) (q + 1)
  else if B q ∈ ([38] : List Int) then lpE (tgN B c n) (B (q + 1)).toNat (q + 2)
  else .ok (q + ilen B q)
noncomputable def cdN (c n : Int) : Nat → Int → Ex
  | 0, p => .ok p
  | k + 1, p => if p < c + n then (insN B c n p).bind (cdN c n k) else .ok p
noncomputable def nmF (p : Int) : Ex := (lpE (nmT B) (B p).toNat (p + 1)).bind fun q => (nmT B q).bind fun q2 => cdN B (q2 + 2) (B (q2 + 1)) (B (q2 + 1)).toNat (q2 + 2)
noncomputable def namP : Ex := (lpE (nmR B) (nRec B).toNat 3).bind fun p3 => (lpE (nmC B) (B p3).toNat (p3 + 1)).bind fun p5 => lpE (nmF B) (B p5).toNat (p5 + 1)
end SN
section SN2
variable {B : Int → Int}
/-- the least missing place, as the reference notes it -/
def lst (e : Ex) (l : Int) : Int := match e with
  | .ok _ => l
  | .error q => if l = -1 ∨ q < l then q else l
theorem lst_er {q l : Int} : lst (.error q) l = if l = -1 ∨ q < l then q else l := rfl
theorem lst_ok {q l : Int} : lst (.ok q) l = l := rfl
def LK (ch : Ex) (l p : Int) : Prop := (ch = .ok p ∧ l = -1) ∨ (∃ q, ch = .error q ∧ l = q ∧ 0 ≤ q ∧ q < p)
/-- where f fails, or goes on, from p: before p' -/
def Wk (f : Int → Ex) (p p' : Int) : Prop := p < p' ∧ (f p = .ok p' ∨ ∃ q, f p = .error q ∧ p ≤ q ∧ q < p')
theorem LK.st {ch : Ex} {l p p' : Int} {f : Int → Ex} (h : LK ch l p) (hf : Wk f p p') (hp : 0 ≤ p) : LK (ch.bind f) (lst (f p) l) p' := by
  obtain ⟨hlt, hf⟩ := hf
  rcases h with ⟨rfl, rfl⟩ | ⟨q, rfl, rfl, h0, h1⟩
  · rw [bnd_ok]
    rcases hf with e | ⟨q, e, a, b⟩
    · rw [e]; exact Or.inl ⟨rfl, rfl⟩
    · rw [e]; exact Or.inr ⟨q, rfl, by rw [lst_er]; exact if_pos (Or.inl rfl), by omega, by omega⟩
  · rw [bnd_er]
    refine Or.inr ⟨l, rfl, ?_, h0, by omega⟩
    rcases hf with e | ⟨q, e, a, b⟩
    · rw [e]; rfl
    · rw [e, lst_er]; exact if_neg (by omega)
theorem Wk_nmT {ks no p q : Int} (h : tyP B ks no p = .ok q) : Wk (nmT B) p q := by
  have hs := tyP_sk h
  have hg := tyP_ge h
  refine ⟨by omega, ?_⟩
  subst hs
  unfold nmT skT
  by_cases c1 : B p = 255 ∨ B p = 0 ∨ B p = 2
  · rw [if_pos c1, if_pos c1]; exact Or.inl rfl
  · rw [if_neg c1, if_neg c1]
    by_cases c2 : B p ≠ 5
    · rw [if_pos c2, if_pos c2]
      by_cases c3 : B (p + 1) < nRec B ∧ (B p = 4 → plainR B (B (p + 1)))
      · rw [ckE_y c3]; exact Or.inl rfl
      · rw [ckE_n c3]; exact Or.inr ⟨_, rfl, by omega, by omega⟩
    · rw [if_neg c2, if_neg c2]
      by_cases c3 : nCtr B ≤ B (p + 1)
      · rw [if_pos c3]; exact Or.inr ⟨_, rfl, by omega, by omega⟩
      · rw [if_neg c3]
        by_cases c4 : B (p + 2) < nSt B (B (p + 1))
        · rw [ckE_y c4]; exact Or.inl rfl
        · rw [ckE_n c4]; exact Or.inr ⟨_, rfl, by omega, by omega⟩
theorem tyP_v {ks no p q : Int} (h : tyP B ks no p = .ok q) : (B p = 255 ∨ (0 ≤ B p ∧ B p ≤ 5)) ∧ (B p = 1 ∨ B p = 3 ∨ B p = 4 ∨ B p = 5 → 0 ≤ B (p + 1)) ∧ (B p = 5 → 0 ≤ B (p + 2) ∧ 0 ≤ B (p + 3) ∧ B (p + 3) ≤ 1) := by
  unfold tyP at h
  split at h
  · rename_i c; exact ⟨Or.inl c.2, fun q => by omega, fun q => by omega⟩
  · split at h
    · cases h
    · split at h
      · exact ⟨by omega, fun q => by omega, fun q => by omega⟩
      · split at h
        · cases h
        · split at h
          · exact ⟨by omega, fun q => by omega, fun q => by omega⟩
          · split at h
            · cases h
            · have := nmb_ok h
              exact ⟨by omega, fun q => by omega, fun q => by omega⟩
theorem oprn_x {x : Int} (h : x ∈ ([2, 3, 20, 21, 22, 23, 24, 26, 30, 32, 33, 34, 36, 37, 40] : List Int)) : oprn x ≠ 0 ∧ oprn x ≠ 1 ∧ oprn x ≠ 10 := by
  simp only [List.mem_cons, List.not_mem_nil, or_false] at h
  rcases h with rfl | rfl | rfl | rfl | rfl | rfl | rfl | rfl | rfl | rfl | rfl | rfl | rfl | rfl | rfl <;> decide
theorem il_1 {q : Int} (h : B q = 0) : ilen B q = 5 := if_pos (oprn_1 (List.mem_singleton.mpr h))
theorem il_10 {q : Int} (h : B q = 38) : ilen B q = 2 + B (q + 1) := by unfold ilen; rw [oprn_10 h]; rfl
theorem il_2 {q : Int} (h : B q ∈ ([2, 3, 20, 21, 22, 23, 24, 26, 30, 32, 33, 34, 36, 37, 40] : List Int)) : ilen B q = 2 := by
  have := oprn_x h
  unfold ilen
  rw [if_neg (by omega), if_neg (by omega), if_neg (by omega)]
theorem il_0 {q : Int} (h : B q ∉ ([0, 2, 3, 20, 21, 22, 23, 24, 26, 30, 32, 33, 34, 36, 37, 40, 38] : List Int)) : ilen B q = 1 := by
  unfold ilen
  rw [oprn_0 (fun q => h (by simp only [List.mem_cons, List.not_mem_nil, or_false] at q ⊢; omega))]
  rfl
theorem bind_assoc {e : Ex} {f g : Int → Ex} : (e.bind f).bind g = e.bind fun p => (f p).bind g := by cases e <;> rfl
end SN2
