/-! THE SPEC, 1: what a text says. B: the byte at a place, -1 where there is none -/
section SP1
abbrev Ex : Type := Except Int Int
def kEx (r : Ex) (ok er : Int → Prop) : Prop := match r with
  | .ok p => ok p
  | .error q => er q
theorem kEx_of {r : Ex} {ok er : Int → Prop} (h1 : ∀ p, r = .ok p → ok p) (h2 : ∀ q, r = .error q → er q) : kEx r ok er := by
  cases r with
  | ok p => exact h1 p rfl
  | error q => exact h2 q rfl
theorem kEx_ok {p : Int} {ok er : Int → Prop} : kEx (.ok p) ok er = ok p := rfl
theorem kEx_er {p : Int} {ok er : Int → Prop} : kEx (.error p) ok er = er p := rfl
theorem bnd_ok {p : Int} {f : Int → Ex} : Except.bind (Except.ok p : Ex) f = f p := rfl
theorem bnd_er {p : Int} {f : Int → Ex} : Except.bind (Except.error p : Ex) f = .error p := rfl
variable (B : Int → Int)
def nmb (lo hi p : Int) : Ex := if lo ≤ B p ∧ B p ≤ hi then .ok (p + 1) else .error p
def okk (ks v : Int) : Prop := ks / 2 ^ v.toNat % 2 = 1
/-- a type's text -/
def tyP (ks : Int) (no : Int) (p : Int) : Ex :=
  if no ≠ 0 ∧ B p = 255 then .ok (p + 1)
  else if B p < 0 ∨ 5 < B p ∨ ks / 2 ^ (B p).toNat % 2 = 0 then .error p
  else if B p = 0 ∨ B p = 2 then .ok (p + 1)
  else if B (p + 1) < 0 then .error (p + 1)
  else if B p ≠ 5 then .ok (p + 2)
  else if B (p + 2) < 0 then .error (p + 2)
  else nmb B 0 1 (p + 3)
/-- .. as the reference writes it -/
def tyV (p : Int) : Int := if B p = 255 then -1 else if B p = 0 ∨ B p = 2 then B p else if B p ≠ 5 then B p + 8 * B (p + 1) else B p + 8 * B (p + 1) + 2048 * B (p + 2) + 524288 * B (p + 3)
/-- .. as the class writes it -/
def tyC (p : Int) : Int := if B p = 255 then -1 else if B p = 0 ∨ B p = 2 then B p else if B p ≠ 5 then B p + 16 * B (p + 1) else B p + 16 * B (p + 1) + 4096 * B (p + 2) + 1048576 * B (p + 3)
/-- .. and the place behind it -/
def skT (p : Int) : Int := if B p = 255 ∨ B p = 0 ∨ B p = 2 then p + 1 else if B p ≠ 5 then p + 2 else p + 4
def lpE (f : Int → Ex) : Nat → Int → Ex
  | 0, p => .ok p
  | n + 1, p => (f p).bind (lpE f n)
def itr (f : Int → Int) : Nat → Int → Int
  | 0, p => p
  | n + 1, p => itr f n (f p)
def recP (p : Int) : Ex := (nmb B 1 6 p).bind (lpE (tyP B 15 0) (B p).toNat)
def skR (p : Int) : Int := itr (skT B) (B p).toNat (p + 1)
def msP (p : Int) : Ex := (tyP B 49 1 p).bind (nmb B 0 255)
def skM (p : Int) : Int := skT B p + 1
def stP (p : Int) : Ex := (nmb B 0 2 p).bind fun q => (if B p = 0 then nmb B 0 0 q else nmb B 1 4 q).bind (lpE (msP B) (B q).toNat)
def skS (p : Int) : Int := itr (skM B) (B (p + 1)).toNat (p + 2)
def ctP (p : Int) : Ex := (nmb B 1 8 p).bind (lpE (stP B) (B p).toNat)
def skC (p : Int) : Int := itr (skS B) (B p).toNat (p + 1)
/-- a part of an instruction, in code that ends at e -/
def prt (e lo hi p : Int) : Ex := if p = e then .error p else nmb B lo hi p
/-- what stands behind an instruction's first byte: 0 nothing, 1 a K, 2 a local, 3 a byte, 5 a field, 9 a message, 10 targets -/
def oprn (x : Int) : Int := if x ∈ ([0] : List Int) then 1 else if x ∈ ([2, 3] : List Int) then 2 else if x ∈ ([20, 21, 22, 26, 30, 32, 36, 40] : List Int) then 3 else if x ∈ ([23, 24, 33, 34] : List Int) then 5 else if x ∈ ([37] : List Int) then 9 else if x ∈ ([38] : List Int) then 10 else 0
def insK (e L k q : Int) : Ex :=
  if k = 1 then lpE (prt B e 0 255) 4 q
  else if k = 2 then (if L = 0 then .error q else prt B e 0 (L - 1) q)
  else if k = 3 then prt B e 0 255 q
  else if k = 5 then prt B e 0 5 q
  else if k = 9 then prt B e 0 3 q
  else if k = 10 then (prt B e 1 4 q).bind (lpE (prt B e 0 255) (B q).toNat)
  else .ok q
def insP (e L p : Int) : Ex := (prt B e 0 43 p).bind (insK B e L (oprn (B p)))
def cdP (e L : Int) : Nat → Int → Ex
  | 0, p => .ok p
  | n + 1, p => if p < e then (insP B e L p).bind (cdP e L n) else .ok p
def fnP (p : Int) : Ex := (nmb B 0 4 p).bind fun q => (lpE (tyP B 63 0) (B p).toNat q).bind fun q1 => (tyP B 63 1 q1).bind fun q2 => (nmb B (B p) 10 q2).bind fun q3 => (nmb B 1 240 q3).bind fun q4 => cdP B (q4 + B q3) (B q2) (B q3).toNat q4
/-- where a function's result stands, and what follows -/
def fR_ (p : Int) : Int := itr (skT B) (B p).toNat (p + 1)
def fL_ (p : Int) : Int := skT B (fR_ B p)
def skF (p : Int) : Int := fL_ B p + 2 + B (fL_ B p + 1)
def modP (n : Int) : Ex := (nmb B 83 83 0).bind fun p0 => (nmb B 77 77 p0).bind fun p1 => (nmb B 0 8 p1).bind fun p2 => (lpE (recP B) (B p1).toNat p2).bind fun p3 => (nmb B 0 4 p3).bind fun p4 => (lpE (ctP B) (B p3).toNat p4).bind fun p5 => (nmb B 1 10 p5).bind fun p6 => (lpE (fnP B) (B p5).toNat p6).bind fun p7 => if p7 < n then .error p7 else .ok p7
/-! what a module has, by its text -/
def nRec : Int := B 2
def pRec (r : Int) : Int := itr (skR B) r.toNat 3
def nFld (r : Int) : Int := B (pRec B r)
def pFld (r f : Int) : Int := itr (skT B) f.toNat (pRec B r + 1)
def pCt0 : Int := pRec B (nRec B)
def nCtr : Int := B (pCt0 B)
def pCtr (c : Int) : Int := itr (skC B) c.toNat (pCt0 B + 1)
def nSt (c : Int) : Int := B (pCtr B c)
def pSt (c s : Int) : Int := itr (skS B) s.toNat (pCtr B c + 1)
def tnS (c s : Int) : Int := B (pSt B c s)
def nMs (c s : Int) : Int := B (pSt B c s + 1)
def pMs (c s t : Int) : Int := itr (skM B) t.toNat (pSt B c s + 2)
def thM (c s t : Int) : Int := B (skT B (pMs B c s t))
def pFn0 : Int := pCtr B (nCtr B)
def nFn : Int := B (pFn0 B)
def pFn (f : Int) : Int := itr (skF B) f.toNat (pFn0 B + 1)
def nPar (f : Int) : Int := B (pFn B f)
def pPar (f k : Int) : Int := itr (skT B) k.toNat (pFn B f + 1)
def pRes (f : Int) : Int := fR_ B (pFn B f)
def nLoc (f : Int) : Int := B (fL_ B (pFn B f))
def cLen (f : Int) : Int := B (fL_ B (pFn B f) + 1)
def cAt (f : Int) : Int := fL_ B (pFn B f) + 2
end SP1
section SP1b
variable {B : Int → Int} {n : Nat} {p q : Int}
theorem nmb_ok {lo hi : Int} (h : nmb B lo hi p = .ok q) : q = p + 1 ∧ lo ≤ B p ∧ B p ≤ hi := by
  unfold nmb at h
  split at h
  · cases h; exact ⟨rfl, by assumption⟩
  · cases h
theorem nmb_er {lo hi : Int} (h : nmb B lo hi p = .error q) : q = p ∧ ¬ (lo ≤ B p ∧ B p ≤ hi) := by
  unfold nmb at h
  split at h
  · cases h
  · cases h; exact ⟨rfl, by assumption⟩
theorem ins_k {e L k q : Int} (h : prt B e 0 43 p = .ok q) (hk : oprn (B p) = k) : insP B e L p = insK B e L k q := by unfold insP; rw [h, bnd_ok, hk]
theorem ins_er {e L q : Int} (h : prt B e 0 43 p = .error q) : insP B e L p = .error q := by unfold insP; rw [h]; rfl
theorem oprn_1 {x : Int} (h : x ∈ ([0] : List Int)) : oprn x = 1 := if_pos h
theorem oprn_2 {x : Int} (h : x ∈ ([2, 3] : List Int)) : oprn x = 2 := by
  simp only [List.mem_cons, List.not_mem_nil, or_false] at h
  rcases h with rfl | rfl <;> rfl
theorem oprn_3 {x : Int} (h : x ∈ ([20, 21, 22, 26, 30, 32, 36, 40] : List Int)) : oprn x = 3 := by
  simp only [List.mem_cons, List.not_mem_nil, or_false] at h
  rcases h with rfl | rfl | rfl | rfl | rfl | rfl | rfl | rfl <;> rfl
theorem oprn_5 {x : Int} (h : x ∈ ([23, 24, 33, 34] : List Int)) : oprn x = 5 := by
  simp only [List.mem_cons, List.not_mem_nil, or_false] at h
  rcases h with rfl | rfl | rfl | rfl <;> rfl
theorem oprn_9 {x : Int} (h : x = 37) : oprn x = 9 := by subst h; rfl
theorem oprn_10 {x : Int} (h : x = 38) : oprn x = 10 := by subst h; rfl
theorem oprn_0 {x : Int} (h : x ∉ ([0, 2, 3, 20, 21, 22, 26, 30, 32, 36, 40, 23, 24, 33, 34, 37, 38] : List Int)) : oprn x = 0 := by
  unfold oprn
  rw [if_neg (fun q => h (by simp only [List.mem_cons, List.not_mem_nil, or_false] at q ⊢; omega)), if_neg (fun q => h (by simp only [List.mem_cons, List.not_mem_nil, or_false] at q ⊢; omega)), if_neg (fun q => h (by simp only [List.mem_cons, List.not_mem_nil, or_false] at q ⊢; omega)), if_neg (fun q => h (by simp only [List.mem_cons, List.not_mem_nil, or_false] at q ⊢; omega)), if_neg (fun q => h (by simp only [List.mem_cons, List.not_mem_nil, or_false] at q ⊢; omega)), if_neg (fun q => h (by simp only [List.mem_cons, List.not_mem_nil, or_false] at q ⊢; omega))]
theorem itr_s (f : Int → Int) : ∀ (n : Nat) (p : Int), itr f (n + 1) p = f (itr f n p)
  | 0, _ => rfl
  | n + 1, p => by
    show itr f (n + 1) (f p) = f (itr f n (f p))
    exact itr_s f n (f p)
theorem lpE_s (f : Int → Ex) : ∀ (n : Nat) (p : Int), lpE f (n + 1) p = (lpE f n p).bind f
  | 0, p => by
    show (f p).bind (lpE f 0) = f p
    cases f p <;> rfl
  | n + 1, p => by
    show (f p).bind (lpE f (n + 1)) = ((f p).bind (lpE f n)).bind f
    cases h : f p with
    | error e => rfl
    | ok p' => exact lpE_s f n p'
theorem lpE_itr {f : Int → Ex} {g : Int → Int} (hf : ∀ q q', f q = .ok q' → q' = g q) : ∀ (n : Nat) (p p' : Int), lpE f n p = .ok p' → p' = itr g n p
  | 0, p, p', h => by cases h; rfl
  | n + 1, p, p', h => by
    have h : (f p).bind (lpE f n) = .ok p' := h
    cases hp : f p with
    | error e => rw [hp] at h; cases h
    | ok q =>
      rw [hp] at h
      rw [lpE_itr hf n q p' h, hf p q hp]
      rfl
theorem tyP_sk {ks no : Int} (h : tyP B ks no p = .ok q) : q = skT B p := by
  unfold tyP at h
  unfold skT
  split at h
  · rename_i h1; cases h; rw [if_pos (Or.inl h1.2)]
  · split at h
    · cases h
    · split at h
      · rename_i h1; cases h; rw [if_pos (Or.inr h1)]
      · rename_i h2 h3
        split at h
        · cases h
        · split at h
          · cases h; rw [if_neg (by omega), if_pos (by assumption)]
          · split at h
            · cases h
            · obtain ⟨e, -⟩ := nmb_ok h
              subst e
              rw [if_neg (by omega), if_neg (by assumption)]
              omega
end SP1b
