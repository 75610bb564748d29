/-! MANIFESTS: the spec, and the reference's parameters -/
section MN0
variable {d : Nat} {al : AL} {hi : HI} {hr : HR} {Q : QQ} {B : Int → Int} {S : Int → Option (Int → Int)} {G : HI}
noncomputable def cif {α : Type} (c : Prop) (a b : α) : α := @ite α c (Classical.propDecidable c) a b
theorem cif_y {α : Type} {c : Prop} {a b : α} (h : c) : cif c a b = a := if_pos h
theorem cif_n {α : Type} {c : Prop} {a b : α} (h : ¬ c) : cif c a b = b := if_neg h
abbrev Mx : Type := Except (Int × Int) (Int × HI)
def kMx (r : Mx) (ok : Int → HI → Prop) (er : Int → Int → Prop) : Prop := match r with
  | .ok s => ok s.1 s.2
  | .error e => er e.1 e.2
/-- a word of so many bytes -/
def wdS (B : Int → Int) (q : Int) : Nat → Int
  | 0 => 0
  | n + 1 => fOr (fShl (wdS B q n) 8) (B (q + n))
/-- may the number e be used so -/
def fitG (S : Int → Option (Int → Int)) (G : HI) (e gc sd : Int) : Prop := G 81 e = 0 ∨ (G 81 e = 1 ∧ G 83 (2 * e) ≠ sd ∧ ∃ b b', S (G 82 (2 * e) / 4) = some b ∧ S (gc / 4) = some b' ∧ Alk b b' (G 82 (2 * e) % 4) (gc % 4))
def ordG (G : HI) (e : Int) : HI := if G 81 e = 0 then upI (upI G 85 (G 200 0) e) 200 0 (G 200 0 + 1) else G
def useG (G : HI) (e gc sd pl : Int) : HI := upI (upI (upI (upI (upI (ordG G e) 82 (2 * e + G 81 e) gc) 83 (2 * e + G 81 e) sd) 84 (2 * e + G 81 e) pl) 81 e (G 81 e + 1)) 80 pl e
noncomputable def prmP (S : Int → Option (Int → Int)) (B Bm : Int → Int) (p m f k : Int) (s : Int × HI) : Mx :=
  if pTy Bm f k = 0 then
    (if B s.1 < 0 then .error (1, s.1) else if B (s.1 + 1) < 0 then .error (1, s.1 + 1) else if B (s.1 + 2) < 0 then .error (1, s.1 + 2) else if B (s.1 + 3) < 0 then .error (1, s.1 + 3) else .ok (s.1 + 4, upI s.2 80 (4 * p + k) (wdS B s.1 4)))
  else if ¬ (0 ≤ B s.1 ∧ B s.1 ≤ 7) then .error (1, s.1)
  else cif (fitG S s.2 (B s.1) (4 * m + whichM (pTy Bm f k)) (sideM (pTy Bm f k))) (.ok (s.1 + 1, useG s.2 (B s.1) (4 * m + whichM (pTy Bm f k)) (sideM (pTy Bm f k)) (4 * p + k))) (.error (5, s.1))
def lpX (f : Int → Int × HI → Mx) : Nat → Int → Int × HI → Mx
  | 0, _, s => .ok s
  | n + 1, k, s => (f k s).bind (lpX f n (k + 1))
/-- a function that may be booted -/
def btb (Bm : Int → Int) (f : Int) : Prop := rTy Bm f = -1 ∧ ∀ k, 0 ≤ k → k < nPar Bm f → pTy Bm f k = 0 ∨ (kindM (pTy Bm f k) = 5 ∧ stateM (pTy Bm f k) = 0)
noncomputable def prcP (S : Int → Option (Int → Int)) (B : Int → Int) (p : Int) (s : Int × HI) : Mx :=
  if B s.1 < 0 then .error (1, s.1) else
  match S (B s.1) with
  | none => .error (3, s.1)
  | some Bm => if B (s.1 + 1) < 0 then .error (1, s.1 + 1) else cif (B (s.1 + 1) < nFn Bm ∧ btb Bm (B (s.1 + 1))) (if 1 ≤ B (s.1 + 2) ∧ B (s.1 + 2) ≤ 64 then lpX (prmP S B Bm p (B s.1) (B (s.1 + 1))) (nPar Bm (B (s.1 + 1))).toNat 0 (s.1 + 3, upI (upI (upI s.2 77 p (B s.1)) 78 p (B (s.1 + 1))) 79 p (B (s.1 + 2))) else .error (1, s.1 + 2)) (.error (4, s.1 + 1))
noncomputable def manP (S : Int → Option (Int → Int)) (B : Int → Int) (n : Int) : Mx := if B 0 ≠ 83 then .error (1, 0) else if B 1 ≠ 70 then .error (1, 1) else if ¬ (1 ≤ B 2 ∧ B 2 ≤ 6) then .error (1, 2) else (lpX (prcP S B) (B 2).toNat 0 (3, fun _ _ => 0)).bind (fun s => if s.1 < n then .error (1, s.1) else cif (∃ e, 0 ≤ e ∧ e < 8 ∧ s.2 81 e = 1) (.error (6, s.1)) (.ok s))
/-- the shelf of the reference: texts -/
def MSh (hi : HI) (S : Int → Option (Int → Int)) : Prop := ∀ m, match S m with
  | none => ¬ isM hi m
  | some b => isM hi m ∧ GMod hi m b
theorem MSh.y {m : Int} {b : Int → Int} (h : MSh hi S) (e : S m = some b) : isM hi m ∧ GMod hi m b := by have := h m; rw [e] at this; exact this
theorem MSh.n {m : Int} (h : MSh hi S) (e : S m = none) : ¬ isM hi m := by have := h m; rw [e] at this; exact this
theorem MSh.fr {hi' : HI} (h : MSh hi S) (hf : ∀ a i, 51 ≤ a → a ≤ 69 → hi' a i = hi a i) : MSh hi' S := fun m => by
  have := h m
  have e : isM hi' m ↔ isM hi m := by unfold isM; rw [hf 56 m (by decide) (by decide)]
  cases hS : S m with
  | none => rw [hS] at this; exact fun z => this (e.mp z)
  | some b => rw [hS] at this; exact ⟨e.mpr this.1, this.2.1.fw hf, this.2.2⟩
/-- the uses so far -/
def GR (S : Int → Option (Int → Int)) (h G : HI) : Prop := (∀ e, 0 ≤ e → e < 8 → h 81 e = G 81 e ∧ 0 ≤ G 81 e ∧ G 81 e ≤ 2 ∧ ∀ j, 0 ≤ j → j < G 81 e → h 82 (2 * e + j) = G 82 (2 * e + j) ∧ h 83 (2 * e + j) = G 83 (2 * e + j) ∧ h 84 (2 * e + j) = G 84 (2 * e + j)) ∧ (h 49 49 = G 200 0 ∧ G 200 0 = ((smN (fun e => if G 81 e = 0 then 0 else 1) 8 : Nat) : Int)) ∧ (∀ i, 0 ≤ i → i < G 200 0 → h 85 i = G 85 i)
/-- what is told of the uses -/
def GV (S : Int → Option (Int → Int)) (G : HI) : Prop := ∀ e j, 0 ≤ e → e < 8 → 0 ≤ j → j < G 81 e → (0 ≤ G 83 (2 * e + j) ∧ G 83 (2 * e + j) ≤ 1) ∧ 0 ≤ G 82 (2 * e + j) ∧ G 82 (2 * e + j) < 24 ∧ ∃ b, S (G 82 (2 * e + j) / 4) = some b ∧ G 82 (2 * e + j) % 4 < nCtr b
def wMn (a : Nat) (i : Int) : Prop := (a = 49 ∧ (i = 26 ∨ i = 49)) ∨ (80 ≤ a ∧ a ≤ 86)
def wMe (a : Nat) (i : Int) : Prop := wMn a i ∨ (a = 49 ∧ (i = 22 ∨ i = 23))
theorem wMn_i {a : Nat} {i : Int} (h1 : 80 ≤ a) (h2 : a ≤ 86) : wMn a i := Or.inr ⟨h1, h2⟩
theorem GR.fr {h h' : HI} (H : GR S h G) (hf : ∀ a i, 81 ≤ a → a ≤ 85 → h' a i = h a i) (h9 : h' 49 49 = h 49 49) : GR S h' G := by
  obtain ⟨a, b, c⟩ := H
  refine ⟨fun e e0 e1 => ?_, ⟨h9.trans b.1, b.2⟩, fun i i0 i1 => (hf _ _ (by decide) (by decide)).trans (c i i0 i1)⟩
  obtain ⟨x1, x2, x3, x4⟩ := a e e0 e1
  exact ⟨(hf _ _ (by decide) (by decide)).trans x1, x2, x3, fun j j0 j1 => ⟨(hf _ _ (by decide) (by decide)).trans (x4 j j0 j1).1, (hf _ _ (by decide) (by decide)).trans (x4 j j0 j1).2.1, (hf _ _ (by decide) (by decide)).trans (x4 j j0 j1).2.2⟩⟩
theorem GR.g80 {h : HI} {i x : Int} (H : GR S h G) : GR S h (upI G 80 i x) := by
  have u : ∀ a j, a ≠ 80 → upI G 80 i x a j = G a j := fun a j z => upI_a z
  unfold GR
  simp only [u 81 _ (by decide), u 82 _ (by decide), u 83 _ (by decide), u 84 _ (by decide), u 85 _ (by decide), u 200 _ (by decide)]
  exact H
theorem GV.g80 {i x : Int} (H : GV S G) : GV S (upI G 80 i x) := by
  have u : ∀ a j, a ≠ 80 → upI G 80 i x a j = G a j := fun a j z => upI_a z
  unfold GV
  simp only [u 81 _ (by decide), u 82 _ (by decide), u 83 _ (by decide)]
  exact H
theorem ord_a {e : Int} {a : Nat} {j : Int} (h1 : a ≠ 85) (h2 : a ≠ 200) : ordG G e a j = G a j := by
  unfold ordG; split
  · rw [upI_a h2, upI_a h1]
  · rfl
/-- a use more -/
theorem GR.use {h h' : HI} {e gc sd pl : Int} (H : GR S h G) (e0 : 0 ≤ e) (e1 : e < 8) (hu : G 81 e < 2) (h81 : ∀ i, h' 81 i = if i = e then h 81 e + 1 else h 81 i) (h82 : ∀ i, h' 82 i = if i = 2 * e + h 81 e then gc else h 82 i) (h83 : ∀ i, h' 83 i = if i = 2 * e + h 81 e then sd else h 83 i) (h84 : ∀ i, h' 84 i = if i = 2 * e + h 81 e then pl else h 84 i)
    (h85 : ∀ i, h' 85 i = if h 81 e = 0 ∧ i = h 49 49 then e else h 85 i) (h9 : h' 49 49 = if h 81 e = 0 then h 49 49 + 1 else h 49 49) : GR S h' (useG G e gc sd pl) := by
  obtain ⟨a, ⟨b1, b2⟩, c⟩ := H
  obtain ⟨x1, x2, x3, x4⟩ := a e e0 e1
  have g81 : ∀ i, useG G e gc sd pl 81 i = if i = e then G 81 e + 1 else G 81 i := fun i => by
    unfold useG; rw [upI_a (by decide), upI_self, upI_a (by decide), upI_a (by decide), upI_a (by decide), ord_a (by decide) (by decide)]
  have g82 : ∀ i, useG G e gc sd pl 82 i = if i = 2 * e + G 81 e then gc else G 82 i := fun i => by
    unfold useG; rw [upI_a (by decide), upI_a (by decide), upI_a (by decide), upI_a (by decide), upI_self, ord_a (by decide) (by decide)]
  have g83 : ∀ i, useG G e gc sd pl 83 i = if i = 2 * e + G 81 e then sd else G 83 i := fun i => by
    unfold useG; rw [upI_a (by decide), upI_a (by decide), upI_a (by decide), upI_self, upI_a (by decide), ord_a (by decide) (by decide)]
  have g84 : ∀ i, useG G e gc sd pl 84 i = if i = 2 * e + G 81 e then pl else G 84 i := fun i => by
    unfold useG; rw [upI_a (by decide), upI_a (by decide), upI_self, upI_a (by decide), upI_a (by decide), ord_a (by decide) (by decide)]
  have g85 : ∀ i, useG G e gc sd pl 85 i = if G 81 e = 0 ∧ i = G 200 0 then e else G 85 i := fun i => by
    unfold useG; rw [upI_a (by decide), upI_a (by decide), upI_a (by decide), upI_a (by decide), upI_a (by decide)]
    unfold ordG
    by_cases z : G 81 e = 0
    · rw [if_pos z, upI_a (by decide), upI_self]
      by_cases w : i = G 200 0
      · rw [if_pos w, if_pos ⟨z, w⟩]
      · rw [if_neg w, if_neg (fun q => w q.2)]
    · rw [if_neg z, if_neg (fun q => z q.1)]
  have g20 : useG G e gc sd pl 200 0 = if G 81 e = 0 then G 200 0 + 1 else G 200 0 := by
    unfold useG; rw [upI_a (by decide), upI_a (by decide), upI_a (by decide), upI_a (by decide), upI_a (by decide)]
    unfold ordG
    by_cases z : G 81 e = 0
    · rw [if_pos z, if_pos z, upI_eq]
    · rw [if_neg z, if_neg z]
  refine ⟨fun i i0 i1 => ?_, ⟨?_, ?_⟩, fun i i0 i1 => ?_⟩
  · obtain ⟨y1, y2, y3, y4⟩ := a i i0 i1
    rw [h81, g81]
    by_cases z : i = e
    · subst z
      rw [if_pos rfl, if_pos rfl]
      refine ⟨by omega, by omega, by omega, fun j j0 j1 => ?_⟩
      rw [h82, h83, h84, g82, g83, g84, x1]
      by_cases w : j = G 81 i
      · rw [if_pos (by omega), if_pos (by omega), if_pos (by omega), if_pos (by omega), if_pos (by omega), if_pos (by omega)]; exact ⟨rfl, rfl, rfl⟩
      · rw [if_neg (by omega), if_neg (by omega), if_neg (by omega), if_neg (by omega), if_neg (by omega), if_neg (by omega)]; exact y4 j j0 (by omega)
    · rw [if_neg z, if_neg z]
      refine ⟨y1, y2, y3, fun j j0 j1 => ?_⟩
      rw [h82, h83, h84, g82, g83, g84, if_neg (by omega), if_neg (by omega), if_neg (by omega), if_neg (by omega), if_neg (by omega), if_neg (by omega)]; exact y4 j j0 j1
  · rw [h9, g20, x1, b1]
  · rw [g20]
    have key : ∀ n, smN (fun i : Nat => if useG G e gc sd pl 81 i = 0 then 0 else 1) n = smN (fun i : Nat => if G 81 i = 0 then 0 else 1) n + (if G 81 e = 0 ∧ e < n then 1 else 0) := by
      intro n
      induction n with
      | zero => rw [if_neg (by omega)]; rfl
      | succ n ih =>
        show smN _ n + (if useG G e gc sd pl 81 (n : Int) = 0 then 0 else 1) = smN _ n + (if G 81 (n : Int) = 0 then 0 else 1) + _
        rw [ih, g81]
        by_cases z : (n : Int) = e
        · rw [if_pos z, z]
          repeat' split
          all_goals omega
        · rw [if_neg z]
          repeat' split
          all_goals omega
    rw [key 8]
    by_cases z : G 81 e = 0
    · rw [if_pos z, if_pos ⟨z, e1⟩, b2]; omega
    · rw [if_neg z, if_neg (fun q => z q.1), b2]; omega
  · rw [h85, g85, x1, b1]
    by_cases z : G 81 e = 0 ∧ i = G 200 0
    · rw [if_pos z, if_pos z]
    · rw [if_neg z, if_neg z]
      refine c i i0 ?_
      rw [g20] at i1
      by_cases w : G 81 e = 0
      · rw [if_pos w] at i1
        have : i ≠ G 200 0 := fun q => z ⟨w, q⟩
        omega
      · rw [if_neg w] at i1; exact i1
theorem GR.lt {h : HI} {e : Int} (H : GR S h G) (e0 : 0 ≤ e) (e1 : e < 8) (z : G 81 e = 0) : 0 ≤ G 200 0 ∧ G 200 0 < 8 := by
  obtain ⟨a, ⟨b1, b2⟩, c⟩ := H
  have := smN_lt (g := fun i : Nat => if G 81 i = 0 then 0 else 1) (g' := fun _ => 1) (j := e.toNat) 8 (fun k _ => by split <;> omega) (by omega) (by
    rw [Int.toNat_of_nonneg e0, if_pos z]; decide)
  have h8 : smN (fun _ => 1) 8 = 8 := rfl
  omega
theorem GV.use {e gc sd pl : Int} (H : GV S G) (e0 : 0 ≤ e) (s0 : 0 ≤ sd ∧ sd ≤ 1) (c0 : 0 ≤ gc ∧ gc < 24) {b : Int → Int} (hS : S (gc / 4) = some b) (hb : gc % 4 < nCtr b) (hu : 0 ≤ G 81 e ∧ G 81 e < 2) (hG : ∀ i, 0 ≤ i → i < 8 → G 81 i ≤ 2) : GV S (useG G e gc sd pl) := by
  intro i j i0 i1 j0 j1
  have g81 : ∀ i, useG G e gc sd pl 81 i = if i = e then G 81 e + 1 else G 81 i := fun i => by
    unfold useG; rw [upI_a (by decide), upI_self, upI_a (by decide), upI_a (by decide), upI_a (by decide), ord_a (by decide) (by decide)]
  have g82 : ∀ i, useG G e gc sd pl 82 i = if i = 2 * e + G 81 e then gc else G 82 i := fun i => by
    unfold useG; rw [upI_a (by decide), upI_a (by decide), upI_a (by decide), upI_a (by decide), upI_self, ord_a (by decide) (by decide)]
  have g83 : ∀ i, useG G e gc sd pl 83 i = if i = 2 * e + G 81 e then sd else G 83 i := fun i => by
    unfold useG; rw [upI_a (by decide), upI_a (by decide), upI_a (by decide), upI_self, upI_a (by decide), ord_a (by decide) (by decide)]
  rw [g81] at j1
  rw [g82, g83]
  by_cases z : i = e
  · subst z
    rw [if_pos rfl] at j1
    by_cases w : j = G 81 i
    · rw [if_pos (by omega), if_pos (by omega)]
      exact ⟨s0, c0.1, c0.2, b, hS, hb⟩
    · rw [if_neg (by omega), if_neg (by omega)]
      exact H i j i0 i1 j0 (by omega)
  · rw [if_neg z] at j1
    have := hG i i0 i1
    rw [if_neg (by omega), if_neg (by omega)]
    exact H i j i0 i1 j0 j1
end MN0
