/-! THE SPEC, 4: joining till nothing changes; the order in which places are taken up does not matter -/
section LFP
abbrev Asg : Type := Int → Option Tst
def leA (A W : Asg) : Prop := ∀ p X, 0 ≤ p → A p = some X → ∃ Z, W p = some Z ∧ leX X Z
def vA (B : Int → Int) (A : Asg) : Prop := ∀ p X, 0 ≤ p → A p = some X → vX B X
/-- X arrives at t -/
def ArrR (A : Asg) (t : Int) (X : Tst) (A' : Asg) : Prop := (∀ q, 0 ≤ q → q ≠ t → A' q = A q) ∧ (A t = none → ∃ Z, A' t = some Z ∧ eqX Z X) ∧ (∀ Y, A t = some Y → jOK Y X ∧ ∃ Z, A' t = some Z ∧ eqX Z (jX Y X))
def ArrX (A : Asg) (t : Int) (X : Tst) : Prop := ∃ Y, A t = some Y ∧ ¬ jOK Y X
theorem leA.rf {A : Asg} : leA A A := fun _ X _ h => ⟨X, h, leX.rf⟩
theorem leA.tr {A A' A'' : Asg} (h1 : leA A A') (h2 : leA A' A'') : leA A A'' := fun p X hp h => by
  obtain ⟨Z, a, b⟩ := h1 p X hp h
  obtain ⟨Z', a', b'⟩ := h2 p Z hp a
  exact ⟨Z', a', b.tr b'⟩
variable {B : Int → Int} {A A' W : Asg} {t : Int} {X : Tst}
theorem arr_le (h : ArrR A t X A') : leA A A' := fun p Y hp hY => by
  by_cases e : p = t
  · subst e
    obtain ⟨j, Z, a, b⟩ := h.2.2 Y hY
    exact ⟨Z, a, (jX_ub j).1.tr b.sy.le⟩
  · exact ⟨Y, by rw [h.1 p hp e]; exact hY, leX.rf⟩
theorem arr_at (h : ArrR A t X A') : ∃ Z, A' t = some Z ∧ leX X Z := by
  cases hY : A t with
  | none => obtain ⟨Z, a, b⟩ := h.2.1 hY; exact ⟨Z, a, b.sy.le⟩
  | some Y => obtain ⟨j, Z, a, b⟩ := h.2.2 Y hY; exact ⟨Z, a, (jX_ub j).2.tr b.sy.le⟩
theorem arr_lub (h : ArrR A t X A') (hv : vA B A) (ht : 0 ≤ t) (hw : leA A W) {V : Tst} (h1 : W t = some V) (h2 : leX X V) : leA A' W := fun p Y hp hY => by
  by_cases e : p = t
  · subst e
    cases hY' : A p with
    | none => obtain ⟨Z, a, b⟩ := h.2.1 hY'; rw [a] at hY; cases hY; exact ⟨V, h1, b.le.tr h2⟩
    | some Y' =>
      obtain ⟨j, Z, a, b⟩ := h.2.2 Y' hY'
      rw [a] at hY; cases hY
      obtain ⟨V', c, d⟩ := hw p Y' hp hY'
      rw [h1] at c; cases c
      exact ⟨V, h1, b.le.tr (jX_lub (hv p Y' hp hY') d h2).2.1⟩
  · rw [h.1 p hp e] at hY; exact hw p Y hp hY
theorem arr_no (hv : vA B A) (ht : 0 ≤ t) (hw : leA A W) {V : Tst} (h1 : W t = some V) (h2 : leX X V) : ¬ ArrX A t X := by
  rintro ⟨Y, hY, hj⟩
  obtain ⟨V', c, d⟩ := hw t Y ht hY
  rw [h1] at c; cases c
  exact hj (jX_lub (hv t Y ht hY) d h2).1
theorem eqX_v {X Y : Tst} (h : eqX X Y) (hv : vX B Y) : vX B X := ⟨by rw [h.1]; exact hv.1, fun k a b => by rw [h.2.1 k a b]; exact hv.2.1 k a (by rw [← h.1]; exact b), fun k a b => by rw [h.2.2 k a b]; exact hv.2.2 k a b⟩
theorem arr_v (h : ArrR A t X A') (hv : vA B A) (ht : 0 ≤ t) (hX : vX B X) : vA B A' := fun p Y hp hY => by
  by_cases e : p = t
  · subst e
    cases hY' : A p with
    | none => obtain ⟨Z, a, b⟩ := h.2.1 hY'; rw [a] at hY; cases hY; exact eqX_v b hX
    | some Y' =>
      obtain ⟨j, Z, a, b⟩ := h.2.2 Y' hY'
      rw [a] at hY; cases hY
      exact eqX_v b (jX_v (hv p Y' hp hY') hX j)
  · rw [h.1 p hp e] at hY; exact hv p Y hp hY
/-- flows, one behind the other -/
def FlR (n : Int) (A : Asg) : List (Int × Tst) → Asg → Prop
  | [], A' => ∀ q, 0 ≤ q → A' q = A q
  | q :: fl, A' => q.1 < n ∧ q.2.1 ≤ 16 ∧ ∃ A1, ArrR A q.1 q.2 A1 ∧ FlR n A1 fl A'
def FlX (n : Int) (A : Asg) : List (Int × Tst) → Prop
  | [] => False
  | q :: fl => ¬ (q.1 < n ∧ q.2.1 ≤ 16) ∨ ArrX A q.1 q.2 ∨ ∃ A1, ArrR A q.1 q.2 A1 ∧ FlX n A1 fl
theorem fl_le {n : Int} : ∀ (fl : List (Int × Tst)) (A A' : Asg), FlR n A fl A' → leA A A'
  | [], A, A', h => fun p X hp hX => ⟨X, by rw [h p hp]; exact hX, leX.rf⟩
  | q :: fl, A, A', ⟨_, _, A1, h1, h2⟩ => (arr_le h1).tr (fl_le fl A1 A' h2)
theorem fl_at {n : Int} : ∀ (fl : List (Int × Tst)) (A A' : Asg), FlR n A fl A' → (∀ q ∈ fl, 0 ≤ q.1) → ∀ q ∈ fl, q.1 < n ∧ q.2.1 ≤ 16 ∧ ∃ Z, A' q.1 = some Z ∧ leX q.2 Z
  | [], _, _, _, _, _, hq => nomatch hq
  | q :: fl, A, A', ⟨a, b, A1, h1, h2⟩, h0, r, hr => by
    cases hr with
    | head =>
      obtain ⟨Z, z1, z2⟩ := arr_at h1
      obtain ⟨Z', z3, z4⟩ := fl_le fl A1 A' h2 _ Z (h0 q (List.mem_cons_self ..)) z1
      exact ⟨a, b, Z', z3, z2.tr z4⟩
    | tail _ hr => exact fl_at fl A1 A' h2 (fun q hq => h0 q (List.mem_cons_of_mem _ hq)) r hr
theorem fl_v {n : Int} : ∀ (fl : List (Int × Tst)) (A A' : Asg), FlR n A fl A' → (∀ q ∈ fl, 0 ≤ q.1 ∧ vX B q.2) → vA B A → vA B A'
  | [], A, A', h, _, hv => fun p X hp hX => hv p X hp (by rw [← h p hp]; exact hX)
  | q :: fl, A, A', ⟨a, b, A1, h1, h2⟩, h0, hv => fl_v fl A1 A' h2 (fun q hq => h0 q (List.mem_cons_of_mem _ hq)) (arr_v h1 hv (h0 q (List.mem_cons_self ..)).1 (h0 q (List.mem_cons_self ..)).2)
theorem fl_lub {n : Int} : ∀ (fl : List (Int × Tst)) (A : Asg), (∀ q ∈ fl, 0 ≤ q.1 ∧ vX B q.2) → vA B A → leA A W → (∀ q ∈ fl, q.1 < n ∧ q.2.1 ≤ 16 ∧ ∃ Z, W q.1 = some Z ∧ leX q.2 Z) → ¬ FlX n A fl ∧ ∀ A', FlR n A fl A' → leA A' W
  | [], A, _, _, hw, _ => ⟨fun h => h, fun A' h p X hp hX => hw p X hp (by rw [← h p hp]; exact hX)⟩
  | q :: fl, A, h0, hv, hw, hq => by
    obtain ⟨q1, q2, Z, q3, q4⟩ := hq q (List.mem_cons_self ..)
    have h9 := h0 q (List.mem_cons_self ..)
    have rc9 : ∀ A1, ArrR A q.1 q.2 A1 → ¬ FlX n A1 fl ∧ ∀ A', FlR n A1 fl A' → leA A' W := fun A1 h1 => fl_lub fl A1 (fun q hq => h0 q (List.mem_cons_of_mem _ hq)) (arr_v h1 hv h9.1 h9.2) (arr_lub h1 hv h9.1 hw q3 q4) (fun r hr => hq r (List.mem_cons_of_mem _ hr))
    refine ⟨?_, fun A' ⟨_, _, A1, h1, h2⟩ => (rc9 A1 h1).2 A' h2⟩
    rintro (h | h | ⟨A1, h1, h2⟩)
    · exact h ⟨q1, q2⟩
    · exact arr_no hv h9.1 hw q3 q4 h
    · exact (rc9 A1 h1).1 h2
/-- a place whose flows are all in A -/
def Acc (B : Int → Int) (f : Int) (A : Asg) (p : Int) (X : Tst) : Prop := ∃ fl, tstep B f p X = some fl ∧ ∀ q ∈ fl, q.1 < cLen B f ∧ q.2.1 ≤ 16 ∧ ∃ Z, A q.1 = some Z ∧ leX q.2 Z
/-- what is told of the code's operands -/
def Opk (B : Int → Int) (f p : Int) : Prop := (opA B f p = 2 ∨ opA B f p = 3 → 0 ≤ agA B f p ∧ agA B f p < 10) ∧ (opA B f p = 30 ∨ opA B f p = 40 → 0 ≤ nPar B (agA B f p)) ∧ (∀ X fl, vX B X → tstep B f p X = some fl → ∀ q ∈ fl, 0 ≤ q.1 ∧ vX B q.2)
theorem acc_le {B : Int → Int} {f p : Int} {A A' : Asg} {X : Tst} (hle : leA A A') (ho : Opk B f p) (hX : vX B X) (h : Acc B f A p X) : Acc B f A' p X := by
  obtain ⟨fl, h1, h2⟩ := h
  refine ⟨fl, h1, fun q hq => ?_⟩
  obtain ⟨a, b, Z, c, d⟩ := h2 q hq
  obtain ⟨Z', c', d'⟩ := hle q.1 Z (ho.2.2 X fl hX h1 q hq).1 c
  exact ⟨a, b, Z', c', d.tr d'⟩
/-- a step's flows stay below whatever holds -/
theorem step_lub {B : Int → Int} {f p : Int} {A W : Asg} {X : Tst} (ho : Opk B f p) (hp : 0 ≤ p) (hv : vA B A) (hX : A p = some X) (hW : Clo B f W) (hw : leA A W) : ∃ fl, tstep B f p X = some fl ∧ ¬ FlX (cLen B f) A fl ∧ ∀ A', FlR (cLen B f) A fl A' → leA A' W := by
  obtain ⟨Z, z1, z2⟩ := hw p X hp hX
  obtain ⟨fl', f1, f2⟩ := hW.2 p Z hp z1
  obtain ⟨fl, g1, g2⟩ := ts_mono ho.1 ho.2.1 z2 f1
  refine ⟨fl, g1, fl_lub fl A (ho.2.2 X fl (hv p X hp hX) g1) hv hw (fun q hq => ?_)⟩
  obtain ⟨V, v1, v2⟩ := g2 q hq
  obtain ⟨a, b, Z', c, d⟩ := f2 _ v1
  exact ⟨a, by rw [v2.1]; exact b, Z', c, v2.tr d⟩
theorem step_acc {B : Int → Int} {f p : Int} {A A' : Asg} {X : Tst} {fl : List (Int × Tst)} (ho : Opk B f p) (hX : vX B X) (h1 : tstep B f p X = some fl) (h2 : FlR (cLen B f) A fl A') : Acc B f A' p X :=
  ⟨fl, h1, fl_at fl A A' h2 (fun q hq => (ho.2.2 X fl hX h1 q hq).1)⟩
/-- two that hold and are least are one -/
def eqA (A A' : Asg) : Prop := ∀ p, 0 ≤ p → (A p = none ↔ A' p = none) ∧ ∀ X Y, A p = some X → A' p = some Y → eqX X Y
theorem leA.as {A A' : Asg} (h1 : leA A A') (h2 : leA A' A) : eqA A A' := fun p hp => by
  refine ⟨⟨fun h => ?_, fun h => ?_⟩, fun X Y hX hY => ?_⟩
  · cases hY : A' p with
    | none => rfl
    | some Y => obtain ⟨Z, z, -⟩ := h2 p Y hp hY; rw [h] at z; cases z
  · cases hY : A p with
    | none => rfl
    | some Y => obtain ⟨Z, z, -⟩ := h1 p Y hp hY; rw [h] at z; cases z
  · obtain ⟨Z, z1, z2⟩ := h1 p X hp hX
    rw [hY] at z1; cases z1
    obtain ⟨Z, z1, z3⟩ := h2 p Y hp hY
    rw [hX] at z1; cases z1
    exact z2.as z3
/-! how often it can change -/
def smN (g : Nat → Nat) : Nat → Nat
  | 0 => 0
  | n + 1 => smN g n + g n
theorem smN_le {g g' : Nat → Nat} : ∀ n, (∀ k, k < n → g k ≤ g' k) → smN g n ≤ smN g' n
  | 0, _ => Nat.le_refl _
  | n + 1, h => Nat.add_le_add (smN_le n (fun k hk => h k (by omega))) (h n (by omega))
theorem smN_lt {g g' : Nat → Nat} {j : Nat} : ∀ n, (∀ k, k < n → g k ≤ g' k) → j < n → g j < g' j → smN g n < smN g' n
  | 0, _, h, _ => absurd h (by omega)
  | n + 1, h, hj, hl => by
    by_cases e : j = n
    · subst e
      have := smN_le j (fun k hk => h k (by omega))
      show smN g j + g j < smN g' j + g' j
      omega
    · have := smN_lt n (fun k hk => h k (by omega)) (by omega) hl
      have := h n (by omega)
      show smN g n + g n < smN g' n + g' n
      omega
theorem smN_ub {g : Nat → Nat} {c : Nat} : ∀ n, (∀ k, k < n → g k ≤ c) → smN g n ≤ n * c
  | 0, _ => by simp [smN]
  | n + 1, h => by
    have := smN_ub n (fun k hk => h k (by omega))
    have := h n (by omega)
    show smN g n + g n ≤ (n + 1) * c
    rw [Nat.add_mul, Nat.one_mul]; omega
def rkS (t : Int) : Nat := if t = 6 then 0 else 1
def rkL (t : Int) : Nat := if t = 6 then 0 else if t = 7 then 2 else 1
def rkX (X : Tst) : Nat := 1 + smN (fun k => rkS (X.2.1 k)) X.1.toNat + smN (fun k => rkL (X.2.2 k)) 10
def rkO (o : Option Tst) : Nat := match o with
  | none => 0
  | some X => rkX X
def rkA (A : Asg) : Nat := smN (fun p => rkO (A p)) 240
theorem rkS_le {a b : Int} (h : leT a b) : rkS a ≤ rkS b := by
  rcases h with rfl | ⟨rfl, h⟩
  · exact Nat.le_refl _
  · exact Nat.zero_le _
theorem rkS_lt {a b : Int} (h : leT a b) (hn : a ≠ b) : rkS a < rkS b := by
  rcases h with rfl | ⟨rfl, h⟩
  · exact absurd rfl hn
  · unfold rkS; rw [if_pos rfl, if_neg (fun e => hn e.symm)]; omega
theorem rkL_lt {a b : Int} (h : leL a b) (hn : a ≠ b) : rkL a < rkL b := by
  unfold rkL
  rcases h with (h | ⟨rfl, h⟩) | ⟨rfl, h⟩
  · exact absurd h hn
  · rw [if_pos rfl, if_neg (fun e => hn e.symm)]; split <;> omega
  · rw [if_neg (show ¬ (7 : Int) = 6 by decide), if_pos (show (7 : Int) = 7 from rfl), if_neg hn]; split <;> omega
theorem rkL_le {a b : Int} (h : leL a b) : rkL a ≤ rkL b := by
  by_cases e : a = b
  · subst e; exact Nat.le_refl _
  · exact Nat.le_of_lt (rkL_lt h e)
theorem rkX_le {X Y : Tst} (h0 : 0 ≤ X.1) (h : leX X Y) : rkX X ≤ rkX Y := by
  unfold rkX
  rw [← h.1]
  have h1 := smN_le (g := fun k => rkS (X.2.1 k)) (g' := fun k => rkS (Y.2.1 k)) X.1.toNat (fun k hk => rkS_le (h.2.1 k (by omega) (by omega)))
  have h2 := smN_le (g := fun k => rkL (X.2.2 k)) (g' := fun k => rkL (Y.2.2 k)) 10 (fun k hk => rkL_le (h.2.2 k (by omega) (by omega)))
  omega
theorem rkX_lt {X Y : Tst} (h0 : 0 ≤ X.1) (h : leX X Y) (hn : ¬ eqX X Y) : rkX X < rkX Y := by
  have h1 := smN_le (g := fun k => rkS (X.2.1 k)) (g' := fun k => rkS (Y.2.1 k)) X.1.toNat (fun k hk => rkS_le (h.2.1 k (by omega) (by omega)))
  have h2 := smN_le (g := fun k => rkL (X.2.2 k)) (g' := fun k => rkL (Y.2.2 k)) 10 (fun k hk => rkL_le (h.2.2 k (by omega) (by omega)))
  have key : (∃ k : Nat, k < X.1.toNat ∧ X.2.1 k ≠ Y.2.1 k) ∨ (∃ k : Nat, k < 10 ∧ X.2.2 k ≠ Y.2.2 k) := by
    apply Classical.byContradiction
    intro hc
    apply hn
    refine ⟨h.1, fun k a b => ?_, fun k a b => ?_⟩
    · apply Classical.byContradiction
      intro hne
      exact hc (Or.inl ⟨k.toNat, by omega, by rw [Int.toNat_of_nonneg a]; exact hne⟩)
    · apply Classical.byContradiction
      intro hne
      exact hc (Or.inr ⟨k.toNat, by omega, by rw [Int.toNat_of_nonneg a]; exact hne⟩)
  unfold rkX
  rw [← h.1]
  rcases key with ⟨k, hk, hne⟩ | ⟨k, hk, hne⟩
  · have := smN_lt (g := fun k => rkS (X.2.1 k)) (g' := fun k => rkS (Y.2.1 k)) (j := k) X.1.toNat (fun k hk => rkS_le (h.2.1 k (by omega) (by omega))) hk (rkS_lt (h.2.1 k (by omega) (by omega)) hne)
    omega
  · have := smN_lt (g := fun k => rkL (X.2.2 k)) (g' := fun k => rkL (Y.2.2 k)) (j := k) 10 (fun k hk => rkL_le (h.2.2 k (by omega) (by omega))) hk (rkL_lt (h.2.2 k (by omega) (by omega)) hne)
    omega
theorem rkO_le {A A' : Asg} (hv : vA B A) (h : leA A A') {p : Int} (hp : 0 ≤ p) : rkO (A p) ≤ rkO (A' p) := by
  cases hX : A p with
  | none => exact Nat.zero_le _
  | some X =>
    obtain ⟨Z, z1, z2⟩ := h p X hp hX
    rw [z1]
    exact rkX_le (hv p X hp hX).1 z2
theorem rkA_le {A A' : Asg} (hv : vA B A) (h : leA A A') : rkA A ≤ rkA A' := smN_le 240 (fun k _ => rkO_le hv h (by omega))
theorem rkA_lt {A A' : Asg} (hv : vA B A) (h : leA A A') {p : Int} (hp : 0 ≤ p) (hp2 : p < 240) (hn : rkO (A p) < rkO (A' p)) : rkA A < rkA A' :=
  smN_lt (j := p.toNat) 240 (fun k _ => rkO_le hv h (by omega)) (by omega) (by rw [Int.toNat_of_nonneg hp]; exact hn)
theorem rkA_ub {A : Asg} (hh : ∀ p X, 0 ≤ p → A p = some X → X.1 ≤ 16) : rkA A ≤ 8880 := by
  refine smN_ub (c := 37) 240 (fun k _ => ?_)
  unfold rkO
  cases hX : A k with
  | none => exact Nat.zero_le _
  | some X =>
    have h1 := hh k X (by omega) hX
    have h2 := smN_ub (g := fun k => rkS (X.2.1 k)) (c := 1) X.1.toNat (fun k _ => by unfold rkS; split <;> omega)
    have h3 := smN_ub (g := fun k => rkL (X.2.2 k)) (c := 2) 10 (fun k _ => by unfold rkL; split <;> (try split) <;> omega)
    show 1 + _ + _ ≤ 37
    omega
/-- an arrival that changes something makes the measure greater -/
theorem arr_rk {A A' : Asg} {t : Int} {X : Tst} (hv : vA B A) (h : ArrR A t X A') (ht : 0 ≤ t) (h2 : t < 240) (hc : A t = none ∨ ∃ Y Z, A t = some Y ∧ A' t = some Z ∧ ¬ eqX Y Z) : rkA A < rkA A' := by
  refine rkA_lt hv (arr_le h) ht h2 ?_
  rcases hc with hc | ⟨Y, Z, h1, h3, h4⟩
  · obtain ⟨Z, z, -⟩ := arr_at h
    rw [hc, z]
    show 0 < 1 + _ + _
    omega
  · obtain ⟨Z', z1, z2⟩ := arr_le h t Y ht h1
    rw [h3] at z1; cases z1
    rw [h1, h3]
    exact rkX_lt (hv t Y ht h1).1 z2 h4
end LFP
