/-! the run of a method's code: fuel, depth of calls, method, place, locals, stack, heap -/
/-- a method's locals at its entry: a long takes two -/
def entA : List AV → List AV
  | [] => []
  | some (.inr (.inr x)) :: as => vL x :: none :: entA as
  | v :: as => v :: entA as
def padA : Nat → List AV → List AV
  | 0, _ => []
  | n + 1, [] => none :: padA n []
  | n + 1, v :: as => v :: padA n as
def entL (k : Nat) (as : List AV) : List AV := padA (mxl k) (entA as)
def run : Nat → Nat → Nat → Nat → List AV → List AV → AL → HI → HR → Option (Rs × AL × HI × HR)
  | 0, _, _, _, _, _, _, _, _ => none
  | f + 1, d, k, pc, ls, st, al, hi, hr => match cd k pc ls st al hi hr with
    | none => none
    | some (.inl (pc', ls', st', al', hi', hr')) => run f d k pc' ls' st' al' hi' hr'
    | some (.inr (.inl v)) => some (some v, al, hi, hr)
    | some (.inr (.inr (.inl _))) => if tho k then some (none, al, hi, hr) else none
    | some (.inr (.inr (.inr (k', as, nx, ls', st')))) => match d with
      | 0 => none
      | d' + 1 => match run f d' k' 0 (entL k' as) [] al hi hr with
        | none => none
        | some (some v, al', hi', hr') => run f (d' + 1) k nx ls' (v.toList ++ st') al' hi' hr'
        | some (none, al', hi', hr') => match hdl k pc with
          | none => if tho k then some (none, al', hi', hr') else none
          | some (h, i) => run f (d' + 1) k h (ls'.set i none) [] al' hi' hr'
theorem run_mono : ∀ (f d k pc : Nat) (ls st : List AV) (al : AL) (hi : HI) (hr : HR) (r : Rs × AL × HI × HR), run f d k pc ls st al hi hr = some r → run (f + 1) d k pc ls st al hi hr = some r
  | 0, d, k, pc, ls, st, al, hi, hr, r, h => by simp [run] at h
  | f + 1, d, k, pc, ls, st, al, hi, hr, r, h => by
    rw [run] at h ⊢
    split at h
    · cases h
    · exact run_mono f _ _ _ _ _ _ _ _ _ h
    · exact h
    · exact h
    · rename_i k' as nx ls' st' hc
      cases d with
      | zero => simp at h
      | succ d' =>
        simp only at h ⊢
        cases hq : run f d' k' 0 (entL k' as) [] al hi hr with
        | none => rw [hq] at h; simp at h
        | some q =>
          rw [run_mono f d' k' 0 _ _ _ _ _ _ hq]
          rw [hq] at h
          obtain ⟨rv, al', hi', hr'⟩ := q
          cases rv with
          | some v =>
            simp only at h ⊢
            exact run_mono f _ _ _ _ _ _ _ _ _ h
          | none =>
            simp only at h ⊢
            cases hh : hdl k pc with
            | none => rw [hh] at h; simpa using h
            | some w =>
              rw [hh] at h
              obtain ⟨h1, i1⟩ := w
              simp only at h ⊢
              exact run_mono f _ _ _ _ _ _ _ _ _ h
theorem run_thr : ∀ (f d k pc : Nat) (ls st : List AV) (al : AL) (hi : HI) (hr : HR) (al' : AL) (hi' : HI) (hr' : HR), run f d k pc ls st al hi hr = some (none, al', hi', hr') → tho k = true
  | 0, d, k, pc, ls, st, al, hi, hr, al', hi', hr', h => by simp [run] at h
  | f + 1, d, k, pc, ls, st, al, hi, hr, al', hi', hr', h => by
    rw [run] at h
    split at h
    · cases h
    · exact run_thr f _ _ _ _ _ _ _ _ _ _ _ h
    · cases h
    · split at h
      · assumption
      · cases h
    · split at h
      · cases h
      · split at h
        · cases h
        · exact run_thr f _ _ _ _ _ _ _ _ _ _ _ h
        · split at h
          · split at h
            · assumption
            · cases h
          · exact run_thr f _ _ _ _ _ _ _ _ _ _ _ h
theorem run_le {f g d k pc : Nat} {ls st : List AV} {al : AL} {hi : HI} {hr : HR} {r : Rs × AL × HI × HR} (hfg : f ≤ g) (h : run f d k pc ls st al hi hr = some r) : run g d k pc ls st al hi hr = some r := by
  induction hfg with
  | refl => exact h
  | step _ ih => exact run_mono _ _ _ _ _ _ _ _ _ _ ih
abbrev QQ : Type := Rs → AL → HI → HR → Prop
/-- the run ends, and at its end Q holds -/
def Wp (d k pc : Nat) (ls st : List AV) (al : AL) (hi : HI) (hr : HR) (Q : QQ) : Prop :=
  ∃ (f : Nat) (r : Rs) (al' : AL) (hi' : HI) (hr' : HR), run f d k pc ls st al hi hr = some (r, al', hi', hr') ∧ Q r al' hi' hr'
def Ev (d k : Nat) (as : List AV) (al : AL) (hi : HI) (hr : HR) (Q : QQ) : Prop := Wp d k 0 (entL k as) [] al hi hr Q
/-- what comes of a call's end -/
def knt (r : Rs) (f : Option AV → Prop) (g : Prop) : Prop := match r with
  | some v => f v
  | none => g
theorem knt_some (v : Option AV) (f : Option AV → Prop) (g : Prop) : knt (some v) f g = f v := rfl
theorem knt_none (f : Option AV → Prop) (g : Prop) : knt none f g = g := rfl
section WP
variable {d k pc : Nat} {ls st : List AV} {al : AL} {hi : HI} {hr : HR} {Q : QQ}
theorem wp_n {pc' : Nat} {ls' st' : List AV} {al' : AL} {hi' : HI} {hr' : HR} (h : cd k pc ls st al hi hr = oN pc' ls' st' al' hi' hr') : Wp d k pc ls st al hi hr Q ↔ Wp d k pc' ls' st' al' hi' hr' Q := by
  constructor
  · rintro ⟨f, r, a1, a2, a3, h1, h2⟩
    cases f with
    | zero => simp [run] at h1
    | succ f =>
      rw [run, h] at h1
      exact ⟨f, r, a1, a2, a3, h1, h2⟩
  · rintro ⟨f, r, a1, a2, a3, h1, h2⟩
    exact ⟨f + 1, r, a1, a2, a3, by rw [run, h]; exact h1, h2⟩
theorem wp_r {v : Option AV} (h : cd k pc ls st al hi hr = oR v) : Wp d k pc ls st al hi hr Q ↔ Q (some v) al hi hr := by
  constructor
  · rintro ⟨f, r, a1, a2, a3, h1, h2⟩
    cases f with
    | zero => simp [run] at h1
    | succ f =>
      rw [run, h] at h1
      cases h1
      exact h2
  · intro h2
    exact ⟨1, _, _, _, _, by rw [run, h], h2⟩
theorem wp_t (ht : tho k = true) (h : cd k pc ls st al hi hr = oT) : Wp d k pc ls st al hi hr Q ↔ Q none al hi hr := by
  constructor
  · rintro ⟨f, r, a1, a2, a3, h1, h2⟩
    cases f with
    | zero => simp [run] at h1
    | succ f =>
      rw [run, h] at h1
      simp only [ht, if_true] at h1
      cases h1
      exact h2
  · intro h2
    exact ⟨1, _, _, _, _, by rw [run, h]; simp only [ht, if_true], h2⟩
/-- what the thrown exception meets at pc -/
def thn (d k pc : Nat) (ls : List AV) (al : AL) (hi : HI) (hr : HR) (Q : QQ) : Prop := match hdl k pc with
  | none => tho k = true ∧ Q none al hi hr
  | some (h, i) => Wp d k h (ls.set i none) [] al hi hr Q
theorem wp_call {k' nx : Nat} {as ls' st' : List AV} (hd : 0 < d) (h : cd k pc ls st al hi hr = oC k' as nx ls' st') :
    Wp d k pc ls st al hi hr Q ↔ Ev (d - 1) k' as al hi hr (fun r al hi hr => knt r (fun v => Wp d k nx ls' (v.toList ++ st') al hi hr Q) (thn d k pc ls' al hi hr Q)) := by
  obtain ⟨e, rfl⟩ : ∃ e, d = e + 1 := ⟨d - 1, by omega⟩
  rw [Nat.add_sub_cancel]
  constructor
  · rintro ⟨f, r, a1, a2, a3, h1, h2⟩
    cases f with
    | zero => simp [run] at h1
    | succ f =>
      rw [run, h] at h1
      simp only at h1
      cases hq : run f e k' 0 (entL k' as) [] al hi hr with
      | none => rw [hq] at h1; simp at h1
      | some q =>
        obtain ⟨rv, b1, b2, b3⟩ := q
        rw [hq] at h1
        refine ⟨f, rv, b1, b2, b3, hq, ?_⟩
        cases rv with
        | some v =>
          simp only at h1
          exact ⟨f, r, a1, a2, a3, h1, h2⟩
        | none =>
          simp only at h1
          show thn _ _ _ _ _ _ _ _
          unfold thn
          cases hh : hdl k pc with
          | none =>
            rw [hh] at h1
            by_cases ht : tho k = true
            · simp only [ht, if_true] at h1; cases h1; exact ⟨ht, h2⟩
            · simp only [ht] at h1; cases h1
          | some w =>
            rw [hh] at h1
            obtain ⟨h9, i9⟩ := w
            exact ⟨f, r, a1, a2, a3, h1, h2⟩
  · rintro ⟨f, rv, b1, b2, b3, hq, h2⟩
    cases rv with
    | some v =>
      obtain ⟨g, r, a1, a2, a3, h3, h4⟩ := h2
      refine ⟨max f g + 1, r, a1, a2, a3, ?_, h4⟩
      rw [run, h]
      simp only
      rw [run_le (Nat.le_max_left f g) hq]
      exact run_le (Nat.le_max_right f g) h3
    | none =>
      have h2 : thn (e + 1) k pc ls' b1 b2 b3 Q := h2
      unfold thn at h2
      cases hh : hdl k pc with
      | none =>
        rw [hh] at h2
        refine ⟨f + 1, none, b1, b2, b3, ?_, h2.2⟩
        rw [run, h]
        simp only
        rw [hq]
        simp only [hh, h2.1, if_true]
      | some w =>
        rw [hh] at h2
        obtain ⟨h9, i9⟩ := w
        obtain ⟨g, r, a1, a2, a3, h3, h4⟩ := h2
        refine ⟨max f g + 1, r, a1, a2, a3, ?_, h4⟩
        rw [run, h]
        simp only
        rw [run_le (Nat.le_max_left f g) hq]
        simp only [hh]
        exact run_le (Nat.le_max_right f g) h3
theorem wp_if {c : Prop} [Decidable c] {p1 p2 : Nat} {ls1 st1 : List AV} (h : cd k pc ls st al hi hr = if c then oN p1 ls1 st1 al hi hr else oN p2 ls1 st1 al hi hr) :
    Wp d k pc ls st al hi hr Q ↔ (if c then Wp d k p1 ls1 st1 al hi hr Q else Wp d k p2 ls1 st1 al hi hr Q) := by
  by_cases hc : c
  · rw [if_pos hc] at h ⊢; exact wp_n h
  · rw [if_neg hc] at h ⊢; exact wp_n h
theorem wp_mono {Q' : QQ} (h : Wp d k pc ls st al hi hr Q) (hq : ∀ r al hi hr, Q r al hi hr → Q' r al hi hr) : Wp d k pc ls st al hi hr Q' := by
  obtain ⟨f, r, a1, a2, a3, h1, h2⟩ := h
  exact ⟨f, r, a1, a2, a3, h1, hq _ _ _ _ h2⟩
theorem ev_mono {as : List AV} {Q' : QQ} (h : Ev d k as al hi hr Q) (hq : ∀ r al hi hr, Q r al hi hr → Q' r al hi hr) : Ev d k as al hi hr Q' := wp_mono h hq
/-- the run is one run: what holds at its end is decided by its end -/
theorem wp_det {r0 : Rs} {al0 : AL} {hi0 : HI} {hr0 : HR} (h : Wp d k pc ls st al hi hr (fun r a b c => r = r0 ∧ a = al0 ∧ b = hi0 ∧ c = hr0)) : Wp d k pc ls st al hi hr Q ↔ Q r0 al0 hi0 hr0 := by
  obtain ⟨f, r, a1, a2, a3, h1, rfl, rfl, rfl, rfl⟩ := h
  constructor
  · rintro ⟨g, r', b1, b2, b3, g1, g2⟩
    have e1 := run_le (Nat.le_max_left f g) h1
    have e2 := run_le (Nat.le_max_right f g) g1
    rw [e1] at e2
    cases e2
    exact g2
  · exact fun g => ⟨f, _, _, _, _, h1, g⟩
end WP
