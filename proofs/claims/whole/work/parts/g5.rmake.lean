/-! RUNNING, the reference: a box is made -/
section RM0
variable {d : Nat} {al : AL} {hi : HI} {hr : HR} {Q : QQ} {s : HI} {p : Int}
/-- the items of the boxes below b that stay -/
noncomputable def cm (s : HI) (p b : Int) : Int := (smN (fun v => cif (rch s p ((v : Int) + 1)) (s 100 (1025 * p + (v + 1)) - 1).toNat 0) (b - 1).toNat : Nat)
theorem cm_1 : cm s p 1 = 0 := rfl
theorem cm_y {b : Int} (b1 : 1 ≤ b) (h : rch s p b) (h0 : 0 < s 100 (1025 * p + b)) : cm s p (b + 1) = cm s p b + (s 100 (1025 * p + b) - 1) := by
  unfold cm
  have e : (b + 1 - 1).toNat = (b - 1).toNat + 1 := by omega
  rw [e]
  show ((smN _ (b - 1).toNat + cif _ _ _ : Nat) : Int) = _
  have e2 : (((b - 1).toNat : Nat) : Int) + 1 = b := by omega
  rw [e2, cif_y h]
  omega
theorem cm_n {b : Int} (b1 : 1 ≤ b) (h : ¬ rch s p b) : cm s p (b + 1) = cm s p b := by
  unfold cm
  have e : (b + 1 - 1).toNat = (b - 1).toNat + 1 := by omega
  rw [e]
  show ((smN _ (b - 1).toNat + cif _ _ _ : Nat) : Int) = _
  have e2 : (((b - 1).toNat : Nat) : Int) + 1 = b := by omega
  rw [e2, cif_n h, Nat.add_zero]
theorem smN_mo {g : Nat → Nat} {m : Nat} : ∀ n, m ≤ n → smN g m ≤ smN g n
  | 0, h => by rw [show m = 0 by omega]; exact Nat.le_refl _
  | n + 1, h => by
    by_cases e : m = n + 1
    · rw [e]; exact Nat.le_refl _
    · exact Nat.le_trans (smN_mo n (by omega)) (Nat.le_add_right _ _)
theorem cm_mo {b b' : Int} (h : b ≤ b') : cm s p b ≤ cm s p b' := by
  unfold cm
  exact Int.ofNat_le.mpr (smN_mo _ (by omega))
theorem cm_nn {b : Int} : 0 ≤ cm s p b := by unfold cm; omega
theorem smN_le2 {g g' : Nat → Nat} : ∀ n, (∀ v, v < n → g v ≤ g' v) → smN g n ≤ smN g' n
  | 0, _ => Nat.le_refl _
  | n + 1, h => Nat.add_le_add (smN_le2 n fun v hv => h v (by omega)) (h n (by omega))
theorem cm_rsm : cm s p 1025 ≤ (rsm s p : Int) := by
  unfold cm rsm
  refine Int.ofNat_le.mpr (smN_le2 1024 fun v _ => ?_)
  by_cases c : rch s p ((v : Int) + 1)
  · rw [cif_y c, cif_y c]; omega
  · rw [cif_n c, cif_n c]; omega
theorem smN_ge {g : Nat → Nat} : ∀ n, (∀ v, v < n → 1 ≤ g v) → n ≤ smN g n
  | 0, _ => Nat.le_refl _
  | n + 1, h => Nat.add_le_add (smN_ge n fun v hv => h v (by omega)) (h n (by omega))
/-- there is a free box -/
theorem mkF.free {n : Int} (h : mkF s p n) (h92 : s 92 p ≤ 1024) (n0 : 0 ≤ n) (hB : HBd s p) : ∃ b, 1 ≤ b ∧ b ≤ 1024 ∧ ¬ 0 < gcS s p 100 (1025 * p + b) := by
  apply Classical.byContradiction
  intro c
  have : 1024 ≤ rsm s p := by
    unfold rsm
    refine smN_ge 1024 fun v hv => ?_
    have hr : rch s p ((v : Int) + 1) := by
      apply Classical.byContradiction
      intro z
      refine c ⟨v + 1, by omega, by omega, ?_⟩
      unfold gcS
      rw [cif_y ⟨rfl, by omega, by omega, by rw [show 1025 * p + ((v : Int) + 1) - 1025 * p = (v : Int) + 1 by omega]; exact z⟩]
      decide
    rw [cif_y hr]
    have := (hB.2.1 _ hr).2
    omega
  unfold mkF at h
  omega
theorem gcS_y {b : Int} (b1 : 1 ≤ b ∧ b ≤ 1024) (h : rch s p b) : gcS s p 100 (1025 * p + b) = s 100 (1025 * p + b) := by
  unfold gcS
  rw [cif_n]
  rintro ⟨-, -, -, z⟩
  rw [show 1025 * p + b - 1025 * p = b by omega] at z
  exact z h
theorem gcS_n {b : Int} (b1 : 1 ≤ b ∧ b ≤ 1024) (h : ¬ rch s p b) : gcS s p 100 (1025 * p + b) = 0 := by
  unfold gcS
  rw [cif_y ⟨rfl, by omega, by omega, by rw [show 1025 * p + b - 1025 * p = b by omega]; exact h⟩]
theorem gcS_o {a : Nat} {i : Int} (h : a ≠ 100 ∨ i ≤ 1025 * p ∨ 1025 * p + 1024 < i) : gcS s p a i = s a i := by
  unfold gcS
  rw [cif_n]
  rintro ⟨z1, z2, z3, -⟩
  omega
theorem gcS_z {b : Int} (b1 : 1 ≤ b ∧ b ≤ 1024) (h : 0 < gcS s p 100 (1025 * p + b)) : rch s p b := by
  apply Classical.byContradiction
  intro z; rw [gcS_n b1 z] at h; exact absurd h (by decide)
/-- what is written -/
def wMk (p : Int) (a : Nat) (i : Int) : Prop := a = 102 ∨ a = 105 ∨ a = 106 ∨ a = 107 ∨ ((a = 100 ∨ a = 101) ∧ 1025 * p < i ∧ i ≤ 1025 * p + 1024) ∨ ((a = 103 ∨ a = 104) ∧ 1024 * p ≤ i ∧ i < 1024 * p + 1024)
def wSp (a : Nat) (_ : Int) : Prop := a = 105 ∨ a = 106
/-- boxes below b are dealt with -/
def CmI (s h0 : HI) (p : Int) (b : Int) (h : HI) : Prop := FW (wMk p) h0 h ∧ (∀ x, 1 ≤ x → x ≤ 1024 → (h 102 x = 0 ∨ h 102 x = 1) ∧ (h 102 x = 1 ↔ rch s p x)) ∧
  (∀ x, 1 ≤ x → x ≤ 1024 → (x < b → h 100 (1025 * p + x) = gcS s p 100 (1025 * p + x)) ∧ (b ≤ x → h 100 (1025 * p + x) = s 100 (1025 * p + x) ∧ h 101 (1025 * p + x) = h0 101 (1025 * p + x))) ∧
  (∀ x, 1 ≤ x → x < b → rch s p x → h 101 (1025 * p + x) = cm s p x ∧ ∀ i, 0 ≤ i → i < s 100 (1025 * p + x) - 1 → h 105 (cm s p x + i) = s 300 (hx p x i) ∧ h 106 (cm s p x + i) = s 301 (hx p x i)) ∧ ∀ i, h 103 i = h0 103 i ∧ h 104 i = h0 104 i
theorem CmI.no {h0 h : HI} {b : Int} (H : CmI s h0 p b h) (b1 : 1 ≤ b) (hb : ¬ rch s p b) (h0' : h 100 (1025 * p + b) = 0) : CmI s h0 p (b + 1) h := by
  obtain ⟨w, h1, h2, h3, h4⟩ := H
  refine ⟨w, h1, fun x x1 x2 => ⟨fun z => ?_, fun z => (h2 x x1 x2).2 (by omega)⟩, fun x x1 x2 x3 => h3 x x1 ?_ x3, h4⟩
  · by_cases e : x = b
    · subst e; rw [h0', gcS_n ⟨x1, x2⟩ hb]
    · exact (h2 x x1 x2).1 (by omega)
  · by_cases e : x = b
    · subst e; exact absurd x3 hb
    · omega
theorem CmI.z {h0 h : HI} {b : Int} (H : CmI s h0 p b h) (b1 : 1 ≤ b ∧ b ≤ 1024) (hb : ¬ rch s p b) : CmI s h0 p (b + 1) (upI h 100 (1025 * p + b) 0) := by
  obtain ⟨w, h1, h2, h3, h4⟩ := H
  refine ⟨w.up (by unfold wMk; omega), fun x x1 x2 => by rw [upI_a (by decide)]; exact h1 x x1 x2, fun x x1 x2 => ⟨fun z => ?_, fun z => ?_⟩, fun x x1 x2 x3 => ?_, fun i => by rw [upI_a (by decide), upI_a (by decide)]; exact h4 i⟩
  · by_cases e : x = b
    · subst e; rw [upI_eq, gcS_n ⟨x1, x2⟩ hb]
    · rw [upI_i (by omega)]; exact (h2 x x1 x2).1 (by omega)
  · rw [upI_i (by omega), upI_a (by decide)]; exact (h2 x x1 x2).2 (by omega)
  · by_cases e : x = b
    · subst e; exact absurd x3 hb
    · simp only [upI_a (show (101 : Nat) ≠ 100 by decide), upI_a (show (105 : Nat) ≠ 100 by decide), upI_a (show (106 : Nat) ≠ 100 by decide)]
      exact h3 x x1 (by omega) x3
theorem CmI.y {h0 h h' : HI} {b : Int} (H : CmI s h0 p b h) (b1 : 1 ≤ b ∧ b ≤ 1024) (hb : rch s p b) (hS : ∀ x, rch s p x → 0 < s 100 (1025 * p + x)) (w : FW wSp h h')
    (e5 : ∀ i, i < cm s p b → h' 105 i = h 105 i ∧ h' 106 i = h 106 i) (e6 : ∀ i, 0 ≤ i → i < s 100 (1025 * p + b) - 1 → h' 105 (cm s p b + i) = s 300 (hx p b i) ∧ h' 106 (cm s p b + i) = s 301 (hx p b i)) : CmI s h0 p (b + 1) (upI h' 101 (1025 * p + b) (cm s p b)) := by
  obtain ⟨w0, h1, h2, h3, h4⟩ := H
  have wo : ∀ {a : Nat} {i : Int}, a ≠ 105 → a ≠ 106 → h' a i = h a i := fun z1 z2 => w _ _ (by unfold wSp; omega)
  refine ⟨(w0.tr (w.mn (by intro a i z; unfold wSp at z; unfold wMk; omega))).up (by unfold wMk; omega), fun x x1 x2 => ?_, fun x x1 x2 => ⟨fun z => ?_, fun z => ?_⟩, fun x x1 x2 x3 => ?_, fun i => ?_⟩
  · rw [upI_a (by decide), wo (by decide) (by decide)]; exact h1 x x1 x2
  · rw [upI_a (by decide), wo (by decide) (by decide)]
    by_cases e : x = b
    · subst e; rw [gcS_y ⟨x1, x2⟩ hb]; exact ((h2 x x1 x2).2 (Int.le_refl _)).1
    · exact (h2 x x1 x2).1 (by omega)
  · rw [upI_a (by decide), upI_i (by omega), wo (by decide) (by decide), wo (by decide) (by decide)]; exact (h2 x x1 x2).2 (by omega)
  · simp only [upI_a (show (105 : Nat) ≠ 101 by decide), upI_a (show (106 : Nat) ≠ 101 by decide)]
    by_cases e : x = b
    · subst e; exact ⟨upI_eq, e6⟩
    · obtain ⟨g1, g2⟩ := h3 x x1 (by omega) x3
      rw [upI_i (by omega), wo (by decide) (by decide)]
      refine ⟨g1, fun i i0 i1 => ?_⟩
      have := cm_y (s := s) (p := p) x1 x3 (hS x x3)
      have := cm_mo (s := s) (p := p) (b := x + 1) (b' := b) (by omega)
      rw [(e5 _ (by omega)).1, (e5 _ (by omega)).2]
      exact g2 i i0 i1
  · rw [upI_a (by decide), upI_a (by decide), wo (by decide) (by decide), wo (by decide) (by decide)]; exact h4 i
end RM0
