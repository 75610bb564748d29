/-! RUNNING, the class: collecting, the sums -/
section CG0
variable {d : Nat} {Q : QQ} {T : TXs} {al al' : AL} {hi hi' : HI} {hr hr' : HR} {s s' : HI} {A A' : Int → Int → Int} {NN : Int → Option Nat} {E : Int → Prop} {p q m f v w x : Int} {B : Int → Int} {X Y : Tst} {t t' N : Nat} {al0 : AL} {hi0 : HI} {hr0 : HR}
noncomputable def sA (z : Int → Int) (P : Int → Prop) : Nat := smN (fun k => cif (P ((k : Int) + 1)) (z ((k : Int) + 1)).toNat 0) 1024
theorem sA_cg {z : Int → Int} {P P' : Int → Prop} (h : ∀ b, 1 ≤ b → b ≤ 1024 → (P b ↔ P' b)) : sA z P = sA z P' := by
  unfold sA
  refine smN_cg 1024 (fun v hv => ?_)
  have := h (v + 1) (by omega) (by omega)
  by_cases c : P ((v : Int) + 1)
  · rw [cif_y c, cif_y (this.mp c)]
  · rw [cif_n c, cif_n (fun y => c (this.mpr y))]
theorem sA_mn {z : Int → Int} {P P' : Int → Prop} (h : ∀ b, P b → P' b) : sA z P ≤ sA z P' := by
  unfold sA
  refine smN_le2 1024 (fun v hv => ?_)
  by_cases c : P ((v : Int) + 1)
  · rw [cif_y c, cif_y (h _ c)]; exact Nat.le_refl _
  · rw [cif_n c]; exact Nat.zero_le _
/-- one more -/
theorem sA_up {z : Int → Int} {P P' : Int → Prop} {b0 : Int} (h1 : 1 ≤ b0 ∧ b0 ≤ 1024) (hn : ¬ P b0) (hP : ∀ b, P' b ↔ P b ∨ b = b0) : sA z P' = sA z P + (z b0).toNat := by
  have k := smN_addW (g := fun k => cif (P ((k : Int) + 1)) (z ((k : Int) + 1)).toNat 0) (g' := fun k => cif (P' ((k : Int) + 1)) (z ((k : Int) + 1)).toNat 0) (w := (b0 - 1).toNat) (x := (z b0).toNat) 1024 (fun v hv => by
    show cif (P' ((v : Int) + 1)) (z ((v : Int) + 1)).toNat 0 = cif (P ((v : Int) + 1)) (z ((v : Int) + 1)).toNat 0
    by_cases c : P ((v : Int) + 1)
    · rw [cif_y c, cif_y ((hP _).mpr (Or.inl c))]
    · rw [cif_n c, cif_n (fun y => ((hP _).mp y).elim c (fun e => hv (by omega)))]) (by
    have e : (((b0 - 1).toNat : Nat) : Int) + 1 = b0 := by omega
    show cif (P' ((((b0 - 1).toNat : Nat) : Int) + 1)) (z ((((b0 - 1).toNat : Nat) : Int) + 1)).toNat 0 = cif (P ((((b0 - 1).toNat : Nat) : Int) + 1)) (z ((((b0 - 1).toNat : Nat) : Int) + 1)).toNat 0 + (z b0).toNat
    rw [e, cif_y ((hP b0).mpr (Or.inr rfl)), cif_n hn]; omega)
  rw [if_pos (by omega)] at k
  exact k
theorem max_ex {a : Int → Int} {P : Int → Prop} {F : Int} (hF : ∀ b, P b → a b ≤ F) : ∀ (n : Nat) (b : Int), P b → F - a b ≤ n → ∃ b0, P b0 ∧ ∀ b, P b → a b ≤ a b0
  | 0, b, hb, hn => ⟨b, hb, fun b' hb' => by have := hF b' hb'; omega⟩
  | n + 1, b, hb, hn => by
    by_cases c : ∃ b', P b' ∧ a b < a b'
    · obtain ⟨b', h1, h2⟩ := c
      exact max_ex hF n b' h1 (by omega)
    · refine ⟨b, hb, fun b' hb' => ?_⟩
      apply Classical.byContradiction
      intro z
      exact c ⟨b', hb', by omega⟩
/-- pieces that lie apart, below F -/
theorem sA_le {z a : Int → Int} : ∀ (n : Nat) (F : Int) (P : Int → Prop), F ≤ n → 1 ≤ F → (∀ b, P b → (1 ≤ b ∧ b ≤ 1024) ∧ 1 ≤ z b ∧ 1 ≤ a b ∧ a b + z b ≤ F) → (∀ b b', P b → P b' → b ≠ b' → a b + z b ≤ a b' ∨ a b' + z b' ≤ a b) → (sA z P : Int) ≤ F - 1
  | 0, F, P, h0, h1, _, _ => by omega
  | n + 1, F, P, h0, h1, h2, h3 => by
    by_cases c : ∃ b, P b
    · obtain ⟨b, hb⟩ := c
      obtain ⟨b0, m1, m2⟩ := max_ex (a := a) (P := P) (F := F) (fun b hb => by have := (h2 b hb).2; omega) (F - a b).toNat b hb (by omega)
      obtain ⟨q1, q2, q3, q4⟩ := h2 b0 m1
      have ih := sA_le n (a b0) (fun b => P b ∧ b ≠ b0) (by omega) (by omega) (fun b hb => by
        obtain ⟨r1, r2, r3, r4⟩ := h2 b hb.1
        refine ⟨r1, r2, r3, ?_⟩
        have := m2 b hb.1
        have := h3 b b0 hb.1 m1 hb.2
        omega) (fun b b' hb hb' hne => h3 b b' hb.1 hb'.1 hne)
      have k := sA_up (z := z) (P := fun b => P b ∧ b ≠ b0) (P' := P) (b0 := b0) q1 (fun y => y.2 rfl) (fun b => ⟨fun y => by
        by_cases e : b = b0
        · exact Or.inr e
        · exact Or.inl ⟨y, e⟩, fun y => by
        rcases y with y | y
        · exact y.1
        · rw [y]; exact m1⟩)
      rw [k]
      omega
    · have e : sA z P = 0 := by
        unfold sA
        have : ∀ n, smN (fun k => cif (P ((k : Int) + 1)) (z ((k : Int) + 1)).toNat 0) n = 0 := fun n => by
          induction n with
          | zero => rfl
          | succ n ih =>
            show smN _ n + cif (P ((n : Int) + 1)) (z ((n : Int) + 1)).toNat 0 = 0
            rw [ih, cif_n (fun y => c ⟨_, y⟩)]
        exact this 1024
      rw [e]; omega
theorem rsm_sA : rsm s p = sA (fun b => s 100 (1025 * p + b)) (rch s p) := rfl
/-- what is reached is no more than the cells that are taken -/
theorem HpC.rsm_ {c : Nat} {fr : Int} (h : HpC A hi c fr s p) (hB : HBd s p) : (∀ b, rch s p b → A p b ≠ 0) ∧ (rsm s p : Int) ≤ fr - 1 := by
  have hr : ∀ b, rch s p b → A p b ≠ 0 := fun b hb => by
    refine hb (fun b => A p b ≠ 0) (fun x hx => ?_) (fun x i hx i0 i1 z1 z2 => ?_)
    · obtain ⟨i, y1, y2, y3, y4⟩ := rot_pl hx
      rw [← y3]; exact h.2.2.2 i y1 y2 (by omega)
    · exact ((h.2.1 x hx).2.2.2.2 i i0 i1).2 z1 (by omega)
  refine ⟨hr, ?_⟩
  rw [rsm_sA]
  refine sA_le (a := A p) fr.toNat fr (rch s p) (by omega) h.1.1 (fun b hb => ?_) (fun b b' hb hb' hne => h.2.2.1 b b' (hr b hb) (hr b' hb') hne)
  obtain ⟨y1, y2, y3, -⟩ := h.2.1 b (hr b hb)
  exact ⟨y1, y2, y3.1, y3.2⟩
end CG0
