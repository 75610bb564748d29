/-! THE LAW: on every script the small machine's run ends with 1, within the room -/
section LZ0
theorem law_run {L : Nat} {xs : Nat → Int32} (hL : L ≤ 384) : Ev 400 328 [vR (some 1)] (al0 L) (hi0 xs) hr0 (fun r al _ _ => r = some (some (vI 1)) ∧ al.1 ≤ 600130 ∧ al.2.1 ≤ 7301098) := by
  have hops : ∀ k : Fin 44, ops0.getD k.val 0 = oprC (k.val : Int) := by decide
  refine l_law (ab := (al0 L).2.2) (hb := hi0 xs) (g := fun i => (xs i.toNat).toInt) ⟨⟨rfl, by decide, fun a ha => (by rw [if_pos ha]), rfl⟩, ⟨(by funext a i; rfl), fun p hp => (by cases hp)⟩, (by funext a i; rfl), fun p hp => (by cases hp), fun a i h => ?_⟩ (by decide) hL rfl rfl (fun k k0 k1 => ?_) (fun i => rfl) (fun i => ?_)
  · unfold hi0
    rw [if_neg (by omega), if_neg (by omega)]
  · have := hops ⟨k.toNat, by omega⟩
    rw [show (((⟨k.toNat, by omega⟩ : Fin 44).val : Nat) : Int) = k from Int.toNat_of_nonneg k0] at this
    exact this
  · have := Int32.toInt_lt (xs i.toNat)
    show (xs i.toNat).toInt ≤ 2147483647
    omega
end LZ0
