/-! THE LAW: what holds at its start -/
section LH0
variable {d : Nat} {al : AL} {hi hb : HI} {hr : HR} {ab : Nat → Nat × Nat} {z L : Nat} {g : Int → Int}
set_option maxRecDepth 20000 in
theorem lw_0 (H : LG ab hb 119 iRL iVL z al hi hr) (hz : z ≤ 200000) (a0 : ab 0 = (21, 44)) (a1 : ab 1 = (21, L)) (h0 : ∀ k, 0 ≤ k → k < 44 → hb 0 k = oprC k) (h1 : ∀ i, hb 1 i = g i) : LW g (21, L) 119 200000 0 al hi hr := by
  obtain ⟨⟨e1, -, e3, e4⟩, ⟨eR, -⟩, eV, -, eb⟩ := H
  have n0 : ∀ a : Nat, (∀ p ∈ iVL, p.1 ≠ a) → ∀ i, hi a i = hb a i := fun a h i => by rw [eV]; exact lkV_n h
  have zV : ∀ a : Nat, 2 ≤ a → (∀ p ∈ iVL, p.1 ≠ a) → ∀ i, hi a i = 0 := fun a h2 h i => (n0 a h i).trans (eb a i h2)
  have zR : ∀ a : Nat, (∀ p ∈ iRL, p.1 ≠ a) → ∀ i, hr a i = none := fun a h i => by rw [eR]; exact lkR_n h
  have r27 : ∀ i, hr 27 i = none := zR 27 (by decide)
  have r4 : ∀ i, hr 4 i = none := zR 4 (by decide)
  have z26 : hi 26 0 = 0 := by rw [eV]; rfl
  have z33 : hi 33 10 = 0 := by rw [eV]; rfl
  have z21 : hi 2 1 = 0 := by rw [eV]; rfl
  have z23 : hi 2 3 = -1 := by rw [eV]; rfl
  have z24 : hi 2 4 = -1 := by rw [eV]; rfl
  have z492 : hi 49 2 = 0 := by rw [eV]; exact (show lkV hb iVL 49 2 = hb 49 2 from rfl).trans (eb 49 2 (by decide))
  have z4924 : hi 49 24 = 0 := by rw [eV]; exact (show lkV hb iVL 49 24 = hb 49 24 from rfl).trans (eb 49 24 (by decide))
  have z4951 : hi 49 51 = 0 := by rw [eV]; exact (show lkV hb iVL 49 51 = hb 49 51 from rfl).trans (eb 49 51 (by decide))
  have z56 := zV 56 (by decide) (by decide)
  have z71 := zV 71 (by decide) (by decide)
  have z89 := zV 89 (by decide) (by decide)
  have z90 := zV 90 (by decide) (by decide)
  have z100 := zV 100 (by decide) (by decide)
  have z28 := zV 28 (by decide) (by decide)
  have z30 := zV 30 (by decide) (by decide)
  have z34 := zV 34 (by decide) (by decide)
  have hM : MR hr := fun p hp => by
    rw [eR]
    have key : ∀ p ∈ mrl, lkR iRL 49 p.1 = some p.2 := by decide
    exact key p hp
  have hC : CR hr := fun p hp => by
    rw [eR]
    have key : ∀ p ∈ crl, lkR iRL p.1 p.2.1 = some p.2.2 := by decide
    exact key p hp
  have hA : SA al := ⟨by omega, fun a a2 a9 => by rw [e3 a a9, if_neg (by omega)]⟩
  have h43 : hr 26 5 = some 43 := by rw [eR]; decide
  have hT : TkA al hr := ⟨fun q t _ _ e => (by rw [r27] at e; cases e), ⟨43, h43, Or.inl rfl⟩, fun q q' t t' _ _ _ _ _ e => (by rw [r27] at e; cases e)⟩
  have hL : CL al hi hr (fun _ => none) := ⟨hA, hC, ⟨by rw [e3 0 (by decide), if_pos (by decide)]; exact a0, fun k k0 k1 => (n0 0 (by decide) k).trans (h0 k k0 k1)⟩, hT, fun q t _ _ e => (by rw [r27] at e; cases e), z33, fun m b e => (by cases e), fun m _ _ _ => r4 m⟩
  have hS : MSh hi (fun _ => none) := fun m => by
    show ¬ isM hi m
    rintro ⟨-, -, y⟩
    rw [z56] at y; cases y
  have hI : RfI hi (fun _ => none) := ⟨hS, fun m _ _ => Or.inl (z56 m), fun m b e => (by cases e), fun q _ => (by rw [z71]; decide), (by rw [z492]; decide), Or.inl z4951⟩
  refine ⟨⟨hM, fun i => (n0 1 (by decide) i).trans (h1 i), by rw [e3 1 (by decide), if_pos (by decide)]; exact a1, ?_⟩, fun _ => none, hi, hL, hI, ⟨by rw [z21, z492], fun j j0 j1 => (by rw [z492] at j1; omega), Or.inl ⟨z4924, z23, z24⟩⟩, ⟨fun _ _ _ => rfl, fun p _ _ => ?_⟩, fun q _ => z90 q, Or.inr ⟨z4951, z26, fun q _ _ => z28 q, fun b _ _ => z30 b, fun e _ _ => z34 e⟩⟩
  · unfold RmB; omega
  · unfold LR
    refine ⟨fun b _ _ y => ?_, fun b b' _ _ _ _ _ y => ?_⟩
    · rw [z100] at y; omega
    · rw [z100] at y; omega
end LH0
