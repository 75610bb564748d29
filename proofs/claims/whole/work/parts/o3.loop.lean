/-! THE LAW: its loop -/
section LK0
variable {d : Nat} {al : AL} {hi hb : HI} {hr : HR} {Q : QQ} {g : Int → Int} {L b1 b2 k : Nat} {i : Int} {ab : Nat → Nat × Nat}
theorem LW.up {c1 : Nat × Nat} (H : LW g c1 b1 b2 k al hi hr) : LW g c1 b1 b2 (k + 1) al hi hr := by
  obtain ⟨⟨a1, a2, a3, a4⟩, S, s, hL, hI, hT, n1, n2, n3⟩ := H
  refine ⟨⟨a1, a2, a3, a4.sc⟩, S, s, hL, hI, hT, n1, n2, ?_⟩
  rcases n3 with ⟨z, T, NN, A, r1, r2, r3, r4, r5, r6⟩ | z
  · exact Or.inl ⟨z, T, NN, A, r1, r2, r3, r4, r5, by omega⟩
  · exact Or.inr z
theorem l_loop (hd : 80 ≤ d) (hL : L ≤ 384) (hg : ∀ i, g i ≤ 2147483647) (ok : ∀ k al hi hr, k ≤ 64 → LW g (21, L) b1 b2 k al hi hr → Q (some (some (vI 1))) al hi hr) : ∀ (j k : Nat) (i : Int) al hi hr, k + j = 64 → i = 6 * k → LW g (21, L) b1 b2 k al hi hr → Wp d 328 18 [vR (some 1), vR (some 2), vR (some 49), vI i] [] al hi hr Q := by
  have END : ∀ (k : Nat) (i : Int) al hi hr, k ≤ 64 → (L : Int) - 6 < i → 0 ≤ i → LW g (21, L) b1 b2 k al hi hr → Wp d 328 18 [vR (some 1), vR (some 2), vR (some 49), vI i] [] al hi hr Q := by
    intro k i al hi hr k64 hi6 i0 H
    obtain ⟨h1, h2, hF, hl, hA⟩ := H.tp
    refine s328_18.mpr ?_
    refine s328_19.mpr ?_
    refine (s328_20 (by unfold isR; rw [hF, Bool.or_true])).mpr ?_
    rw [hl]
    refine s328_21.mpr ?_
    refine s328_23.mpr ?_
    rw [fSub_id (by omega) (by omega)]
    refine s328_24.mpr ?_
    rw [if_pos hi6]
    refine s328_602.mpr ?_
    refine (s328_603 (Or.inr rfl)).mpr ?_
    exact ok k al hi hr k64 H
  intro j
  induction j with
  | zero =>
    intro k i al hi hr hk hi6 H
    exact END k i al hi hr (by omega) (by omega) (by omega) H
  | succ j ih =>
    intro k i al hi hr hk hi6 H
    by_cases c : (L : Int) - 6 < i
    · exact END k i al hi hr (by omega) c (by omega) H
    have i0 : 0 ≤ i := by omega
    have i1 : i + 6 ≤ L := by omega
    have k64 : k ≤ 64 := by omega
    obtain ⟨h1, h2, hF, hl, hA⟩ := H.tp
    have NX : ∀ al' hi' hr', LW g (21, L) b1 b2 (k + 1) al' hi' hr' → Wp d 328 596 [vR (some 1), vR (some 2), vR (some 49), vI i] [] al' hi' hr' Q := fun al' hi' hr' H' => by
      refine s328_596.mpr ?_
      rw [fAdd_id (by omega) (by omega)]
      refine s328_599.mpr ?_
      exact ih (k + 1) (i + 6) al' hi' hr' (by omega) (by omega) H'
    refine s328_18.mpr ?_
    refine s328_19.mpr ?_
    refine (s328_20 (by unfold isR; rw [hF, Bool.or_true])).mpr ?_
    rw [hl]
    refine s328_21.mpr ?_
    refine s328_23.mpr ?_
    rw [fSub_id (by omega) (by omega)]
    refine s328_24.mpr ?_
    rw [if_neg c]
    refine s328_27.mpr ?_
    refine s328_28.mpr ?_
    refine (s328_29F hF (by omega) (by omega)).mpr ?_
    refine s328_30.mpr ?_
    refine s328_32.mpr ?_
    exact g328_33 (fun _ => l_0 H hd k64 i0 i1 hL hg NX) (fun _ => l_1 H hd k64 i0 i1 hL hg NX) (fun _ => l_2 H hd k64 i0 i1 hL hg NX) (fun _ => l_3 H hd k64 i0 i1 hL hg NX) (fun _ => l_4 H hd k64 i0 i1 hL hg NX) (fun _ => l_5 H hd k64 i0 i1 hL hg NX) (fun _ => l_6 H hd k64 i0 i1 hL hg NX) (fun _ => l_7 H hd k64 i0 i1 hL hg NX) (fun _ => l_8 H hd k64 i0 i1 hL hg NX) (fun _ => l_9 H hd k64 i0 i1 hL hg NX) (fun _ => l_10 H hd k64 i0 i1 hL hg NX) (fun _ => l_11 H hd k64 i0 i1 hL hg NX) (fun _ => l_12 H hd k64 i0 i1 hL hg NX) (fun _ => l_13 H hd k64 i0 i1 hL hg NX) (fun _ => NX al hi hr H.up)
/-- the law: on every script its answer is 1, and its room -/
theorem l_law (H : LG ab hb 2 [] [] 0 al hi hr) (hd : 80 ≤ d) (hL : L ≤ 384) (a0 : ab 0 = (21, 44)) (a1 : ab 1 = (21, L)) (h0 : ∀ k, 0 ≤ k → k < 44 → hb 0 k = oprC k) (h1 : ∀ i, hb 1 i = g i) (hg : ∀ i, g i ≤ 2147483647) : Ev d 328 [vR (some 1)] al hi hr (fun r al _ _ => r = some (some (vI 1)) ∧ al.1 ≤ 600130 ∧ al.2.1 ≤ 7301098) := by
  refine l_start H (by omega) (fun z al' hi' hr' H' hz => ?_)
  have W := lw_0 H' hz a0 a1 h0 h1
  refine s328_16.mpr ?_
  refine s328_17.mpr ?_
  refine l_loop hd hL hg (fun k al hi hr k64 W' => ⟨rfl, ?_⟩) 64 0 0 al' hi' hr' rfl rfl W
  obtain ⟨⟨-, -, -, r1, r2⟩, -⟩ := W'
  have := tcn_b (hr := hr) 12
  omega
end LK0
