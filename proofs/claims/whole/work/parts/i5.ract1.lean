/-! RUNNING, the reference: an instruction -/
section RP7
variable {d : Nat} {al : AL} {hi : HI} {hr : HR} {Q : QQ} {s : HI} {p : Int} {B : Int → Int} {f o v qx m : Int}
/-- what an instruction needs -/
def OkI (B : Int → Int) (m f : Int) (s : HI) (p o v : Int) : Prop :=
  ((0 ≤ hg s p ∧ hg s p ≤ 16) ∧ QB s ∧ s 91 p = m ∧ (0 ≤ m ∧ m < 12) ∧ HBd s p ∧ (0 ≤ s 92 p ∧ s 92 p ≤ 1024) ∧ s 89 p < 4 ∧ BkO s) ∧
  ((o = 2 ∨ o = 3 → 0 ≤ v ∧ v < 10) ∧ (o = 0 ∨ o = 1 ∨ o = 2 ∨ o = 5 → hg s p < 16) ∧ (o = 3 ∨ o = 4 ∨ o = 5 ∨ o = 19 → 1 ≤ hg s p) ∧ (o = 6 ∨ (7 ≤ o ∧ o ≤ 18) → 2 ≤ hg s p)) ∧
  (o = 21 → 1 ≤ hg s p) ∧
  (o = 22 → hg s p < 16 ∧ (0 ≤ v ∧ v < 8) ∧ s 57 (8 * m + v) = nFld B v ∧ (0 ≤ nFld B v ∧ nFld B v ≤ 6) ∧ ∀ i, 0 ≤ i → i < nFld B v → s 58 (48 * m + 6 * v + i) = fTy B v i) ∧
  (o = 23 → 1 ≤ hg s p ∧ BxV s p (tv s p 0) ∧ (tv s p 0 ≠ 0 → 0 ≤ v ∧ v < s 100 (1025 * p + tv s p 0) - 1)) ∧
  (o = 24 → 2 ≤ hg s p ∧ BxV s p (tv s p 1) ∧ (tv s p 1 ≠ 0 → 0 ≤ v ∧ v < s 100 (1025 * p + tv s p 1) - 1)) ∧
  (o = 25 ∨ o = 26 → 1 ≤ hg s p ∧ tv s p 0 ≤ 2147483647) ∧
  (o = 27 → 1 ≤ hg s p ∧ BxV s p (tv s p 0)) ∧
  (o = 28 → 2 ≤ hg s p ∧ BxV s p (tv s p 1)) ∧
  (o = 29 → 3 ≤ hg s p ∧ BxV s p (tv s p 2)) ∧
  (o = 30 → (0 ≤ v ∧ v < 10) ∧ s 64 (10 * m + v) = nPar B v ∧ 0 ≤ nPar B v ∧ nPar B v ≤ hg s p) ∧
  (o = 31 → (0 ≤ f ∧ f < 10) ∧ s 95 (ai s p) = f ∧ s 66 (10 * m + f) = rTy B f ∧ (rTy B f ≠ -1 → 1 ≤ hg s p) ∧ (rTy B f ≠ -1 → 2 ≤ s 94 p → 0 ≤ s 97 (ai s p - 1) ∧ s 97 (ai s p - 1) < 16)) ∧
  (o = 32 → hg s p < 16 ∧ (0 ≤ v ∧ v < 8) ∧ s 57 (8 * m + v) = nFld B v ∧ (0 ≤ nFld B v ∧ nFld B v ≤ 6) ∧ ∀ X, (∀ n : Nat, n = 128 → bcl s n = X) → X + nFld B v + 1 ≤ 256 → ∃ b, 0 ≤ b ∧ b < 128 ∧ s 109 b = -1) ∧
  (o = 33 → (1 ≤ hg s p ∧ hg s p < 16) ∧ (0 ≤ tv s p 0 ∧ tv s p 0 < 128) ∧ 0 ≤ v ∧ v < 6) ∧
  (o = 34 → 2 ≤ hg s p ∧ (0 ≤ tv s p 1 ∧ tv s p 1 < 128) ∧ 0 ≤ v ∧ v < 6) ∧
  (o = 35 → 1 ≤ hg s p ∧ 0 ≤ tv s p 0 ∧ tv s p 0 < 128) ∧
  (o = 36 → hg s p < 15 ∧ 0 ≤ v ∧ v < 256) ∧
  (o = 37 → 1 ≤ hg s p ∧ (0 ≤ v ∧ v < 4) ∧ (ts s p 0 = 3 → EnO s (tv s p 0)) ∧ (depS s p v = 1 → 2 ≤ hg s p ∧ EnO s (tv s p 1) ∧ (ts s p 0 = 2 → 0 ≤ tv s p 0 ∧ tv s p 0 < 128) ∧ (ts s p 0 = 3 → 0 ≤ tv s p 0 ∧ tv s p 0 < 24)) ∧ (∀ e, e = tv s p (depS s p v) → EnO s e → 0 ≤ s 63 (4 * (8 * s 118 e + s 112 e) + v)) ∧ ∀ e, e = tv s p (depS s p v) → EnO s e → s 112 (oth e) ≠ -1 → 0 ≤ s 114 (oth e) ∧ s 114 (oth e) < 4) ∧
  (o = 38 → ((1 ≤ hg s p ∧ hg s p ≤ 16) ∧ (s 117 (4 * tv s p 0) ≠ 4 → hg s p < 16)) ∧ EnO s (tv s p 0) ∧ (0 ≤ s 115 (4 * tv s p 0) ∧ s 115 (4 * tv s p 0) < 4) ∧ (1 ≤ s 114 (tv s p 0) ∧ s 114 (tv s p 0) ≤ 4) ∧ (s 117 (4 * tv s p 0) = 2 → 0 ≤ s 116 (4 * tv s p 0) ∧ s 116 (4 * tv s p 0) < 128) ∧ (s 117 (4 * tv s p 0) = 3 → 0 ≤ s 116 (4 * tv s p 0) ∧ s 116 (4 * tv s p 0) < 24)) ∧
  (o = 39 → 1 ≤ hg s p ∧ 0 ≤ tv s p 0 ∧ tv s p 0 < 24) ∧
  (o = 40 → (0 ≤ v ∧ v < 10) ∧ s 64 (10 * m + v) = nPar B v ∧ (0 ≤ nPar B v ∧ nPar B v ≤ 10 ∧ nPar B v ≤ hg s p) ∧ ∀ k, 0 ≤ k → k < nPar B v → (s 99 (sk s p (hg s p - nPar B v) + k) = 2 → 0 ≤ s 98 (sk s p (hg s p - nPar B v) + k) ∧ s 98 (sk s p (hg s p - nPar B v) + k) < 128) ∧ (s 99 (sk s p (hg s p - nPar B v) + k) = 3 → 0 ≤ s 98 (sk s p (hg s p - nPar B v) + k) ∧ s 98 (sk s p (hg s p - nPar B v) + k) < 24)) ∧
  (o = 43 → 1 ≤ hg s p ∧ 0 ≤ s 49 55 ∧ s 49 55 ≤ 500)
theorem r_withHeap (hA : SA al) (hR : MR hr) (hd : 57 ≤ d) (hE : RelR hi s) (hp : AP s p) (hO : OkI B m f s p o v) (h52 : hi 52 m ≤ 2000) (hB : bAt hi m = B) (q0 : 0 ≤ qx ∧ qx < 3000) (q : ∀ hi', RelR hi' (exS B f s p o v qx) → FW wRn hi hi' → Q (some none) al hi' hr) (ho : 20 ≤ o ∧ o ≤ 31) : Ev d 312 [vR (some 49), vI p, vI o, vI v] al hi hr Q := by
  have kM : isK al 49 13 := hA.k (by decide) (by decide) rfl
  have l91 := SA.len (a := 91) (n := 12) hA (by decide) (by decide) rfl
  have l57 := SA.len (a := 57) (n := 104) hA (by decide) (by decide) rfl
  have l58 := SA.len (a := 58) (n := 624) hA (by decide) (by decide) rfl
  have l104 := SA.len (a := 104) (n := 12288) hA (by decide) (by decide) rfl
  have l103 := SA.len (a := 103) (n := 12288) hA (by decide) (by decide) rfl
  have l100 := SA.len (a := 100) (n := 12300) hA (by decide) (by decide) rfl
  obtain ⟨⟨g1, g2, g3, g4, g5, g6, g7, g8⟩, -, k21, k22, k23, k24, k25, k27, k28, k29, k30, k31, -⟩ := hO
  have hpb := hp.1
  have e91 : hi 91 p = m := ((Sm.rf hE.1).e (by omega)).trans g3
  have hd' : 56 ≤ d := by omega
  rw [e312]
  refine s312_0.mpr ((s312_1 kM).mpr ?_)
  rw [mr_61 hR]
  refine s312_4.mpr ?_
  refine (s312_5 (hA.k (by decide) (by decide) rfl) (by first | assumption | omega) (by first | assumption | omega)).mpr ?_
  refine s312_6.mpr (s312_8.mpr ?_)
  try simp (disch := first | decide | assumption | omega) only [e91]
  refine g312_9 (fun c9 => ?_) (fun c9 => ?_) (fun c9 => ?_) (fun c9 => ?_) (fun c9 => ?_) (fun c9 => ?_) (fun c9 => ?_) (fun c9 => ?_) (fun c9 => ?_) (fun c9 => ?_) (fun c9 => ?_)
  · skip
    have c9 := List.mem_singleton.mp c9
    exact w_20 hA hR hd' hE hp g1 g2 q (by assumption)
  · skip
    have c9 := List.mem_singleton.mp c9
    exact w_21 hA hR hd' hE hp g1 g2 q (by assumption) (k21 (by assumption))
  · skip
    have c9 := List.mem_singleton.mp c9
    exact (fun z => w_22 hA hR hd' hE hp g1 g2 q z (k22 z).1 g5 g6 g4 (k22 z).2.1 (k22 z).2.2.1 (k22 z).2.2.2.1 (k22 z).2.2.2.2) (by assumption)
  · skip
    have c9 := List.mem_singleton.mp c9
    exact (fun z => w_23 hA hR hd' hE hp g1 g2 q z (k23 z).1 (k23 z).2.1 (k23 z).2.2) (by assumption)
  · skip
    have c9 := List.mem_singleton.mp c9
    exact (fun z => w_24 hA hR hd' hE hp g1 g2 q z (k24 z).1 (k24 z).2.1 (k24 z).2.2) (by assumption)
  · skip
    exact (fun z => w_25 hA hR hd' hE hp g1 g2 q z (k25 z).1 g5 g6 (k25 z).2) (by simp only [List.mem_cons, List.not_mem_nil, or_false, not_or] at c9; omega)
  · skip
    have c9 := List.mem_singleton.mp c9
    exact (fun z => w_27 hA hR hd' hE hp g1 g2 q z (k27 z).1 (k27 z).2) (by assumption)
  · skip
    have c9 := List.mem_singleton.mp c9
    exact (fun z => w_28 hA hR hd' hE hp g1 g2 q z (k28 z).1 (k28 z).2) (by assumption)
  · skip
    have c9 := List.mem_singleton.mp c9
    exact (fun z => w_29 hA hR hd' hE hp g1 g2 q z (k29 z).1 (k29 z).2) (by assumption)
  · skip
    have c9 := List.mem_singleton.mp c9
    exact (fun z => w_30 hA hR hd' hE hp g1 g2 q z g3 g4 (k30 z).1 (k30 z).2.1 (k30 z).2.2) (by assumption)
  · skip
    exact (fun z => w_31 hA hR hd' hE hp g1 g2 q z g3 g4 (k31 z).1 (k31 z).2.1 (k31 z).2.2.1 (k31 z).2.2.2.1 (k31 z).2.2.2.2) (by first | assumption | (simp only [List.mem_cons, List.not_mem_nil, or_false, not_or] at c9; omega))
theorem r_linearly (hA : SA al) (hR : MR hr) (hd : 57 ≤ d) (hE : RelR hi s) (hp : AP s p) (hO : OkI B m f s p o v) (h52 : hi 52 m ≤ 2000) (hB : bAt hi m = B) (q0 : 0 ≤ qx ∧ qx < 3000) (q9 : ∀ hi', RelR hi' (exS B f s p o v qx) → FW wRn (yS o hi) hi' → Q (some none) al hi' hr) (ho : 32 ≤ o ∧ o ≤ 43) : Ev d 316 [vR (some 49), vI p, vI o, vI v, vI qx] al hi hr Q := by
  have kM : isK al 49 13 := hA.k (by decide) (by decide) rfl
  have l111 := SA.len (a := 111) (n := 768) hA (by decide) (by decide) rfl
  have l98 := SA.len (a := 98) (n := 4992) hA (by decide) (by decide) rfl
  have l97 := SA.len (a := 97) (n := 192) hA (by decide) (by decide) rfl
  have l109 := SA.len (a := 109) (n := 128) hA (by decide) (by decide) rfl
  have l87 := SA.len (a := 87) (n := 500) hA (by decide) (by decide) rfl
  have l88 := SA.len (a := 88) (n := 500) hA (by decide) (by decide) rfl
  obtain ⟨⟨g1, g2, g3, g4, g5, g6, g7, g8⟩, -, -, -, -, -, -, -, -, -, -, -, k32, k33, k34, k35, k36, k37, k38, k39, k40, k43⟩ := hO
  have hd' : 56 ≤ d := by omega
  have qn : o ≠ 41 → ∀ hi', RelR hi' (exS B f s p o v qx) → FW wRn hi hi' → Q (some none) al hi' hr := fun z hi' z1 z2 => q9 hi' z1 (by unfold yS; rw [if_neg z]; exact z2)
  have qy : o = 41 → ∀ hi', RelR hi' (exS B f s p o v qx) → FW wRn (upI hi 49 89 1) hi' → Q (some none) al hi' hr := fun z hi' z1 z2 => q9 hi' z1 (by unfold yS; rw [if_pos z]; exact z2)
  rw [e316]
  refine s316_0.mpr ?_
  refine g316_1 (fun c1 => ?_) (fun c1 => ?_) (fun c1 => ?_) (fun c1 => ?_) (fun c1 => ?_) (fun c1 => ?_) (fun c1 => ?_) (fun c1 => ?_) (fun c1 => ?_) (fun c1 => ?_) (fun c1 => ?_) (fun c1 => ?_)
  · skip
    have c1 := List.mem_singleton.mp c1
    exact (fun z => l_32 hA hR hd' hE hp g1 g2 (qn (by omega)) z (k32 z).1 g3 g4 (k32 z).2.1 (k32 z).2.2.1 (k32 z).2.2.2.1 g8 (k32 z).2.2.2.2) (by assumption)
  · skip
    have c1 := List.mem_singleton.mp c1
    exact (fun z => l_33 hA hR hd' hE hp g1 g2 (qn (by omega)) z (k33 z).1 (k33 z).2.1 (k33 z).2.2) (by assumption)
  · skip
    have c1 := List.mem_singleton.mp c1
    exact (fun z => l_34 hA hR hd' hE hp g1 g2 (qn (by omega)) z (k34 z).1 (k34 z).2.1 (k34 z).2.2) (by assumption)
  · skip
    have c1 := List.mem_singleton.mp c1
    exact (fun z => l_35 hA hR hd' hE hp g1 g2 (qn (by omega)) z (k35 z).1 (k35 z).2) (by assumption)
  · skip
    have c1 := List.mem_singleton.mp c1
    exact (fun z => l_36 hA hR hd' hE hp g1 g2 (qn (by omega)) z (k36 z).1 g3 g4 (k36 z).2) (by assumption)
  · skip
    have c1 := List.mem_singleton.mp c1
    exact (fun z => l_37 hA hR hd' hE hp g1 g2 (qn (by omega)) z (k37 z).1 (k37 z).2.1 (k37 z).2.2.1 (k37 z).2.2.2.1 (k37 z).2.2.2.2.1 (k37 z).2.2.2.2.2) (by assumption)
  · skip
    have c1 := List.mem_singleton.mp c1
    exact (fun z => l_38 hA hR hd' hE hp g1 g2 (qn (by omega)) z (k38 z).1 rfl (k38 z).2.1 (k38 z).2.2.1 (k38 z).2.2.2.1 (k38 z).2.2.2.2.1 (k38 z).2.2.2.2.2 g3 g4 h52 hB q0) (by assumption)
  · skip
    have c1 := List.mem_singleton.mp c1
    exact (fun z => l_39 hA hR hd' hE hp g1 g2 (qn (by omega)) z (k39 z).1 (k39 z).2) (by assumption)
  · skip
    have c1 := List.mem_singleton.mp c1
    exact (fun z => l_40 hA hR hd' hE hp g1 g2 (qn (by omega)) z g7 g3 g4 (k40 z).1 (k40 z).2.1 (k40 z).2.2.1 (k40 z).2.2.2) (by assumption)
  · skip
    have c1 := List.mem_singleton.mp c1
    exact (fun z => l_41 hA hR hE (qy z) z) (by assumption)
  · skip
    have c1 := List.mem_singleton.mp c1
    exact (fun z => l_42 hA hR hd' hE hp g1 g2 (qn (by omega)) z) (by assumption)
  · skip
    exact (fun z => l_43 hA hR hd' hE hp g1 g2 (qn (by omega)) z (k43 z).1 (k43 z).2) (by first | assumption | (simp only [List.mem_cons, List.not_mem_nil, or_false, not_or] at c1; omega))
end RP7
