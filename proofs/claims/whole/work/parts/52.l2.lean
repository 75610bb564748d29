/-! LEVEL TWO: reading what was written, cells that stay -/
section L2
variable {al : AL} {hi : HI} {hr : HR} {a b c c' : Nat} {i j x : Int} {r : Option Nat}

theorem upI_a (h : b ≠ a) : upI hi a i x b j = hi b j := by unfold upI; rw [if_neg (fun q => h q.1)]
theorem upI_i (h : j ≠ i) : upI hi a i x b j = hi b j := by unfold upI; rw [if_neg (fun q => h q.2)]
theorem upI_eq : upI hi a i x a i = x := by unfold upI; rw [if_pos ⟨rfl, rfl⟩]
theorem upR_eq : upR hr a i r a i = r := by unfold upR; rw [if_pos ⟨rfl, rfl⟩]
theorem upI_self : upI hi a i x a j = if j = i then x else hi a j := by
  unfold upI
  by_cases h : j = i
  · rw [if_pos ⟨rfl, h⟩, if_pos h]
  · rw [if_neg (fun q => h q.2), if_neg h]

theorem upR_a (h : b ≠ a) : upR hr a i r b j = hr b j := by unfold upR; rw [if_neg (fun q => h q.1)]
theorem upR_i (h : j ≠ i) : upR hr a i r b j = hr b j := by unfold upR; rw [if_neg (fun q => h q.2)]
theorem upI_up {y : Int} : upI (upI hi a i x) a i y = upI hi a i y := by
  funext b j
  unfold upI
  by_cases h : b = a ∧ j = i
  · rw [if_pos h, if_pos h]
  · rw [if_neg h, if_neg h, if_neg h]
theorem upI_same (h : hi a i = x) : upI hi a i x = hi := by
  funext b j
  unfold upI
  by_cases q : b = a ∧ j = i
  · rw [if_pos q, q.1, q.2, h]
  · rw [if_neg q]
theorem isK_nw {k n s : Nat} (h : isK al a c) : isK (nwA al k n s) a c := by
  obtain ⟨h1, h2, h3⟩ := h
  refine ⟨h1, Nat.lt_succ_of_lt h2, ?_⟩
  show (if a = al.1 then (k, n) else al.2.2 a).1 = c
  rw [if_neg (by omega)]; exact h3
theorem isK_new {k n s : Nat} (h : 2 ≤ al.1) : isK (nwA al k n s) al.1 k := ⟨h, Nat.lt_succ_self _, by show (if al.1 = al.1 then (k, n) else al.2.2 al.1).1 = k; rw [if_pos rfl]⟩
theorem aln_nw {k n s : Nat} (h : a < al.1) : aln (nwA al k n s) a = aln al a := by
  show (if a = al.1 then (k, n) else al.2.2 a).2 = _
  rw [if_neg (by omega)]
theorem aln_new {k n s : Nat} : aln (nwA al k n s) al.1 = n := by
  show (if al.1 = al.1 then (k, n) else al.2.2 al.1).2 = _
  rw [if_pos rfl]
theorem isK_ne (h : isK al a c) (h' : isK al b c') (hc : c ≠ c') : a ≠ b := by
  rintro rfl
  exact hc (h.2.2.symm.trans h'.2.2)
theorem isK_lt (h : isK al a c) : a < al.1 := h.2.1
theorem nw_1 {k n s : Nat} : (nwA al k n s).1 = al.1 + 1 := rfl
end L2
