section MV
variable {g : Gp} {s U : State} {H : Heap} {locs : List Loc}
theorem Stt.K (h : Stt g s) : va_K (gD g) vwCl (tyl (gc g)) s := h.1
theorem Stt.w (h : Stt g s) {w : Cond} (hw : tbw w) (A : Array Value) : w.before A s = true := h.2.1 w hw A
theorem Stt.move (h : Stt g s) (hU : U.heap = H) (hS : va_S (gA g) s.heap H locs) (hW : s.WarmedH U.vm) : Stt g U := by
  obtain ⟨h1, h2, h3, h4, h5, h6, h7, h8, h9, h10, h11⟩ := h
  have hk : ∀ q : Nat, q < gz g → U.heap[q]? = s.heap[q]? := fun q hq => by rw [hU]; exact hS.2.1 q (by omega) (by omega)
  refine ⟨va_K.moved hW.alike h1, fun w hw => wkd_move hw.2 hW (h2 w hw), (va_T.moved hW.alike h3).kept (fun q h1 h2 => hk q (by show q < gz g; have : ¬ gz g ≤ q := h2; omega)), (va_X.moved hW.alike h4).kept (hk _ h7), (va_Z.moved hW.alike h5).kept (fun q h1 h2 => hk q (by show q < gz g; have : ¬ gz g ≤ q := h2; omega)), h6, h7, ?_, h9, (vx_Zq.moved hW.alike h10).kept (fun q h1 h2 => hk q (by show q < gz g; have : ¬ gz g ≤ q := h2; omega)), (vx_Zq.moved hW.alike h11).kept (fun q h1 h2 => hk q (by show q < gz g; have : ¬ gz g ≤ q := h2; omega))⟩
  rw [hU]
  exact Nat.le_trans h8 hS.1
end MV
