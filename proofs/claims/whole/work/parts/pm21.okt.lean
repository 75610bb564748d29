section OKT
variable {own : String} {cc : ByteArray} {nL : Nat} {ret : Option FieldType} {nm : String} {lg : Bool} {pc : Nat}
/-- a call of a method out of which an exception may go -/
theorem ok_cvT {w : Bool} {k' n ix ci N : Nat} {C : String} {T : u_T} {wd : Cond} (hd : decode cc pc = .ok (.invokevirtual ix, 3)) (hw : clw own k' ix n wd) (hlk : wd = .methodLink own ix (yy k')) (hc : vwCl[ci]? = some (C, T, N)) (h14 : ci < 14) (hin : tbw (.instanceMethod (yy k'))) (hse : tbw (.selects C (yy k') (yy k'))) (hml : n + 1 ≤ mxl k') : Okp own cc nL ret nm lg pc (sCV w k' (n + 1) ci (pc + 3)) := by
  intro g p l e R s m args below meth c d hx hf hl al0 Q ls st al hi hr
  unfold sCV
  split
  · rename_i a as st' htk
    split
    · rename_i hsh
      rw [Bool.and_eq_true, Bool.and_eq_true] at hsh
      refine ⟨Or.inl ⟨by rw [List.all_cons, hsh.2.1]; rfl, by rw [(tk_len htk).1]; exact hml⟩, ?_⟩
      intro d' r al' hi' hr' hd' hM hth m1 m2 b1 b2
      subst hd'
      have hSt := hx.2.2.2.2.2.2.2
      have hsum := shw_sum (ρ := gρ g) hsh.2.2
      have hlen : (as.map (rv (gρ g))).length = n := by have := (tk_len htk).1; rw [List.length_map]; simp only [List.length_cons, List.length_nil] at this; omega
      obtain ⟨a1, a2, a3⟩ := isKb_iff.mp hsh.1
      have he := wso_get (z := gz g) (ρ := gρ g) (cA := gc g) (hi := hi) (hr := hr) a1 a2
      rw [cel_obj a3 h14] at he
      have hP : ∀ {H : Heap} {locs : List Loc}, Dyn g al hi hr H → va_S (gA g) s.heap H locs → PreV s H C (gρ g a) (Pk g (vR (some a) :: as) al hi hr) (as.map (rv (gρ g))) := fun hD hS => ⟨Pk_blind, by rw [adr2 a1]; exact va_recv hSt.K hD.2.2.1 hc he, fun U hU hW => Pk_at hSt hD hS hU hW⟩
      have hstk : ∀ lsr, (F0 m pc lsr (((vR (some a) :: as).map (rv (gρ g))).reverse ++ st'.map (rv (gρ g)))).stack = (as.map (rv (gρ g))).reverse ++ .ref (gρ g a) :: st'.map (rv (gρ g)) := by
        intro lsr
        show ((vR (some a) :: as).map (rv (gρ g))).reverse ++ st'.map (rv (gρ g)) = _
        rw [List.map_cons, List.reverse_cons, List.append_assoc]
        rfl
      refine ⟨fun v hr9 hG h1 h2 h3 H locs lsr hD hS hL => ?_, fun hr9 hG h1 h2 h3 H locs lsr hD hS hL => ?_⟩
      · subst hr9
        obtain ⟨k1, k2⟩ := tk_ok htk h3
        have hM := hM k1
        rw [tk_map htk]
        refine ok_back hG h1 h2 m1 m2 k2 hS hL (a0 := ((vR (some a) :: as).map (rv (gρ g))).toArray) ?_
        exact va_runV (C := C) ⟨hx.1, hx.2.1, hx.2.2.1, hx.2.2.2.2.1, fun w h => nomatch (show w ∈ ([] : List Cond) from h)⟩ hM ⟨callB_k hSt hw hf hl.1 hlk, hSt.w hin args, hSt.w hse args⟩ (hP hD hS) rfl hlen hL.2.1 (hstk lsr) (by show 2 * 0 + _ ≤ 8; omega) hd ⟨by omega, by omega⟩
      · subst hr9
        obtain ⟨k1, k2⟩ := tk_ok htk h3
        have hM : vx_Met l (yy k') [cwd k'] (rmk d' (al'.1 - al.1) (al'.2.1 - al.2.1)) (Pk g (vR (some a) :: as) al hi hr) (fun _ _ _ _ => False) (Xr g al' hi' hr') (al'.1 - al.1) (al'.2.1 - al.2.1) (gA g) := hM k1
        rw [tk_map htk]
        have hr := vx_runV (C := C) ⟨hx.1, hx.2.1, hx.2.2.1, hx.2.2.2.2.1, fun w h => nomatch (show w ∈ ([] : List Cond) from h)⟩ hM ⟨callB_k (args := args) hSt hw hf hl.1 hlk, hSt.w hin args, hSt.w hse args⟩ (hP hD hS) (g := F0 m pc lsr (((vR (some a) :: as).map (rv (gρ g))).reverse ++ st'.map (rv (gρ g)))) (locs := locs) (cells := al.1 - al0.1) (slots := al.2.1 - al0.2.1) (below := below) (meth := meth) (e := e) rfl hlen hL.2.1 (hstk lsr) (by show 2 * 0 + _ ≤ 8; omega) hd ⟨by omega, by omega⟩
        intro T9 hT X
        rcases hr T9 hT X with ⟨v, st₀, t, T', L, -, -, -, -, -, hq, -⟩ | ⟨q, st₀, t, T', L, E, ce, g1, X', hL', g2, g3, ⟨rfl, hD', hz, hk⟩, g4, g5, g6, st9⟩
        · exact hq.elim
        · rw [g1] at hz hk
          have hS' : va_S (gA g) s.heap T'.heap (locs ++ L) := ⟨Nat.le_trans hS.1 (by rw [g2]; exact hz), fun q h1 h2 => by rw [g2, hk q (Nat.lt_of_lt_of_le h1 hS.1) h2]; exact hS.2.1 q h1 h2, fun q hq => by
            rcases List.mem_append.mp hq with h | h
            · exact hS.2.2 q h
            · exact hL' q h⟩
          rw [show al.1 - al0.1 + (al'.1 - al.1) = al'.1 - al0.1 by omega, show al.2.1 - al0.2.1 + (al'.2.1 - al.2.1) = al'.2.1 - al0.2.1 by omega] at X'
          obtain ⟨t2, a1, b1⟩ := hG ⟨h1.1, h1.2.1, by omega⟩ (by omega) T'.heap (locs ++ L) lsr (st'.map (rv (gρ g))) q ce (by rw [g2]; exact hD') hS' hL (by rw [g2]; exact g4) g5 g6 T' rfl X'
          exact ⟨t2, st9.trans a1, b1⟩
    · trivial
  · trivial
/-- athrow of the exception that was made before -/
theorem ok_athrow {T : u_T} (hc : vwCl[0]? = some (isE, T, 0)) (hd : decode cc pc = .ok (.athrow, 1)) : Okp own cc nL ret nm lg pc sTh := by
  intro g p l e R s m args below meth c d hx hf hl al0 Q ls st al hi hr
  unfold sTh
  split
  · rename_i a st'
    split
    · rename_i hK
      intro hG h1 h2 h3 H locs lsr hD hS hL
      obtain ⟨a1, a2, a3⟩ := isKb_iff.mp hK
      have hSt := hx.2.2.2.2.2.2.2
      have he := wso_get (z := gz g) (ρ := gρ g) (cA := gc g) (hi := hi) (hr := hr) a1 a2
      rw [cel_obj a3 (by omega)] at he
      obtain ⟨cell, e1, e2, e3⟩ := va_recv hSt.K hD.2.2.1 hc he
      have hvm : cell.vm = .none := by
        obtain ⟨r, q1, cell', q2, q3, q4, -⟩ := hD.2.2.1 _ _ he
        have q2 : H[gz g + (a - 2)]? = some cell' := q2
        cases Option.some.inj (e1.symm.trans q2)
        exact q4
      intro T9 hT X
      have hdg : decode c.code pc = .ok (.athrow, 1) := by rw [hx.2.1]; exact hd
      obtain ⟨t2, s1, s2⟩ := hG h1 h2 H locs lsr (st'.map (rv (gρ g))) (gρ g a) cell hD hS hL (by rw [adr2 a1]; exact e1) hvm e3 T9 hT X
      refine ⟨t2, ?_, s2⟩
      have hxe := hx.1
      show Steps p.tables e below (T9.setTop (F0 m pc lsr (.ref (gρ g a) :: st'.map (rv (gρ g))))) t2
      jvm_step X.here [X.here.top, hxe, hdg, athrow.wp_sem]
      exact s1
    · trivial
  · trivial
end OKT
