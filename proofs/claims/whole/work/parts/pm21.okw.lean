section OKW
variable {own : String} {cc : ByteArray} {nL : Nat} {ret : Option FieldType} {nm : String} {lg : Bool} {pc : Nat}
/-- a call of a method that has handlers of its own -/
theorem ok_cvW {w : Bool} {k' n ix ci N : Nat} {C : String} {T : u_T} {hh : List (Nat × Nat × Nat × Nat)} (hd : decode cc pc = .ok (.invokevirtual ix, 3)) (hcd : cwd k' = .codeWith (yy k') (bb k') (mxl k') (rr k') hh) (w1 : tbw (cwd k')) (w2 : tbw (.initialized (yy k').cls)) (hne : (yy k').cls ≠ "java/lang/invoke/MethodHandle" ∧ (yy k').cls ≠ "java/lang/invoke/VarHandle") (hsig : ∀ sig, parseMethodDescriptor (yy k').desc = some sig → n = sig.parameters.length) (hm1 : mxl k' ≤ 100) (w3 : tbw (.methodLink own ix (yy k'))) (hc : vwCl[ci]? = some (C, T, N)) (h14 : ci < 14) (hin : tbw (.instanceMethod (yy k'))) (hse : tbw (.selects C (yy k') (yy k'))) (hml : n + 1 ≤ mxl k') (ht : tho k' = false) : Okp own cc nL ret nm lg pc (sCV w k' (n + 1) ci (pc + 3)) := by
  intro g p l e R s m args below meth c d hx hf hl al0 Q ls st al hi hr
  unfold sCV
  split
  · rename_i a as st' htk
    split
    · rename_i hsh
      rw [Bool.and_eq_true, Bool.and_eq_true] at hsh
      refine ⟨Or.inl ⟨by rw [List.all_cons, hsh.2.1]; rfl, by rw [(tk_len htk).1]; exact hml⟩, ?_⟩
      intro d' r al' hi' hr' hd' hM hth m1 m2 b1 b2
      subst hd'
      refine ⟨fun v hr9 hG h1 h2 h3 H locs lsr hD hS hL => ?_, fun hr9 => absurd (hth hr9) (by rw [ht]; decide)⟩
      subst hr9
      have hSt := hx.2.2.2.2.2.2.2
      obtain ⟨k1, k2⟩ := tk_ok htk h3
      have hM := hM k1
      have hsum := shw_sum (ρ := gρ g) hsh.2.2
      have hlen : (as.map (rv (gρ g))).length = n := by have := (tk_len htk).1; rw [List.length_map]; simp only [List.length_cons, List.length_nil] at this; omega
      obtain ⟨a1, a2, a3⟩ := isKb_iff.mp hsh.1
      have he := wso_get (z := gz g) (ρ := gρ g) (cA := gc g) (hi := hi) (hr := hr) a1 a2
      rw [cel_obj a3 h14] at he
      rw [tk_map htk]
      refine ok_back hG h1 h2 m1 m2 k2 hS hL (a0 := ((vR (some a) :: as).map (rv (gρ g))).toArray) ?_
      have hP : PreV s H C (gρ g a) (Pk g (vR (some a) :: as) al hi hr) (as.map (rv (gρ g))) := ⟨Pk_blind, by rw [adr2 a1]; exact va_recv hSt.K hD.2.2.1 hc he, fun U hU hW => Pk_at hSt hD hS hU hW⟩
      have hstk : (F0 m pc lsr (((vR (some a) :: as).map (rv (gρ g))).reverse ++ st'.map (rv (gρ g)))).stack = (as.map (rv (gρ g))).reverse ++ .ref (gρ g a) :: st'.map (rv (gρ g)) := by
        show ((vR (some a) :: as).map (rv (gρ g))).reverse ++ st'.map (rv (gρ g)) = _
        rw [List.map_cons, List.reverse_cons, List.append_assoc]
        rfl
      exact vx_runVW (C := C) ⟨hx.1, hx.2.1, hx.2.2.1, hx.2.2.2.2.1, fun w h => nomatch (show w ∈ ([] : List Cond) from h)⟩ hM ⟨⟨rfl, rfl, by show d' + 10 + 1 ≤ R.frames; omega, by show 8 + (mxl k' + 11) + 200 * (d' + 1) ≤ R.locals; omega, clw_ws hSt w1, by rw [← hcd]; exact List.mem_cons_self⟩, by rw [← hcd]; exact hSt.w w1 args, hSt.w w2 args, hne, hsig, hSt.w w3 args, hSt.w hin args, hSt.w hse args⟩ hP rfl hlen hL.2.1 hstk (by show 2 * 0 + _ ≤ 8; omega) hd ⟨by omega, by omega⟩
    · trivial
  · trivial
end OKW
