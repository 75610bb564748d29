section OK9
variable {own : String} {cc : ByteArray} {nL : Nat} {ret : Option FieldType} {nm : String} {lg : Bool} {pc : Nat}
theorem shw_sum {ρ : Nat → Nat} {w : Bool} {st : List AV} (h : shw w st = true) : ((st.map (rv ρ)).map fun v => v.category).sum ≤ 8 := by
  cases w with
  | true => exact sh8_sum h
  | false => exact sh4_sum h
theorem tk_map {ρ : Nat → Nat} {n : Nat} {st as st' : List AV} (h : tk n [] st = some (as, st')) : st.map (rv ρ) = (as.map (rv ρ)).reverse ++ st'.map (rv ρ) := by
  obtain ⟨-, h2, h3, h4⟩ := tk_len h
  rw [h2, h3, List.append_nil, List.map_reverse, List.reverse_reverse, ← List.map_append, List.take_append_drop]
theorem tk_ok {n : Nat} {st as st' : List AV} (h : tk n [] st = some (as, st')) (hv : ∀ v ∈ st, okv v) : (∀ v ∈ as, okv v) ∧ ∀ v ∈ st', okv v := by
  obtain ⟨-, h2, h3, h4⟩ := tk_len h
  refine ⟨fun v hv' => hv v ?_, fun v hv' => hv v ?_⟩
  · rw [h2, List.append_nil, List.mem_reverse] at hv'
    exact List.mem_of_mem_take hv'
  · rw [h3] at hv'
    exact List.mem_of_mem_drop hv'
/-- behind a call that comes back -/
theorem ok_back {g : Gp} {p : Program} {l : Launch} {e : Env} {R : Room} {s : State} {m : MethodId} {args : Array Value} {below : List Frame} {meth : Method} {c : Code} {al0 al al' : AL} {hi' : HI} {hr' : HR} {Q : State → Prop} {ls st' : List AV} {v : Option AV} {H : Heap} {locs : List Loc} {lsr : Array Slot} {st0 : List Value} {a0 : Array Value}
    (hG : Gd g lg nL p l e R s m args below meth c al0 Q (pc + 3) ls (v.toList ++ st') al' hi' hr') (h1 : s.heap.size = gz g + (al0.1 - 2) ∧ 2 ≤ al0.1 ∧ al0.1 ≤ al.1) (h2 : al0.2.1 ≤ al.2.1) (m1 : al.1 ≤ al'.1) (m2 : al.2.1 ≤ al'.2.1) (hst : ∀ v ∈ st', okv v) (hS : va_S (gA g) s.heap H locs) (hL : lrl g lg nL ls lsr)
    (hr : va_Run p l e R s m args below meth c H locs (al.1 - al0.1) (al.2.1 - al0.2.1) (al'.1 - al.1) (al'.2.1 - al.2.1) (F0 m pc lsr st0) (st'.map (rv (gρ g))) (Qr g al' hi' hr' v a0) (gA g)) : W p l e R s m args below meth c H locs (al.1 - al0.1) (al.2.1 - al0.2.1) Q (F0 m pc lsr st0) := by
  refine W.rn hr hS fun v9 st₀ t H1 locs1 e1 e2 hq hF hW => ?_
  obtain ⟨q1, q2, q3, q4, q5⟩ := hq
  cases q1
  have kk := hG ⟨h1.1, h1.2.1, by omega⟩ (by omega) (by
    intro w hw
    rcases List.mem_append.mp hw with h | h
    · exact q2 w (Option.mem_toList.mp h)
    · exact hst w h) H1 locs1 lsr (by rw [← e2]; exact q4) (hF q5) hL
  rw [show al'.1 - al0.1 = al.1 - al0.1 + (al'.1 - al.1) by omega, show al'.2.1 - al0.2.1 = al.2.1 - al0.2.1 + (al'.2.1 - al.2.1) by omega, List.map_append] at kk
  cases v with
  | none => exact kk
  | some w => exact kk
theorem Pk_at {g : Gp} {s U : State} {H : Heap} {locs : List Loc} {as : List AV} {al : AL} {hi : HI} {hr : HR} (hSt : Stt g s) (hD : Dyn g al hi hr H) (hS : va_S (gA g) s.heap H locs) (hU : U.heap = H) (hW : s.WarmedH U.vm) : Pk g as al hi hr (as.map (rv (gρ g))).toArray U := ⟨rfl, hSt.move hU hS hW, by rw [hU]; exact hD⟩
theorem ok_cs {w : Bool} {k' n ix : Nat} {wd : Cond} (hd : decode cc pc = .ok (.invokestatic ix, 3)) (hw : clw own k' ix n wd) (hst : tbw (.static (yy k'))) (hml : n ≤ mxl k') (ht : tho k' = false) : Okp own cc nL ret nm lg pc (sCS w k' n (pc + 3)) := by
  intro g p l e R s m args below meth c d hx hf hl al0 Q ls st al hi hr
  unfold sCS
  split
  · rename_i as st' htk
    split
    · rename_i hsh
      rw [Bool.and_eq_true] at hsh
      refine ⟨Or.inl ⟨hsh.1, by rw [(tk_len htk).1]; exact hml⟩, ?_⟩
      intro d' r al' hi' hr' hd' hM hth m1 m2 b1 b2
      subst hd'
      refine ⟨fun v hr9 hG h1 h2 h3 H locs lsr hD hS hL => ?_, fun hr9 => absurd (hth hr9) (by rw [ht]; decide)⟩
      subst hr9
      have hSt := hx.2.2.2.2.2.2.2
      obtain ⟨k1, k2⟩ := tk_ok htk h3
      have hM := hM k1
      have hsum := shw_sum (ρ := gρ g) hsh.2
      have hlen : (as.map (rv (gρ g))).length = n := by rw [List.length_map, (tk_len htk).1]; rfl
      rw [tk_map htk]
      refine ok_back hG h1 h2 m1 m2 k2 hS hL (a0 := (as.map (rv (gρ g))).toArray) ?_
      have hP : PreS s H (Pk g as al hi hr) (as.map (rv (gρ g))) := ⟨Pk_blind, fun U hU hW => Pk_at hSt hD hS hU hW⟩
      rcases hw.2.2.2.2.2.2.2 with e9 | ⟨host, e9⟩
      · exact va_runS ⟨hx.1, hx.2.1, hx.2.2.1, hx.2.2.2.2.1, fun w h => nomatch (show w ∈ ([] : List Cond) from h)⟩ hM ⟨callB_k hSt hw hf hl.1 e9, hSt.w hst args⟩ hP rfl hlen hL.2.1 rfl (by show 2 * 0 + _ ≤ 8; omega) hd ⟨by omega, by omega⟩
      · exact va_runSN ⟨hx.1, hx.2.1, hx.2.2.1, hx.2.2.2.2.1, fun w h => nomatch (show w ∈ ([] : List Cond) from h)⟩ hM ⟨callN_k hSt hw hf hl.1 e9, hSt.w hst args, trivial⟩ hP rfl hlen hL.2.1 rfl (by show 2 * 0 + _ ≤ 8; omega) hd ⟨by omega, by omega⟩
    · trivial
  · trivial
theorem ok_ci {k' n ix : Nat} {wd : Cond} (hd : decode cc pc = .ok (.invokespecial ix, 3)) (hw : clw own k' ix n wd) (hrn : rr k' = none) (hn1 : (yy k').name = "<init>") (hin : tbw (.instanceMethod (yy k'))) (hml : n + 1 ≤ mxl k') (ht : tho k' = false) : Okp own cc nL ret nm lg pc (sCI k' (n + 1) (pc + 3)) := by
  intro g p l e R s m args below meth c d hx hf hl al0 Q ls st al hi hr
  unfold sCI
  split
  · rename_i a as st' htk
    split
    · rename_i hsh
      rw [Bool.and_eq_true] at hsh
      refine ⟨Or.inl ⟨by rw [List.all_cons, hsh.1]; rfl, by rw [(tk_len htk).1]; exact hml⟩, ?_⟩
      intro d' r al' hi' hr' hd' hM hth m1 m2 b1 b2
      subst hd'
      refine ⟨fun v hr9 hG h1 h2 h3 H locs lsr hD hS hL => ?_, fun hr9 => absurd (hth hr9) (by rw [ht]; decide)⟩
      subst hr9
      have hSt := hx.2.2.2.2.2.2.2
      obtain ⟨k1, k2⟩ := tk_ok htk h3
      have hM := hM k1
      have hsum := sh4_sum (ρ := gρ g) hsh.2
      have hlen : (as.map (rv (gρ g))).length = n := by have := (tk_len htk).1; rw [List.length_map]; simp only [List.length_cons, List.length_nil] at this; omega
      rw [tk_map htk]
      refine ok_back hG h1 h2 m1 m2 k2 hS hL (a0 := ((vR (some a) :: as).map (rv (gρ g))).toArray) ?_
      have hP : PreS s H (Pk g (vR (some a) :: as) al hi hr) (.ref (gρ g a) :: as.map (rv (gρ g))) := ⟨Pk_blind, fun U hU hW => Pk_at hSt hD hS hU hW⟩
      have hstk : (F0 m pc lsr (((vR (some a) :: as).map (rv (gρ g))).reverse ++ st'.map (rv (gρ g)))).stack = (as.map (rv (gρ g))).reverse ++ .ref (gρ g a) :: st'.map (rv (gρ g)) := by
        show ((vR (some a) :: as).map (rv (gρ g))).reverse ++ st'.map (rv (gρ g)) = _
        rw [List.map_cons, List.reverse_cons, List.append_assoc]
        rfl
      rcases hw.2.2.2.2.2.2.2 with e9 | ⟨host, e9⟩
      · have cb := callB_k (args := args) (mc := al'.1 - al.1) (ms := al'.2.1 - al.2.1) hSt hw hf hl.1 e9
        rw [hrn] at cb
        exact va_runI ⟨hx.1, hx.2.1, hx.2.2.1, hx.2.2.2.2.1, fun w h => nomatch (show w ∈ ([] : List Cond) from h)⟩ hM ⟨cb, hn1, hSt.w hin args⟩ hP rfl hlen hL.2.1 hstk (by show 2 * 0 + _ ≤ 8; omega) hd ⟨by omega, by omega⟩
      · have cb := callN_k (args := args) (mc := al'.1 - al.1) (ms := al'.2.1 - al.2.1) hSt hw hf hl.1 e9
        rw [hrn] at cb
        exact va_runIN ⟨hx.1, hx.2.1, hx.2.2.1, hx.2.2.2.2.1, fun w h => nomatch (show w ∈ ([] : List Cond) from h)⟩ hM ⟨cb, hn1, hSt.w hin args⟩ hP rfl hlen hL.2.1 hstk (by show 2 * 0 + _ ≤ 8; omega) hd ⟨by omega, by omega⟩
    · trivial
  · trivial
theorem ok_cv {w : Bool} {k' n ix ci N : Nat} {C : String} {T : u_T} {wd : Cond} (hd : decode cc pc = .ok (.invokevirtual ix, 3)) (hw : clw own k' ix n wd) (hc : vwCl[ci]? = some (C, T, N)) (h14 : ci < 14) (hin : tbw (.instanceMethod (yy k'))) (hse : tbw (.selects C (yy k') (yy k'))) (hml : n + 1 ≤ mxl k') (ht : tho k' = false) : Okp own cc nL ret nm lg pc (sCV w k' (n + 1) ci (pc + 3)) := by
  intro g p l e R s m args below meth c d hx hf hl al0 Q ls st al hi hr
  unfold sCV
  split
  · rename_i a as st' htk
    split
    · rename_i hsh
      rw [Bool.and_eq_true, Bool.and_eq_true] at hsh
      refine ⟨Or.inl ⟨by rw [List.all_cons, hsh.2.1]; rfl, by rw [(tk_len htk).1]; exact hml⟩, ?_⟩
      intro d' r al' hi' hr' hd' hM hth m1 m2 b1 b2
      subst hd'
      refine ⟨fun v hr9 hG h1 h2 h3 H locs lsr hD hS hL => ?_, fun hr9 => absurd (hth hr9) (by rw [ht]; decide)⟩
      subst hr9
      have hSt := hx.2.2.2.2.2.2.2
      obtain ⟨k1, k2⟩ := tk_ok htk h3
      have hM := hM k1
      have hsum := shw_sum (ρ := gρ g) hsh.2.2
      have hlen : (as.map (rv (gρ g))).length = n := by have := (tk_len htk).1; rw [List.length_map]; simp only [List.length_cons, List.length_nil] at this; omega
      obtain ⟨a1, a2, a3⟩ := isKb_iff.mp hsh.1
      have he := wso_get (z := gz g) (ρ := gρ g) (cA := gc g) (hi := hi) (hr := hr) a1 a2
      rw [cel_obj a3 h14] at he
      rw [tk_map htk]
      refine ok_back hG h1 h2 m1 m2 k2 hS hL (a0 := ((vR (some a) :: as).map (rv (gρ g))).toArray) ?_
      have hP : PreV s H C (gρ g a) (Pk g (vR (some a) :: as) al hi hr) (as.map (rv (gρ g))) := ⟨Pk_blind, by rw [adr2 a1]; exact va_recv hSt.K hD.2.2.1 hc he, fun U hU hW => Pk_at hSt hD hS hU hW⟩
      have hstk : (F0 m pc lsr (((vR (some a) :: as).map (rv (gρ g))).reverse ++ st'.map (rv (gρ g)))).stack = (as.map (rv (gρ g))).reverse ++ .ref (gρ g a) :: st'.map (rv (gρ g)) := by
        show ((vR (some a) :: as).map (rv (gρ g))).reverse ++ st'.map (rv (gρ g)) = _
        rw [List.map_cons, List.reverse_cons, List.append_assoc]
        rfl
      rcases hw.2.2.2.2.2.2.2 with e9 | ⟨host, e9⟩
      · exact va_runV (C := C) ⟨hx.1, hx.2.1, hx.2.2.1, hx.2.2.2.2.1, fun w h => nomatch (show w ∈ ([] : List Cond) from h)⟩ hM ⟨callB_k hSt hw hf hl.1 e9, hSt.w hin args, hSt.w hse args⟩ hP rfl hlen hL.2.1 hstk (by show 2 * 0 + _ ≤ 8; omega) hd ⟨by omega, by omega⟩
      · exact va_runVN (C := C) ⟨hx.1, hx.2.1, hx.2.2.1, hx.2.2.2.2.1, fun w h => nomatch (show w ∈ ([] : List Cond) from h)⟩ hM ⟨callN_k hSt hw hf hl.1 e9, hSt.w hin args, hSt.w hse args⟩ hP rfl hlen hL.2.1 hstk (by show 2 * 0 + _ ≤ 8; omega) hd ⟨by omega, by omega⟩
    · trivial
  · trivial
theorem ok_cl {k' ix ci N : Nat} {C : String} {T : u_T} {wd : Cond} (hk : k' = 291) (hd : decode cc pc = .ok (.invokevirtual ix, 3)) (hw : clw own k' ix 3 wd) (hc : vwCl[ci]? = some (C, T, N)) (h14 : ci < 14) (hin : tbw (.instanceMethod (yy k'))) (hse : tbw (.selects C (yy k') (yy k'))) (ht : tho k' = false) : Okp own cc nL ret nm lg pc (sCL k' ci (pc + 3)) := by
  intro g p l e R s m args below meth c d hx hf hl al0 Q ls st al hi hr
  unfold sCL
  split
  · rename_i w x p9 a st'
    split
    · rename_i hsh
      rw [Bool.and_eq_true] at hsh
      refine ⟨Or.inr ⟨hk, _, _, _, _, rfl⟩, ?_⟩
      intro d' r al' hi' hr' hd' hM hth m1 m2 b1 b2
      subst hd'
      refine ⟨fun v hr9 hG h1 h2 h3 H locs lsr hD hS hL => ?_, fun hr9 => absurd (hth hr9) (by rw [ht]; decide)⟩
      subst hr9
      have hSt := hx.2.2.2.2.2.2.2
      have k1 : ∀ v ∈ [vR (some a), vI p9, vL x, vI w], okv v := by
        intro v hv
        apply h3
        simp only [List.mem_cons, List.not_mem_nil, or_false] at hv ⊢
        rcases hv with rfl | rfl | rfl | rfl <;> simp
      have k2 : ∀ v ∈ st', okv v := fun v hv => h3 v (by simp [hv])
      have hM := hM k1
      have hsum := sh4_sum (ρ := gρ g) hsh.2
      obtain ⟨a1, a2, a3⟩ := isKb_iff.mp hsh.1
      have he := wso_get (z := gz g) (ρ := gρ g) (cA := gc g) (hi := hi) (hr := hr) a1 a2
      rw [cel_obj a3 h14] at he
      refine ok_back hG h1 h2 m1 m2 k2 hS hL (a0 := ([vR (some a), vI p9, vL x, vI w].map (rv (gρ g))).toArray) ?_
      have hP : PreV s H C (gρ g a) (Pk g [vR (some a), vI p9, vL x, vI w] al hi hr) ([vI p9, vL x, vI w].map (rv (gρ g))) := ⟨Pk_blind, by rw [adr2 a1]; exact va_recv hSt.K hD.2.2.1 hc he, fun U hU hW => Pk_at hSt hD hS hU hW⟩
      rcases hw.2.2.2.2.2.2.2 with e9 | ⟨host, e9⟩
      · exact va_runV (C := C) ⟨hx.1, hx.2.1, hx.2.2.1, hx.2.2.2.2.1, fun w h => nomatch (show w ∈ ([] : List Cond) from h)⟩ hM ⟨callB_k hSt hw hf hl.1 e9, hSt.w hin args, hSt.w hse args⟩ hP rfl rfl hL.2.1 rfl (by show 2 * 0 + _ ≤ 8; omega) hd ⟨by omega, by omega⟩
      · exact va_runVN (C := C) ⟨hx.1, hx.2.1, hx.2.2.1, hx.2.2.2.2.1, fun w h => nomatch (show w ∈ ([] : List Cond) from h)⟩ hM ⟨callN_k hSt hw hf hl.1 e9, hSt.w hin args, hSt.w hse args⟩ hP rfl rfl hL.2.1 rfl (by show 2 * 0 + _ ≤ 8; omega) hd ⟨by omega, by omega⟩
    · trivial
  · trivial
end OK9
