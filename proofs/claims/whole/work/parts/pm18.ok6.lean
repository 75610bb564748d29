section OK6
variable {own : String} {cc : ByteArray} {nL : Nat} {ret : Option FieldType} {nm : String} {lg : Bool} {pc : Nat}
theorem W.ub {p : Program} {l : Launch} {e : Env} {R : Room} {s : State} {m : MethodId} {args : Array Value} {below : List Frame} {meth : Method} {c : Code} {H : Heap} {locs : List Loc} {cells slots : Nat} {Q : State → Prop} {f : JFrame} (k : H.size ≤ s.heap.size + cells → W p l e R s m args below meth c H locs cells slots Q f) : W p l e R s m args below meth c H locs cells slots Q f := fun T hT X => k (by have := X.heapSize; rw [hT] at this; exact this) T hT X
section
variable {g : Gp} {al : AL} {hi : HI} {hr : HR} {H H1 : Heap} {q : Nat} {e : va_E}
/-- a new cell lies behind all others -/
theorem new_at (h2 : 2 ≤ al.1) (hP : va_P (gD g) vwCl (wso (gz g) (gρ g) (gc g) al hi hr ++ [(q, e)]) H1) (hD : va_D (gA g) (wso (gz g) (gρ g) (gc g) al hi hr ++ [(q, e)])) (hub : H1.size ≤ gz g + (al.1 - 2) + 1) : q = gz g + (al.1 - 2) ∧ H1.size = gz g + (al.1 - 2) + 1 := by
  have hlen : (wso (gz g) (gρ g) (gc g) al hi hr).length = al.1 - 2 := by simp [wso]
  have hq : (wso (gz g) (gρ g) (gc g) al hi hr ++ [(q, e)])[al.1 - 2]? = some (q, e) := by rw [List.getElem?_append_right (by omega), hlen, Nat.sub_self]; rfl
  have h1 : q < H1.size := (hP _ _ hq).lt
  have h3 : gz g ≤ q := hD.2 _ _ hq
  have h4 : ¬ q < gz g + (al.1 - 2) := by
    intro h
    have hj : (wso (gz g) (gρ g) (gc g) al hi hr ++ [(q, e)])[q - gz g]? = some (gz g + (q - gz g), celE (gρ g) (gc g) al hi hr (q - gz g + 2)) := by
      rw [List.getElem?_append_left (by omega)]
      have := wso_get (z := gz g) (ρ := gρ g) (cA := gc g) (al := al) (hi := hi) (hr := hr) (a := q - gz g + 2) (by omega) (by omega)
      rw [show q - gz g + 2 - 2 = q - gz g by omega] at this
      exact this
    have := hD.1 _ _ _ _ hq hj (by simp only; omega)
    omega
  omega
theorem zeI_ne {a b : Nat} {j : Int} (h : b ≠ a) : zeI hi a b j = hi b j := by unfold zeI; rw [if_neg h]
theorem zeR_ne {a b : Nat} {j : Int} (h : b ≠ a) : zeR hr a b j = hr b j := by unfold zeR; rw [if_neg h]
theorem zeI_at {a : Nat} {j : Int} : zeI hi a a j = 0 := by unfold zeI; rw [if_pos rfl]
theorem zeR_at {a : Nat} {j : Int} : zeR hr a a j = none := by unfold zeR; rw [if_pos rfl]
theorem Dyn.nw {k n sl : Nat} (h : Dyn g al hi hr H) (hk : k ≤ 20) (hn : n ≤ 100000) (he : celE (gρ g) (gc g) (nwA al k n sl) (zeI hi al.1) (zeR hr al.1) al.1 = e)
    (hP : va_P (gD g) vwCl (wso (gz g) (gρ g) (gc g) al hi hr ++ [(gz g + (al.1 - 2), e)]) H1) (hz : H1.size = gz g + (al.1 - 2) + 1) : Dyn g (nwA al k n sl) (zeI hi al.1) (zeR hr al.1) H1 := by
  obtain ⟨h1, h2, h3, h4, ⟨f1, f2, f3, f4⟩, h6⟩ := h
  have ht : ∀ b, b ≠ al.1 → (nwA al k n sl).2.2 b = al.2.2 b := fun b hb => by show (if b = al.1 then _ else _) = _; rw [if_neg hb]
  rw [wso_push (al' := nwA al k n sl) (hi' := zeI hi al.1) (hr' := zeR hr al.1) h1 rfl he (fun b hb => celE_congr (ht b (by omega)) (fun j => zeI_ne (by omega)) (fun j => zeR_ne (by omega)))] at hP
  refine ⟨by show 2 ≤ al.1 + 1; omega, by show _ = gz g + (al.1 + 1 - 2); omega, hP, fun a i => ?_, ⟨by rw [ht 0 (by omega)]; exact f1, by rw [ht 1 (by omega)]; exact f2, fun j => by rw [zeI_ne (by omega)]; exact f3 j, fun j => by rw [zeI_ne (by omega)]; exact f4 j⟩, fun a ha hb => ?_⟩
  · unfold zeI
    split
    · exact r0
    · exact h4 a i
  · by_cases e : a = al.1
    · subst e
      show (if al.1 = al.1 then (k, n) else _).1 ≤ 20 ∧ (if al.1 = al.1 then (k, n) else _).2 ≤ 100000
      rw [if_pos rfl]
      exact ⟨hk, hn⟩
    · rw [ht a e]
      have hb : a < al.1 + 1 := hb
      exact h6 a ha (by omega)
end
/-- what a class's making needs of the tables -/
def nww (own : String) (ci ix N : Nat) (C : String) (T : u_T) (ty : Nat → FieldType) : Prop := vwCl[ci]? = some (C, T, N) ∧ nF ci = N ∧ ci < 14 ∧ (∀ w ∈ u_ws C T N, tbw w) ∧ (∀ k, k < N → parseFieldDescriptor (T k).2.2.1 = some (ty k)) ∧ tbw (.classLink own ix C) ∧ tbw (.instantiable C N) ∧ tbw (.initialized C) ∧ (∀ j, j < N → defaultValue (ty j) = if fR ci j then .null else .int 0)
theorem ok_new {ci ix N : Nat} {C : String} {T : u_T} {ty : Nat → FieldType} (hd : decode cc pc = .ok (.new ix, 3)) (hw : nww own ci ix N C T ty) : Okp own cc nL ret nm lg pc (sNew ci N (pc + 3)) := by
  intro g p l e R s m args below meth c d hx hf hl al0 Q ls st al hi hr
  obtain ⟨e1, e2, e3, e4, e5, e6, e7, e8, e9⟩ := hw
  refine ⟨⟨by show al.1 ≤ al.1 + 1; omega, by show al.2.1 ≤ al.2.1 + N; omega⟩, fun c1 c2 hG h1 h2 h3 H locs lsr hD hS hL => ?_⟩
  have c1 : al.1 + 1 - al0.1 ≤ R.cells := c1
  have c2 : al.2.1 + N - al0.2.1 ≤ R.slots := c2
  have hSt := hx.2.2.2.2.2.2.2
  have hz0 : s.heap.size = gz g + (al0.1 - 2) := h1.1
  have hA : ∀ q, s.heap.size ≤ q → gA g q := fun q h => by show gz g ≤ q; omega
  refine va_new (Ts := u_ws C T N) (fs := (List.range N).map (fun j => if fR ci j then .null else .int 0)) hx.1 hx.2.1 (fun w h => hSt.w (e4 w h) args) (fun w h => h) ty e5 hx.2.2.2.2.1 (hSt.w e6 args) (hSt.w e7 args) (hSt.w e8 args) hSt.K hD.2.2.1 wso_D hS hA e1 (fun j hj => ?_) (by omega) (by omega) hd fun q H1 p1 p2 p3 => ?_
  · rw [e9 j hj]
    simp [vp_V, hj]
  · refine W.ub fun hub => ?_
    obtain ⟨q1, q2⟩ := new_at hD.1 p1 p2 (by omega)
    subst q1
    have hD' : Dyn g (nwA al ci 0 N) (zeI hi al.1) (zeR hr al.1) H1 := by
      refine hD.nw (by omega) (by omega) ?_ p1 q2
      have ht : ((nwA al ci 0 N).2.2 al.1).1 = ci := by show (if al.1 = al.1 then (ci, 0) else _).1 = ci; rw [if_pos rfl]
      rw [cel_obj ht e3, e2]
      congr 2
      refine List.map_congr_left fun j hj => ?_
      unfold fv
      rw [zeI_at, zeR_at]
      rfl
    have kk := hG ⟨h1.1, h1.2.1, by show al0.1 ≤ al.1 + 1; omega⟩ (by show al0.2.1 ≤ al.2.1 + N; omega) (List.forall_mem_cons.mpr ⟨trivial, h3⟩) H1 locs lsr hD' p3 hL
    have e10 : (nwA al ci 0 N).1 - al0.1 = al.1 - al0.1 + 1 := by show al.1 + 1 - al0.1 = _; omega
    have e11 : (nwA al ci 0 N).2.1 - al0.2.1 = al.2.1 - al0.2.1 + N := by show al.2.1 + N - al0.2.1 = _; omega
    rw [e10, e11] at kk
    show W _ _ _ _ _ _ _ _ _ _ _ _ _ _ _ (F0 m (pc + 3) lsr (.ref (gz g + (al.1 - 2)) :: st.map (rv (gρ g))))
    rw [← adr2 (g := g) hD.1]
    exact kk
end OK6
