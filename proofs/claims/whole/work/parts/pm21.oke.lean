section OKE
variable {own : String} {cc : ByteArray} {nL : Nat} {ret : Option FieldType} {nm : String} {lg : Bool} {pc : Nat}
theorem mem_L9 {z : Nat} {locs L9 : List Loc} {g : Gp} (h1 : ∀ l ∈ locs, gA g l.base) (h2 : ∀ x ∈ L9, x.base = z) (h3 : gz g ≤ z) : ∀ l ∈ locs ++ L9, gA g l.base := by
  intro l hl
  rcases List.mem_append.mp hl with h | h
  · exact h1 l h
  · show gz g ≤ l.base
    rw [h2 l h]; exact h3
/-- the exception that is made once: new; dup; invokespecial in one -/
theorem ok_newE {ix ic : Nat} {T : u_T} (d0 : decode cc pc = .ok (.new ix, 3)) (d3 : decode cc (pc + 3) = .ok (.dup, 1)) (d4 : decode cc (pc + 4) = .ok (.invokespecial ic, 3)) (hc0 : vwCl[0]? = some (isE, T, 0)) (hk : tbw (.classLink own ix isE)) (hin : tbw (.instantiable isE 6)) (hini : tbw (.initialized isE)) (hat : ∀ w ∈ vx_at0 own ic isE upE, tbw w) : Okp own cc nL ret nm lg pc (sNE (pc + 7)) := by
  intro g p l e R s m args below meth c d hx hf hl al0 Q ls st al hi hr
  unfold sNE
  split
  case h_2 => trivial
  rename_i v
  refine ⟨⟨by show al.1 ≤ al.1 + 1; omega, by show al.2.1 ≤ al.2.1 + 6; omega⟩, fun c1 c2 hG h1 h2 h3 H locs lsr hD hS hL => ?_⟩
  have c1 : al.1 + 1 - al0.1 ≤ R.cells := c1
  have c2 : al.2.1 + 6 - al0.2.1 ≤ R.slots := c2
  have hSt := hx.2.2.2.2.2.2.2
  have hz0 : s.heap.size = gz g + (al0.1 - 2) := h1.1
  intro T0 hT X
  have htr : e.platform.stackTraces = false := (show e.platform.stackTraces = l.stackTraces by rw [X.admits.platform]).trans hl.2
  obtain ⟨vm₁, cX, kX, hfX, hkX, -, -, X₁, st1⟩ := X.newCold hx.1 (own := own) (C := isE) (index := ix) (n := 6) hx.2.2.2.2.1 (hSt.w hk args) (hSt.w hin args) (hSt.w hini args)
    (g := F0 m pc lsr [rv (gρ g) v]) rfl (by rw [hx.2.1]; exact d0) (by omega) (by omega)
  have hTz : T0.heap.size = gz g + (al.1 - 2) := by rw [hT]; exact hD.2.1
  generalize hT1 : (T0.setVm vm₁).pushCell { cls := cX, slots := kX.instanceTypes.map defaultValue, vm := .none } = T1 at X₁ st1
  have hT1h : T1.heap = T0.heap.push { cls := cX, slots := kX.instanceTypes.map defaultValue, vm := .none } := by rw [← hT1]; rfl
  have hcat : (Value.ref T0.heap.size).category = 1 := rfl
  have hcellA : T1.heap[T0.heap.size]? = some (freshCell cX kX) := by rw [← hT1]; exact State.heap_pushCell_size _ _
  have d3' : decode c.code (pc + 3) = .ok (.dup, 1) := by rw [hx.2.1]; exact d3
  have hU := hSt.2.2.2.2.2.2.2.2.2.1
  have hN := hSt.2.2.2.2.2.2.2.2.2.2
  have h9 : ∀ w ∈ Bundle.ownAtoms0 own ic isE upE, w.before args s = true := vx_own (fun w hw => hSt.w (hat w hw) args) (vx_isRefq hU.1) (vx_isRefq hN.1) hU.2.word hN.2.word
  have hcv : (rv (gρ g) v).category ≤ 2 := by unfold Value.category; split <;> omega
  have hsz := hS.1
  obtain ⟨vm₂, ce, L9, e1, e2, e3, X₂, st2⟩ := ct0 X₁ hx.1 htr (own := own) (cls := isE) (names := upE) (ic := ic) (A := gA g) hx.2.2.2.2.1 (by decide) (by decide) h9 hU hS.2.2 hfX hkX hcellA (by rw [hT]; exact hS.1)
    (g := { method := m, pc := pc + 4, locals := lsr, stack := .ref T0.heap.size :: .ref T0.heap.size :: [rv (gρ g) v], locked := none }) rfl (by rw [hx.2.2.1]; exact hL.2.1) (rest := [rv (gρ g) v]) rfl
    (by rw [hx.2.1]; exact d4) (by show 2 + 3 < R.frames; omega) (by
      have hm : ({ method := m, pc := pc + 4, locals := lsr, stack := .ref T0.heap.size :: .ref T0.heap.size :: [rv (gρ g) v], locked := none } : JFrame).monitorRoom = 0 := rfl
      rw [hm, hl.1]
      simp only [List.map_cons, List.sum_cons, List.map_nil, List.sum_nil, hcat]
      show _ + (13 * (2 + 1) + 41) ≤ _
      omega)
  have hq1 : T0.heap.size < T1.heap.size := by rw [hT1h, Array.size_push]; omega
  have hH1 : ((T1.setVm vm₂).setCell T0.heap.size ce).heap = T1.heap.setIfInBounds T0.heap.size ce := rfl
  generalize hH9 : ((T1.setVm vm₂).setCell T0.heap.size ce).heap = H1 at *
  have hz1 : H1.size = gz g + (al.1 - 2) + 1 := by rw [hH1, Array.size_setIfInBounds, hT1h, Array.size_push, hTz]
  have ho1 : ∀ q : Nat, q < H.size → H1[q]? = H[q]? := by
    intro q hq
    rw [hH1, Array.getElem?_setIfInBounds_ne (by rw [hT]; omega), hT1h, hT, Array.getElem?_push_lt hq, Array.getElem?_eq_getElem hq]
  have hn1 : H1[gz g + (al.1 - 2)]? = some ce := by rw [hH1, ← hTz, Array.getElem?_setIfInBounds_self_of_lt hq1]
  have hP1 : va_P (gD g) vwCl (wso (gz g) (gρ g) (gc g) al hi hr ++ [(gz g + (al.1 - 2), .inr (0, []))]) H1 := by
    refine (hD.2.2.1.kept (fun k x hx => ho1 x.1 ((hD.2.2.1 k x hx).lt))).app (fun k x hx => ?_)
    have hz : k < 1 := (List.getElem?_eq_some_iff.mp hx).1
    rw [show k = 0 by omega] at hx
    cases hx
    have hcl : cX = (gD g).1 0 := Option.some.inj (hfX.symm.trans (hSt.K.1 0 _ hc0).2.1)
    exact ⟨_, hc0, ce, hn1, e2.trans hcl, e3, fun k hk => absurd hk (Nat.not_lt_zero k)⟩
  have hD' : Dyn g (nwA al 0 0 6) (zeI hi al.1) (zeR hr al.1) H1 := hD.nw (by omega) (by omega) (cel_obj (by show (if al.1 = al.1 then (0, 0) else _).1 = 0; rw [if_pos rfl]) (by omega)) hP1 hz1
  have hS' : va_S (gA g) s.heap H1 (locs ++ L9) := ⟨by rw [hz1]; have := hS.1; rw [hD.2.1] at this; omega, fun q h1 h2 => (ho1 q (Nat.lt_of_lt_of_le h1 hS.1)).trans (hS.2.1 q h1 h2), mem_L9 hS.2.2 e1 (by omega)⟩
  have kk := hG ⟨h1.1, h1.2.1, by show al0.1 ≤ al.1 + 1; omega⟩ (by show al0.2.1 ≤ al.2.1 + 6; omega) (List.forall_mem_cons.mpr ⟨trivial, h3⟩) H1 (locs ++ L9) lsr hD' hS' hL
  have e10 : (nwA al 0 0 6).1 - al0.1 = al.1 - al0.1 + 1 := by show al.1 + 1 - al0.1 = _; omega
  have e11 : (nwA al 0 0 6).2.1 - al0.2.1 = al.2.1 - al0.2.1 + 6 := by show al.2.1 + 6 - al0.2.1 = _; omega
  rw [e10, e11] at kk
  obtain ⟨t, s1, s2⟩ := kk _ hH9 X₂
  refine ⟨t, st1 _ ?_, s2⟩
  show Steps p.tables e below (T1.setTop { method := m, pc := pc + 3, locals := lsr, stack := .ref T0.heap.size :: [rv (gρ g) v], locked := none }) _
  jvm_step X₁.here [X₁.here.top, hx.1, d3', Value.category]
  refine st2 _ ?_
  have e12 : Value.ref T0.heap.size = rv (gρ g) (vR (some al.1)) := by
    show _ = Value.ref (gρ g al.1)
    rw [hTz, ← adr2 (g := g) hD.1]
  rw [e12]
  exact s1
end OKE
