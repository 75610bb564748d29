section OK7
variable {own : String} {cc : ByteArray} {nL : Nat} {ret : Option FieldType} {nm : String} {lg : Bool} {pc : Nat}
theorem nwA_tag {al : AL} {k n sl : Nat} : (nwA al k n sl).2.2 al.1 = (k, n) := by show (if al.1 = al.1 then (k, n) else _) = _; rw [if_pos rfl]
theorem ok_newarray {k : Nat} {at0 : ArrayType} {ty : FieldType} (hd : decode cc pc = .ok (.newarray at0, 2)) (hty : newarray.typeOf at0 = ty) (hk : 14 ≤ k ∧ k < 17) (ht : ∀ cA : Nat → ClassId, (tyl cA)[k - 14]? = some (cA k, ty)) (hdv : defaultValue ty = .int 0) (hcb : componentBytes ty ≤ 8) (hra : ∀ (U : State) (cA : ClassId), va_RA U cA ty → U.vm.findClass ("[" ++ ty.toString) = some cA) (hw : tbw (.arrayClass ty)) : Okp own cc nL ret nm lg pc (sNA k (pc + 2)) := by
  intro g p l e R s m args below meth c d hx hf hl al0 Q ls st al hi hr
  unfold sNA
  split
  · rename_i x st
    split
    · rename_i hx0
      refine ⟨⟨by show al.1 ≤ al.1 + 1; omega, by show al.2.1 ≤ al.2.1 + x.toNat; omega⟩, fun c1 c2 hG h1 h2 h3 H locs lsr hD hS hL => ?_⟩
      have c1 : al.1 + 1 - al0.1 ≤ R.cells := c1
      have c2 : al.2.1 + x.toNat - al0.2.1 ≤ R.slots := c2
      obtain ⟨r1, r2⟩ := List.forall_mem_cons.mp h3
      have r1 : rng x := r1
      have hSt := hx.2.2.2.2.2.2.2
      have hz0 : s.heap.size = gz g + (al0.1 - 2) := h1.1
      have hA : ∀ q, s.heap.size ≤ q → gA g q := fun q h => by show gz g ≤ q; omega
      have hn0 : ¬ Int32.ofInt x < 0 := fun h => by rw [← oi_0, oi_lt r1 r0] at h; omega
      have hnc : (Int32.ofInt x).toNatClampNeg = x.toNat := oi_clamp r1 hx0.1
      have hby : x.toNat * componentBytes ty ≤ 536870912 := by
        have : x.toNat * componentBytes ty ≤ 100000 * 8 := Nat.mul_le_mul (by omega) hcb
        omega
      refine va_newa (ty := ty) (a0 := (x.toNat, .inl (fun _ => 0))) hx.1 hx.2.1 (atype := at0) (by rw [hty]; exact hSt.w hw args) hty hSt.K hD.2.2.1 wso_D hS hA (fun cA => by rw [hdv]; rfl) hn0 hnc hby (by omega) (by omega) hd fun q cA H1 pK p1 p2 p3 => ?_
      refine W.ub fun hub => ?_
      obtain ⟨q1, q2⟩ := new_at hD.1 p1 p2 (by omega)
      subst q1
      have hcA : cA = gc g k := by
        have g1 := hra s cA (pK.2 (tyl (gc g)).length (cA, ty) (by rw [List.getElem?_append_right (Nat.le_refl _), Nat.sub_self]; rfl)).2
        have g2 := hra s (gc g k) (hSt.K.2 (k - 14) _ (ht (gc g))).2
        exact Option.some.inj (g1.symm.trans g2)
      subst hcA
      have hD' : Dyn g (nwA al k x.toNat x.toNat) (zeI hi al.1) (zeR hr al.1) H1 := by
        refine hD.nw (by omega) (by omega) ?_ p1 q2
        rw [cel_int (c := k) (by rw [nwA_tag]) hk, nwA_tag]
        simp only [zeI_at, oi_0]
      have kk := hG ⟨h1.1, h1.2.1, by show al0.1 ≤ al.1 + 1; omega⟩ (by show al0.2.1 ≤ al.2.1 + x.toNat; omega) (List.forall_mem_cons.mpr ⟨trivial, r2⟩) H1 locs lsr hD' p3 hL
      have e10 : (nwA al k x.toNat x.toNat).1 - al0.1 = al.1 - al0.1 + 1 := by show al.1 + 1 - al0.1 = _; omega
      have e11 : (nwA al k x.toNat x.toNat).2.1 - al0.2.1 = al.2.1 - al0.2.1 + x.toNat := by show al.2.1 + x.toNat - al0.2.1 = _; omega
      rw [e10, e11] at kk
      show W _ _ _ _ _ _ _ _ _ _ _ _ _ _ _ (F0 m (pc + 2) lsr (.ref (gz g + (al.1 - 2)) :: st.map (rv (gρ g))))
      rw [← adr2 (g := g) hD.1]
      exact kk
    · trivial
  · trivial
theorem ok_newI (hd : decode cc pc = .ok (.newarray .int, 2)) (hw : tbw (.arrayClass .int)) : Okp own cc nL ret nm lg pc (sNA 15 (pc + 2)) := ok_newarray (ty := .int) hd rfl (by decide) (fun _ => rfl) rfl (by decide) (fun _ _ h => h) hw
theorem ok_newB (hd : decode cc pc = .ok (.newarray .byte, 2)) (hw : tbw (.arrayClass .byte)) : Okp own cc nL ret nm lg pc (sNA 14 (pc + 2)) := ok_newarray (ty := .byte) hd rfl (by decide) (fun _ => rfl) rfl (by decide) (fun _ _ h => h) hw
theorem ok_newZ (hd : decode cc pc = .ok (.newarray .boolean, 2)) (hw : tbw (.arrayClass .boolean)) : Okp own cc nL ret nm lg pc (sNA 16 (pc + 2)) := ok_newarray (ty := .boolean) hd rfl (by decide) (fun _ => rfl) rfl (by decide) (fun _ _ h => h) hw
theorem ok_anew {k ix : Nat} {C : String} (hd : decode cc pc = .ok (.anewarray ix, 3)) (hk : 17 ≤ k ∧ k ≤ 20) (ht : ∀ cA : Nat → ClassId, (tyl cA)[k - 14]? = some (cA k, .object C)) (hw1 : tbw (.classLink own ix C)) (hw2 : tbw (.arrayOver (.object C))) : Okp own cc nL ret nm lg pc (sNA k (pc + 3)) := by
  intro g p l e R s m args below meth c d hx hf hl al0 Q ls st al hi hr
  unfold sNA
  split
  · rename_i x st
    split
    · rename_i hx0
      refine ⟨⟨by show al.1 ≤ al.1 + 1; omega, by show al.2.1 ≤ al.2.1 + x.toNat; omega⟩, fun c1 c2 hG h1 h2 h3 H locs lsr hD hS hL => ?_⟩
      have c1 : al.1 + 1 - al0.1 ≤ R.cells := c1
      have c2 : al.2.1 + x.toNat - al0.2.1 ≤ R.slots := c2
      obtain ⟨r1, r2⟩ := List.forall_mem_cons.mp h3
      have r1 : rng x := r1
      have hSt := hx.2.2.2.2.2.2.2
      have hz0 : s.heap.size = gz g + (al0.1 - 2) := h1.1
      have hA : ∀ q, s.heap.size ≤ q → gA g q := fun q h => by show gz g ≤ q; omega
      have hn0 : ¬ Int32.ofInt x < 0 := fun h => by rw [← oi_0, oi_lt r1 r0] at h; omega
      have hnc : (Int32.ofInt x).toNatClampNeg = x.toNat := oi_clamp r1 hx0.1
      refine va_newq (C := C) hx.1 hx.2.1 hx.2.2.2.2.1 (hSt.w hw1 args) (va_AO.of (hSt.w hw2 args)) hSt.K hD.2.2.1 wso_D hS hA hn0 hnc (by omega) (by omega) (by omega) hd fun q cA H1 pK p1 p2 p3 => ?_
      refine W.ub fun hub => ?_
      obtain ⟨q1, q2⟩ := new_at hD.1 p1 p2 (by omega)
      subst q1
      have hcA : cA = gc g k := by
        obtain ⟨-, -, -, -, -, g1⟩ := (pK.2 (tyl (gc g)).length (cA, .object C) (by rw [List.getElem?_append_right (Nat.le_refl _), Nat.sub_self]; rfl)).2
        obtain ⟨-, -, -, -, -, g2⟩ := (hSt.K.2 (k - 14) _ (ht (gc g))).2
        exact Option.some.inj (g1.symm.trans g2)
      subst hcA
      have hD' : Dyn g (nwA al k x.toNat x.toNat) (zeI hi al.1) (zeR hr al.1) H1 := by
        refine hD.nw (by omega) (by omega) ?_ p1 q2
        rw [cel_ref (c := k) (by rw [nwA_tag]) hk.1, nwA_tag]
        simp only [zeR_at, Option.map_none]
      have kk := hG ⟨h1.1, h1.2.1, by show al0.1 ≤ al.1 + 1; omega⟩ (by show al0.2.1 ≤ al.2.1 + x.toNat; omega) (List.forall_mem_cons.mpr ⟨trivial, r2⟩) H1 locs lsr hD' p3 hL
      have e10 : (nwA al k x.toNat x.toNat).1 - al0.1 = al.1 - al0.1 + 1 := by show al.1 + 1 - al0.1 = _; omega
      have e11 : (nwA al k x.toNat x.toNat).2.1 - al0.2.1 = al.2.1 - al0.2.1 + x.toNat := by show al.2.1 + x.toNat - al0.2.1 = _; omega
      rw [e10, e11] at kk
      show W _ _ _ _ _ _ _ _ _ _ _ _ _ _ _ (F0 m (pc + 3) lsr (.ref (gz g + (al.1 - 2)) :: st.map (rv (gρ g))))
      rw [← adr2 (g := g) hD.1]
      exact kk
    · trivial
  · trivial
theorem cpy_i {hi : HI} {a b : Nat} {sp dp n : Int} (r1 : rng sp) (r2 : rng dp) (r3 : rng n) (h1 : 0 ≤ sp) (h2 : 0 ≤ dp) (h3 : 0 ≤ n) : va_cpy (fun j : Nat => Int32.ofInt (hi a j)) (fun j : Nat => Int32.ofInt (hi b j)) (Int32.ofInt sp).toNatClampNeg (Int32.ofInt dp).toNatClampNeg (Int32.ofInt n).toNatClampNeg = fun j : Nat => Int32.ofInt (cpI hi a sp b dp n b j) := by
  funext j
  rw [oi_clamp r1 h1, oi_clamp r2 h2, oi_clamp r3 h3]
  unfold va_cpy cpI
  by_cases e : dp.toNat ≤ j ∧ j < dp.toNat + n.toNat
  · rw [if_pos e, if_pos ⟨rfl, by omega, by omega⟩]
    have e2 : ((sp.toNat + (j - dp.toNat) : Nat) : Int) = sp + ((j : Int) - dp) := by omega
    show Int32.ofInt (hi a ((sp.toNat + (j - dp.toNat) : Nat) : Int)) = _
    rw [e2]
  · rw [if_neg e, if_neg (fun q => e ⟨by omega, by omega⟩)]
theorem ok_acopy {ix : Nat} (hd : decode cc pc = .ok (.invokestatic ix, 3)) (w1 : tbw (.methodLink own ix arraycopyName)) (w2 : tbw (.native arraycopyName)) (w3 : tbw (.static arraycopyName)) (w4 : tbw (.initialized "java/lang/System")) : Okp own cc nL ret nm lg pc (sCp (pc + 3)) := by
  intro g p l e R s m args below meth c d hx hf hl al0 Q ls st al hi hr
  unfold sCp
  split
  · rename_i n dp b sp a st
    split
    · rename_i hK
      simp only [Bool.and_eq_true, decide_eq_true_eq] at hK
      obtain ⟨⟨⟨hs, hKa⟩, hKb⟩, g1, g2, g3, g4, g5⟩ := hK
      refine ⟨⟨Nat.le_refl _, Nat.le_refl _⟩, fun c1 c2 hG h1 h2 h3 H locs lsr hD hS hL => ?_⟩
      obtain ⟨rn, h3⟩ := List.forall_mem_cons.mp h3
      obtain ⟨rd, h3⟩ := List.forall_mem_cons.mp h3
      obtain ⟨-, h3⟩ := List.forall_mem_cons.mp h3
      obtain ⟨rs, h3⟩ := List.forall_mem_cons.mp h3
      obtain ⟨-, r2⟩ := List.forall_mem_cons.mp h3
      have rn : rng n := rn
      have rd : rng dp := rd
      have rs : rng sp := rs
      have hSt := hx.2.2.2.2.2.2.2
      have hsum := sh4_sum (ρ := gρ g) hs
      obtain ⟨a1, a2, a3⟩ := isKb_iff.mp hKa
      obtain ⟨b1, b2, b3⟩ := isKb_iff.mp hKb
      have hea := wso_get (z := gz g) (ρ := gρ g) (cA := gc g) (hi := hi) (hr := hr) a1 a2
      rw [cel_int a3 ⟨by omega, by omega⟩] at hea
      have heb := wso_get (z := gz g) (ρ := gρ g) (cA := gc g) (hi := hi) (hr := hr) b1 b2
      rw [cel_int b3 ⟨by omega, by omega⟩] at heb
      have hn0 : ∀ {x : Int}, rng x → 0 ≤ x → ¬ Int32.ofInt x < 0 := fun hr hx h => by rw [← oi_0, oi_lt hr r0] at h; omega
      show W _ _ _ _ _ _ _ _ _ _ _ _ _ _ _ (F0 m pc lsr (.int (Int32.ofInt n) :: .int (Int32.ofInt dp) :: .ref (gρ g b) :: .int (Int32.ofInt sp) :: .ref (gρ g a) :: st.map (rv (gρ g))))
      rw [adr2 a1, adr2 b1]
      have hnw : nativeFrameWords "java/lang/System" "arraycopy" 5 + 11 ≤ 190 := by decide +kernel
      refine va_copyi hx.1 hx.2.1 (by rw [hx.2.2.1, hL.2.1]) hx.2.2.2.2.1 (hSt.w w1 args) (hSt.w w2 args) (hSt.w w3 args) (hSt.w w4 args) hSt.K hD.2.2.1 wso_D hS _ _ 1 1 hea heb rfl rfl rfl (hn0 rs g1) (hn0 rd g2) (hn0 rn g3) (by rw [oi_clamp rs g1, oi_clamp rn g3]; unfold aln at g4; omega) (by rw [oi_clamp rd g2, oi_clamp rn g3]; unfold aln at g5; omega) (fun _ _ => rfl) (by omega) (by omega) hd fun H1 locs1 p1 _ p3 => ?_
      rw [cpy_i rs rd rn g1 g2 g3] at p1
      refine W.sz (setlo b1 b2 p1) (by rw [h1.1]; omega) fun hz => ?_
      refine hG h1 h2 r2 H1 locs1 lsr ?_ p3 hL
      obtain ⟨k1, k2, k3, k4, ⟨f1, f2, f3, f4⟩, k6⟩ := hD
      have hne : ∀ q, q ≠ b → ∀ j, cpI hi a sp b dp n q j = hi q j := fun q hq j => by unfold cpI; rw [if_neg (fun z => hq z.1)]
      rw [wso_set (hi' := cpI hi a sp b dp n) (hr' := hr) b1 b2 rfl (cel_int b3 ⟨by omega, by omega⟩) (fun q hq => celE_congr rfl (fun j => hne q hq j) (fun j => rfl))] at p1
      refine ⟨k1, hz, p1, fun q i => ?_, ⟨f1, f2, fun j => by rw [hne 0 (by omega)]; exact f3 j, fun j => by rw [hne 1 (by omega)]; exact f4 j⟩, k6⟩
      unfold cpI
      split
      · exact k4 _ _
      · exact k4 _ _
    · trivial
  · trivial
end OK7
