section OK4
variable {own : String} {cc : ByteArray} {nL : Nat} {ret : Option FieldType} {nm : String} {lg : Bool} {pc : Nat}
theorem inA_iff {al : AL} {a : Nat} {i : Int} : inA al a i = true ↔ 0 ≤ i ∧ i < aln al a := by simp [inA]
theorem upd_i {hi : HI} {a : Nat} {i x : Int} (h0 : 0 ≤ i) (hr : rng i) : upd (fun j : Nat => Int32.ofInt (hi a j)) (Int32.ofInt i).toNatClampNeg (Int32.ofInt x) = fun j : Nat => Int32.ofInt (upI hi a i x a j) := by
  funext j
  rw [oi_clamp hr h0, upI_at]
  unfold upd
  by_cases e : j = i.toNat
  · have e' : (j : Int) = i := by omega
    simp [e]
    rw [if_pos (by omega)]
  · have e' : ¬ (j : Int) = i := by omega
    simp [e, e']
theorem bool_nar (x : Int) : vp_nar .boolean (Int32.ofInt x) = Int32.ofInt (fZ x) := by
  have h1 : vp_nar .boolean (Int32.ofInt x) = Int32.ofInt x &&& 1 := rfl
  rw [h1]
  apply Int32.toInt_inj.mp
  rw [pk_and (Int32.ofInt x) (m := 1) 1 (by decide), oi_toInt (fZ_rng x), nI_toInt (by omega)]
  have h2 : (Int32.ofInt x).toBitVec.toNat = (x % 4294967296).toNat := by
    rw [Int32.toBitVec_ofInt, BitVec.toNat_ofInt]
    rfl
  rw [h2]
  unfold fZ
  omega
theorem byte_nar (x : Int) : vp_nar .byte (Int32.ofInt x) = Int32.ofInt (fB x) := by rw [vp_nar_byte, oi_b]
theorem ok_iaload (hd : decode cc pc = .ok (.iaload, 1)) : Okp own cc nL ret nm lg pc (sIA (pc + 1)) := by
  intro g p l e R s m args below meth c d hx _ _ al0 Q ls st al hi hr
  unfold sIA
  split
  · rename_i i a st
    split
    · rename_i hK
      rw [Bool.and_eq_true, Bool.or_eq_true, inA_iff] at hK
      refine ⟨⟨Nat.le_refl _, Nat.le_refl _⟩, fun _ _ hG h1 h2 h3 H locs lsr hD hS hL => ?_⟩
      obtain ⟨hK, i0, i1⟩ := hK
      have r0 : rng i := (List.forall_mem_cons.mp h3).1
      have r2 := (List.forall_mem_cons.mp (List.forall_mem_cons.mp h3).2).2
      have hSt := hx.2.2.2.2.2.2.2
      have kk := hG h1 h2 (List.forall_mem_cons.mpr ⟨hD.2.2.2.1 a i, r2⟩) H locs lsr hD hS hL
      have en : ((i.toNat : Nat) : Int) = i := by omega
      rcases hK with hK | hK
      · obtain ⟨q1, q2, q3⟩ := isKb_iff.mp hK
        have he := wso_get (z := gz g) (ρ := gρ g) (cA := gc g) (hi := hi) (hr := hr) q1 q2
        rw [cel_int q3 ⟨by omega, by omega⟩] at he
        show W _ _ _ _ _ _ _ _ _ _ _ _ _ _ _ (F0 m pc lsr (.int (Int32.ofInt i) :: .ref (gρ g a) :: st.map (rv (gρ g))))
        rw [adr2 q1]
        refine va_iald hx.1 hx.2.1 hSt.K hD.2.2.1 _ 1 he rfl (oi_in r0 i0 i1) hd ?_
        rw [oi_clamp r0 i0, en]
        exact kk
      · simp only [isF, Bool.and_eq_true, decide_eq_true_eq] at hK
        obtain ⟨-, -, hX0, hX1, -, z0, z1, z2, -⟩ := hSt
        obtain ⟨f1, f2, f3, f4⟩ := hD.2.2.2.2.1
        rcases (show a = 0 ∨ a = 1 by omega) with rfl | rfl
        · rw [show aln al 0 = 44 by unfold aln; rw [f1]] at i1
          exact va_ti (v := .int (Int32.ofInt (hi 0 i))) hx.1 hx.2.1 hX0 hS (oi_in r0 i0 i1) (by show Value.int (Int32.ofInt (gof g _)) = _; rw [oi_clamp r0 i0, ← f3, en]) hd kk
        · rw [show aln al 1 = gL g by unfold aln; rw [f2]] at i1
          refine va_sld (A := gA g) hx.1 hx.2.1 hX1 (Nat.lt_of_lt_of_le z1 z2) (by show ¬ gz g ≤ gb g; omega) hS (oi_in r0 i0 i1) hd ?_
          rw [oi_clamp r0 i0, ← f4, en]
          exact kk
    · trivial
  · trivial
theorem ok_baload (hd : decode cc pc = .ok (.baload, 1)) : Okp own cc nL ret nm lg pc (sBA (pc + 1)) := by
  intro g p l e R s m args below meth c d hx _ _ al0 Q ls st al hi hr
  unfold sBA
  split
  · rename_i i a st
    split
    · rename_i hK
      rw [Bool.and_eq_true, Bool.or_eq_true, inA_iff] at hK
      refine ⟨⟨Nat.le_refl _, Nat.le_refl _⟩, fun _ _ hG h1 h2 h3 H locs lsr hD hS hL => ?_⟩
      obtain ⟨hK, i0, i1⟩ := hK
      have r0 : rng i := (List.forall_mem_cons.mp h3).1
      have r2 := (List.forall_mem_cons.mp (List.forall_mem_cons.mp h3).2).2
      have hSt := hx.2.2.2.2.2.2.2
      have kk := hG h1 h2 (List.forall_mem_cons.mpr ⟨hD.2.2.2.1 a i, r2⟩) H locs lsr hD hS hL
      have en : ((i.toNat : Nat) : Int) = i := by omega
      rcases hK with hK | hK
      · obtain ⟨q1, q2, q3⟩ := isKb_iff.mp hK
        have he := wso_get (z := gz g) (ρ := gρ g) (cA := gc g) (hi := hi) (hr := hr) q1 q2
        rw [cel_int q3 ⟨by omega, by omega⟩] at he
        show W _ _ _ _ _ _ _ _ _ _ _ _ _ _ _ (F0 m pc lsr (.int (Int32.ofInt i) :: .ref (gρ g a) :: st.map (rv (gρ g))))
        rw [adr2 q1]
        refine va_bald hx.1 hx.2.1 hSt.K hD.2.2.1 _ 0 he rfl (oi_in r0 i0 i1) hd ?_
        rw [oi_clamp r0 i0, en]
        exact kk
      · obtain ⟨q1, q2, q3⟩ := isKb_iff.mp hK
        have he := wso_get (z := gz g) (ρ := gρ g) (cA := gc g) (hi := hi) (hr := hr) q1 q2
        rw [cel_int q3 ⟨by omega, by omega⟩] at he
        show W _ _ _ _ _ _ _ _ _ _ _ _ _ _ _ (F0 m pc lsr (.int (Int32.ofInt i) :: .ref (gρ g a) :: st.map (rv (gρ g))))
        rw [adr2 q1]
        refine va_zald hx.1 hx.2.1 hSt.K hD.2.2.1 _ 2 he rfl (oi_in r0 i0 i1) hd ?_
        rw [oi_clamp r0 i0, en]
        exact kk
    · trivial
  · trivial
/-- the place of an array's class in the list of types, and its items' class -/
theorem tyl_q (cA : Nat → ClassId) {k : Nat} (h1 : 17 ≤ k) (h2 : k ≤ 20) : ∃ (t0 : Nat) (C : String) (T : u_T) (N : Nat), (tyl cA)[t0]? = some (cA k, .object C) ∧ vwCl[elc k]? = some (C, T, N) ∧ elc k < 14 := by
  rcases (show k = 17 ∨ k = 18 ∨ k = 19 ∨ k = 20 by omega) with rfl | rfl | rfl | rfl
  · exact ⟨3, _, _, _, rfl, rfl, by decide⟩
  · exact ⟨4, _, _, _, rfl, rfl, by decide⟩
  · exact ⟨5, _, _, _, rfl, rfl, by decide⟩
  · exact ⟨6, _, _, _, rfl, rfl, by decide⟩
theorem isQ_iff {al : AL} {a : Nat} : isQ al a = true ↔ 2 ≤ a ∧ a < al.1 ∧ 17 ≤ (al.2.2 a).1 ∧ (al.2.2 a).1 ≤ 20 := by simp [isQ, and_assoc]
theorem ok_aaload (hd : decode cc pc = .ok (.aaload, 1)) : Okp own cc nL ret nm lg pc (sRA (pc + 1)) := by
  intro g p l e R s m args below meth c d hx _ _ al0 Q ls st al hi hr
  unfold sRA
  split
  · rename_i i a st
    split
    · rename_i hK
      rw [Bool.and_eq_true, isQ_iff, inA_iff] at hK
      refine ⟨⟨Nat.le_refl _, Nat.le_refl _⟩, fun _ _ hG h1 h2 h3 H locs lsr hD hS hL => ?_⟩
      obtain ⟨⟨q1, q2, q3, q4⟩, i0, i1⟩ := hK
      have r0 : rng i := (List.forall_mem_cons.mp h3).1
      have r2 := (List.forall_mem_cons.mp (List.forall_mem_cons.mp h3).2).2
      have hSt := hx.2.2.2.2.2.2.2
      have kk := hG h1 h2 (List.forall_mem_cons.mpr ⟨trivial, r2⟩) H locs lsr hD hS hL
      have en : ((i.toNat : Nat) : Int) = i := by omega
      have he := wso_get (z := gz g) (ρ := gρ g) (cA := gc g) (hi := hi) (hr := hr) q1 q2
      rw [cel_ref rfl q3] at he
      obtain ⟨t0, C, T, N, ht, -, -⟩ := tyl_q (gc g) q3 q4
      show W _ _ _ _ _ _ _ _ _ _ _ _ _ _ _ (F0 m pc lsr (.int (Int32.ofInt i) :: .ref (gρ g a) :: st.map (rv (gρ g))))
      rw [adr2 q1]
      refine va_aldq hx.1 hx.2.1 hSt.K hD.2.2.1 _ t0 he ht (oi_in r0 i0 i1) hd ?_
      rw [oi_clamp r0 i0, en]
      exact kk
    · trivial
  · trivial
theorem ok_iastore (hd : decode cc pc = .ok (.iastore, 1)) : Okp own cc nL ret nm lg pc (sIS (pc + 1)) := by
  intro g p l e R s m args below meth c d hx _ _ al0 Q ls st al hi hr
  unfold sIS
  split
  · rename_i x i a st
    split
    · rename_i hK
      rw [Bool.and_eq_true, inA_iff] at hK
      refine ⟨⟨Nat.le_refl _, Nat.le_refl _⟩, fun _ _ hG h1 h2 h3 H locs lsr hD hS hL => ?_⟩
      obtain ⟨hK, i0, i1⟩ := hK
      obtain ⟨rx, h3⟩ := List.forall_mem_cons.mp h3
      have r0 : rng i := (List.forall_mem_cons.mp h3).1
      have r2 := (List.forall_mem_cons.mp (List.forall_mem_cons.mp h3).2).2
      have hSt := hx.2.2.2.2.2.2.2
      obtain ⟨q1, q2, q3⟩ := isKb_iff.mp hK
      have he := wso_get (z := gz g) (ρ := gρ g) (cA := gc g) (hi := hi) (hr := hr) q1 q2
      rw [cel_int q3 ⟨by omega, by omega⟩] at he
      show W _ _ _ _ _ _ _ _ _ _ _ _ _ _ _ (F0 m pc lsr (.int (Int32.ofInt x) :: .int (Int32.ofInt i) :: .ref (gρ g a) :: st.map (rv (gρ g))))
      rw [adr2 q1]
      refine va_iast hx.1 hx.2.1 hSt.K hD.2.2.1 wso_D hS _ 1 he rfl (oi_in r0 i0 i1) hd fun H1 locs1 p1 _ p3 => ?_
      rw [upd_i i0 r0] at p1
      exact W.sz (setlo q1 q2 p1) (by rw [h1.1]; omega) fun hz => hG h1 h2 r2 H1 locs1 lsr (hD.stI q1 q2 rx (cel_int q3 ⟨by omega, by omega⟩) p1 hz) p3 hL
    · trivial
  · trivial
theorem ok_bastore (hd : decode cc pc = .ok (.bastore, 1)) : Okp own cc nL ret nm lg pc (sBS (pc + 1)) := by
  intro g p l e R s m args below meth c d hx _ _ al0 Q ls st al hi hr
  unfold sBS
  split
  · rename_i x i a st
    split
    · rename_i hK
      rw [Bool.and_eq_true, Bool.or_eq_true, inA_iff] at hK
      refine ⟨⟨Nat.le_refl _, Nat.le_refl _⟩, fun _ _ hG h1 h2 h3 H locs lsr hD hS hL => ?_⟩
      obtain ⟨hK, i0, i1⟩ := hK
      obtain ⟨rx, h3⟩ := List.forall_mem_cons.mp h3
      have r0 : rng i := (List.forall_mem_cons.mp h3).1
      have r2 := (List.forall_mem_cons.mp (List.forall_mem_cons.mp h3).2).2
      have hSt := hx.2.2.2.2.2.2.2
      rcases hK with hK | hK
      · obtain ⟨q1, q2, q3⟩ := isKb_iff.mp hK
        have he := wso_get (z := gz g) (ρ := gρ g) (cA := gc g) (hi := hi) (hr := hr) q1 q2
        rw [cel_int q3 ⟨by omega, by omega⟩] at he
        show W _ _ _ _ _ _ _ _ _ _ _ _ _ _ _ (F0 m pc lsr (.int (Int32.ofInt x) :: .int (Int32.ofInt i) :: .ref (gρ g a) :: st.map (rv (gρ g))))
        rw [adr2 q1]
        refine va_bast hx.1 hx.2.1 hSt.K hD.2.2.1 wso_D hS _ 0 he rfl (oi_in r0 i0 i1) hd fun H1 locs1 p1 _ p3 => ?_
        rw [byte_nar, upd_i i0 r0] at p1
        rw [if_pos q3] at hG
        exact W.sz (setlo q1 q2 p1) (by rw [h1.1]; omega) fun hz => hG h1 h2 r2 H1 locs1 lsr (hD.stI q1 q2 (fB_rng x) (cel_int q3 ⟨by omega, by omega⟩) p1 hz) p3 hL
      · obtain ⟨q1, q2, q3⟩ := isKb_iff.mp hK
        have he := wso_get (z := gz g) (ρ := gρ g) (cA := gc g) (hi := hi) (hr := hr) q1 q2
        rw [cel_int q3 ⟨by omega, by omega⟩] at he
        show W _ _ _ _ _ _ _ _ _ _ _ _ _ _ _ (F0 m pc lsr (.int (Int32.ofInt x) :: .int (Int32.ofInt i) :: .ref (gρ g a) :: st.map (rv (gρ g))))
        rw [adr2 q1]
        refine va_zast hx.1 hx.2.1 hSt.K hD.2.2.1 wso_D hS _ 2 he rfl (oi_in r0 i0 i1) hd fun H1 locs1 p1 _ p3 => ?_
        rw [bool_nar, upd_i i0 r0] at p1
        rw [if_neg (by show ¬ (al.2.2 a).1 = 14; omega)] at hG
        exact W.sz (setlo q1 q2 p1) (by rw [h1.1]; omega) fun hz => hG h1 h2 r2 H1 locs1 lsr (hD.stI q1 q2 (fZ_rng x) (cel_int q3 ⟨by omega, by omega⟩) p1 hz) p3 hL
    · trivial
  · trivial
theorem up_r {hr : HR} {ρ : Nat → Nat} {a : Nat} {i : Int} {x : Option Nat} (h0 : 0 ≤ i) (hi : rng i) : va_up (fun j : Nat => (hr a j).map ρ) (Int32.ofInt i).toNatClampNeg (x.map ρ) = fun j : Nat => (upR hr a i x a j).map ρ := by
  funext j
  rw [oi_clamp hi h0, upR_at]
  unfold va_up
  by_cases e : j = i.toNat
  · have e' : (j : Int) = i := by omega
    rw [if_pos e, if_pos e']
  · have e' : ¬ (j : Int) = i := by omega
    rw [if_neg e, if_neg e']
theorem ok_aastore (hd : decode cc pc = .ok (.aastore, 1)) : Okp own cc nL ret nm lg pc (sRS (pc + 1)) := by
  intro g p l e R s m args below meth c d hx _ _ al0 Q ls st al hi hr
  unfold sRS
  split
  · rename_i i a st
    split
    · rename_i hK
      rw [Bool.and_eq_true, isQ_iff, inA_iff] at hK
      refine ⟨⟨Nat.le_refl _, Nat.le_refl _⟩, fun _ _ hG h1 h2 h3 H locs lsr hD hS hL => ?_⟩
      obtain ⟨⟨q1, q2, q3, q4⟩, i0, i1⟩ := hK
      have h3 := (List.forall_mem_cons.mp h3).2
      have r0 : rng i := (List.forall_mem_cons.mp h3).1
      have r2 := (List.forall_mem_cons.mp (List.forall_mem_cons.mp h3).2).2
      have hSt := hx.2.2.2.2.2.2.2
      have he := wso_get (z := gz g) (ρ := gρ g) (cA := gc g) (hi := hi) (hr := hr) q1 q2
      rw [cel_ref rfl q3] at he
      obtain ⟨t0, C, T, N, ht, -, -⟩ := tyl_q (gc g) q3 q4
      show W _ _ _ _ _ _ _ _ _ _ _ _ _ _ _ (F0 m pc lsr (.null :: .int (Int32.ofInt i) :: .ref (gρ g a) :: st.map (rv (gρ g))))
      rw [adr2 q1]
      refine va_astqN hx.1 hx.2.1 hSt.K hD.2.2.1 wso_D hS _ t0 he ht (oi_in r0 i0 i1) hd fun H1 locs1 p1 _ p3 => ?_
      have eu := up_r (hr := hr) (ρ := gρ g) (a := a) (x := none) i0 r0
      rw [Option.map_none] at eu
      rw [eu] at p1
      exact W.sz (setlo q1 q2 p1) (by rw [h1.1]; omega) fun hz => hG h1 h2 r2 H1 locs1 lsr (hD.stR q1 q2 (cel_ref rfl q3) p1 hz) p3 hL
    · trivial
  · rename_i b i a st
    split
    · rename_i hK
      rw [Bool.and_eq_true, Bool.and_eq_true, isQ_iff, inA_iff] at hK
      refine ⟨⟨Nat.le_refl _, Nat.le_refl _⟩, fun _ _ hG h1 h2 h3 H locs lsr hD hS hL => ?_⟩
      obtain ⟨⟨⟨q1, q2, q3, q4⟩, i0, i1⟩, hb⟩ := hK
      obtain ⟨b1, b2, b3⟩ := isKb_iff.mp hb
      have h3 := (List.forall_mem_cons.mp h3).2
      have r0 : rng i := (List.forall_mem_cons.mp h3).1
      have r2 := (List.forall_mem_cons.mp (List.forall_mem_cons.mp h3).2).2
      have hSt := hx.2.2.2.2.2.2.2
      have he := wso_get (z := gz g) (ρ := gρ g) (cA := gc g) (hi := hi) (hr := hr) q1 q2
      rw [cel_ref rfl q3] at he
      obtain ⟨t0, C, T, N, ht, hc, h14⟩ := tyl_q (gc g) q3 q4
      have hv := wso_get (z := gz g) (ρ := gρ g) (cA := gc g) (hi := hi) (hr := hr) b1 b2
      rw [cel_obj b3 h14] at hv
      show W _ _ _ _ _ _ _ _ _ _ _ _ _ _ _ (F0 m pc lsr (.ref (gρ g b) :: .int (Int32.ofInt i) :: .ref (gρ g a) :: st.map (rv (gρ g))))
      rw [adr2 q1, adr2 b1]
      refine va_astq (r := (C, T, N)) hx.1 hx.2.1 hSt.K hD.2.2.1 wso_D hS _ t0 _ _ he ht hv hc (oi_in r0 i0 i1) hd fun H1 locs1 p1 _ p3 => ?_
      have eu := up_r (hr := hr) (ρ := gρ g) (a := a) (x := some b) i0 r0
      rw [Option.map_some, adr2 b1] at eu
      rw [eu] at p1
      exact W.sz (setlo q1 q2 p1) (by rw [h1.1]; omega) fun hz => hG h1 h2 r2 H1 locs1 lsr (hD.stR q1 q2 (cel_ref rfl q3) p1 hz) p3 hL
    · trivial
  · trivial
end OK4
