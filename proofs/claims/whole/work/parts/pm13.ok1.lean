section OK1
variable {own : String} {cc : ByteArray} {nL : Nat} {ret : Option FieldType} {nm : String} {lg : Bool} {pc : Nat}
theorem ok_iconst {n : Int} (hd : decode cc pc = .ok (.iconst n, 1)) (hn : rng n) : Okp own cc nL ret nm lg pc (sK n (pc + 1)) := by
  intro g p l e R s m args below meth c d hx hf hl al0 Q ls st al hi hr
  refine ⟨⟨Nat.le_refl _, Nat.le_refl _⟩, fun _ _ hG h1 h2 h3 H locs lsr hD hS hL => ?_⟩
  refine lv_iconst hx.1 hx.2.1 hd rfl ?_
  exact hG h1 h2 (List.forall_mem_cons.mpr ⟨hn, h3⟩) H locs lsr hD hS hL
theorem ok_bipush {n : Int} (hd : decode cc pc = .ok (.bipush n, 2)) (hn : (Int8.ofInt n).toInt32 = Int32.ofInt n ∧ rng n) : Okp own cc nL ret nm lg pc (sK n (pc + 2)) := by
  intro g p l e R s m args below meth c d hx hf hl al0 Q ls st al hi hr
  refine ⟨⟨Nat.le_refl _, Nat.le_refl _⟩, fun _ _ hG h1 h2 h3 H locs lsr hD hS hL => ?_⟩
  refine lv_bipush hx.1 hx.2.1 hd hn.1 ?_
  exact hG h1 h2 (List.forall_mem_cons.mpr ⟨hn.2, h3⟩) H locs lsr hD hS hL
theorem ok_sipush {n : Int} (hd : decode cc pc = .ok (.sipush n, 3)) (hn : (Int16.ofInt n).toInt32 = Int32.ofInt n ∧ rng n) : Okp own cc nL ret nm lg pc (sK n (pc + 3)) := by
  intro g p l e R s m args below meth c d hx hf hl al0 Q ls st al hi hr
  refine ⟨⟨Nat.le_refl _, Nat.le_refl _⟩, fun _ _ hG h1 h2 h3 H locs lsr hD hS hL => ?_⟩
  refine lv_sipush hx.1 hx.2.1 hd hn.1 ?_
  exact hG h1 h2 (List.forall_mem_cons.mpr ⟨hn.2, h3⟩) H locs lsr hD hS hL
theorem ok_ldc {n : Int} {ix : Nat} (hd : decode cc pc = .ok (.ldc ix, 2)) (hw : tbw (.constant own ix (Int32.ofInt n))) (hn : rng n) : Okp own cc nL ret nm lg pc (sK n (pc + 2)) := by
  intro g p l e R s m args below meth c d hx hf hl al0 Q ls st al hi hr
  refine ⟨⟨Nat.le_refl _, Nat.le_refl _⟩, fun _ _ hG h1 h2 h3 H locs lsr hD hS hL => ?_⟩
  refine lv_ldc hx.1 hx.2.1 hx.2.2.2.2.1 (hx.2.2.2.2.2.2.2.w hw args) hd ?_
  exact hG h1 h2 (List.forall_mem_cons.mpr ⟨hn, h3⟩) H locs lsr hD hS hL
theorem ok_ldcw {n : Int} {ix : Nat} (hd : decode cc pc = .ok (.ldc_w ix, 3)) (hw : tbw (.constant own ix (Int32.ofInt n))) (hn : rng n) : Okp own cc nL ret nm lg pc (sK n (pc + 3)) := by
  intro g p l e R s m args below meth c d hx hf hl al0 Q ls st al hi hr
  refine ⟨⟨Nat.le_refl _, Nat.le_refl _⟩, fun _ _ hG h1 h2 h3 H locs lsr hD hS hL => ?_⟩
  refine lv_ldcw hx.1 hx.2.1 hx.2.2.2.2.1 (hx.2.2.2.2.2.2.2.w hw args) hd ?_
  exact hG h1 h2 (List.forall_mem_cons.mpr ⟨hn, h3⟩) H locs lsr hD hS hL
theorem ok_null (hd : decode cc pc = .ok (.aconst_null, 1)) : Okp own cc nL ret nm lg pc (sNul (pc + 1)) := by
  intro g p l e R s m args below meth c d hx hf hl al0 Q ls st al hi hr
  refine ⟨⟨Nat.le_refl _, Nat.le_refl _⟩, fun _ _ hG h1 h2 h3 H locs lsr hD hS hL => ?_⟩
  refine lv_null hx.1 hx.2.1 hd ?_
  exact hG h1 h2 (List.forall_mem_cons.mpr ⟨trivial, h3⟩) H locs lsr hD hS hL
theorem ok_lconst1 (hd : decode cc pc = .ok (.lconst 1, 1)) : Okp own cc nL ret nm lg pc (sLC 1 (pc + 1)) := by
  intro g p l e R s m args below meth c d hx hf hl al0 Q ls st al hi hr
  refine ⟨⟨Nat.le_refl _, Nat.le_refl _⟩, fun _ _ hG h1 h2 h3 H locs lsr hD hS hL => ?_⟩
  refine lv_lconst (v := Int64.ofInt 1) hx.1 hx.2.1 hd (by decide) ?_
  exact hG h1 h2 (List.forall_mem_cons.mpr ⟨by show rgl 1; decide, h3⟩) H locs lsr hD hS hL
theorem ok_iload_n {k : Fin 4} {i : Nat} (hd : decode cc pc = .ok (.iload_n k, 1)) (hk : (k : Nat) = i) : Okp own cc nL ret nm lg pc (sLI i (pc + 1)) := by
  intro g p l e R s m args below meth c d hx hf hl al0 Q ls st al hi hr
  unfold sLI
  split
  · rename_i x hv
    refine ⟨⟨Nat.le_refl _, Nat.le_refl _⟩, fun _ _ hG h1 h2 h3 H locs lsr hD hS hL => ?_⟩
    obtain ⟨q1, q2⟩ := hL.2.2.2.1 i _ hv (by simp)
    refine lv_iload_n hx.1 hx.2.1 hd hk q2 ?_
    exact hG h1 h2 (List.forall_mem_cons.mpr ⟨q1, h3⟩) H locs lsr hD hS hL
  · trivial
theorem ok_iload {i : Nat} (hd : decode cc pc = .ok (.iload i, 2)) : Okp own cc nL ret nm lg pc (sLI i (pc + 2)) := by
  intro g p l e R s m args below meth c d hx hf hl al0 Q ls st al hi hr
  unfold sLI
  split
  · rename_i x hv
    refine ⟨⟨Nat.le_refl _, Nat.le_refl _⟩, fun _ _ hG h1 h2 h3 H locs lsr hD hS hL => ?_⟩
    obtain ⟨q1, q2⟩ := hL.2.2.2.1 i _ hv (by simp)
    refine lv_iload hx.1 hx.2.1 hd q2 ?_
    exact hG h1 h2 (List.forall_mem_cons.mpr ⟨q1, h3⟩) H locs lsr hD hS hL
  · trivial
theorem ok_lload_n {k : Fin 4} {i : Nat} (hd : decode cc pc = .ok (.lload_n k, 1)) (hk : (k : Nat) = i) : Okp own cc nL ret nm lg pc (sLL i (pc + 1)) := by
  intro g p l e R s m args below meth c d hx hf hl al0 Q ls st al hi hr
  unfold sLL
  split
  · rename_i x hv
    refine ⟨⟨Nat.le_refl _, Nat.le_refl _⟩, fun _ _ hG h1 h2 h3 H locs lsr hD hS hL => ?_⟩
    obtain ⟨q1, q2⟩ := hL.2.2.2.1 i _ hv (by simp)
    refine lv_lload_n hx.1 hx.2.1 hd hk q2 ?_
    exact hG h1 h2 (List.forall_mem_cons.mpr ⟨q1, h3⟩) H locs lsr hD hS hL
  · trivial
theorem ok_aload_n {k : Fin 4} {i : Nat} (hd : decode cc pc = .ok (.aload_n k, 1)) (hk : (k : Nat) = i) : Okp own cc nL ret nm lg pc (sLR i (pc + 1)) := by
  intro g p l e R s m args below meth c d hx hf hl al0 Q ls st al hi hr
  unfold sLR
  split
  · rename_i r hv
    refine ⟨⟨Nat.le_refl _, Nat.le_refl _⟩, fun _ _ hG h1 h2 h3 H locs lsr hD hS hL => ?_⟩
    obtain ⟨q1, q2⟩ := hL.2.2.2.1 i _ hv (by simp)
    have kk := hG h1 h2 (List.forall_mem_cons.mpr ⟨q1, h3⟩) H locs lsr hD hS hL
    cases r with
    | none => exact lv_aload_nN hx.1 hx.2.1 hd hk q2 kk
    | some a => exact lv_aload_n hx.1 hx.2.1 hd hk q2 kk
  · trivial
theorem ok_aload {i : Nat} (hd : decode cc pc = .ok (.aload i, 2)) : Okp own cc nL ret nm lg pc (sLR i (pc + 2)) := by
  intro g p l e R s m args below meth c d hx hf hl al0 Q ls st al hi hr
  unfold sLR
  split
  · rename_i r hv
    refine ⟨⟨Nat.le_refl _, Nat.le_refl _⟩, fun _ _ hG h1 h2 h3 H locs lsr hD hS hL => ?_⟩
    obtain ⟨q1, q2⟩ := hL.2.2.2.1 i _ hv (by simp)
    have kk := hG h1 h2 (List.forall_mem_cons.mpr ⟨q1, h3⟩) H locs lsr hD hS hL
    cases r with
    | none => exact lv_aloadN hx.1 hx.2.1 hd q2 kk
    | some a => exact lv_aload hx.1 hx.2.1 hd q2 kk
  · trivial
theorem ok_istore_n {k : Fin 4} {i : Nat} (hd : decode cc pc = .ok (.istore_n k, 1)) (hk : (k : Nat) = i) (hi' : i < nL) (hg : lg = true → i ≠ 3) : Okp own cc nL ret nm lg pc (sSI i (pc + 1)) := by
  intro g p l e R s m args below meth c d hx hf hl al0 Q ls st al hi hr
  unfold sSI
  split
  · rename_i x st
    refine ⟨⟨Nat.le_refl _, Nat.le_refl _⟩, fun _ _ hG h1 h2 h3 H locs lsr hD hS hL => ?_⟩
    obtain ⟨q1, q2⟩ := List.forall_mem_cons.mp h3
    refine lv_istore_n hx.1 hx.2.1 hd hk hL.has hi' rfl fun lsr' h' => ?_
    exact hG h1 h2 q2 H locs lsr' hD hS (hL.st (v := vI x) q1 rfl hi' hg h')
  · trivial
theorem ok_istore {i : Nat} (hd : decode cc pc = .ok (.istore i, 2)) (hi' : i < nL) (hg : lg = true → i ≠ 3) : Okp own cc nL ret nm lg pc (sSI i (pc + 2)) := by
  intro g p l e R s m args below meth c d hx hf hl al0 Q ls st al hi hr
  unfold sSI
  split
  · rename_i x st
    refine ⟨⟨Nat.le_refl _, Nat.le_refl _⟩, fun _ _ hG h1 h2 h3 H locs lsr hD hS hL => ?_⟩
    obtain ⟨q1, q2⟩ := List.forall_mem_cons.mp h3
    refine lv_istore hx.1 hx.2.1 hd hL.has hi' rfl fun lsr' h' => ?_
    exact hG h1 h2 q2 H locs lsr' hD hS (hL.st (v := vI x) q1 rfl hi' hg h')
  · trivial
theorem ok_astore_n {k : Fin 4} {i : Nat} (hd : decode cc pc = .ok (.astore_n k, 1)) (hk : (k : Nat) = i) (hi' : i < nL) (hg : lg = true → i ≠ 3) : Okp own cc nL ret nm lg pc (sSR i (pc + 1)) := by
  intro g p l e R s m args below meth c d hx hf hl al0 Q ls st al hi hr
  unfold sSR
  split
  · rename_i r st
    refine ⟨⟨Nat.le_refl _, Nat.le_refl _⟩, fun _ _ hG h1 h2 h3 H locs lsr hD hS hL => ?_⟩
    obtain ⟨q1, q2⟩ := List.forall_mem_cons.mp h3
    cases r with
    | none => exact lv_astore_nN hx.1 hx.2.1 hd hk hL.has hi' rfl fun lsr' h' => hG h1 h2 q2 H locs lsr' hD hS (hL.st (v := vR none) q1 rfl hi' hg h')
    | some a => exact lv_astore_n hx.1 hx.2.1 hd hk hL.has hi' rfl fun lsr' h' => hG h1 h2 q2 H locs lsr' hD hS (hL.st (v := vR (some a)) q1 rfl hi' hg h')
  · trivial
theorem ok_astore {i : Nat} (hd : decode cc pc = .ok (.astore i, 2)) (hi' : i < nL) (hg : lg = true → i ≠ 3) : Okp own cc nL ret nm lg pc (sSR i (pc + 2)) := by
  intro g p l e R s m args below meth c d hx hf hl al0 Q ls st al hi hr
  unfold sSR
  split
  · rename_i r st
    refine ⟨⟨Nat.le_refl _, Nat.le_refl _⟩, fun _ _ hG h1 h2 h3 H locs lsr hD hS hL => ?_⟩
    obtain ⟨q1, q2⟩ := List.forall_mem_cons.mp h3
    cases r with
    | none => exact lv_astoreN hx.1 hx.2.1 hd hL.has hi' rfl fun lsr' h' => hG h1 h2 q2 H locs lsr' hD hS (hL.st (v := vR none) q1 rfl hi' hg h')
    | some a => exact lv_astore hx.1 hx.2.1 hd hL.has hi' rfl fun lsr' h' => hG h1 h2 q2 H locs lsr' hD hS (hL.st (v := vR (some a)) q1 rfl hi' hg h')
  · trivial
theorem ok_iinc {i : Nat} {n : Int} (hd : decode cc pc = .ok (.iinc i n, 3)) (hi' : i < nL) (hg : lg = true → i ≠ 3) : Okp own cc nL ret nm lg pc (sInc i n (pc + 3)) := by
  intro g p l e R s m args below meth c d hx hf hl al0 Q ls st al hi hr
  unfold sInc
  split
  · rename_i x hv
    refine ⟨⟨Nat.le_refl _, Nat.le_refl _⟩, fun _ _ hG h1 h2 h3 H locs lsr hD hS hL => ?_⟩
    obtain ⟨k, hk⟩ := List.getElem?_of_mem (lpr_mem (g := g) (q := (i, .int (Int32.ofInt x))).mpr ⟨_, hv, by simp, rfl⟩)
    refine lv_iinc (v := Int32.ofInt (fAdd x n)) hx.1 hx.2.1 hd hL.has (k := k) hk (oi_add x n).symm hi' rfl fun lsr' h' => ?_
    exact hG h1 h2 h3 H locs lsr' hD hS (hL.st (v := vI (fAdd x n)) (wr_rng _) rfl hi' hg h')
  · trivial
end OK1
