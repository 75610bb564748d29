section OK2
variable {own : String} {cc : ByteArray} {nL : Nat} {ret : Option FieldType} {nm : String} {lg : Bool} {pc : Nat}
theorem ok_b2 {f : Int → Int → Int} {n : Nat} (hf : ∀ x y, rng x → rng y → rng (f x y))
    (row : ∀ {p : Program} {l : Launch} {e : Env} {R : Room} {s : State} {m : MethodId} {args : Array Value} {below : List Frame} {meth : Method} {c : Code} {H : Heap} {locs : List Loc} {cells slots : Nat} {Q : State → Prop} {ls : Array Slot} {rest : List Value} {x y : Int}, p.tables.exec = Jvm.exec → c.code = cc → rng x → rng y →
      W p l e R s m args below meth c H locs cells slots Q (F0 m n ls (.int (Int32.ofInt (f x y)) :: rest)) → W p l e R s m args below meth c H locs cells slots Q (F0 m pc ls (.int (Int32.ofInt y) :: .int (Int32.ofInt x) :: rest))) : Okp own cc nL ret nm lg pc (sB2 f n) := by
  intro g p l e R s m args below meth c d hx _ _ al0 Q ls st al hi hr
  unfold sB2
  split
  · rename_i y x st
    refine ⟨⟨Nat.le_refl _, Nat.le_refl _⟩, fun _ _ hG h1 h2 h3 H locs lsr hD hS hL => ?_⟩
    obtain ⟨q1, q2⟩ := List.forall_mem_cons.mp h3
    obtain ⟨q3, q4⟩ := List.forall_mem_cons.mp q2
    exact row hx.1 hx.2.1 q3 q1 (hG h1 h2 (List.forall_mem_cons.mpr ⟨hf x y q3 q1, q4⟩) H locs lsr hD hS hL)
  · trivial
theorem ok_iadd (hd : decode cc pc = .ok (.iadd, 1)) : Okp own cc nL ret nm lg pc (sB2 fAdd (pc + 1)) :=
  ok_b2 (fun _ _ _ _ => wr_rng _) (fun hx hb _ _ k => by rw [oi_add] at k; exact lv_iadd hx hb hd k)
theorem ok_isub (hd : decode cc pc = .ok (.isub, 1)) : Okp own cc nL ret nm lg pc (sB2 fSub (pc + 1)) :=
  ok_b2 (fun _ _ _ _ => wr_rng _) (fun hx hb _ _ k => by rw [oi_sub] at k; exact lv_isub hx hb hd k)
theorem ok_imul (hd : decode cc pc = .ok (.imul, 1)) : Okp own cc nL ret nm lg pc (sB2 fMul (pc + 1)) :=
  ok_b2 (fun _ _ _ _ => wr_rng _) (fun hx hb _ _ k => by rw [oi_mul] at k; exact lv_imul hx hb hd k)
theorem ok_iand (hd : decode cc pc = .ok (.iand, 1)) : Okp own cc nL ret nm lg pc (sB2 fAnd (pc + 1)) :=
  ok_b2 (fun _ _ _ _ => oi_rngq _) (fun hx hb _ _ k => by unfold fAnd at k; rw [oi_of] at k; exact lv_iand hx hb hd k)
theorem ok_ior (hd : decode cc pc = .ok (.ior, 1)) : Okp own cc nL ret nm lg pc (sB2 fOr (pc + 1)) :=
  ok_b2 (fun _ _ _ _ => oi_rngq _) (fun hx hb _ _ k => by unfold fOr at k; rw [oi_of] at k; exact lv_ior hx hb hd k)
theorem ok_ixor (hd : decode cc pc = .ok (.ixor, 1)) : Okp own cc nL ret nm lg pc (sB2 fXor (pc + 1)) :=
  ok_b2 (fun _ _ _ _ => oi_rngq _) (fun hx hb _ _ k => by unfold fXor at k; rw [oi_of] at k; exact lv_ixor hx hb hd k)
theorem ok_ishl (hd : decode cc pc = .ok (.ishl, 1)) : Okp own cc nL ret nm lg pc (sB2 fShl (pc + 1)) :=
  ok_b2 (fun _ _ _ _ => oi_rngq _) (fun hx hb _ _ k => by unfold fShl at k; rw [oi_of] at k; exact lv_ishl hx hb hd k)
theorem ok_ishr (hd : decode cc pc = .ok (.ishr, 1)) : Okp own cc nL ret nm lg pc (sB2 fShr (pc + 1)) :=
  ok_b2 (fun _ _ _ _ => oi_rngq _) (fun hx hb _ _ k => by unfold fShr at k; rw [oi_of] at k; exact lv_ishr hx hb hd k)
theorem ok_d2 {f : Int → Int → Int} {n : Nat} (hf : ∀ x y, rng x → rng y → y ≠ 0 → rng (f x y))
    (row : ∀ {p : Program} {l : Launch} {e : Env} {R : Room} {s : State} {m : MethodId} {args : Array Value} {below : List Frame} {meth : Method} {c : Code} {H : Heap} {locs : List Loc} {cells slots : Nat} {Q : State → Prop} {ls : Array Slot} {rest : List Value} {x y : Int}, p.tables.exec = Jvm.exec → c.code = cc → rng x → rng y → y ≠ 0 →
      W p l e R s m args below meth c H locs cells slots Q (F0 m n ls (.int (Int32.ofInt (f x y)) :: rest)) → W p l e R s m args below meth c H locs cells slots Q (F0 m pc ls (.int (Int32.ofInt y) :: .int (Int32.ofInt x) :: rest))) : Okp own cc nL ret nm lg pc (sD2 f n) := by
  intro g p l e R s m args below meth c d hx _ _ al0 Q ls st al hi hr
  unfold sD2
  split
  · rename_i y x st
    split
    · trivial
    rename_i hy
    refine ⟨⟨Nat.le_refl _, Nat.le_refl _⟩, fun _ _ hG h1 h2 h3 H locs lsr hD hS hL => ?_⟩
    obtain ⟨q1, q2⟩ := List.forall_mem_cons.mp h3
    obtain ⟨q3, q4⟩ := List.forall_mem_cons.mp q2
    exact row hx.1 hx.2.1 q3 q1 hy (hG h1 h2 (List.forall_mem_cons.mpr ⟨hf x y q3 q1 hy, q4⟩) H locs lsr hD hS hL)
  · trivial
theorem oi_ne0 {y : Int} (hy : rng y) (h : y ≠ 0) : ¬ Int32.ofInt y = 0 := fun q => h ((oi_eq hy r0).mp (by rw [q, oi_0]))
theorem ok_idiv (hd : decode cc pc = .ok (.idiv, 1)) : Okp own cc nL ret nm lg pc (sD2 fDiv (pc + 1)) :=
  ok_d2 (fun _ _ _ _ _ => wr_rng _) (fun hx hb q1 q2 h0 k => by rw [oi_div q1 q2] at k; exact lv_idiv hx hb hd (oi_ne0 q2 h0) k)
theorem ok_irem (hd : decode cc pc = .ok (.irem, 1)) : Okp own cc nL ret nm lg pc (sD2 fRem (pc + 1)) :=
  ok_d2 (fun _ _ q1 q2 h0 => fRem_rng q1 q2 h0) (fun hx hb q1 q2 h0 k => by rw [oi_rem q1 q2] at k; exact lv_irem hx hb hd (oi_ne0 q2 h0) k)
theorem ok_ineg (hd : decode cc pc = .ok (.ineg, 1)) : Okp own cc nL ret nm lg pc (sB1 fNeg (pc + 1)) := by
  intro g p l e R s m args below meth c d hx _ _ al0 Q ls st al hi hr
  unfold sB1
  split
  · rename_i x st
    refine ⟨⟨Nat.le_refl _, Nat.le_refl _⟩, fun _ _ hG h1 h2 h3 H locs lsr hD hS hL => ?_⟩
    obtain ⟨q1, q2⟩ := List.forall_mem_cons.mp h3
    have k := hG h1 h2 (List.forall_mem_cons.mpr ⟨wr_rng (-x), q2⟩) H locs lsr hD hS hL
    simp only [List.map_cons, rv, oi_neg] at k
    exact lv_ineg hx.1 hx.2.1 hd k
  · trivial
theorem ok_i2b (hd : decode cc pc = .ok (.i2b, 1)) : Okp own cc nL ret nm lg pc (sB1 fB (pc + 1)) := by
  intro g p l e R s m args below meth c d hx _ _ al0 Q ls st al hi hr
  unfold sB1
  split
  · rename_i x st
    refine ⟨⟨Nat.le_refl _, Nat.le_refl _⟩, fun _ _ hG h1 h2 h3 H locs lsr hD hS hL => ?_⟩
    obtain ⟨q1, q2⟩ := List.forall_mem_cons.mp h3
    have k := hG h1 h2 (List.forall_mem_cons.mpr ⟨fB_rng x, q2⟩) H locs lsr hD hS hL
    exact lv_i2b hx.1 hx.2.1 hd (oi_b x) k
  · trivial
theorem ok_i2l (hd : decode cc pc = .ok (.i2l, 1)) : Okp own cc nL ret nm lg pc (sI2L (pc + 1)) := by
  intro g p l e R s m args below meth c d hx _ _ al0 Q ls st al hi hr
  unfold sI2L
  split
  · rename_i x st
    refine ⟨⟨Nat.le_refl _, Nat.le_refl _⟩, fun _ _ hG h1 h2 h3 H locs lsr hD hS hL => ?_⟩
    obtain ⟨q1, q2⟩ := List.forall_mem_cons.mp h3
    have q1 : rng x := q1
    have k := hG h1 h2 (List.forall_mem_cons.mpr ⟨(by show rgl x; unfold rng at q1; unfold rgl; omega), q2⟩) H locs lsr hD hS hL
    exact lv_i2l hx.1 hx.2.1 hd (oi_i2l q1) k
  · trivial
theorem ok_l2i (hd : decode cc pc = .ok (.l2i, 1)) : Okp own cc nL ret nm lg pc (sL2I (pc + 1)) := by
  intro g p l e R s m args below meth c d hx _ _ al0 Q ls st al hi hr
  unfold sL2I
  split
  · rename_i x st
    refine ⟨⟨Nat.le_refl _, Nat.le_refl _⟩, fun _ _ hG h1 h2 h3 H locs lsr hD hS hL => ?_⟩
    obtain ⟨q1, q2⟩ := List.forall_mem_cons.mp h3
    have k := hG h1 h2 (List.forall_mem_cons.mpr ⟨wr_rng x, q2⟩) H locs lsr hD hS hL
    exact lv_l2i hx.1 hx.2.1 hd (ol_l2i q1) k
  · trivial
theorem ok_ladd (hd : decode cc pc = .ok (.ladd, 1)) : Okp own cc nL ret nm lg pc (sLAdd (pc + 1)) := by
  intro g p l e R s m args below meth c d hx _ _ al0 Q ls st al hi hr
  unfold sLAdd
  split
  · rename_i y x st
    refine ⟨⟨Nat.le_refl _, Nat.le_refl _⟩, fun _ _ hG h1 h2 h3 H locs lsr hD hS hL => ?_⟩
    obtain ⟨q1, q2⟩ := List.forall_mem_cons.mp h3
    obtain ⟨q3, q4⟩ := List.forall_mem_cons.mp q2
    have k := hG h1 h2 (List.forall_mem_cons.mpr ⟨wl_rng (x + y), q4⟩) H locs lsr hD hS hL
    simp only [List.map_cons, rv, ol_wl, Int64.ofInt_add] at k
    exact lv_ladd hx.1 hx.2.1 hd k
  · trivial
theorem ok_dup (hd : decode cc pc = .ok (.dup, 1)) : Okp own cc nL ret nm lg pc (sDup (pc + 1)) := by
  intro g p l e R s m args below meth c d hx _ _ al0 Q ls st al hi hr
  unfold sDup
  split
  · rename_i v st
    split
    · rename_i hc
      refine ⟨⟨Nat.le_refl _, Nat.le_refl _⟩, fun _ _ hG h1 h2 h3 H locs lsr hD hS hL => ?_⟩
      exact lv_dup hx.1 hx.2.1 hd (rv_cat1 hc) (hG h1 h2 (List.forall_mem_cons.mpr ⟨(List.forall_mem_cons.mp h3).1, h3⟩) H locs lsr hD hS hL)
    · trivial
  · trivial
theorem ok_pop (hd : decode cc pc = .ok (.pop, 1)) : Okp own cc nL ret nm lg pc (sPop (pc + 1)) := by
  intro g p l e R s m args below meth c d hx _ _ al0 Q ls st al hi hr
  unfold sPop
  split
  · rename_i v st
    split
    · rename_i hc
      refine ⟨⟨Nat.le_refl _, Nat.le_refl _⟩, fun _ _ hG h1 h2 h3 H locs lsr hD hS hL => ?_⟩
      exact lv_pop hx.1 hx.2.1 hd (rv_cat1 hc) (hG h1 h2 (List.forall_mem_cons.mp h3).2 H locs lsr hD hS hL)
    · trivial
  · trivial
theorem ok_dup2 (hd : decode cc pc = .ok (.dup2, 1)) : Okp own cc nL ret nm lg pc (sDup2 (pc + 1)) := by
  intro g p l e R s m args below meth c d hx _ _ al0 Q ls st al hi hr
  unfold sDup2
  split
  · rename_i v w st
    split
    · rename_i hc
      rw [Bool.and_eq_true] at hc
      refine ⟨⟨Nat.le_refl _, Nat.le_refl _⟩, fun _ _ hG h1 h2 h3 H locs lsr hD hS hL => ?_⟩
      have q1 := List.forall_mem_cons.mp h3
      have q2 := List.forall_mem_cons.mp q1.2
      exact lv_dup2_11 hx.1 hx.2.1 hd (rv_cat1 hc.1) (rv_cat1 hc.2) (hG h1 h2 (List.forall_mem_cons.mpr ⟨q1.1, List.forall_mem_cons.mpr ⟨q2.1, h3⟩⟩) H locs lsr hD hS hL)
    · trivial
  · trivial
theorem ok_goto {off : Int} {t : Nat} (hd : decode cc pc = .ok (.goto off, 3)) (ht : (pc : Int) + off = (t : Int)) : Okp own cc nL ret nm lg pc (sGo t) := by
  intro g p l e R s m args below meth c d hx _ _ al0 Q ls st al hi hr
  refine ⟨⟨Nat.le_refl _, Nat.le_refl _⟩, fun _ _ hG h1 h2 h3 H locs lsr hD hS hL => ?_⟩
  exact lv_goto hx.1 hx.2.1 hd ht (hG h1 h2 h3 H locs lsr hD hS hL)
theorem ok_i2 {cn t : Nat} (row : ∀ {p : Program} {l : Launch} {e : Env} {R : Room} {s : State} {m : MethodId} {args : Array Value} {below : List Frame} {meth : Method} {c : Code} {H : Heap} {locs : List Loc} {cells slots : Nat} {Q : State → Prop} {ls : Array Slot} {rest : List Value} {x y : Int}, p.tables.exec = Jvm.exec → c.code = cc → rng x → rng y →
      (cnd cn x y = true → W p l e R s m args below meth c H locs cells slots Q (F0 m t ls rest)) → (cnd cn x y = false → W p l e R s m args below meth c H locs cells slots Q (F0 m (pc + 3) ls rest)) → W p l e R s m args below meth c H locs cells slots Q (F0 m pc ls (.int (Int32.ofInt y) :: .int (Int32.ofInt x) :: rest))) : Okp own cc nL ret nm lg pc (sI2 cn t (pc + 3)) := by
  intro g p l e R s m args below meth c d hx _ _ al0 Q ls st al hi hr
  unfold sI2
  split
  · rename_i y x st
    by_cases hc : cnd cn x y = true
    · rw [if_pos hc]
      refine ⟨⟨Nat.le_refl _, Nat.le_refl _⟩, fun _ _ hG h1 h2 h3 H locs lsr hD hS hL => ?_⟩
      obtain ⟨q1, q2⟩ := List.forall_mem_cons.mp h3
      obtain ⟨q3, q4⟩ := List.forall_mem_cons.mp q2
      exact row hx.1 hx.2.1 q3 q1 (fun _ => hG h1 h2 q4 H locs lsr hD hS hL) (fun h => absurd hc (by rw [h]; decide))
    · rw [if_neg hc]
      refine ⟨⟨Nat.le_refl _, Nat.le_refl _⟩, fun _ _ hG h1 h2 h3 H locs lsr hD hS hL => ?_⟩
      obtain ⟨q1, q2⟩ := List.forall_mem_cons.mp h3
      obtain ⟨q3, q4⟩ := List.forall_mem_cons.mp q2
      exact row hx.1 hx.2.1 q3 q1 (fun h => absurd h hc) (fun _ => hG h1 h2 q4 H locs lsr hD hS hL)
  · trivial
theorem ok_i1 {cn t : Nat} (row : ∀ {p : Program} {l : Launch} {e : Env} {R : Room} {s : State} {m : MethodId} {args : Array Value} {below : List Frame} {meth : Method} {c : Code} {H : Heap} {locs : List Loc} {cells slots : Nat} {Q : State → Prop} {ls : Array Slot} {rest : List Value} {x : Int}, p.tables.exec = Jvm.exec → c.code = cc → rng x →
      (cnd cn x 0 = true → W p l e R s m args below meth c H locs cells slots Q (F0 m t ls rest)) → (cnd cn x 0 = false → W p l e R s m args below meth c H locs cells slots Q (F0 m (pc + 3) ls rest)) → W p l e R s m args below meth c H locs cells slots Q (F0 m pc ls (.int (Int32.ofInt x) :: rest))) : Okp own cc nL ret nm lg pc (sI1 cn t (pc + 3)) := by
  intro g p l e R s m args below meth c d hx _ _ al0 Q ls st al hi hr
  unfold sI1
  split
  · rename_i x st
    by_cases hc : cnd cn x 0 = true
    · rw [if_pos hc]
      refine ⟨⟨Nat.le_refl _, Nat.le_refl _⟩, fun _ _ hG h1 h2 h3 H locs lsr hD hS hL => ?_⟩
      obtain ⟨q1, q2⟩ := List.forall_mem_cons.mp h3
      exact row hx.1 hx.2.1 q1 (fun _ => hG h1 h2 q2 H locs lsr hD hS hL) (fun h => absurd hc (by rw [h]; decide))
    · rw [if_neg hc]
      refine ⟨⟨Nat.le_refl _, Nat.le_refl _⟩, fun _ _ hG h1 h2 h3 H locs lsr hD hS hL => ?_⟩
      obtain ⟨q1, q2⟩ := List.forall_mem_cons.mp h3
      exact row hx.1 hx.2.1 q1 (fun h => absurd h hc) (fun _ => hG h1 h2 q2 H locs lsr hD hS hL)
  · trivial
variable {off : Int} {t : Nat}
theorem ok_icmp_eq (hd : decode cc pc = .ok (.if_icmp .eq off, 3)) (ht : (pc : Int) + off = (t : Int)) : Okp own cc nL ret nm lg pc (sI2 0 t (pc + 3)) :=
  ok_i2 (fun hx hb q1 q2 kt kf => lv_icmp_eq hx hb hd ht (fun h => kt (by simpa [cnd] using (oi_eq q1 q2).mp h)) (fun h => kf (by simpa [cnd] using fun q => h ((oi_eq q1 q2).mpr q))))
theorem ok_icmp_ne (hd : decode cc pc = .ok (.if_icmp .ne off, 3)) (ht : (pc : Int) + off = (t : Int)) : Okp own cc nL ret nm lg pc (sI2 1 t (pc + 3)) :=
  ok_i2 (fun hx hb q1 q2 kt kf => lv_icmp_ne hx hb hd ht (fun h => kt (by simpa [cnd] using fun q => h ((oi_eq q1 q2).mpr q))) (fun h => kf (by simp only [ne_eq, Decidable.not_not, oi_eq q1 q2] at h; simpa [cnd] using h)))
theorem ok_icmp_lt (hd : decode cc pc = .ok (.if_icmp .lt off, 3)) (ht : (pc : Int) + off = (t : Int)) : Okp own cc nL ret nm lg pc (sI2 2 t (pc + 3)) :=
  ok_i2 (fun hx hb q1 q2 kt kf => lv_icmp_lt hx hb hd ht (fun h => kt (by simpa [cnd] using (oi_lt q1 q2).mp h)) (fun h => kf (by rw [oi_lt q1 q2] at h; simpa [cnd] using h)))
theorem ok_icmp_ge (hd : decode cc pc = .ok (.if_icmp .ge off, 3)) (ht : (pc : Int) + off = (t : Int)) : Okp own cc nL ret nm lg pc (sI2 3 t (pc + 3)) :=
  ok_i2 (fun hx hb q1 q2 kt kf => lv_icmp_ge hx hb hd ht (fun h => kt (by simpa [cnd] using (oi_le q2 q1).mp h)) (fun h => kf (by rw [oi_le q2 q1] at h; simpa [cnd] using h)))
theorem ok_icmp_gt (hd : decode cc pc = .ok (.if_icmp .gt off, 3)) (ht : (pc : Int) + off = (t : Int)) : Okp own cc nL ret nm lg pc (sI2 4 t (pc + 3)) :=
  ok_i2 (fun hx hb q1 q2 kt kf => lv_icmp_gt hx hb hd ht (fun h => kt (by simpa [cnd] using (oi_lt q2 q1).mp h)) (fun h => kf (by rw [oi_lt q2 q1] at h; simpa [cnd] using h)))
theorem ok_icmp_le (hd : decode cc pc = .ok (.if_icmp .le off, 3)) (ht : (pc : Int) + off = (t : Int)) : Okp own cc nL ret nm lg pc (sI2 5 t (pc + 3)) :=
  ok_i2 (fun hx hb q1 q2 kt kf => lv_icmp_le hx hb hd ht (fun h => kt (by simpa [cnd] using (oi_le q1 q2).mp h)) (fun h => kf (by rw [oi_le q1 q2] at h; simpa [cnd] using h)))
theorem ok_if_eq (hd : decode cc pc = .ok (.ifCond .eq off, 3)) (ht : (pc : Int) + off = (t : Int)) : Okp own cc nL ret nm lg pc (sI1 0 t (pc + 3)) :=
  ok_i1 (fun hx hb q1 kt kf => lv_if_eq hx hb hd ht (fun h => kt (by rw [← oi_0, oi_eq q1 r0] at h; simpa [cnd] using h)) (fun h => kf (by rw [← oi_0, oi_eq q1 r0] at h; simpa [cnd] using h)))
theorem ok_if_ne (hd : decode cc pc = .ok (.ifCond .ne off, 3)) (ht : (pc : Int) + off = (t : Int)) : Okp own cc nL ret nm lg pc (sI1 1 t (pc + 3)) :=
  ok_i1 (fun hx hb q1 kt kf => lv_if_ne hx hb hd ht (fun h => kt (by rw [← oi_0, oi_eq q1 r0] at h; simpa [cnd] using h)) (fun h => kf (by rw [← oi_0, oi_eq q1 r0] at h; simpa [cnd] using h)))
theorem ok_if_lt (hd : decode cc pc = .ok (.ifCond .lt off, 3)) (ht : (pc : Int) + off = (t : Int)) : Okp own cc nL ret nm lg pc (sI1 2 t (pc + 3)) :=
  ok_i1 (fun hx hb q1 kt kf => lv_if_lt hx hb hd ht (fun h => kt (by rw [← oi_0, oi_lt q1 r0] at h; simpa [cnd] using h)) (fun h => kf (by rw [← oi_0, oi_lt q1 r0] at h; simpa [cnd] using h)))
theorem ok_if_ge (hd : decode cc pc = .ok (.ifCond .ge off, 3)) (ht : (pc : Int) + off = (t : Int)) : Okp own cc nL ret nm lg pc (sI1 3 t (pc + 3)) :=
  ok_i1 (fun hx hb q1 kt kf => lv_if_ge hx hb hd ht (fun h => kt (by rw [← oi_0, oi_le r0 q1] at h; simpa [cnd] using h)) (fun h => kf (by rw [← oi_0, oi_le r0 q1] at h; simpa [cnd] using h)))
theorem ok_if_gt (hd : decode cc pc = .ok (.ifCond .gt off, 3)) (ht : (pc : Int) + off = (t : Int)) : Okp own cc nL ret nm lg pc (sI1 4 t (pc + 3)) :=
  ok_i1 (fun hx hb q1 kt kf => lv_if_gt hx hb hd ht (fun h => kt (by rw [← oi_0, oi_lt r0 q1] at h; simpa [cnd] using h)) (fun h => kf (by rw [← oi_0, oi_lt r0 q1] at h; simpa [cnd] using h)))
theorem ok_if_le (hd : decode cc pc = .ok (.ifCond .le off, 3)) (ht : (pc : Int) + off = (t : Int)) : Okp own cc nL ret nm lg pc (sI1 5 t (pc + 3)) :=
  ok_i1 (fun hx hb q1 kt kf => lv_if_le hx hb hd ht (fun h => kt (by rw [← oi_0, oi_le q1 r0] at h; simpa [cnd] using h)) (fun h => kf (by rw [← oi_0, oi_le q1 r0] at h; simpa [cnd] using h)))
theorem ok_ifnull (hd : decode cc pc = .ok (.ifnull off, 3)) (ht : (pc : Int) + off = (t : Int)) : Okp own cc nL ret nm lg pc (sNl t (pc + 3)) := by
  intro g p l e R s m args below meth c d hx _ _ al0 Q ls st al hi hr
  unfold sNl
  split
  · refine ⟨⟨Nat.le_refl _, Nat.le_refl _⟩, fun _ _ hG h1 h2 h3 H locs lsr hD hS hL => ?_⟩
    exact lv_ifnullN hx.1 hx.2.1 hd ht (hG h1 h2 (List.forall_mem_cons.mp h3).2 H locs lsr hD hS hL)
  · refine ⟨⟨Nat.le_refl _, Nat.le_refl _⟩, fun _ _ hG h1 h2 h3 H locs lsr hD hS hL => ?_⟩
    exact lv_ifnull hx.1 hx.2.1 hd (hG h1 h2 (List.forall_mem_cons.mp h3).2 H locs lsr hD hS hL)
  · trivial
theorem ok_ifnonnull (hd : decode cc pc = .ok (.ifnonnull off, 3)) (ht : (pc : Int) + off = (t : Int)) : Okp own cc nL ret nm lg pc (sNl (pc + 3) t) := by
  intro g p l e R s m args below meth c d hx _ _ al0 Q ls st al hi hr
  unfold sNl
  split
  · refine ⟨⟨Nat.le_refl _, Nat.le_refl _⟩, fun _ _ hG h1 h2 h3 H locs lsr hD hS hL => ?_⟩
    exact lv_ifnonnullN hx.1 hx.2.1 hd (hG h1 h2 (List.forall_mem_cons.mp h3).2 H locs lsr hD hS hL)
  · refine ⟨⟨Nat.le_refl _, Nat.le_refl _⟩, fun _ _ hG h1 h2 h3 H locs lsr hD hS hL => ?_⟩
    exact lv_ifnonnull hx.1 hx.2.1 hd ht (hG h1 h2 (List.forall_mem_cons.mp h3).2 H locs lsr hD hS hL)
  · trivial
end OK2
