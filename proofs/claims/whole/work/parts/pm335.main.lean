/-! THE RUN IS THE MACHINE'S: by induction over the fuel -/
/-- a long stands among the locals of one method alone -/
def lgk (k : Nat) : Bool := decide (k = 291)
def okm (k : Nat) : Prop := ∀ pc, Mnp (cd k pc) ∧ Okp (yy k).cls (bb k) (mxl k) (rr k) (yy k).name (lgk k) pc (cd k pc)
/-- the handlers of the method k -/
def tbk (k : Nat) : List (Nat × Nat × Nat × Nat) := if k = 264 then [(25, 87, 90, 76)] else if k = 278 then [(25, 35, 38, 76)] else []
def Cxk (g : Gp) (k : Nat) (p : Program) (s : State) (m : MethodId) (meth : Method) (c : Code) : Prop := Cx g (yy k).cls (bb k) (mxl k) (rr k) (yy k).name p s m meth c ∧ c.exceptionTable.toList = tableOf (tbk k)
def CatchOk : Prop := ∀ (g : Gp) (k : Nat) (p : Program) (l : Launch) (e : Env) (R : Room) (s : State) (m : MethodId) (args : Array Value) (below : List Frame) (meth : Method) (c : Code), Cxk g k p s m meth c → ∀ (al0 : AL) (Q : State → Prop) (pc h i : Nat) (ls : List AV) (al : AL) (hi : HI) (hr : HR), hdl k pc = some (h, i) →
  Gd g (lgk k) (mxl k) p l e R s m args below meth c al0 Q h (ls.set i none) [] al hi hr → Gx g (lgk k) (mxl k) p l e R s m args below meth c al0 Q pc ls al hi hr
def Qq (g : Gp) (r : Rs) (al : AL) (hi : HI) (hr : HR) : Array Value → State → Outcome → State → Prop := match r with
  | some v => Qr g al hi hr v
  | none => fun _ _ _ _ => False
def Xq (g : Gp) (r : Rs) (al : AL) (hi : HI) (hr : HR) : String → State → State → Prop := match r with
  | some _ => fun _ _ _ => False
  | none => Xr g al hi hr
theorem met_of_vx {l : Launch} {y : MethodName} {ws : List Cond} {rm : Room} {Pc : Array Value → State → Prop} {Qc : Array Value → State → Outcome → State → Prop} {mc ms : Nat} {free : Addr → Prop} (h : vx_Met l y ws rm Pc Qc (fun _ _ _ => False) mc ms free) : Met l y ws rm Pc Qc mc ms free := by
  intro p e ha hc hk s m args below hf happ hP hT
  obtain ⟨n, o, h1, h2, h3, h4⟩ := h p e ha hc hk s m args below hf happ hP hT
  refine ⟨n, o, h1, h2, h3, ?_⟩
  rcases h4 with h4 | ⟨q, -, E, ce, L, hx, -⟩
  · exact h4
  · exact hx.elim
theorem tho_code {k : Nat} (h : tho k = true) : tbk k = [] ∧ ∀ pc, hdl k pc = none := by
  have h1 : k ≠ 264 := by rintro rfl; revert h; decide
  have h2 : k ≠ 278 := by rintro rfl; revert h; decide
  exact ⟨by unfold tbk; rw [if_neg h1, if_neg h2], fun pc => by unfold hdl; rw [if_neg h1, if_neg h2]⟩
/-- out of the method: nothing catches there -/
theorem gx_out {g : Gp} {k : Nat} {p : Program} {l : Launch} {e : Env} {R : Room} {s : State} {m : MethodId} {args : Array Value} {below : List Frame} {meth : Method} {c : Code} (hx : Cxk g k p s m meth c) (ht : tho k = true) {al0 : AL} {pc : Nat} {ls : List AV} {al : AL} {hi : HI} {hr : HR} {Qc : Array Value → State → Outcome → State → Prop} :
    Gx g (lgk k) (mxl k) p l e R s m args below meth c al0 (vx_MQ below Qc (Xr g al hi hr) args s (al.1 - al0.1) (al.2.1 - al0.2.1) (gA g)) pc ls al hi hr := by
  intro h1 h2 H locs lsr str q ce hD hS hL hq hv hc
  have hS9 := hx.1.2.2.2.2.2.2.2
  refine vx_out (E := isE) (fun x hxm => ?_) hx.1.2.2.2.2.2.1 hq hv hc (fun t ht hA => ?_) hS.2.2 (Nat.le_refl _) (Nat.le_refl _)
  · rw [hx.2, (tho_code ht).1] at hxm
    cases hxm
  · exact ⟨rfl, by rw [ht]; exact hD, hS.F ht⟩
section ENT
variable {g : Gp}
theorem entA_in : ∀ (as : List AV), (∀ v ∈ as, okv v) → ∀ (o i : Nat) (v : AV), (entA as)[i]? = some v → v ≠ none → okv v ∧ (o + i, rv (gρ g) v) ∈ lv_args o (as.map (rv (gρ g)))
  | [], _, o, i, v, h, _ => by simp [entA] at h
  | some (.inr (.inr x)) :: as, hv, o, i, v, h, hn => by
    obtain ⟨q1, q2⟩ := List.forall_mem_cons.mp hv
    rw [entA] at h
    rw [List.map_cons, lv_args]
    match i, h with
    | 0, h => cases h; exact ⟨q1, List.mem_cons_self⟩
    | 1, h => cases h; exact absurd rfl hn
    | i + 2, h =>
      have ih := entA_in as q2 (o + 2) i v h hn
      refine ⟨ih.1, List.mem_cons_of_mem _ ?_⟩
      rw [show o + (i + 2) = o + 2 + i by omega]
      exact ih.2
  | some (.inl x) :: as, hv, o, i, v, h, hn => by
    obtain ⟨q1, q2⟩ := List.forall_mem_cons.mp hv
    rw [entA] at h
    · rw [List.map_cons, lv_args]
      match i, h with
      | 0, h => cases h; exact ⟨q1, List.mem_cons_self⟩
      | i + 1, h =>
        have ih := entA_in as q2 (o + 1) i v h hn
        refine ⟨ih.1, List.mem_cons_of_mem _ ?_⟩
        rw [show o + (i + 1) = o + 1 + i by omega]
        exact ih.2
    · intro x h; cases h
  | some (.inr (.inl r)) :: as, hv, o, i, v, h, hn => by
    obtain ⟨q1, q2⟩ := List.forall_mem_cons.mp hv
    rw [entA] at h
    · rw [List.map_cons, lv_args]
      have hc : ¬ (rv (gρ g) (some (.inr (.inl r)))).category = 2 := by cases r <;> (intro h; cases h)
      rw [if_neg hc]
      match i, h with
      | 0, h => cases h; exact ⟨q1, List.mem_cons_self⟩
      | i + 1, h =>
        have ih := entA_in as q2 (o + 1) i v h hn
        refine ⟨ih.1, List.mem_cons_of_mem _ ?_⟩
        rw [show o + (i + 1) = o + 1 + i by omega]
        exact ih.2
    · intro x h; cases h
  | none :: as, hv, o, i, v, h, hn => absurd (hv none List.mem_cons_self) (by simp [okv])
theorem padA_len : ∀ (n : Nat) (as : List AV), (padA n as).length = n
  | 0, _ => rfl
  | n + 1, [] => by rw [padA, List.length_cons, padA_len n []]
  | n + 1, v :: as => by rw [padA, List.length_cons, padA_len n as]
theorem padA_at : ∀ (n : Nat) (as : List AV) (i : Nat) (v : AV), (padA n as)[i]? = some v → v ≠ none → as[i]? = some v
  | 0, _, i, v, h, _ => by simp [padA] at h
  | n + 1, [], i, v, h, hn => by
    rw [padA] at h
    match i, h with
    | 0, h => cases h; exact absurd rfl hn
    | i + 1, h => have := padA_at n [] i v h hn; simp at this
  | n + 1, w :: as, i, v, h, hn => by
    rw [padA] at h
    match i, h with
    | 0, h => exact h
    | i + 1, h => exact padA_at n as i v h hn
theorem entA_cat : ∀ (as : List AV), as.all cat1 = true → entA as = as
  | [], _ => rfl
  | some (.inr (.inr x)) :: as, h => by simp [cat1] at h
  | some (.inl x) :: as, h => by
    rw [List.all_cons, Bool.and_eq_true] at h
    rw [entA, entA_cat as h.2]
    intro x h; cases h
  | some (.inr (.inl r)) :: as, h => by
    rw [List.all_cons, Bool.and_eq_true] at h
    rw [entA, entA_cat as h.2]
    intro x h; cases h
  | none :: as, h => by simp [cat1] at h
theorem sl_cat {ρ : Nat → Nat} : ∀ (as : List AV), as.all cat1 = true → (lg_sl (as.map (rv ρ))).length = as.length
  | [], _ => rfl
  | v :: as, h => by
    rw [List.all_cons, Bool.and_eq_true] at h
    have hc : ¬ (rv ρ v).category = 2 := by rw [rv_cat1 h.1]; decide
    have ih := sl_cat (ρ := ρ) as h.2
    unfold lg_sl at ih ⊢
    rw [List.map_cons, List.flatMap_cons, List.length_append, ih, if_neg hc]
    simp only [List.length_cons, List.length_nil]
    omega
theorem aok_len {k : Nat} {as : List AV} (h : aok k as) : (lg_sl (as.map (rv (gρ g)))).length ≤ mxl k := by
  rcases h with ⟨h1, h2⟩ | ⟨rfl, a, p, y, w, rfl⟩
  · rw [sl_cat as h1]; exact h2
  · cases a <;> exact (by decide : 5 ≤ mxl 291)
/-- how many words the arguments take -/
theorem ent_lrl {k : Nat} {as : List AV} (hv : ∀ v ∈ as, okv v) (ha : aok k as) (hn : (lg_sl (as.map (rv (gρ g)))).length ≤ mxl k) : lrl g (lgk k) (mxl k) (entL k as) ((lg_sl (as.map (rv (gρ g))) ++ List.replicate (mxl k - (lg_sl (as.map (rv (gρ g)))).length) Slot.unset).toArray) := by
  obtain ⟨e1, e2, e3⟩ := lv_entry (as.map (rv (gρ g))) hn
  refine ⟨padA_len _ _, e1, e2, fun i v hi hne => ?_, fun i x hi => ?_⟩
  · have h1 := padA_at _ _ i v hi hne
    obtain ⟨h2, h3⟩ := entA_in (g := g) as hv 0 i v h1 hne
    rw [Nat.zero_add] at h3
    exact ⟨h2, e3 _ h3⟩
  · have h1 := padA_at _ _ i _ hi (by simp)
    rcases ha with ⟨h, -⟩ | ⟨rfl, a, p, y, w, rfl⟩
    · rw [entA_cat as h] at h1
      have := List.all_eq_true.mp h _ (List.mem_of_getElem? h1)
      simp [cat1] at this
    · refine ⟨by decide, ?_⟩
      match i, h1 with
      | 0, h1 => simp [entA] at h1
      | 1, h1 => simp [entA] at h1
      | 2, h1 => rfl
      | 3, h1 => simp [entA] at h1
      | 4, h1 => simp [entA] at h1
      | i + 5, h1 => simp [entA] at h1
end ENT
section MAIN
/-- a body's end -/
theorem gd_mq {g : Gp} {lg : Bool} {nL : Nat} {p : Program} {l : Launch} {e : Env} {R : Room} {s : State} {m : MethodId} {args : Array Value} {below : List Frame} {meth : Method} {c : Code} {al0 : AL} {pc : Nat} {ls st : List AV} {al : AL} {hi : HI} {hr : HR} {Qc : Array Value → State → Outcome → State → Prop} {XC : String → State → State → Prop} {mc ms : Nat}
    (h : Gd g lg nL p l e R s m args below meth c al0 (MQ below Qc args s mc ms (gA g)) pc ls st al hi hr) : Gd g lg nL p l e R s m args below meth c al0 (vx_MQ below Qc XC args s mc ms (gA g)) pc ls st al hi hr :=
  fun h1 h2 h3 H locs lsr hD hS hL => vx_ret (h h1 h2 h3 H locs lsr hD hS hL)
theorem run_al (hok : ∀ k, okm k) : ∀ (f d k pc : Nat) (ls st : List AV) (al : AL) (hi : HI) (hr : HR) (r : Rs) (al' : AL) (hi' : HI) (hr' : HR), run f d k pc ls st al hi hr = some (r, al', hi', hr') → al.1 ≤ al'.1 ∧ al.2.1 ≤ al'.2.1
  | 0, d, k, pc, ls, st, al, hi, hr, r, al', hi', hr', h => by simp [run] at h
  | f + 1, d, k, pc, ls, st, al, hi, hr, r, al', hi', hr', h => by
    have hm := (hok k pc).1 ls st al hi hr
    rw [run] at h
    split at h
    · cases h
    · rename_i hc
      rw [hc] at hm
      have hm : al.1 ≤ _ ∧ al.2.1 ≤ _ := hm
      have := run_al hok f _ _ _ _ _ _ _ _ _ _ _ _ h
      omega
    · cases h; exact ⟨Nat.le_refl _, Nat.le_refl _⟩
    · split at h
      · cases h; exact ⟨Nat.le_refl _, Nat.le_refl _⟩
      · cases h
    · split at h
      · cases h
      · split at h
        · cases h
        · rename_i hq
          have h1 := run_al hok f _ _ _ _ _ _ _ _ _ _ _ _ hq
          have h2 := run_al hok f _ _ _ _ _ _ _ _ _ _ _ _ h
          omega
        · rename_i hq
          have h1 := run_al hok f _ _ _ _ _ _ _ _ _ _ _ _ hq
          split at h
          · split at h
            · cases h; exact h1
            · cases h
          · have h2 := run_al hok f _ _ _ _ _ _ _ _ _ _ _ _ h
            omega
/-- what the whole says of a body -/
def BodyOk (l : Launch) (g : Gp) (f : Nat) : Prop := ∀ (d k pc : Nat) (ls st : List AV) (al : AL) (hi : HI) (hr : HR) (r : Rs) (al' : AL) (hi' : HI) (hr' : HR), run f d k pc ls st al hi hr = some (r, al', hi', hr') →
    ∀ (p : Program) (e : Env) (s : State) (m : MethodId) (args : Array Value) (below : List Frame) (meth : Method) (c : Code) (al0 : AL), Cxk g k p s m meth c →
      Gd g (lgk k) (mxl k) p l e (rmk d (al'.1 - al0.1) (al'.2.1 - al0.2.1)) s m args below meth c al0 (vx_MQ below (Qq g r al' hi' hr') (Xq g r al' hi' hr') args s (al'.1 - al0.1) (al'.2.1 - al0.2.1) (gA g)) pc ls st al hi hr
theorem code_k {k : Nat} (h : tbk k = []) : cwd k = .code (yy k) (bb k) (mxl k) (rr k) ∧ tbk k = [] := by
  refine ⟨?_, h⟩
  unfold cwd
  unfold tbk at h
  by_cases h1 : k = 264
  · rw [if_pos h1] at h; cases h
  · rw [if_neg h1] at h ⊢
    by_cases h2 : k = 278
    · rw [if_pos h2] at h; cases h
    · rw [if_neg h2]
theorem codeW_k {k : Nat} (h : tbk k ≠ []) : cwd k = .codeWith (yy k) (bb k) (mxl k) (rr k) (tbk k) := by
  unfold cwd tbk at *
  by_cases h1 : k = 264
  · simp only [h1, if_true]
  · rw [if_neg h1] at h ⊢
    rw [if_neg h1]
    by_cases h2 : k = 278
    · simp only [h2, if_true]
    · rw [if_neg h2] at h; exact absurd rfl h
theorem met_body (hpl : ∀ k, plainName (yy k).cls = true) {l : Launch} {g : Gp} {f : Nat} (ih : BodyOk l g f) {d k : Nat} {as : List AV} {al : AL} {hi : HI} {hr : HR} {r : Rs} {al' : AL} {hi' : HI} {hr' : HR} (hrun : run f d k 0 (entL k as) [] al hi hr = some (r, al', hi', hr')) (ha : aok k as) (hv : ∀ v ∈ as, okv v) : MetK l g d k as al hi hr r al' hi' hr' := by
  have hW : vx_Met l (yy k) [cwd k] (rmk d (al'.1 - al.1) (al'.2.1 - al.2.1)) (Pk g as al hi hr) (Qq g r al' hi' hr') (Xq g r al' hi' hr') (al'.1 - al.1) (al'.2.1 - al.2.1) (gA g) := by
    have body : ∀ (p : Program) (e : Env) (s : State) (m : MethodId) (args : Array Value) (below : List Frame) (meth : Method) (c : Code) (s₁ : State), BodyLoose p l (yy k) (headSpec [cwd k] (rmk d (al'.1 - al.1) (al'.2.1 - al.2.1))) (bb k) (mxl k) (rr k) e s m args below meth c s₁ → c.maxLocals = mxl k → c.exceptionTable.toList = tableOf (tbk k) → Pk g as al hi hr args s →
        W p l e (headSpec [cwd k] (rmk d (al'.1 - al.1) (al'.2.1 - al.2.1))).room s m args below meth c s.heap [] 0 0 (vx_MQ below (Qq g r al' hi' hr') (Xq g r al' hi' hr') args s (al'.1 - al.1) (al'.2.1 - al.2.1) (gA g)) (entryFrame m args (mxl k)) := by
      intro p e s m args below meth c s₁ B hml htab hP
      obtain ⟨rfl, hSt, hD⟩ := hP
      have hx : Cxk g k p s m meth c := ⟨⟨B.exec, B.bytes, hml, B.returns, findClass_of_methodNamed B.named, B.notSynchronized, (name_of_methodNamed B.named B.method).1, hSt⟩, htab⟩
      have h9 := ih d k 0 (entL k as) [] al hi hr r al' hi' hr' hrun p e s m (as.map (rv (gρ g))).toArray below meth c al hx ⟨hD.2.1, hD.1, Nat.le_refl _⟩ (Nat.le_refl _) (fun _ h => nomatch h) s.heap [] _ hD va_S.rf (ent_lrl hv ha (aok_len ha))
      rw [Nat.sub_self, Nat.sub_self] at h9
      rw [lg_entry_eq]
      exact h9
    by_cases ht : tbk k = []
    · refine vx_ofW (cc := bb k) (maxL := mxl k) (ret := rr k) (hpl k) (by rw [(code_k ht).1]) ?_
      intro p e s m args below meth c s₁ B hml htab hP
      refine body p e s m args below meth c s₁ B hml ?_ hP
      rw [ht]
      exact List.eq_nil_iff_forall_not_mem.mpr fun x hx => htab x hx
    · refine vx_ofWH (cc := bb k) (maxL := mxl k) (ret := rr k) (hh := tbk k) (hpl k) (by rw [codeW_k ht]) ?_
      intro p e s m args below meth c s₁ B hml hP
      refine body p e s m args below meth c s₁ B hml ?_ hP
      exact vx_table (x := yy k) B (atoms_spec (ws := [cwd k]) B.pre (.codeWith (yy k) (bb k) (mxl k) (rr k) (tbk k)) (by rw [codeW_k ht]; exact List.mem_cons_self))
  cases r with
  | some v => exact met_of_vx hW
  | none => exact hW
theorem snd_body (hpl : ∀ k, plainName (yy k).cls = true) (hok : ∀ k, okm k) (hct : CatchOk) (l : Launch) (htr : l.stackTraces = false) (g : Gp) : ∀ f, BodyOk l g f := by
  intro f
  induction f with
  | zero => intro d k pc ls st al hi hr r al' hi' hr' h; simp [run] at h
  | succ f ih =>
    intro d k pc ls st al hi hr r al' hi' hr' h p e s m args below meth c al0 hx
    have ho := (hok k pc).2 g p l e (rmk d (al'.1 - al0.1) (al'.2.1 - al0.2.1)) s m args below meth c d hx.1 rfl ⟨rfl, htr⟩ al0 (vx_MQ below (Qq g r al' hi' hr') (Xq g r al' hi' hr') args s (al'.1 - al0.1) (al'.2.1 - al0.2.1) (gA g)) ls st al hi hr
    rw [run] at h
    split at h
    · cases h
    · rename_i pc1 ls1 st1 al1 hi1 hr1 hc
      have hm := run_al hok f _ _ _ _ _ _ _ _ _ _ _ _ h
      rw [hc] at ho
      exact ho.2 (by show _ ≤ al'.1 - al0.1; omega) (by show _ ≤ al'.2.1 - al0.2.1; omega) (ih _ _ _ _ _ _ _ _ _ _ _ _ h p e s m args below meth c al0 hx)
    · rename_i v hc
      cases h
      rw [hc] at ho
      exact gd_mq ho
    · rename_i u hc
      split at h
      · rename_i ht
        cases h
        rw [hc] at ho
        exact ho (gx_out hx ht)
      · cases h
    · rename_i k' as nx ls1 st1 hc
      rw [hc] at ho
      obtain ⟨hao, ho⟩ := ho
      split at h
      · cases h
      · rename_i d'
        split at h
        · cases h
        · rename_i v al1 hi1 hr1 hq
          have h1 := run_al hok f _ _ _ _ _ _ _ _ _ _ _ _ hq
          have h2 := run_al hok f _ _ _ _ _ _ _ _ _ _ _ _ h
          have h3 := ho d' (some v) al1 hi1 hr1 rfl (fun hv => met_body hpl ih hq hao hv) (fun hz => nomatch hz) h1.1 h1.2 (by show _ ≤ al'.1 - al0.1; omega) (by show _ ≤ al'.2.1 - al0.2.1; omega)
          exact h3.1 v rfl (ih _ _ _ _ _ _ _ _ _ _ _ _ h p e s m args below meth c al0 hx)
        · rename_i al1 hi1 hr1 hq
          have h1 := run_al hok f _ _ _ _ _ _ _ _ _ _ _ _ hq
          split at h
          · rename_i hh
            split at h
            · rename_i ht
              cases h
              have h3 := ho d' none al' hi' hr' rfl (fun hv => met_body hpl ih hq hao hv) (fun _ => run_thr _ _ _ _ _ _ _ _ _ _ _ _ hq) h1.1 h1.2 (Nat.le_refl _) (Nat.le_refl _)
              exact h3.2 rfl (gx_out hx ht)
            · cases h
          · rename_i h9 i9 hh
            have h2 := run_al hok f _ _ _ _ _ _ _ _ _ _ _ _ h
            have h3 := ho d' none al1 hi1 hr1 rfl (fun hv => met_body hpl ih hq hao hv) (fun _ => run_thr _ _ _ _ _ _ _ _ _ _ _ _ hq) h1.1 h1.2 (by show _ ≤ al'.1 - al0.1; omega) (by show _ ≤ al'.2.1 - al0.2.1; omega)
            exact h3.2 rfl (hct g k p l e _ s m args below meth c hx al0 _ pc h9 i9 ls1 al1 hi1 hr1 hh (ih _ _ _ _ _ _ _ _ _ _ _ _ h p e s m args below meth c al0 hx))
/-- THE MACHINE DOES WHAT THE RUN SAYS -/
theorem snd_met (hpl : ∀ k, plainName (yy k).cls = true) (hok : ∀ k, okm k) (hct : CatchOk) (l : Launch) (htr : l.stackTraces = false) (g : Gp) {f d k : Nat} {as : List AV} {al : AL} {hi : HI} {hr : HR} {r : Rs} {al' : AL} {hi' : HI} {hr' : HR} (hrun : run f d k 0 (entL k as) [] al hi hr = some (r, al', hi', hr')) (ha : aok k as) (hv : ∀ v ∈ as, okv v) : MetK l g d k as al hi hr r al' hi' hr' :=
  met_body hpl (snd_body hpl hok hct l htr g f) hrun ha hv
end MAIN
