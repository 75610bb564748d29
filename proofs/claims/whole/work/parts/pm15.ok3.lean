section OK3
/-- the heap's size, known from what was made -/
theorem W.sz {p : Program} {l : Launch} {e : Env} {R : Room} {s : State} {m : MethodId} {args : Array Value} {below : List Frame} {meth : Method} {c : Code} {H : Heap} {locs : List Loc} {cells slots : Nat} {Q : State → Prop} {f : JFrame} {N : Nat} (h1 : N ≤ H.size) (h2 : s.heap.size + cells ≤ N) (k : H.size = N → W p l e R s m args below meth c H locs cells slots Q f) : W p l e R s m args below meth c H locs cells slots Q f := fun T hT X => k (by have := X.heapSize; rw [hT] at this; omega) T hT X
section
variable {g : Gp} {al : AL} {hi : HI} {hr : HR} {H : Heap} {a : Nat}
theorem cel_obj {ρ : Nat → Nat} {cA : Nat → ClassId} {c : Nat} (h : (al.2.2 a).1 = c) (hc : c < 14) : celE ρ cA al hi hr a = .inr (c, (List.range (nF c)).map (fv ρ hi hr c a)) := by
  unfold celE; rw [h, if_pos hc]
theorem cel_int {ρ : Nat → Nat} {cA : Nat → ClassId} {c : Nat} (h : (al.2.2 a).1 = c) (hc : 14 ≤ c ∧ c < 17) : celE ρ cA al hi hr a = .inl (cA c, (al.2.2 a).2, .inl (fun j => Int32.ofInt (hi a j))) := by
  unfold celE; rw [h, if_neg (by omega), if_pos hc.2]
theorem cel_ref {ρ : Nat → Nat} {cA : Nat → ClassId} {c : Nat} (h : (al.2.2 a).1 = c) (hc : 17 ≤ c) : celE ρ cA al hi hr a = .inl (cA c, (al.2.2 a).2, .inr (.inr (.inr (.inr (fun j => (hr a j).map ρ))))) := by
  unfold celE; rw [h, if_neg (by omega), if_neg (by omega)]
theorem Dyn.lo (h : va_P (gD g) vwCl (wso (gz g) (gρ g) (gc g) al hi hr) H) (h2 : 2 < al.1) : gz g + (al.1 - 2) ≤ H.size := by
  have := (h (al.1 - 1 - 2) _ (wso_get (a := al.1 - 1) (by omega) (by omega))).lt
  simp only at this
  omega
theorem fv_i {ρ : Nat → Nat} {c k : Nat} (h : fR c k = false) : fv ρ hi hr c a k = .int (Int32.ofInt (hi a k)) := by unfold fv; rw [h]; rfl
theorem fv_r {ρ : Nat → Nat} {c k : Nat} (h : fR c k = true) : fv ρ hi hr c a k = va_rf ((hr a k).map ρ) := by unfold fv; rw [h]; rfl
theorem upI_neq {b : Nat} {i x : Int} {j : Int} (h : b ≠ a) : upI hi a i x b j = hi b j := by unfold upI; rw [if_neg (fun q => h q.1)]
theorem upR_neq {b : Nat} {i : Int} {x : Option Nat} {j : Int} (h : b ≠ a) : upR hr a i x b j = hr b j := by unfold upR; rw [if_neg (fun q => h q.1)]
theorem upI_at {i x j : Int} : upI hi a i x a j = if j = i then x else hi a j := by unfold upI; simp
theorem upR_at {i : Int} {x : Option Nat} {j : Int} : upR hr a i x a j = if j = i then x else hr a j := by unfold upR; simp
/-- an int's store into a field -/
theorem fset_i {ρ : Nat → Nat} {c k : Nat} {x : Int} (hk : k < nF c) (h : fR c k = false) : ((List.range (nF c)).map (fv ρ hi hr c a)).set k (.int (Int32.ofInt x)) = (List.range (nF c)).map (fv ρ (upI hi a k x) hr c a) := by
  rw [rset hk]
  refine List.map_congr_left fun j _ => ?_
  by_cases e : j = k
  · subst e
    rw [if_pos rfl, fv_i h, upI_at, if_pos rfl]
  · rw [if_neg e]
    have e' : ¬ ((j : Int) = (k : Int)) := by omega
    simp only [fv, upI_at, if_neg e']
theorem fset_r {ρ : Nat → Nat} {c k : Nat} {x : Option Nat} (hk : k < nF c) (h : fR c k = true) : ((List.range (nF c)).map (fv ρ hi hr c a)).set k (va_rf (x.map ρ)) = (List.range (nF c)).map (fv ρ hi (upR hr a k x) c a) := by
  rw [rset hk]
  refine List.map_congr_left fun j _ => ?_
  by_cases e : j = k
  · subst e
    rw [if_pos rfl, fv_r h, upR_at, if_pos rfl]
  · rw [if_neg e]
    have e' : ¬ ((j : Int) = (k : Int)) := by omega
    simp only [fv, upR_at, if_neg e']
theorem FR.upI {i x : Int} (h : FR g al hi) (ha : 2 ≤ a) : FR g al (upI hi a i x) := by
  obtain ⟨h1, h2, h3, h4⟩ := h
  exact ⟨h1, h2, fun j => by rw [upI_neq (by omega)]; exact h3 j, fun j => by rw [upI_neq (by omega)]; exact h4 j⟩
theorem rng_upI {i x : Int} (h : ∀ a i, rng (hi a i)) (hx : rng x) : ∀ b j, rng (upI hi a i x b j) := by
  intro b j
  unfold upI
  split
  · exact hx
  · exact h b j
/-- the cells behind a store of an int -/
theorem Dyn.stI {i x : Int} {e : va_E} {H1 : Heap} (h : Dyn g al hi hr H) (ha : 2 ≤ a) (hn : a < al.1) (hx : rng x) (he : celE (gρ g) (gc g) al (upI hi a i x) hr a = e)
    (hP : va_P (gD g) vwCl ((wso (gz g) (gρ g) (gc g) al hi hr).set (a - 2) (gz g + (a - 2), e)) H1) (hz : H1.size = gz g + (al.1 - 2)) : Dyn g al (upI hi a i x) hr H1 := by
  obtain ⟨h1, h2, h3, h4, h5, h6⟩ := h
  rw [wso_set ha hn rfl he (fun b hb => celE_congr rfl (fun j => upI_neq hb) (fun j => rfl))] at hP
  exact ⟨h1, hz, hP, rng_upI h4 hx, h5.upI ha, h6⟩
theorem Dyn.stR {i : Int} {x : Option Nat} {e : va_E} {H1 : Heap} (h : Dyn g al hi hr H) (ha : 2 ≤ a) (hn : a < al.1) (he : celE (gρ g) (gc g) al hi (upR hr a i x) a = e)
    (hP : va_P (gD g) vwCl ((wso (gz g) (gρ g) (gc g) al hi hr).set (a - 2) (gz g + (a - 2), e)) H1) (hz : H1.size = gz g + (al.1 - 2)) : Dyn g al hi (upR hr a i x) H1 := by
  obtain ⟨h1, h2, h3, h4, h5, h6⟩ := h
  rw [wso_set ha hn rfl he (fun b hb => celE_congr rfl (fun j => rfl) (fun j => upR_neq hb))] at hP
  exact ⟨h1, hz, hP, h4, h5, h6⟩
theorem setlo {e : va_E} {H1 : Heap} (ha : 2 ≤ a) (hn : a < al.1) (hP : va_P (gD g) vwCl ((wso (gz g) (gρ g) (gc g) al hi hr).set (a - 2) (gz g + (a - 2), e)) H1) : gz g + (al.1 - 2) ≤ H1.size := by
  by_cases q : a = al.1 - 1
  · have h1 : ((wso (gz g) (gρ g) (gc g) al hi hr).set (a - 2) (gz g + (a - 2), e))[a - 2]? = some (gz g + (a - 2), e) := by
      rw [List.getElem?_set, if_pos rfl, if_pos (by simp [wso]; omega)]
    have := (hP _ _ h1).lt
    simp only at this
    omega
  · have h1 : ((wso (gz g) (gρ g) (gc g) al hi hr).set (a - 2) (gz g + (a - 2), e))[al.1 - 1 - 2]? = some (gz g + (al.1 - 1 - 2), celE (gρ g) (gc g) al hi hr (al.1 - 1)) := by
      rw [List.getElem?_set, if_neg (by omega)]
      exact wso_get (a := al.1 - 1) (by omega) (by omega)
    have := (hP _ _ h1).lt
    simp only at this
    omega
end
variable {own : String} {cc : ByteArray} {nL : Nat} {ret : Option FieldType} {nm : String} {lg : Bool} {pc : Nat} {ci k ix N : Nat} {C host : String} {T : u_T}
/-- what a field's row needs of the tables -/
def fdw (own : String) (ci k ix N : Nat) (C : String) (T : u_T) (w : Cond) : Prop := vwCl[ci]? = some (C, T, N) ∧ k < N ∧ nF ci = N ∧ ci < 14 ∧ (T k).1 = C ∧ (∀ w ∈ u_ws C T N, tbw w) ∧ tbw w ∧ (w = .fieldLink own ix C (T k).2.1 (T k).2.2.1 ∨ ∃ host, w = .fieldLinkNest own ix C (T k).2.1 (T k).2.2.1 host)
theorem adr2 {g : Gp} {a : Nat} (h : 2 ≤ a) : gρ g a = gz g + (a - 2) := adr_own h
theorem row_get {g : Gp} {p : Program} {l : Launch} {e : Env} {R : Room} {s : State} {m : MethodId} {args : Array Value} {below : List Frame} {meth : Method} {c : Code} {H : Heap} {locs : List Loc} {cells slots : Nat} {Q : State → Prop} {lsr : Array Slot} {rest : List Value} {al : AL} {hi : HI} {hr : HR} {a : Nat} {w : Cond}
    (hx : Cx g own cc nL ret nm p s m meth c) (hD : Dyn g al hi hr H) (hK : isKb al a ci = true) (hw : fdw own ci k ix N C T w) (hd : decode cc pc = .ok (.getfield ix, 3))
    (kk : W p l e R s m args below meth c H locs cells slots Q (F0 m (pc + 3) lsr (fv (gρ g) hi hr ci a k :: rest))) : W p l e R s m args below meth c H locs cells slots Q (F0 m pc lsr (.ref (gρ g a) :: rest)) := by
  obtain ⟨e1, e2, e3, e4, e5, e6, e7, e8⟩ := hw
  obtain ⟨q1, q2, q3⟩ := isKb_iff.mp hK
  have hS := hx.2.2.2.2.2.2.2
  have he := wso_get (z := gz g) (ρ := gρ g) (cA := gc g) (hi := hi) (hr := hr) q1 q2
  rw [cel_obj q3 e4] at he
  rw [adr2 q1]
  have hv : ((List.range (nF ci)).map (fv (gρ g) hi hr ci a))[k]? = some (fv (gρ g) hi hr ci a k) := by
    rw [List.getElem?_map, List.getElem?_range (by omega)]; rfl
  rcases e8 with rfl | ⟨host, rfl⟩
  · exact va_get (Ts := u_ws C T N) hx.1 hx.2.1 (fun w h => hS.w (e6 w h) args) (fun w h => h) hx.2.2.2.2.1 hS.K hD.2.2.1 _ he e1 k e2 (hS.w e7 args) (fun x h => by rw [e5] at h; exact h) hv hd kk
  · exact va_getN (Ts := u_ws C T N) hx.1 hx.2.1 (fun w h => hS.w (e6 w h) args) (fun w h => h) hx.2.2.2.2.1 hS.K hD.2.2.1 _ he e1 k e2 (hS.w e7 args) (fun x h => by rw [e5] at h; exact h) hv hd kk
theorem ok_getI {w : Cond} (hd : decode cc pc = .ok (.getfield ix, 3)) (hw : fdw own ci k ix N C T w) (hf : fR ci k = false) : Okp own cc nL ret nm lg pc (sGI ci k (pc + 3)) := by
  intro g p l e R s m args below meth c d hx _ _ al0 Q ls st al hi hr
  unfold sGI
  split
  · rename_i a st
    split
    · rename_i hK
      refine ⟨⟨Nat.le_refl _, Nat.le_refl _⟩, fun _ _ hG h1 h2 h3 H locs lsr hD hS hL => ?_⟩
      refine row_get hx hD hK hw hd ?_
      rw [fv_i hf]
      exact hG h1 h2 (List.forall_mem_cons.mpr ⟨hD.2.2.2.1 a k, (List.forall_mem_cons.mp h3).2⟩) H locs lsr hD hS hL
    · trivial
  · trivial
theorem ok_getR {w : Cond} (hd : decode cc pc = .ok (.getfield ix, 3)) (hw : fdw own ci k ix N C T w) (hf : fR ci k = true) : Okp own cc nL ret nm lg pc (sGR ci k (pc + 3)) := by
  intro g p l e R s m args below meth c d hx _ _ al0 Q ls st al hi hr
  unfold sGR
  split
  · rename_i a st
    split
    · rename_i hK
      refine ⟨⟨Nat.le_refl _, Nat.le_refl _⟩, fun _ _ hG h1 h2 h3 H locs lsr hD hS hL => ?_⟩
      refine row_get hx hD hK hw hd ?_
      rw [fv_r hf]
      exact hG h1 h2 (List.forall_mem_cons.mpr ⟨trivial, (List.forall_mem_cons.mp h3).2⟩) H locs lsr hD hS hL
    · trivial
  · trivial
theorem row_put {g : Gp} {p : Program} {l : Launch} {e : Env} {R : Room} {s : State} {m : MethodId} {args : Array Value} {below : List Frame} {meth : Method} {c : Code} {H : Heap} {locs : List Loc} {cells slots : Nat} {Q : State → Prop} {lsr : Array Slot} {rest : List Value} {al : AL} {hi : HI} {hr : HR} {a : Nat} {w : Cond} {ty0 : Nat → FieldType} {v : Value}
    (hx : Cx g own cc nL ret nm p s m meth c) (hD : Dyn g al hi hr H) (hS0 : va_S (gA g) s.heap H locs) (hK : isKb al a ci = true) (hw : fdw own ci k ix N C T w) (hty : (∀ k, k < N → parseFieldDescriptor (T k).2.2.1 = some (ty0 k)) ∧ (∀ a, a < N → ∀ b, b < N → a ≠ b → (T a).2.1 ≠ (T b).2.1)) (hfin : (T k).2.2.2 = false ∨ (nm = "<init>" ∧ C = own ∧ w = .fieldLink own ix C (T k).2.1 (T k).2.2.1)) (hnf : narrow (ty0 k) v = v ∧ fits (ty0 k) v = true) (hd : decode cc pc = .ok (.putfield ix, 3)) (hc : s.heap.size + cells ≤ gz g + (al.1 - 2))
    (kk : ∀ (H1 : Heap) (locs1 : List Loc), va_P (gD g) vwCl ((wso (gz g) (gρ g) (gc g) al hi hr).set (a - 2) (gz g + (a - 2), .inr (ci, ((List.range (nF ci)).map (fv (gρ g) hi hr ci a)).set k v))) H1 → H1.size = gz g + (al.1 - 2) → va_S (gA g) s.heap H1 locs1 → W p l e R s m args below meth c H1 locs1 cells slots Q (F0 m (pc + 3) lsr rest)) : W p l e R s m args below meth c H locs cells slots Q (F0 m pc lsr (v :: .ref (gρ g a) :: rest)) := by
  obtain ⟨e1, e2, e3, e4, e5, e6, e7, e8⟩ := hw
  obtain ⟨q1, q2, q3⟩ := isKb_iff.mp hK
  have hS := hx.2.2.2.2.2.2.2
  have he := wso_get (z := gz g) (ρ := gρ g) (cA := gc g) (hi := hi) (hr := hr) q1 q2
  rw [cel_obj q3 e4] at he
  rw [adr2 q1]
  have hlen : k < ((List.range (nF ci)).map (fv (gρ g) hi hr ci a)).length := by simp; omega
  have hin : ∀ w ∈ u_ws C T N, w.before args s = true := fun w h => hS.w (e6 w h) args
  have hsm : ∀ x, s.fieldFound? (T k).1 (T k).2.1 (T k).2.2.1 = some x → s.fieldFound? C (T k).2.1 (T k).2.2.1 = some x := fun x h => by rw [e5] at h; exact h
  have fin : ∀ (H1 : Heap) (locs1 : List Loc), va_P (gD g) vwCl ((wso (gz g) (gρ g) (gc g) al hi hr).set (a - 2) (gz g + (a - 2), .inr (ci, ((List.range (nF ci)).map (fv (gρ g) hi hr ci a)).set k v))) H1 → va_D (gA g) ((wso (gz g) (gρ g) (gc g) al hi hr).set (a - 2) (gz g + (a - 2), .inr (ci, ((List.range (nF ci)).map (fv (gρ g) hi hr ci a)).set k v))) → va_S (gA g) s.heap H1 locs1 → W p l e R s m args below meth c H1 locs1 cells slots Q (F0 m (pc + 3) lsr rest) := fun H1 locs1 h1 _ h3 => W.sz (setlo q1 q2 h1) hc (fun h2 => kk H1 locs1 h1 h2 h3)
  rcases hfin with hf | ⟨hf1, hf2, hf3⟩
  · rcases e8 with rfl | ⟨host, rfl⟩
    · exact va_put (Ts := u_ws C T N) hx.1 hx.2.1 hin (fun w h => h) ty0 hty.1 hty.2 hx.2.2.2.2.1 hS.K hD.2.2.1 wso_D hS0 _ he e1 k e2 (hS.w e7 args) hsm hf (hty.1 k e2) hnf.1 hnf.2 hlen hd fin
    · exact va_putN (Ts := u_ws C T N) hx.1 hx.2.1 hin (fun w h => h) ty0 hty.1 hty.2 hx.2.2.2.2.1 hS.K hD.2.2.1 wso_D hS0 _ he e1 k e2 (hS.w e7 args) hsm hf (hty.1 k e2) hnf.1 hnf.2 hlen hd fin
  · subst hf3
    by_cases hf : (T k).2.2.2 = false
    · exact va_put (Ts := u_ws C T N) hx.1 hx.2.1 hin (fun w h => h) ty0 hty.1 hty.2 hx.2.2.2.2.1 hS.K hD.2.2.1 wso_D hS0 _ he e1 k e2 (hS.w e7 args) hsm hf (hty.1 k e2) hnf.1 hnf.2 hlen hd fin
    · exact va_putF (Ts := u_ws C T N) hx.1 hx.2.1 hin (fun w h => h) ty0 hty.1 hty.2 hx.2.2.2.2.1 hS.K hD.2.2.1 wso_D hS0 _ he e1 k e2 (hS.w e7 args) hsm (by simpa using hf) (hx.2.2.2.2.2.2.1.trans hf1) (e5.trans hf2) (hty.1 k e2) hnf.1 hnf.2 hlen hd fin
/-- a field that may be written here, of the type ty -/
def fpw (own nm : String) (ix k N : Nat) (C : String) (T : u_T) (w : Cond) (ty0 : Nat → FieldType) (ty : FieldType) : Prop := ((∀ k, k < N → parseFieldDescriptor (T k).2.2.1 = some (ty0 k)) ∧ (∀ a, a < N → ∀ b, b < N → a ≠ b → (T a).2.1 ≠ (T b).2.1)) ∧ ((T k).2.2.2 = false ∨ (nm = "<init>" ∧ C = own ∧ w = .fieldLink own ix C (T k).2.1 (T k).2.2.1)) ∧ ty0 k = ty
theorem ok_putI {w : Cond} {ty0 : Nat → FieldType} (hd : decode cc pc = .ok (.putfield ix, 3)) (hw : fdw own ci k ix N C T w) (hp : fpw own nm ix k N C T w ty0 .int) (hf : fR ci k = false) : Okp own cc nL ret nm lg pc (sPI ci k (pc + 3)) := by
  intro g p l e R s m args below meth c d hx _ _ al0 Q ls st al hi hr
  unfold sPI
  split
  · rename_i x a st
    split
    · rename_i hK
      refine ⟨⟨Nat.le_refl _, Nat.le_refl _⟩, fun _ _ hG h1 h2 h3 H locs lsr hD hS hL => ?_⟩
      obtain ⟨q1, q2, q3⟩ := isKb_iff.mp hK
      obtain ⟨r1, r2⟩ := List.forall_mem_cons.mp h3
      refine row_put (ty0 := ty0) hx hD hS hK hw hp.1 hp.2.1 (by rw [hp.2.2]; exact ⟨rfl, rfl⟩) hd (by rw [h1.1]; omega) fun H1 locs1 p1 p2 p3 => ?_
      exact hG h1 h2 (List.forall_mem_cons.mp r2).2 H1 locs1 lsr (hD.stI q1 q2 r1 (by rw [cel_obj q3 hw.2.2.2.1, ← fset_i (by rw [hw.2.2.1]; exact hw.2.1) hf]; rfl) p1 p2) p3 hL
    · trivial
  · trivial
theorem nf_bool {x : Int} (h : x = 0 ∨ x = 1) : narrow .boolean (.int (Int32.ofInt x)) = .int (Int32.ofInt x) ∧ fits .boolean (.int (Int32.ofInt x)) = true := by rcases h with rfl | rfl <;> exact ⟨by decide, by decide⟩
theorem ok_putZ {w : Cond} {ty0 : Nat → FieldType} (hd : decode cc pc = .ok (.putfield ix, 3)) (hw : fdw own ci k ix N C T w) (hp : fpw own nm ix k N C T w ty0 .boolean) (hf : fR ci k = false) : Okp own cc nL ret nm lg pc (sPZ ci k (pc + 3)) := by
  intro g p l e R s m args below meth c d hx _ _ al0 Q ls st al hi hr
  unfold sPZ
  split
  · rename_i x a st
    split
    · rename_i hK
      rw [Bool.and_eq_true, Bool.or_eq_true, decide_eq_true_eq, decide_eq_true_eq] at hK
      refine ⟨⟨Nat.le_refl _, Nat.le_refl _⟩, fun _ _ hG h1 h2 h3 H locs lsr hD hS hL => ?_⟩
      obtain ⟨q1, q2, q3⟩ := isKb_iff.mp hK.1
      obtain ⟨r1, r2⟩ := List.forall_mem_cons.mp h3
      refine row_put (ty0 := ty0) hx hD hS hK.1 hw hp.1 hp.2.1 (by rw [hp.2.2]; exact nf_bool hK.2) hd (by rw [h1.1]; omega) fun H1 locs1 p1 p2 p3 => ?_
      exact hG h1 h2 (List.forall_mem_cons.mp r2).2 H1 locs1 lsr (hD.stI q1 q2 r1 (by rw [cel_obj q3 hw.2.2.2.1, ← fset_i (by rw [hw.2.2.1]; exact hw.2.1) hf]; rfl) p1 p2) p3 hL
    · trivial
  · trivial
theorem nf_ref {ty : FieldType} (h : (∃ n, ty = .object n) ∨ ∃ t, ty = .array t) (r : Option Nat) : narrow ty (va_rf r) = va_rf r ∧ fits ty (va_rf r) = true := by
  rcases h with ⟨n, rfl⟩ | ⟨t, rfl⟩ <;> cases r <;> exact ⟨rfl, rfl⟩
theorem ok_putR {w : Cond} {ty0 : Nat → FieldType} {ty : FieldType} (hd : decode cc pc = .ok (.putfield ix, 3)) (hw : fdw own ci k ix N C T w) (hp : fpw own nm ix k N C T w ty0 ty) (ht : (∃ n, ty = .object n) ∨ ∃ t, ty = .array t) (hf : fR ci k = true) : Okp own cc nL ret nm lg pc (sPR ci k (pc + 3)) := by
  intro g p l e R s m args below meth c d hx _ _ al0 Q ls st al hi hr
  unfold sPR
  split
  · rename_i r a st
    split
    · rename_i hK
      refine ⟨⟨Nat.le_refl _, Nat.le_refl _⟩, fun _ _ hG h1 h2 h3 H locs lsr hD hS hL => ?_⟩
      obtain ⟨q1, q2, q3⟩ := isKb_iff.mp hK
      obtain ⟨r1, r2⟩ := List.forall_mem_cons.mp h3
      refine row_put (ty0 := ty0) hx hD hS hK hw hp.1 hp.2.1 (by rw [hp.2.2]; exact nf_ref ht _) hd (by rw [h1.1]; omega) fun H1 locs1 p1 p2 p3 => ?_
      exact hG h1 h2 (List.forall_mem_cons.mp r2).2 H1 locs1 lsr (hD.stR q1 q2 (by rw [cel_obj q3 hw.2.2.2.1, ← fset_r (by rw [hw.2.2.1]; exact hw.2.1) hf]; rfl) p1 p2) p3 hL
    · trivial
  · trivial
end OK3
