/-! THE HANDLERS OF load AND boot: the exception is caught there -/
section CATCH
/-- the search through a table of one row, which takes it: the class of the row is looked up, then the place is found -/
theorem one_row {e : Env} {S : State} {f : JFrame} {a : Addr} {x : ExceptionTableEntry} {cX : ClassId} {cell : Cell} (hx : covers x f.pc = true) (h0 : x.catchType ≠ 0)
    (hl : S.vm.ClassLinks e.platform f.method.cls x.catchType cX) (hcell : S.heap[a]? = some cell) (hobj : ∀ k, cell.vm ≠ .statics k)
    (hk : ∃ k, S.vm.classes[cell.cls]? = some k) (hc : ∃ k, S.vm.classes[cX]? = some k) (hfit : S.vm.assignable cell.cls cX = true) (Q : Handler → Pre) (E : CtlPost) (d : Bool) (acts : List Action) :
    wp (findHandler.go f a [x]) Q E e d acts S ↔ Q (.found x.handlerPc) d acts (S.setVm (S.vm.noted f.method.cls x.catchType (.cls cX))) := by
  have hal : S.vm.Alike (S.vm.noted f.method.cls x.catchType (.cls cX)) := (Vm.Alike.refl S.vm).noted _ _ _
  obtain ⟨k1, h1⟩ := hk
  obtain ⟨k2, h2⟩ := hc
  obtain ⟨k3, h3, -⟩ := hal.2.2 _ _ h1
  obtain ⟨k4, h4, -⟩ := hal.2.2 _ _ h2
  have h5 : (S.vm.noted f.method.cls x.catchType (.cls cX)).assignable cell.cls cX = true := by rw [hal.assignable]; exact hfit
  obtain ⟨h6, h7⟩ := (resolveClass_links e.toSetting hl).op (op := VmOp.resolveClass f.method.cls x.catchType) rfl
  simp only [covers] at hx
  simp [findHandler.go, hx, h0, h6, h7, hcell, hobj, h3, h4, h5, VmOp.dirties, VmOp.acts]
variable {p : Program} {l : Launch} {e : Env} {R : Room} {s : State} {m : MethodId} {args : Array Value} {below : List Frame} {meth : Method} {c : Code} {H : Heap} {locs : List Loc} {cells slots : Nat} {Q : State → Prop}
theorem caught1 {own : String} {ce : Cell} {q : Addr} {pc : Nat} {ls : Array Slot} {rest : List Value} {x : ExceptionTableEntry} (hown : s.vm.findClass own = some m.cls) (htab : c.exceptionTable.toList = [x]) (hx : covers x pc = true) (h0 : x.catchType ≠ 0)
    (hlink : (Cond.classLink own x.catchType isE).before args s = true) (hcast : (Cond.castable isE isE).before args s = true) (hcell : H[q]? = some ce) (hv : ce.vm = .none) (hcl : s.vm.findClass isE = some ce.cls)
    (kk : W p l e R s m args below meth c H locs cells slots Q (F0 m x.handlerPc ls [.ref q])) : vx_W p l e R s m args below meth c H locs cells slots Q (F0 m pc ls rest) q := by
  intro T hT X
  have hpl : e.platform.magicAccessors = ({} : Platform).magicAccessors := by rw [X.admits.platform]
  obtain ⟨c3, c4, hc3, hc4, hasg⟩ := Cond.castable_spec hcast
  cases Option.some.inj (hc3.symm.trans hcl)
  cases Option.some.inj (hc4.symm.trans hcl)
  obtain ⟨c5, hc5, hcl5⟩ := Cond.classLink_spec hown hlink e.platform hpl
  cases Option.some.inj (hc5.symm.trans hcl)
  obtain ⟨dk, _, _, kt, hd, _, _, _, _, hkt, _, hopen⟩ := hcl5.here
  have hW' : s.WarmedH (T.vm.noted m.cls x.catchType (.cls ce.cls)) := X.warmed.noted hd hopen (State.rightAt_cls hcl5)
  have hal := X.warmed.alike
  obtain ⟨kt', hkt', -⟩ := hal.2.2 _ _ hkt
  have hfit' : T.vm.assignable ce.cls ce.cls = true := by rw [hal.assignable]; exact hasg
  obtain ⟨t, a1, b1⟩ := kk (T.setVm (T.vm.noted m.cls x.catchType (.cls ce.cls))) hT (X.noted hW')
  refine ⟨t, ?_, b1⟩
  have hh : At T (F0 m pc ls rest).method c below := X.here
  obtain ⟨hgo, hw⟩ := hh.throwing q
  refine Steps.head hgo hw ?_
  have hfind : ∀ (Q : Handler → Pre) (E : CtlPost) (d : Bool) (acts : List Action), wp (findHandler (F0 m pc ls rest) q) Q E e d acts ((T.setTop (F0 m pc ls rest)).pushFrame (.throwing q)) ↔ Q (.found x.handlerPc) d acts (((T.setTop (F0 m pc ls rest)).pushFrame (.throwing q)).setVm (T.vm.noted m.cls x.catchType (.cls ce.cls))) := by
    intro Q E d acts
    rw [Jvm.W.findHandler_eq (meth := meth) (code := c) X.method' X.code, htab]
    exact one_row (S := (T.setTop (F0 m pc ls rest)).pushFrame (.throwing q)) (f := F0 m pc ls rest) hx h0 (X.warmed.classLinks hcl5) (by show T.heap[q]? = _; rw [hT]; exact hcell) (fun k => by rw [hv]; simp) ⟨kt', hkt'⟩ ⟨kt', hkt'⟩ hfit' Q E d acts
  obtain ⟨g₀, hg⟩ := Option.isSome_iff_exists.mp X.here.top
  obtain ⟨r, hr⟩ := State.topJava?_eq_some.mp hg
  have hst : (stepThrowing e ((T.setTop (F0 m pc ls rest)).pushFrame (.throwing q)) q (.java (F0 m pc ls rest) :: r)).Is ((((T.setTop (F0 m pc ls rest)).pushFrame (.throwing q)).setVm (T.vm.noted m.cls x.catchType (.cls ce.cls))).setFrames (.java { F0 m pc ls rest with pc := x.handlerPc, stack := [.ref q] } :: r)) [] := by
    simp only [stepThrowing, searchFrame, vmDo]
    generalize hr9 : Sem.go _ e false [] _ = res
    obtain ⟨as, rfl, ha⟩ := Sem.eq_ok_of hr9 (a := Handler.found x.handlerPc) (s' := ((T.setTop (F0 m pc ls rest)).pushFrame (.throwing q)).setVm (T.vm.noted m.cls x.catchType (.cls ce.cls))) (acts' := []) (by simp [hfind _ _ _ _])
    exact ⟨rfl, ha⟩
  have hr' : (T.setVm (T.vm.noted m.cls x.catchType (.cls ce.cls))).frames = .java g₀ :: r := hr
  rw [State.setTop_of_frames _ hr'] at a1
  have e9 : ∀ (u : State) (vm' : Vm) (F G : List Frame), ((u.setFrames F).setVm vm').setFrames G = (u.setVm vm').setFrames G := fun u vm' F G => by
    have h1 : (u.setFrames F).setVm vm' = (u.setVm vm').setFrames F := rfl
    rw [h1, State.setFrames_setFrames]
  rw [stepThread_throwing (frames_entered X.here.top _), hr, List.tail_cons, hst.1, State.pushFrame, e9, State.setTop_of_frames _ hr, e9]
  exact a1
/-- a store that the small machine forgets -/
theorem lrl.stN {g : Gp} {lg : Bool} {nL i : Nat} {ls : List AV} {lsr lsr' : Array Slot} {x : Value} (h : lrl g lg nL ls lsr) (hi : i < nL) (hg : lg = false)
    (h' : lv_has lsr' nL ((i, x) :: (lpr g ls).filter (fun q => !(q.1 == i) && !(q.1 + 1 == i && q.2.category == 2)))) : lrl g lg nL (ls.set i none) lsr' := by
  obtain ⟨h1, h2, h3, h4, h5⟩ := h
  obtain ⟨g1, g2, g3⟩ := h'
  refine ⟨by rw [List.length_set]; exact h1, g1, g2, fun j w hj hw => ?_, fun j y hj => ?_⟩
  · rw [List.getElem?_set] at hj
    by_cases e : i = j
    · subst e
      rw [if_pos rfl, if_pos (by omega)] at hj
      cases hj
      exact absurd rfl hw
    · rw [if_neg e] at hj
      refine ⟨(h4 j w hj hw).1, g3 (j, rv (gρ g) w) (List.mem_cons_of_mem _ (List.mem_filter.mpr ⟨lpr_mem.mpr ⟨w, hj, hw, rfl⟩, ?_⟩))⟩
      simp only [Bool.and_eq_true, Bool.not_eq_true', beq_eq_false_iff_ne, ne_eq, Bool.and_eq_false_iff, beq_eq_false_iff_ne]
      refine ⟨Ne.symm e, ?_⟩
      by_cases hcat : (rv (gρ g) w).category = 2
      · obtain ⟨y, rfl⟩ := rv_cat2 hcat
        obtain ⟨q1, q2⟩ := h5 j y hj
        rw [hg] at q1; cases q1
      · exact Or.inr hcat
  · rw [List.getElem?_set] at hj
    by_cases e : i = j
    · subst e
      rw [if_pos rfl, if_pos (by omega)] at hj
      cases hj
    · rw [if_neg e] at hj
      exact h5 j y hj
set_option maxRecDepth 100000 in
theorem wcastE : tbw (.castable isE isE) := wt0 1427 (by decide +kernel) rfl
theorem catch_ok : CatchOk := by
  intro g k p l e R s m args below meth c hx al0 Q pc h i ls al hi hr hh hG h1 h2 H locs lsr str q ce hD hS hL hq hv hc
  have hSt := hx.1.2.2.2.2.2.2.2
  have hlk : ∀ own, own = RX12 → (Cond.classLink own 76 isE).before args s = true := fun own h => by subst h; exact hSt.w wl_X12_76 args
  have hct : (Cond.castable isE isE).before args s = true := hSt.w wcastE args
  have htb := hx.2
  by_cases k1 : k = 264
  · subst k1
    have hh : (if 25 ≤ pc ∧ pc < 87 then some (91, 2) else none) = some (h, i) := hh
    by_cases hp : 25 ≤ pc ∧ pc < 87
    · rw [if_pos hp] at hh
      cases hh
      refine caught1 (own := RX12) (x := ⟨25, 87, 90, 76⟩) hx.1.2.2.2.2.1 htb (by simp [covers, hp]) (by decide) (hlk _ rfl) hct hq hv hc ?_
      exact lv_astore_n hx.1.1 hx.1.2.1 (k := 2) (by decide +kernel : decode (bb 264) 90 = .ok (.astore_n 2, 1)) rfl hL.has (by decide) rfl fun lsr' h' => hG h1 h2 (fun _ h => nomatch h) H locs lsr' hD hS (hL.stN (by decide) rfl h')
    · rw [if_neg hp] at hh; cases hh
  · by_cases k2 : k = 278
    · subst k2
      have hh : (if 25 ≤ pc ∧ pc < 35 then some (39, 2) else none) = some (h, i) := hh
      by_cases hp : 25 ≤ pc ∧ pc < 35
      · rw [if_pos hp] at hh
        cases hh
        refine caught1 (own := RX12) (x := ⟨25, 35, 38, 76⟩) hx.1.2.2.2.2.1 htb (by simp [covers, hp]) (by decide) (hlk _ rfl) hct hq hv hc ?_
        exact lv_astore_n hx.1.1 hx.1.2.1 (k := 2) (by decide +kernel : decode (bb 278) 38 = .ok (.astore_n 2, 1)) rfl hL.has (by decide) rfl fun lsr' h' => hG h1 h2 (fun _ h => nomatch h) H locs lsr' hD hS (hL.stN (by decide) rfl h')
      · rw [if_neg hp] at hh; cases hh
    · unfold hdl at hh
      rw [if_neg k1, if_neg k2] at hh
      cases hh
end CATCH
