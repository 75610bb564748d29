/-! FROM THE LAW'S START TO THE SMALL MACHINE -/
section ENTRY
def ops0 : List Int := [1, 0, 2, 2, 0, 0, 0, 0, 0, 0, 0, 0, 0, 0, 0, 0, 0, 0, 0, 0, 3, 3, 4, 5, 5, 0, 4, 0, 0, 0, 6, 0, 7, 5, 5, 0, 8, 9, 10, 0, 6, 0, 0, 0]
def hi0 (xs : Nat → Int32) : HI := fun a i => if a = 0 then ops0.getD i.toNat 0 else if a = 1 then (xs i.toNat).toInt else 0
def hr0 : HR := fun _ _ => none
def al0 (L : Nat) : AL := (2, 0, fun a => if a = 0 then (21, 44) else (21, L))
variable {p : Program} {l : Launch} {e : Env} {R : Room} {s : State} {m : MethodId} {args : Array Value} {below : List Frame} {meth : Method} {c : Code}
theorem kn1q (hw : ∀ w, tbw w → ∀ A : Array Value, w.before A s = true) {C : String} {T : u_T} {N n : Nat} (h1 : ∀ w ∈ u_ws C T N, tbw w) (h2 : tbw (.instantiable C n)) : ∃ (cC : ClassId) (iS : Nat → Nat), u_Kn s C T N cC iS :=
  u_known (ws := u_ws C T N) (args := #[]) (fun w h => hw w (h1 w h) #[]) (fun _ h => h) (hw _ h2 #[])
theorem kn_all (hw : ∀ w, tbw w → ∀ A : Array Value, w.before A s = true) : ∃ D : va_G, ∀ (ci : Nat) (q : vw_C), vwCl[ci]? = some q → u_Kn s q.1 q.2.1 q.2.2 (D.1 ci) (D.2 ci) := by
  have h : ∀ ci : Nat, ∃ (cC : ClassId) (iS : Nat → Nat), ∀ q : vw_C, vwCl[ci]? = some q → u_Kn s q.1 q.2.1 q.2.2 cC iS := by
    intro ci
    cases hq : vwCl[ci]? with
    | none => exact ⟨0, fun _ => 0, fun q h => nomatch h⟩
    | some q =>
      have h9 : ∃ (cC : ClassId) (iS : Nat → Nat), u_Kn s q.1 q.2.1 q.2.2 cC iS := by
        match ci, hq with
        | 0, hq => cases hq; exact kn1q hw (fun w h => nomatch h) wn_E
        | 1, hq => cases hq; exact kn1q hw cw_X0 wn_X0
        | 2, hq => cases hq; exact kn1q hw cw_X1 wn_X1
        | 3, hq => cases hq; exact kn1q hw cw_X2 wn_X2
        | 4, hq => cases hq; exact kn1q hw cw_X3 wn_X3
        | 5, hq => cases hq; exact kn1q hw cw_X4 wn_X4
        | 6, hq => cases hq; exact kn1q hw cw_X5 wn_X5
        | 7, hq => cases hq; exact kn1q hw cw_X6 wn_X6
        | 8, hq => cases hq; exact kn1q hw cw_X7 wn_X7
        | 9, hq => cases hq; exact kn1q hw cw_X8 wn_X8
        | 10, hq => cases hq; exact kn1q hw cw_X9 wn_X9
        | 11, hq => cases hq; exact kn1q hw cw_X10 wn_X10
        | 12, hq => cases hq; exact kn1q hw cw_X11 wn_X11
        | 13, hq => cases hq; exact kn1q hw cw_X12 wn_X12
        | n + 14, hq => exact nomatch (show (none : Option vw_C) = some q from hq)
      obtain ⟨cC, iS, h9⟩ := h9
      exact ⟨cC, iS, fun q' h => by cases h; exact h9⟩
  exact ⟨(fun ci => Classical.choose (h ci), fun ci => Classical.choose (Classical.choose_spec (h ci))), fun ci q hq => Classical.choose_spec (Classical.choose_spec (h ci)) q hq⟩
theorem ar1 {ty : FieldType} (h : (Cond.arrayClass ty).before args s = true) : ∃ cA : ClassId, ArrOfT s cA ty ∧ s.vm.findClass ("[" ++ ty.toString) = some cA := by
  obtain ⟨cA, k, comp, h1, h2, h3⟩ := Cond.arrayClass_spec h
  exact ⟨cA, fun n z => ⟨fun k h => (by cases h), k, h2, comp, h3⟩, h1⟩
theorem ar2 {C : String} (h : (Cond.arrayOver (.object C)).before args s = true) : ∃ cA : ClassId, ArrOfT s cA (.object C) ∧ va_RA s cA (.object C) := by
  obtain ⟨comp, cA, k, h1, -, h2, h3, h4⟩ := Cond.arrayOver_spec h
  exact ⟨cA, fun n z => ⟨fun k h => (by cases h), k, h2, comp, h3⟩, k, comp, h2, h3, h1, h4⟩
theorem ar_all (hw : ∀ w, tbw w → ∀ A : Array Value, w.before A s = true) : ∃ cA : Nat → ClassId, ∀ (k : Nat) (q : ClassId × FieldType), (tyl cA)[k]? = some q → ArrOfT s q.1 q.2 ∧ va_RA s q.1 q.2 := by
  obtain ⟨a14, b14, c14⟩ := ar1 (hw _ wa_byte #[])
  obtain ⟨a15, b15, c15⟩ := ar1 (hw _ wa_int #[])
  obtain ⟨a16, b16, c16⟩ := ar1 (hw _ wa_boolean #[])
  obtain ⟨a17, b17⟩ := ar2 (hw _ wo_X2 #[])
  obtain ⟨a18, b18⟩ := ar2 (hw _ wo_X7 #[])
  obtain ⟨a19, b19⟩ := ar2 (hw _ wo_X8 #[])
  obtain ⟨a20, b20⟩ := ar2 (hw _ wo_X9 #[])
  refine ⟨fun k => if k = 14 then a14 else if k = 15 then a15 else if k = 16 then a16 else if k = 17 then a17 else if k = 18 then a18 else if k = 19 then a19 else a20, fun k q hq => ?_⟩
  match k, hq with
  | 0, hq => cases hq; exact ⟨b14, c14⟩
  | 1, hq => cases hq; exact ⟨b15, c15⟩
  | 2, hq => cases hq; exact ⟨b16, c16⟩
  | 3, hq => cases hq; exact b17
  | 4, hq => cases hq; exact b18
  | 5, hq => cases hq; exact b19
  | 6, hq => cases hq; exact b20
  | n + 7, hq => exact nomatch (show (none : Option (ClassId × FieldType)) = some q from hq)
def opT : Term := .static "SealedProcesses" "OPERANDS" "[I"
theorem ops_at {args : Array Value} (hg : (Jvm.Cond.and given_1 narrow_1).before args s = true) {A : Nat → Prop} (hA : ∀ a : Nat, a < s.heap.size → ¬ A a) : ∃ t : Nat, opT.eval args s none [] s = some (.ref t) ∧ va_T .int t 44 (fun j => .int (Int32.ofInt (ops0.getD j 0))) A s s.heap := by
  have hf := flat_of_before _ hg
  refine va_Tof (by decide) (hf _ (by decide +kernel)) (va_eqt (hf _ (by decide +kernel))) (fun j hj => ?_) hA
  have h9 : ∀ j, j < 44 → Cond.eq (.elem opT (.int (Int32.ofNat j))) (.int (Int32.ofInt (ops0.getD j 0))) ∈ flatC (Jvm.Cond.and given_1 narrow_1) := by decide +kernel
  exact va_eqt (hf _ (h9 j hj))
theorem stt_start {b L : Nat} {xs : Nat → Int32} (hL : L ≤ 384) (hts : ∀ w ∈ lw_tbl, w.before #[Value.ref b] s = true) (hX : va_X b L xs s s.heap) (hb : b < s.heap.size) (hg : (Jvm.Cond.and given_1 narrow_1).before #[Value.ref b] s = true) :
    ∃ g : Gp, gz g = s.heap.size ∧ gb g = b ∧ gL g = L ∧ (∀ j, gof g j = ops0.getD j 0) ∧ (∀ j, gxf g j = (xs j).toInt) ∧ Stt g s := by
  have hw : ∀ w, tbw w → ∀ A : Array Value, w.before A s = true := fun w h => wkd_any h.2 (hts w h.1)
  have hmem : ∀ w ∈ tables_1, w.before #[Value.ref b] s = true := fun w h => hts w (List.mem_append_right _ h)
  have hf := flat_of_before _ hg
  have hA : ∀ a : Nat, a < s.heap.size → ¬ (fun q => s.heap.size ≤ q) a := fun a h h' => by have h' : s.heap.size ≤ a := h'; omega
  obtain ⟨D, hD⟩ := kn_all hw
  obtain ⟨cA, hcA⟩ := ar_all hw
  obtain ⟨o, ho, hT⟩ := ops_at hg hA
  have ho2 : o < s.heap.size := by obtain ⟨cell, h1, -⟩ := hT; exact (Array.getElem?_eq_some_iff.mp h1).1
  refine ⟨(D, cA, (s.heap.size, b, o, L), fun j => ops0.getD j 0, fun j => (xs j).toInt), rfl, rfl, rfl, fun _ => rfl, fun _ => rfl, ⟨hD, hcA⟩, hw, hT, ?_, ?_, ho2, hb, Nat.le_refl _, hL, ?_, ?_⟩
  · have : (fun j => Int32.ofInt ((xs j).toInt)) = xs := funext fun j => Int32.ofInt_toInt (xs j)
    show va_X b L (fun j => Int32.ofInt ((xs j).toInt)) s s.heap
    rw [this]; exact hX
  · exact va_Zref (hmem _ (List.mem_of_getElem? (i := 591) (by decide +kernel))) (hmem _ (List.mem_of_getElem? (i := 1) (by decide +kernel))) ho hA
  · exact vx_Zqof (hmem _ (List.mem_of_getElem? (i := 1452) (by decide +kernel))) (hmem _ (List.mem_of_getElem? (i := 10) (by decide +kernel))) (hf _ (by decide +kernel)) hA
  · exact vx_Zqof (hmem _ (List.mem_of_getElem? (i := 1454) (by decide +kernel))) (hmem _ (List.mem_of_getElem? (i := 10) (by decide +kernel))) (hf _ (by decide +kernel)) hA
theorem dyn_start {g : Gp} {L : Nat} {xs : Nat → Int32} {H : Heap} (hz : gz g = H.size) (hL : gL g = L) (h1 : ∀ j, gof g j = ops0.getD j 0) (h2 : ∀ j, gxf g j = (xs j).toInt) : Dyn g (al0 L) (hi0 xs) hr0 H := by
  refine ⟨Nat.le_refl _, ?_, fun k q h => ?_, fun a i => ?_, ⟨rfl, ?_, fun j => ?_, fun j => ?_⟩, fun a ha hb => ?_⟩
  · show H.size = gz g + (2 - 2); omega
  · exact nomatch (show (none : Option (Nat × va_E)) = some q from h)
  · unfold hi0
    split
    · have h9 : ∀ x ∈ ops0, rng x := by decide
      by_cases hl : i.toNat < ops0.length
      · rw [List.getD_eq_getElem?_getD, List.getElem?_eq_getElem hl]
        exact h9 _ (List.getElem_mem hl)
      · rw [List.getD_eq_getElem?_getD, List.getElem?_eq_none (by omega)]
        exact r0
    · split
      · exact ⟨Int32.le_toInt _, Int32.toInt_lt _⟩
      · exact r0
  · show ((21 : Nat), L) = (21, gL g); rw [hL]
  · show ops0.getD (j : Int).toNat 0 = gof g j; rw [h1]; rfl
  · show (xs (j : Int).toNat).toInt = gxf g j; rw [h2]; rfl
  · have hb : a < 2 := hb
    omega
theorem W.room {H : Heap} {locs : List Loc} {cells slots : Nat} {Q : State → Prop} {f : JFrame} {R R' : Room} (h1 : R'.frames ≤ R.frames) (h2 : R'.locals ≤ R.locals) (h3 : R'.cells ≤ R.cells) (h4 : R'.slots ≤ R.slots) (k : W p l e R' s m args below meth c H locs cells slots Q f) : W p l e R s m args below meth c H locs cells slots Q f := by
  intro T hT X
  refine k T hT ⟨X.admits, X.cas, X.clock, X.frames, ?_, X.hears, X.method, X.code, X.here, X.tail, X.warmed, X.limits, X.bytes, X.same⟩
  have h := X.room
  simp only [State.hasRoom, Bool.and_eq_true, decide_eq_true_eq] at h ⊢
  obtain ⟨⟨⟨⟨q1, q2, q3, q4, q5, q6⟩, q7⟩, q8⟩, q9⟩ := h
  exact ⟨⟨⟨⟨by omega, by omega, by omega, by omega, by omega, q6⟩, by omega⟩, by omega⟩, q9⟩
theorem pl_all : ∀ k, plainName (yy k).cls = true := by
  intro k
  by_cases h : k < 340
  · have h9 : ∀ k, k < 340 → plainName (yy k).cls = true := by decide +kernel
    exact h9 k h
  · have h9 : yy k = yL_law := by
      unfold yy
      split <;> first | omega | rfl
    rw [h9]; decide
end ENTRY
