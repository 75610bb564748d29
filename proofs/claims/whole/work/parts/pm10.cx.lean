/-! WHAT HOLDS WHILE A METHOD RUNS -/
abbrev Gp : Type := va_G × (Nat → ClassId) × (Nat × Nat × Nat × Nat) × (Nat → Int) × (Nat → Int)
abbrev gD (g : Gp) : va_G := g.1
abbrev gc (g : Gp) : Nat → ClassId := g.2.1
abbrev gz (g : Gp) : Nat := g.2.2.1.1
abbrev gb (g : Gp) : Nat := g.2.2.1.2.1
abbrev go (g : Gp) : Nat := g.2.2.1.2.2.1
abbrev gL (g : Gp) : Nat := g.2.2.1.2.2.2
abbrev gof (g : Gp) : Nat → Int := g.2.2.2.1
abbrev gxf (g : Gp) : Nat → Int := g.2.2.2.2
abbrev gρ (g : Gp) : Nat → Nat := adr (gz g) (gb g) (go g)
abbrev gA (g : Gp) : Nat → Prop := fun q => gz g ≤ q
def FR (g : Gp) (al : AL) (hi : HI) : Prop := al.2.2 0 = (21, 44) ∧ al.2.2 1 = (21, gL g) ∧ (∀ j : Nat, hi 0 j = gof g j) ∧ (∀ j : Nat, hi 1 j = gxf g j)
/-- the heap shows the cells -/
def Dyn (g : Gp) (al : AL) (hi : HI) (hr : HR) (H : Heap) : Prop := 2 ≤ al.1 ∧ H.size = gz g + (al.1 - 2) ∧ va_P (gD g) vwCl (wso (gz g) (gρ g) (gc g) al hi hr) H ∧ (∀ a i, rng (hi a i)) ∧ FR g al hi ∧ (∀ a, 2 ≤ a → a < al.1 → (al.2.2 a).1 ≤ 20 ∧ (al.2.2 a).2 ≤ 100000)
/-- what the tables and the two foreign rows give at a state -/
def Stt (g : Gp) (U : State) : Prop := va_K (gD g) vwCl (tyl (gc g)) U ∧ (∀ w, tbw w → ∀ A : Array Value, w.before A U = true) ∧
  va_T .int (go g) 44 (fun j => .int (Int32.ofInt (gof g j))) (gA g) U U.heap ∧ va_X (gb g) (gL g) (fun j => Int32.ofInt (gxf g j)) U U.heap ∧ va_Z "SealedProcesses" "OPERANDS" "[I" (.ref (go g)) (gA g) U U.heap ∧
  go g < gz g ∧ gb g < gz g ∧ gz g ≤ U.heap.size ∧ gL g ≤ 384 ∧
  vx_Zq Bundle.tN "UNASSIGNED_STACK" Bundle.steD (gA g) U U.heap ∧ vx_Zq Bundle.tN "SUPPRESSED_SENTINEL" Bundle.listD (gA g) U U.heap
def Cx (g : Gp) (own : String) (cc : ByteArray) (nL : Nat) (ret : Option FieldType) (nm : String) (p : Program) (s : State) (m : MethodId) (meth : Method) (c : Code) : Prop :=
  p.tables.exec = Jvm.exec ∧ c.code = cc ∧ c.maxLocals = nL ∧ meth.sig.returnType = ret ∧ s.vm.findClass own = some m.cls ∧ meth.locks = false ∧ meth.name = nm ∧ Stt g s
def lrl (g : Gp) (lg : Bool) (nL : Nat) (ls : List AV) (lsr : Array Slot) : Prop := ls.length = nL ∧ lsr.size = nL ∧ lv_wf lsr ∧ (∀ (i : Nat) (v : AV), ls[i]? = some v → v ≠ none → okv v ∧ lsr[i]? = some (.val (rv (gρ g) v))) ∧ (∀ (i : Nat) (x : Int), ls[i]? = some (vL x) → lg = true ∧ i = 2)
/-- the list that the kit's rows read -/
def lpr (g : Gp) (ls : List AV) : List (Nat × Value) := ls.zipIdx.filterMap (fun q => if q.1 = none then none else some (q.2, rv (gρ g) q.1))
theorem lpr_mem {g : Gp} {ls : List AV} {q : Nat × Value} : q ∈ lpr g ls ↔ ∃ v, ls[q.1]? = some v ∧ v ≠ none ∧ q.2 = rv (gρ g) v := by
  unfold lpr
  rw [List.mem_filterMap]
  constructor
  · rintro ⟨⟨v, i⟩, h1, h2⟩
    rw [List.mem_zipIdx_iff_getElem?] at h1
    simp only at h2
    split at h2
    · cases h2
    · cases h2
      exact ⟨v, h1, by assumption, rfl⟩
  · rintro ⟨v, h1, h2, h3⟩
    refine ⟨(v, q.1), ?_, ?_⟩
    · rw [List.mem_zipIdx_iff_getElem?]; exact h1
    · simp only [h2, if_false]
      rw [← h3]
theorem lrl.has {g : Gp} {lg : Bool} {nL : Nat} {ls : List AV} {lsr : Array Slot} (h : lrl g lg nL ls lsr) : lv_has lsr nL (lpr g ls) := by
  obtain ⟨-, h2, h3, h4, -⟩ := h
  refine ⟨h2, h3, fun q hq => ?_⟩
  obtain ⟨v, a, b, e⟩ := lpr_mem.mp hq
  rw [e]
  exact (h4 _ v a b).2
theorem rv_cat1 {ρ : Nat → Nat} {v : AV} (h : cat1 v = true) : (rv ρ v).category = 1 := by
  match v, h with
  | some (.inl x), _ => rfl
  | some (.inr (.inl none)), _ => rfl
  | some (.inr (.inl (some a))), _ => rfl
theorem rv_cat2 {ρ : Nat → Nat} {v : AV} (h : (rv ρ v).category = 2) : ∃ x, v = vL x := by
  match v, h with
  | some (.inr (.inr x)), _ => exact ⟨x, rfl⟩
  | some (.inr (.inl none)), h => cases h
  | some (.inr (.inl (some a))), h => cases h
/-- a store of one slot: the kit's list shows the new locals -/
theorem lrl.st {g : Gp} {lg : Bool} {nL i : Nat} {ls : List AV} {lsr lsr' : Array Slot} {v : AV} (h : lrl g lg nL ls lsr) (hv : okv v) (hc : cat1 v = true) (hi : i < nL) (hg : lg = true → i ≠ 3)
    (h' : lv_has lsr' nL ((i, rv (gρ g) v) :: (lpr g ls).filter (fun q => !(q.1 == i) && !(q.1 + 1 == i && q.2.category == 2)))) : lrl g lg nL (ls.set i v) lsr' := by
  obtain ⟨h1, h2, h3, h4, h5⟩ := h
  obtain ⟨g1, g2, g3⟩ := h'
  refine ⟨by rw [List.length_set]; exact h1, g1, g2, fun j w hj hw => ?_, fun j x hj => ?_⟩
  · rw [List.getElem?_set] at hj
    by_cases e : i = j
    · subst e
      rw [if_pos rfl, if_pos (by omega)] at hj
      cases hj
      exact ⟨hv, g3 (i, rv (gρ g) v) List.mem_cons_self⟩
    · rw [if_neg e] at hj
      refine ⟨(h4 j w hj hw).1, g3 (j, rv (gρ g) w) (List.mem_cons_of_mem _ (List.mem_filter.mpr ⟨lpr_mem.mpr ⟨w, hj, hw, rfl⟩, ?_⟩))⟩
      simp only [Bool.and_eq_true, Bool.not_eq_true', beq_eq_false_iff_ne, ne_eq, Bool.and_eq_false_iff, beq_eq_false_iff_ne]
      refine ⟨Ne.symm e, ?_⟩
      by_cases hcat : (rv (gρ g) w).category = 2
      · obtain ⟨x, rfl⟩ := rv_cat2 hcat
        obtain ⟨q1, q2⟩ := h5 j x hj
        exact Or.inl (fun q => hg q1 (by omega))
      · exact Or.inr hcat
  · rw [List.getElem?_set] at hj
    by_cases e : i = j
    · subst e
      rw [if_pos rfl, if_pos (by omega)] at hj
      cases hj
      simp [cat1] at hc
    · rw [if_neg e] at hj
      exact h5 j x hj
section GD
variable (g : Gp) (lg : Bool) (nL : Nat) (p : Program) (l : Launch) (e : Env) (R : Room) (s : State) (m : MethodId) (args : Array Value) (below : List Frame) (meth : Method) (c : Code)
/-- from here the machine comes to Q -/
def Gd (al0 : AL) (Q : State → Prop) (pc : Nat) (ls st : List AV) (al : AL) (hi : HI) (hr : HR) : Prop := (s.heap.size = gz g + (al0.1 - 2) ∧ 2 ≤ al0.1 ∧ al0.1 ≤ al.1) → al0.2.1 ≤ al.2.1 → (∀ v ∈ st, okv v) → ∀ (H : Heap) (locs : List Loc) (lsr : Array Slot), Dyn g al hi hr H → va_S (gA g) s.heap H locs → lrl g lg nL ls lsr →
  W p l e R s m args below meth c H locs (al.1 - al0.1) (al.2.1 - al0.2.1) Q (F0 m pc lsr (st.map (rv (gρ g))))
end GD
