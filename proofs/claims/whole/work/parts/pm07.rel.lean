/-! HOW THE MACHINE'S HEAP SHOWS THE CELLS. 0 is the static row, 1 the script, the others lie one behind the other from z on. -/
def adr (z b oa a : Nat) : Nat := if a = 0 then oa else if a = 1 then b else z + (a - 2)
def rv (ρ : Nat → Nat) : AV → Value
  | some (.inl x) => .int (Int32.ofInt x)
  | some (.inr (.inl r)) => va_rf (r.map ρ)
  | some (.inr (.inr y)) => .long (Int64.ofInt y)
  | none => .null
def okv : AV → Prop
  | some (.inl x) => rng x
  | some (.inr (.inl _)) => True
  | some (.inr (.inr y)) => rgl y
  | none => False
def fRl : List (List Bool) := [[], [true, true, true, false, false], [true, false, false, false, false, false], [false, true, true, true, true], [true, false], [true, true, true, true, true, true, true, true, true, true, false], [false, true, true, true, true, true, true, true, false, false, false, false, true, true, true], [true, false, true, true, true, true, true, true, true, true, true, false], [false, true, false, false, false, false, false, true, true, true], [false, true, false, false, false, false, false, false, false, true, true, true, true, true, false, true, false], [true, false, false, true, true, true, false, true, false, true], [true, true, true, true, false, false, false, true, true], [true, false, true, false, false, true, true, true, true], [false, true, false, true, true, true, true, true, true, true, true, true, true, true, true, true, true, true, true, true, true, true, false, false, false, true, false, false, false, true, true, true, true, true, true, false, false, false, false, true, true, true, true, true, true, true, true, true, false, false, true, false, false, false, false, false, false, true, true, true, true, true, true, true, true, true, true, true, true, true, true, true, true, true, true, true, true, true, true, true, true, true, true, true, true, true, true, true, true, false]]
def fR (c k : Nat) : Bool := (fRl.getD c []).getD k false
def nFl : List Nat := [0, 5, 6, 5, 2, 11, 15, 12, 10, 17, 10, 9, 9, 90]
def nF (c : Nat) : Nat := nFl.getD c 0
def fv (ρ : Nat → Nat) (hi : HI) (hr : HR) (c a k : Nat) : Value := if fR c k then va_rf ((hr a k).map ρ) else .int (Int32.ofInt (hi a k))
def celE (ρ : Nat → Nat) (cA : Nat → ClassId) (al : AL) (hi : HI) (hr : HR) (a : Nat) : va_E :=
  if (al.2.2 a).1 < 14 then .inr ((al.2.2 a).1, (List.range (nF (al.2.2 a).1)).map (fv ρ hi hr (al.2.2 a).1 a))
  else if (al.2.2 a).1 < 17 then .inl (cA (al.2.2 a).1, (al.2.2 a).2, .inl (fun j => Int32.ofInt (hi a j)))
  else .inl (cA (al.2.2 a).1, (al.2.2 a).2, .inr (.inr (.inr (.inr (fun j => (hr a j).map ρ)))))
def wso (z : Nat) (ρ : Nat → Nat) (cA : Nat → ClassId) (al : AL) (hi : HI) (hr : HR) : va_W := (List.range (al.1 - 2)).map (fun i => (z + i, celE ρ cA al hi hr (i + 2)))
def tyl (cA : Nat → ClassId) : List (ClassId × FieldType) := [(cA 14, .byte), (cA 15, .int), (cA 16, .boolean), (cA 17, .object "SealedProcesses$Contract"), (cA 18, .object "SealedProcesses$Routine"), (cA 19, .object "SealedProcesses$Task"), (cA 20, .object "SealedProcesses$TypedModule")]
theorem adr_own {z b oa a : Nat} (h : 2 ≤ a) : adr z b oa a = z + (a - 2) := by
  unfold adr
  rw [if_neg (by omega), if_neg (by omega)]
section WSO
variable {z b oa : Nat} {cA : Nat → ClassId} {al al' : AL} {hi hi' : HI} {hr hr' : HR}
theorem wso_get {ρ : Nat → Nat} {a : Nat} (h2 : 2 ≤ a) (hn : a < al.1) : (wso z ρ cA al hi hr)[a - 2]? = some (z + (a - 2), celE ρ cA al hi hr a) := by
  unfold wso
  rw [List.getElem?_map, List.getElem?_range (by omega)]
  simp only [Option.map_some]
  rw [show a - 2 + 2 = a by omega]
theorem wso_at {ρ : Nat → Nat} {k : Nat} {q : Nat × va_E} (h : (wso z ρ cA al hi hr)[k]? = some q) : k + 2 < al.1 ∧ q = (z + k, celE ρ cA al hi hr (k + 2)) := by
  unfold wso at h
  rw [List.getElem?_map] at h
  by_cases hk : k < al.1 - 2
  · rw [List.getElem?_range hk] at h
    simp only [Option.map_some, Option.some.injEq] at h
    exact ⟨by omega, h.symm⟩
  · rw [List.getElem?_eq_none (by simpa using hk)] at h
    cases h
theorem wso_D {ρ : Nat → Nat} : va_D (fun q => z ≤ q) (wso z ρ cA al hi hr) := by
  refine ⟨fun i j p q hp hq e => ?_, fun k q hk => ?_⟩
  · obtain ⟨-, rfl⟩ := wso_at hp
    obtain ⟨-, rfl⟩ := wso_at hq
    have e : z + i = z + j := e
    omega
  · obtain ⟨-, rfl⟩ := wso_at hk
    exact Nat.le_add_right _ _
theorem wso_set {ρ : Nat → Nat} {a : Nat} {e : va_E} (h2 : 2 ≤ a) (hn : a < al.1) (hl : al'.1 = al.1) (he : celE ρ cA al' hi' hr' a = e) (ho : ∀ c, c ≠ a → celE ρ cA al' hi' hr' c = celE ρ cA al hi hr c) :
    (wso z ρ cA al hi hr).set (a - 2) (z + (a - 2), e) = wso z ρ cA al' hi' hr' := by
  refine List.ext_getElem? fun i => ?_
  rw [List.getElem?_set]
  by_cases hi9 : a - 2 = i
  · subst hi9
    rw [if_pos rfl, wso_get h2 (by omega), he, if_pos (by simp [wso]; omega)]
  · rw [if_neg hi9]
    unfold wso
    rw [List.getElem?_map, List.getElem?_map, hl]
    by_cases hk : i < al.1 - 2
    · rw [List.getElem?_range hk]
      simp only [Option.map_some]
      rw [ho (i + 2) (by omega)]
    · rw [List.getElem?_eq_none (by simpa using hk)]
      rfl
theorem wso_push {ρ : Nat → Nat} {e : va_E} (h2 : 2 ≤ al.1) (hl : al'.1 = al.1 + 1) (he : celE ρ cA al' hi' hr' al.1 = e) (ho : ∀ c, c < al.1 → celE ρ cA al' hi' hr' c = celE ρ cA al hi hr c) :
    wso z ρ cA al hi hr ++ [(z + (al.1 - 2), e)] = wso z ρ cA al' hi' hr' := by
  unfold wso
  rw [hl, show al.1 + 1 - 2 = (al.1 - 2) + 1 by omega, List.range_succ, List.map_append]
  congr 1
  · refine List.map_congr_left fun i hi9 => ?_
    rw [List.mem_range] at hi9
    rw [ho (i + 2) (by omega)]
  · simp only [List.map_cons, List.map_nil]
    rw [show al.1 - 2 + 2 = al.1 by omega, he]
end WSO
theorem rset {N k : Nat} {f : Nat → Value} {v : Value} (hk : k < N) : ((List.range N).map f).set k v = (List.range N).map (fun j => if j = k then v else f j) := by
  refine List.ext_getElem? fun i => ?_
  rw [List.getElem?_set, List.getElem?_map, List.getElem?_map]
  by_cases hi : k = i
  · subst hi
    rw [if_pos rfl, if_pos (by simpa using hk), List.getElem?_range hk]
    simp
  · rw [if_neg hi]
    by_cases hl : i < N
    · rw [List.getElem?_range hl]
      simp [Ne.symm hi]
    · rw [List.getElem?_eq_none (by simpa using hl)]
      rfl
theorem celE_congr {ρ : Nat → Nat} {cA : Nat → ClassId} {al al' : AL} {hi hi' : HI} {hr hr' : HR} {a : Nat} (h1 : al'.2.2 a = al.2.2 a) (h2 : ∀ j : Nat, hi' a j = hi a j) (h3 : ∀ j : Nat, hr' a j = hr a j) : celE ρ cA al' hi' hr' a = celE ρ cA al hi hr a := by
  unfold celE
  rw [h1]
  have e1 : fv ρ hi' hr' (al.2.2 a).1 a = fv ρ hi hr (al.2.2 a).1 a := by
    funext k
    unfold fv
    rw [h2, h3]
  rw [e1]
  simp only [h2, h3]
