/-! A STEP IS RIGHT when the machine does it too -/
def rmk (d mc ms : Nat) : Room := { frames := d + 10, cells := mc, slots := ms, locals := 200 * (d + 1) }
def Qr (g : Gp) (al : AL) (hi : HI) (hr : HR) (v : Option AV) : Array Value → State → Outcome → State → Prop := fun _ st oc t => oc = .returned (v.map (rv (gρ g))) ∧ (∀ w, v = some w → okv w) ∧ Stt g t ∧ Dyn g al hi hr t.heap ∧ va_F (gA g) st t
def Xr (g : Gp) (al : AL) (hi : HI) (hr : HR) : String → State → State → Prop := fun E st t => E = isE ∧ Dyn g al hi hr t.heap ∧ va_F (gA g) st t
abbrev Pk (g : Gp) (as : List AV) (al : AL) (hi : HI) (hr : HR) : Array Value → State → Prop := va_Pc (as.map (rv (gρ g))) (fun U => Stt g U ∧ Dyn g al hi hr U.heap)
/-- the method k, from these arguments and cells, ends so -/
def MetK (l : Launch) (g : Gp) (d k : Nat) (as : List AV) (al : AL) (hi : HI) (hr : HR) (r : Rs) (al' : AL) (hi' : HI) (hr' : HR) : Prop := match r with
  | some v => Met l (yy k) [cwd k] (rmk d (al'.1 - al.1) (al'.2.1 - al.2.1)) (Pk g as al hi hr) (Qr g al' hi' hr' v) (al'.1 - al.1) (al'.2.1 - al.2.1) (gA g)
  | none => vx_Met l (yy k) [cwd k] (rmk d (al'.1 - al.1) (al'.2.1 - al.2.1)) (Pk g as al hi hr) (fun _ _ _ _ => False) (Xr g al' hi' hr') (al'.1 - al.1) (al'.2.1 - al.2.1) (gA g)
/-- the arguments of a call: no long, but of one method -/
def aok (k : Nat) (as : List AV) : Prop := (as.all cat1 = true ∧ as.length ≤ mxl k) ∨ (k = 291 ∧ ∃ a p x w, as = [vR a, vI p, vL x, vI w])
section OK
variable (g : Gp) (lg : Bool) (nL : Nat) (p : Program) (l : Launch) (e : Env) (R : Room) (s : State) (m : MethodId) (args : Array Value) (below : List Frame) (meth : Method) (c : Code)
/-- a thrown exception over the method's frame: the machine comes to Q -/
def Gx (al0 : AL) (Q : State → Prop) (pc : Nat) (ls : List AV) (al : AL) (hi : HI) (hr : HR) : Prop := (s.heap.size = gz g + (al0.1 - 2) ∧ 2 ≤ al0.1 ∧ al0.1 ≤ al.1) → al0.2.1 ≤ al.2.1 → ∀ (H : Heap) (locs : List Loc) (lsr : Array Slot) (str : List Value) (q : Addr) (ce : Cell), Dyn g al hi hr H → va_S (gA g) s.heap H locs → lrl g lg nL ls lsr → H[q]? = some ce → ce.vm = .none → s.vm.findClass isE = some ce.cls →
  vx_W p l e R s m args below meth c H locs (al.1 - al0.1) (al.2.1 - al0.2.1) Q (F0 m pc lsr str) q
def okO (d : Nat) (al0 : AL) (Q : State → Prop) (pc : Nat) (ls st : List AV) (al : AL) (hi : HI) (hr : HR) (o : Out) : Prop := match o with
  | none => True
  | some (.inl (pc', ls', st', al', hi', hr')) => (al.1 ≤ al'.1 ∧ al.2.1 ≤ al'.2.1) ∧ (al'.1 - al0.1 ≤ R.cells → al'.2.1 - al0.2.1 ≤ R.slots → Gd g lg nL p l e R s m args below meth c al0 Q pc' ls' st' al' hi' hr' → Gd g lg nL p l e R s m args below meth c al0 Q pc ls st al hi hr)
  | some (.inr (.inl v)) => Gd g lg nL p l e R s m args below meth c al0 (MQ below (Qr g al hi hr v) args s (al.1 - al0.1) (al.2.1 - al0.2.1) (gA g)) pc ls st al hi hr
  | some (.inr (.inr (.inl _))) => Gx g lg nL p l e R s m args below meth c al0 Q pc ls al hi hr → Gd g lg nL p l e R s m args below meth c al0 Q pc ls st al hi hr
  | some (.inr (.inr (.inr (k', as, nx, ls', st')))) => aok k' as ∧ ∀ (d' : Nat) (r : Rs) (al' : AL) (hi' : HI) (hr' : HR), d = d' + 1 → ((∀ v ∈ as, okv v) → MetK l g d' k' as al hi hr r al' hi' hr') → (r = none → tho k' = true) → al.1 ≤ al'.1 → al.2.1 ≤ al'.2.1 → al'.1 - al0.1 ≤ R.cells → al'.2.1 - al0.2.1 ≤ R.slots →
      (∀ v, r = some v → Gd g lg nL p l e R s m args below meth c al0 Q nx ls' (v.toList ++ st') al' hi' hr' → Gd g lg nL p l e R s m args below meth c al0 Q pc ls st al hi hr) ∧
      (r = none → Gx g lg nL p l e R s m args below meth c al0 Q pc ls' al' hi' hr' → Gd g lg nL p l e R s m args below meth c al0 Q pc ls st al hi hr)
end OK
/-- own class, bytes, locals, result, name, a long among the locals, place: the step is right there -/
def Okp (own : String) (cc : ByteArray) (nL : Nat) (ret : Option FieldType) (nm : String) (lg : Bool) (pc : Nat) (sp : Sp) : Prop :=
  ∀ (g : Gp) (p : Program) (l : Launch) (e : Env) (R : Room) (s : State) (m : MethodId) (args : Array Value) (below : List Frame) (meth : Method) (c : Code) (d : Nat), Cx g own cc nL ret nm p s m meth c → R.frames = d + 10 → (R.locals = 200 * (d + 1) ∧ l.stackTraces = false) →
  ∀ (al0 : AL) (Q : State → Prop) (ls st : List AV) (al : AL) (hi : HI) (hr : HR), okO g lg nL p l e R s m args below meth c d al0 Q pc ls st al hi hr (sp ls st al hi hr)
theorem ok_X {own : String} {cc : ByteArray} {nL : Nat} {ret : Option FieldType} {nm : String} {lg : Bool} {pc : Nat} : Okp own cc nL ret nm lg pc sX := fun _ _ _ _ _ _ _ _ _ _ _ _ _ _ _ _ _ _ _ _ _ _ => trivial
