section CV1
variable {d : Nat} {al : AL} {hi : HI} {hr : HR} {Q : QQ} {B : Int → Int} {N : Nat} {n : Int}
/-- what the verifier has in hand: none, when something is wrong -/
def VS (o : Option Tst) (hi : HI) : Prop := match o with
  | none => hi 8 5 = 1 ∧ 0 ≤ hi 8 4 ∧ hi 8 4 ≤ 16
  | some X => hi 8 5 = 0 ∧ hi 8 4 = X.1 ∧ 0 ≤ X.1 ∧ X.1 ≤ 16 ∧ (∀ k, 0 ≤ k → k < X.1 → hi 11 k = cv (X.2.1 k)) ∧ (∀ k, 0 ≤ k → k < 10 → hi 12 k = cv (X.2.2 k))
theorem VS.h {o : Option Tst} (h : VS o hi) : 0 ≤ hi 8 4 ∧ hi 8 4 ≤ 16 := by
  cases o with
  | none => exact h.2
  | some X => have := h.2.1; have := h.2.2.1; have := h.2.2.2.1; omega
theorem VS.w {o : Option Tst} (h : VS o hi) : VS none (upI hi 8 5 1) := ⟨upI_eq, by rw [upI_i (by decide)]; exact h.h⟩
theorem VS.b {o : Option Tst} (h : VS o hi) : hi 8 5 = 0 ∨ hi 8 5 = 1 := by
  cases o with
  | none => exact Or.inr h.1
  | some X => exact Or.inl h.1
theorem VS.up {o : Option Tst} {a : Nat} {i x : Int} (h : VS o hi) (h1 : a ≠ 11) (h2 : a ≠ 12) (h3 : a = 8 → i ≠ 4 ∧ i ≠ 5) : VS o (upI hi a i x) := by
  have e : ∀ b j, (b = 8 ∧ (j = 4 ∨ j = 5)) ∨ b = 11 ∨ b = 12 → upI hi a i x b j = hi b j := fun b j hb => by
    unfold upI
    rw [if_neg (fun q => by obtain ⟨q1, q2⟩ := q; subst q1 q2; rcases hb with ⟨rfl, hb⟩ | rfl | rfl; have := h3 rfl; omega; exact h1 rfl; exact h2 rfl)]
  cases o with
  | none => obtain ⟨a1, a2⟩ := h; exact ⟨by rw [e 8 5 (by simp)]; exact a1, by rw [e 8 4 (by simp)]; exact a2⟩
  | some X =>
    obtain ⟨a1, a2, a3, a4, a5, a6⟩ := h
    exact ⟨by rw [e 8 5 (by simp)]; exact a1, by rw [e 8 4 (by simp)]; exact a2, a3, a4, fun k k0 k1 => by rw [e 11 k (by simp)]; exact a5 k k0 k1, fun k k0 k1 => by rw [e 12 k (by simp)]; exact a6 k k0 k1⟩
theorem VS.fw {o : Option Tst} {w : Nat → Int → Prop} {hi' : HI} (h : VS o hi) (hf : FW w hi hi') (h1 : ∀ i, ¬ w 11 i) (h2 : ∀ i, ¬ w 12 i) (h3 : ¬ w 8 4) (h4 : ¬ w 8 5) : VS o hi' := by
  cases o with
  | none => obtain ⟨a1, a2⟩ := h; exact ⟨by rw [hf _ _ h4]; exact a1, by rw [hf _ _ h3]; exact a2⟩
  | some X =>
    obtain ⟨a1, a2, a3, a4, a5, a6⟩ := h
    exact ⟨by rw [hf _ _ h4]; exact a1, by rw [hf _ _ h3]; exact a2, a3, a4, fun k k0 k1 => by rw [hf _ _ (h1 k)]; exact a5 k k0 k1, fun k k0 k1 => by rw [hf _ _ (h2 k)]; exact a6 k k0 k1⟩
/-- what is written in hand -/
def wV (a : Nat) (i : Int) : Prop := (a = 8 ∧ (i = 4 ∨ i = 5)) ∨ a = 11 ∨ a = 12
theorem wV_4 : wV 8 4 := Or.inl ⟨rfl, Or.inl rfl⟩
theorem wV_5 : wV 8 5 := Or.inl ⟨rfl, Or.inr rfl⟩
theorem wV_11 {i : Int} : wV 11 i := Or.inr (Or.inl rfl)
theorem wV_12 {i : Int} : wV 12 i := Or.inr (Or.inr rfl)
theorem wV_a {a : Nat} {i : Int} (h : 12 < a) : ¬ wV a i := fun q => by unfold wV at q; omega
/-- the verifier's rows stand -/
def VR (al : AL) (hr : HR) : Prop := SA al ∧ hr 8 0 = some 9 ∧ hr 8 1 = some 11 ∧ hr 8 2 = some 12 ∧ hr 8 3 = some 13
theorem VR.k8 (h : VR al hr) : isK al 8 11 := h.1.k (by decide) (by decide) rfl
theorem VR.k11 (h : VR al hr) : isK al 11 15 := h.1.k (by decide) (by decide) rfl
theorem VR.k12 (h : VR al hr) : isK al 12 15 := h.1.k (by decide) (by decide) rfl
theorem VR.k13 (h : VR al hr) : isK al 13 16 := h.1.k (by decide) (by decide) rfl
theorem VR.l11 (h : VR al hr) : aln al 11 = 16 := h.1.len (by decide) (by decide) rfl
theorem VR.l12 (h : VR al hr) : aln al 12 = 10 := h.1.len (by decide) (by decide) rfl
theorem VR.l13 (h : VR al hr) : aln al 13 = 240 := h.1.len (by decide) (by decide) rfl
def popO (o : Option Tst) : Option Tst := match o with
  | none => none
  | some X => if 0 < X.1 then some (X.1 - 1, X.2.1, X.2.2) else none
/-- v is the type that the stack's top has -/
def topV (o : Option Tst) (v : Int) : Prop := ∀ X, o = some X → 0 < X.1 → v = cv (X.2.1 (X.1 - 1))
theorem v_pop {o : Option Tst} (h : VR al hr) (hs : VS o hi) (q : ∀ v hi', VS (popO o) hi' → FW wV hi hi' → topV o v → Q (some (some (vI v))) al hi' hr) : Ev d 165 [vR (some 8)] al hi hr Q := by
  have k8 := h.k8; have k11 := h.k11; have k12 := h.k12; have l11 := h.l11; have l12 := h.l12; have r1 := h.2.2.1; have r2 := h.2.2.2.1
  have hh := hs.h
  have q1 : ¬ 0 < hi 8 4 → Q (some (some (vI 7))) al (upI hi 8 5 1) hr := fun c => q 7 _ (by
    have : popO o = none := by
      cases o with
      | none => rfl
      | some X => exact if_neg (by have := hs.2.1; omega)
    rw [this]; exact hs.w) (FW.up FW.rf wV_5) (fun X e c2 => by subst e; have := hs.2.1; omega)
  have q2 : 0 < hi 8 4 → Q (some (some (vI (hi 11 (hi 8 4 - 1))))) al (upI hi 8 4 (hi 8 4 - 1)) hr := fun c => by
    refine q _ _ ?_ (FW.up FW.rf wV_4) (fun X e c2 => ?_)
    · cases o with
      | none => exact ⟨by rw [upI_i (by decide)]; exact hs.1, by rw [upI_eq]; omega⟩
      | some X =>
        obtain ⟨a1, a2, a3, a4, a5, a6⟩ := hs
        have : popO (some X) = some (X.1 - 1, X.2.1, X.2.2) := if_pos (by omega)
        rw [this]
        exact ⟨by rw [upI_i (by decide)]; exact a1, by rw [upI_eq, a2], by show 0 ≤ X.1 - 1; omega, by show X.1 - 1 ≤ 16; omega, fun k k0 k1 => by rw [upI_a (by decide)]; exact a5 k k0 (by have k1 : k < X.1 - 1 := k1; omega), fun k k0 k1 => by rw [upI_a (by decide)]; exact a6 k k0 k1⟩
    · subst e
      obtain ⟨a1, a2, a3, a4, a5, a6⟩ := hs
      rw [a2]; exact a5 _ (by omega) (by omega)
  have u11 : ∀ x y, (upI hi 8 4 x) 11 y = hi 11 y := fun x y => upI_a (by decide)
  rw [e165]
  refine s165_0.mpr ?_
  refine (s165_1 (by first | decide | assumption | omega)).mpr ?_
  try simp (disch := first | decide | assumption | omega) only [fSub_id, r1, upI_eq, u11]
  refine s165_4.mpr (wif (fun c4 => ?_) (fun c4 => ?_))
  · skip
    refine s165_15.mpr (s165_16.mpr ?_)
    refine (s165_17 (by first | decide | assumption | omega)).mpr ?_
    refine s165_20.mpr (s165_21.mpr ?_)
    try simp (disch := first | decide | assumption | omega) only [fSub_id, r1, upI_eq, u11]
    refine (s165_22 (by first | decide | assumption | omega)).mpr ?_
    refine s165_25.mpr ?_
    try simp (disch := first | decide | assumption | omega) only [fSub_id, r1, upI_eq, u11]
    refine (s165_26 (by first | decide | assumption | omega)).mpr ?_
    refine s165_29.mpr ?_
    try simp (disch := first | decide | assumption | omega) only [fSub_id, r1, upI_eq, u11]
    refine (s165_30 (by first | decide | assumption | omega)).mpr ?_
    try simp (disch := first | decide | assumption | omega) only [fSub_id, r1, upI_eq, u11]
    refine (s165_33 (by first | decide | assumption | omega) (by first | decide | assumption | omega) (by first | decide | assumption | omega)).mpr ?_
    try simp (disch := first | decide | assumption | omega) only [fSub_id, r1, upI_eq, u11]
    refine (s165_34).mpr ?_
    first | exact q1 (by assumption) | exact q2 (by assumption)
  · skip
    refine s165_7.mpr (s165_8.mpr ?_)
    refine (s165_9 (by first | decide | assumption | omega) (by first | decide | assumption | omega)).mpr ?_
    refine s165_12.mpr ?_
    refine (s165_14).mpr ?_
    first | exact q1 (by assumption) | exact q2 (by assumption)
def pushO (o : Option Tst) (t : Int) : Option Tst := match o with
  | none => none
  | some X => if X.1 < 16 then some (X.1 + 1, up1 X.2.1 X.1 t, X.2.2) else none
theorem v_push {o : Option Tst} {v t : Int} (h : VR al hr) (hs : VS o hi) (hv : o ≠ none → v = cv t) (q : ∀ hi', VS (pushO o t) hi' → FW wV hi hi' → Q (some none) al hi' hr) : Ev d 164 [vR (some 8), vI v] al hi hr Q := by
  have k8 := h.k8; have k11 := h.k11; have k12 := h.k12; have l11 := h.l11; have l12 := h.l12; have r1 := h.2.2.1; have r2 := h.2.2.2.1
  have hh := hs.h
  have q1 : ¬ hi 8 4 < 16 → Q (some none) al (upI hi 8 5 1) hr := fun c => q _ (by
    have : pushO o t = none := by
      cases o with
      | none => rfl
      | some X => exact if_neg (by have := hs.2.1; omega)
    rw [this]; exact hs.w) (FW.up FW.rf wV_5)
  have q2 : hi 8 4 < 16 → Q (some none) al (upI (upI hi 11 (hi 8 4) v) 8 4 (hi 8 4 + 1)) hr := fun c => by
    refine q _ ?_ (FW.up (FW.up FW.rf wV_11) wV_4)
    cases o with
    | none => exact ⟨by rw [upI_i (by decide), upI_a (by decide)]; exact hs.1, by rw [upI_eq]; omega⟩
    | some X =>
      obtain ⟨a1, a2, a3, a4, a5, a6⟩ := hs
      have : pushO (some X) t = some (X.1 + 1, up1 X.2.1 X.1 t, X.2.2) := if_pos (by omega)
      rw [this]
      refine ⟨by rw [upI_i (by decide), upI_a (by decide)]; exact a1, by rw [upI_eq, a2], by show 0 ≤ X.1 + 1; omega, by show X.1 + 1 ≤ 16; omega, fun k k0 k1 => ?_, fun k k0 k1 => by rw [upI_a (by decide), upI_a (by decide)]; exact a6 k k0 k1⟩
      have k1 : k < X.1 + 1 := k1
      rw [upI_a (by decide), a2]
      by_cases e : k = X.1
      · subst e; rw [upI_eq]; show v = cv (up1 X.2.1 X.1 t X.1); rw [up1_eq]; exact hv (by simp)
      · rw [upI_i e]; show hi 11 k = cv (up1 X.2.1 X.1 t k); rw [up1_ne e]; exact a5 k k0 (by omega)
  have u84 : ∀ x y, (upI hi 11 x y) 8 4 = hi 8 4 := fun x y => upI_a (by decide)
  rw [e164]
  refine s164_0.mpr ?_
  refine (s164_1 (by first | decide | assumption | omega)).mpr ?_
  refine s164_4.mpr ?_
  try simp (disch := first | decide | assumption | omega) only [fAdd_id, r1, u84]
  refine s164_6.mpr (wif (fun c6 => ?_) (fun c6 => ?_))
  · skip
    refine s164_15.mpr ?_
    refine (s164_16 (by first | decide | assumption | omega)).mpr ?_
    refine s164_19.mpr ?_
    try simp (disch := first | decide | assumption | omega) only [fAdd_id, r1, u84]
    refine (s164_20 (by first | decide | assumption | omega)).mpr ?_
    refine s164_23.mpr ?_
    try simp (disch := first | decide | assumption | omega) only [fAdd_id, r1, u84]
    refine (s164_24 (by first | decide | assumption | omega) (by first | decide | assumption | omega) (by first | decide | assumption | omega)).mpr ?_
    refine s164_25.mpr (s164_26.mpr ?_)
    try simp (disch := first | decide | assumption | omega) only [fAdd_id, r1, u84]
    refine (s164_27 (by first | decide | assumption | omega)).mpr ?_
    refine s164_30.mpr (s164_31.mpr ?_)
    try simp (disch := first | decide | assumption | omega) only [fAdd_id, r1, u84]
    refine (s164_32 (by first | decide | assumption | omega)).mpr ?_
    try simp (disch := first | decide | assumption | omega) only [fAdd_id, r1, u84]
    refine (s164_35).mpr ?_
    first | exact q1 (by assumption) | exact q2 (by assumption)
  · skip
    refine s164_9.mpr (s164_10.mpr ?_)
    refine (s164_11 (by first | decide | assumption | omega) (by first | decide | assumption | omega)).mpr ?_
    refine (s164_14).mpr ?_
    first | exact q1 (by assumption) | exact q2 (by assumption)
noncomputable def wnt (c : Prop) (o : Option Tst) : Option Tst := @ite _ c (Classical.propDecidable c) o none
theorem wnt_y {c : Prop} {o : Option Tst} (h : c) : wnt c o = o := if_pos h
theorem wnt_n {c : Prop} {o : Option Tst} (h : ¬ c) : wnt c o = none := if_neg h
theorem wnt_o {c : Prop} : wnt c none = none := by unfold wnt; split <;> rfl
theorem v_want {o : Option Tst} {x : Int} (h : VR al hr) (hs : VS o hi) (q : ∀ hi', VS (wnt (x ≠ 0) o) hi' → FW wV hi hi' → Q (some none) al hi' hr) : Ev d 166 [vR (some 8), vI x] al hi hr Q := by
  have k8 := h.k8
  rw [e166]
  refine s166_0.mpr ?_
  refine s166_1.mpr (wif (fun c1 => ?_) (fun c1 => ?_))
  · skip
    refine s166_4.mpr (s166_5.mpr ?_)
    refine (s166_6 (by first | decide | assumption | omega) (by first | decide | assumption | omega)).mpr ?_
    refine (s166_9).mpr ?_
    first | exact q _ (by rw [wnt_n (by omega)]; exact hs.w) (FW.up FW.rf wV_5) | exact q _ (by rw [wnt_y (by omega)]; exact hs) FW.rf
  · skip
    refine (s166_9).mpr ?_
    first | exact q _ (by rw [wnt_n (by omega)]; exact hs.w) (FW.up FW.rf wV_5) | exact q _ (by rw [wnt_y (by omega)]; exact hs) FW.rf
theorem v_wantW {x : Int} (h : VR al hr) (hs : VS none hi) (q : ∀ hi', VS none hi' → FW wV hi hi' → (hi' = hi ∨ hi' = upI hi 8 5 1) → Q (some none) al hi' hr) : Ev d 166 [vR (some 8), vI x] al hi hr Q := by
  have k8 := h.k8
  rw [e166]
  refine s166_0.mpr ?_
  refine s166_1.mpr (wif (fun c1 => ?_) (fun c1 => ?_))
  · skip
    refine s166_4.mpr (s166_5.mpr ?_)
    refine (s166_6 (by first | decide | assumption | omega) (by first | decide | assumption | omega)).mpr ?_
    refine (s166_9).mpr ?_
    first | exact q _ hs.w (FW.up FW.rf wV_5) (Or.inr rfl) | exact q _ hs FW.rf (Or.inl rfl)
  · skip
    refine (s166_9).mpr ?_
    first | exact q _ hs.w (FW.up FW.rf wV_5) (Or.inr rfl) | exact q _ hs FW.rf (Or.inl rfl)
def popI (o : Option Tst) : Option Tst := match o with
  | none => none
  | some X => if 0 < X.1 ∧ X.2.1 (X.1 - 1) = 0 then some (X.1 - 1, X.2.1, X.2.2) else none
theorem v_popInt {o : Option Tst} (h : VR al hr) (hd : 1 ≤ d) (hs : VS o hi) (hv : ∀ X, o = some X → vX B X) (q : ∀ hi', VS (popI o) hi' → FW wV hi hi' → Q (some none) al hi' hr) : Ev d 167 [vR (some 8)] al hi hr Q := by
  have k8 := h.k8
  have W : ∀ v hi', VS (popO o) hi' → FW wV hi hi' → topV o v → ∀ c : Prop, (c ↔ v = 0) → ∀ hi2, VS (wnt c (popO o)) hi2 → FW wV hi' hi2 → Q (some none) al hi2 hr := by
    intro v hi' s1 f1 tv c hc hi2 s2 f2
    refine q hi2 ?_ (f1.tr f2)
    have : popI o = wnt c (popO o) := by
      cases o with
      | none => exact wnt_o.symm
      | some X =>
        by_cases c0 : 0 < X.1
        · have e1 : popO (some X) = some (X.1 - 1, X.2.1, X.2.2) := if_pos c0
          have e2 := tv X rfl c0
          have e3 : v = 0 ↔ X.2.1 (X.1 - 1) = 0 := by rw [e2]; exact cv_c ((hv X rfl).2.1 _ (by omega) (by omega)).r (by decide) (by decide)
          rw [e1]
          by_cases c1 : X.2.1 (X.1 - 1) = 0
          · rw [wnt_y (hc.mpr (e3.mpr c1))]; exact if_pos ⟨c0, c1⟩
          · rw [wnt_n (fun z => c1 (e3.mp (hc.mp z)))]; exact if_neg (fun z => c1 z.2)
        · have e1 : popO (some X) = none := if_neg c0
          rw [e1, wnt_o]; exact if_neg (fun z => c0 z.1)
    rw [this]; exact s2
  rw [e167]
  refine s167_0.mpr (s167_1.mpr ?_)
  refine (s167_2 (by first | decide | assumption | omega) (by first | decide | assumption | omega)).mpr ?_
  refine v_pop h hs (fun v hi1 s1 f1 tv => ?_)
  refine s167_5.mpr (wif (fun c5 => ?_) (fun c5 => ?_))
  · skip
    refine s167_8.mpr (s167_9.mpr ?_)
    refine (s167_13 (by first | decide | assumption | omega) (by first | decide | assumption | omega)).mpr ?_
    refine v_want h s1 (fun hi2 s2 f2 => ?_)
    refine (s167_16).mpr ?_
    exact W v hi1 s1 f1 tv _ (by constructor <;> intro _ <;> omega) hi2 s2 f2
  · skip
    refine s167_12.mpr ?_
    refine (s167_13 (by first | decide | assumption | omega) (by first | decide | assumption | omega)).mpr ?_
    refine v_want h s1 (fun hi2 s2 f2 => ?_)
    refine (s167_16).mpr ?_
    exact W v hi1 s1 f1 tv _ (by constructor <;> intro _ <;> omega) hi2 s2 f2
end CV1
