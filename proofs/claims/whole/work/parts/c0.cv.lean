/-! THE CLASS'S VERIFIER, 1: its types, its stack -/
section CV0
variable {d : Nat} {al : AL} {hi : HI} {hr : HR} {Q : QQ} {B : Int → Int} {N : Nat} {n : Int}
/-- a type of the reference, as the class writes it -/
def cv (t : Int) : Int := if t < 0 then -1 else kindM t + 16 * whichM t + 4096 * stateM t + 1048576 * sideM t
theorem cv_p {t : Int} (h : 0 ≤ t) : cv t = t % 8 + 16 * (t / 8 % 256) + 4096 * (t / 2048 % 256) + 1048576 * (t / 524288 % 2) := by
  unfold cv kindM whichM stateM sideM
  rw [if_neg (by omega), if_neg (by omega)]
theorem cv_n {t : Int} (h : t < 0) : cv t = -1 := if_pos h
theorem kM_p {t : Int} (h : 0 ≤ t) : kindM t = t % 8 := if_neg (by omega)
abbrev rT (t : Int) : Prop := 0 ≤ t ∧ t < 1048576
theorem cv_rng {t : Int} (h : rT t) : 0 ≤ cv t ∧ cv t < 2097152 := by rw [cv_p h.1]; omega
theorem cv_inj {a b : Int} (ha : rT a) (hb : rT b) : cv a = cv b ↔ a = b := by
  constructor
  · intro h
    rw [cv_p ha.1, cv_p hb.1] at h
    omega
  · rintro rfl; rfl
theorem cv_c {t c : Int} (h : rT t) (hc : 0 ≤ c) (hc2 : c < 8) : cv t = c ↔ t = c := by
  rw [cv_p h.1]
  omega
theorem cv_0 : cv 0 = 0 := rfl
theorem cv_2 : cv 2 = 2 := rfl
theorem cv_6 : cv 6 = 6 := rfl
theorem cv_7 : cv 7 = 7 := rfl
theorem cv_m1 : cv (-1) = -1 := rfl
theorem cv_k {t : Int} (h : rT t) : cv t % 16 = kindM t := by rw [cv_p h.1, kM_p h.1]; omega
theorem cv_w {t : Int} (h : rT t) : cv t / 16 % 256 = whichM t := by rw [cv_p h.1]; unfold whichM; omega
theorem cv_s {t : Int} (h : rT t) : cv t / 4096 % 256 = stateM t := by rw [cv_p h.1]; unfold stateM; omega
theorem cv_e {t : Int} (h : rT t) : cv t / 1048576 % 2 = sideM t := by rw [cv_p h.1]; unfold sideM; omega
theorem vT.r {t : Int} (h : vT B t) : rT t := ⟨h.1, h.2.1⟩
theorem cv_m {t : Int} (h : rT t) : cv t ≠ -1 := by have := cv_rng h; omega
/-- the class's kinds -/
def linC (t : Int) : Prop := t % 16 = 4 ∨ t % 16 = 5
theorem linC_v {t : Int} (h : rT t) : linC (cv t) ↔ linT t := by unfold linC linT; rw [cv_k h]
theorem ptrC_v {t : Int} (h : rT t) : ptrC (cv t) ↔ heapT t := by unfold ptrC heapT; rw [cv_k h]
theorem c_kindOf {t : Int} : Ev d 207 [vI t] al hi hr Q ↔ Q (some (some (vI (t % 16)))) al hi hr := by
  simp (disch := first | assumption | exact SA.k (by assumption) (by decide) (by decide) rfl | exact SA.q (by assumption) (by decide) (by decide) (by decide) | exact SA.r (by assumption) (by decide) (by decide) (by decide) | decide | omega | rfl) only [e207, s207_0, s207_1, s207_3, s207_4, fAnd_15]
theorem fShr_4 {x : Int} (h : rng x) : fShr x 4 = x / 16 := fShr_k 4 (by decide) h
theorem fShr_12 {x : Int} (h : rng x) : fShr x 12 = x / 4096 := fShr_k 12 (by decide) h
theorem fShr_20 {x : Int} (h : rng x) : fShr x 20 = x / 1048576 := fShr_k 20 (by decide) h
theorem c_namedBy {t : Int} (h : rng t) : Ev d 208 [vI t] al hi hr Q ↔ Q (some (some (vI (t / 16 % 256)))) al hi hr := by
  simp (disch := first | assumption | exact SA.k (by assumption) (by decide) (by decide) rfl | exact SA.q (by assumption) (by decide) (by decide) (by decide) | exact SA.r (by assumption) (by decide) (by decide) (by decide) | decide | omega | rfl) only [e208, s208_0, s208_1, s208_2, s208_3, s208_6, s208_7, fAnd_255, fShr_4 h]
theorem c_stateOfEnd {t : Int} (h : rng t) : Ev d 209 [vI t] al hi hr Q ↔ Q (some (some (vI (t / 4096 % 256)))) al hi hr := by
  simp (disch := first | assumption | exact SA.k (by assumption) (by decide) (by decide) rfl | exact SA.q (by assumption) (by decide) (by decide) (by decide) | exact SA.r (by assumption) (by decide) (by decide) (by decide) | decide | omega | rfl) only [e209, s209_0, s209_1, s209_3, s209_4, s209_7, s209_8, fAnd_255, fShr_12 h]
theorem c_sideOfEnd {t : Int} (h : rng t) : Ev d 210 [vI t] al hi hr Q ↔ Q (some (some (vI (t / 1048576 % 2)))) al hi hr := by
  simp (disch := first | assumption | exact SA.k (by assumption) (by decide) (by decide) rfl | exact SA.q (by assumption) (by decide) (by decide) (by decide) | exact SA.r (by assumption) (by decide) (by decide) (by decide) | decide | omega | rfl) only [e210, s210_0, s210_1, s210_3, s210_4, s210_5, s210_6, fAnd_1, fShr_20 h]
theorem c_turnOfSide {t : Int} (h : 0 ≤ t) (h2 : t < 10) : Ev d 215 [vI t] al hi hr Q ↔ Q (some (some (vI (t + 1)))) al hi hr := by
  simp (disch := first | assumption | exact SA.k (by assumption) (by decide) (by decide) rfl | exact SA.q (by assumption) (by decide) (by decide) (by decide) | exact SA.r (by assumption) (by decide) (by decide) (by decide) | decide | omega | rfl) only [e215, s215_0, s215_1, s215_2, s215_3]
  rw [fAdd_id (by omega) (by omega)]
theorem c_isLinear {t : Int} (q1 : linC t → Q (some (some (vI 1))) al hi hr) (q2 : ¬ linC t → Q (some (some (vI 0))) al hi hr) : Ev d 211 [vI t] al hi hr Q := by
  unfold linC at q1 q2
  rw [e211]
  refine s211_0.mpr (s211_1.mpr (s211_3.mpr (s211_4.mpr (s211_5.mpr (s211_6.mpr ?_)))))
  try simp (disch := first | decide | assumption | omega) only [fAnd_15]
  refine s211_7.mpr (wif (fun c7 => ?_) (fun c7 => ?_))
  · skip
    refine s211_15.mpr (s211_16.mpr ?_)
    refine (s211_20 (by first | assumption | omega)).mpr ?_
    first | exact q1 (by omega) | exact q2 (by omega)
  · skip
    refine s211_10.mpr (s211_11.mpr ?_)
    refine s211_12.mpr (wif (fun c12 => ?_) (fun c12 => ?_))
    · skip
      refine s211_15.mpr (s211_16.mpr ?_)
      refine (s211_20 (by first | assumption | omega)).mpr ?_
      first | exact q1 (by omega) | exact q2 (by omega)
    · skip
      refine s211_19.mpr ?_
      refine (s211_20 (by first | assumption | omega)).mpr ?_
      first | exact q1 (by omega) | exact q2 (by omega)
theorem c_isPointerOrNil {t : Int} (hd : 1 ≤ d) (q1 : ptrC t ∨ t % 16 = 6 → Q (some (some (vI 1))) al hi hr) (q2 : ¬ (ptrC t ∨ t % 16 = 6) → Q (some (some (vI 0))) al hi hr) : Ev d 213 [vI t] al hi hr Q := by
  rw [e213]
  refine s213_0.mpr ?_
  refine (s213_1 (by omega)).mpr ?_
  refine c_isPointer (fun p1 => ?_) (fun p1 => ?_)
  · skip
    refine s213_4.mpr (wif (fun c4 => ?_) (fun c4 => ?_))
    · skip
      refine s213_7.mpr ?_
      refine (s213_8 (by omega)).mpr ?_
      refine c_kindOf.mpr ?_
      refine s213_11.mpr ?_
      refine s213_13.mpr (wif (fun c13 => ?_) (fun c13 => ?_))
      · skip
        refine s213_16.mpr (s213_17.mpr ?_)
        refine (s213_21 (by first | assumption | omega)).mpr ?_
        first | (exact q1 (Or.inl (by assumption))) | (exact q1 (Or.inr (by assumption))) | (exact q2 (fun q => q.elim (by assumption) (by assumption))) | (exfalso; omega)
      · skip
        refine s213_20.mpr ?_
        refine (s213_21 (by first | assumption | omega)).mpr ?_
        first | (exact q1 (Or.inl (by assumption))) | (exact q1 (Or.inr (by assumption))) | (exact q2 (fun q => q.elim (by assumption) (by assumption))) | (exfalso; omega)
    · skip
      refine s213_16.mpr (s213_17.mpr ?_)
      refine (s213_21 (by first | assumption | omega)).mpr ?_
      first | (exact q1 (Or.inl (by assumption))) | (exact q1 (Or.inr (by assumption))) | (exact q2 (fun q => q.elim (by assumption) (by assumption))) | (exfalso; omega)
  · skip
    refine s213_4.mpr (wif (fun c4 => ?_) (fun c4 => ?_))
    · skip
      refine s213_7.mpr ?_
      refine (s213_8 (by omega)).mpr ?_
      refine c_kindOf.mpr ?_
      refine s213_11.mpr ?_
      refine s213_13.mpr (wif (fun c13 => ?_) (fun c13 => ?_))
      · skip
        refine s213_16.mpr (s213_17.mpr ?_)
        refine (s213_21 (by first | assumption | omega)).mpr ?_
        first | (exact q1 (Or.inl (by assumption))) | (exact q1 (Or.inr (by assumption))) | (exact q2 (fun q => q.elim (by assumption) (by assumption))) | (exfalso; omega)
      · skip
        refine s213_20.mpr ?_
        refine (s213_21 (by first | assumption | omega)).mpr ?_
        first | (exact q1 (Or.inl (by assumption))) | (exact q1 (Or.inr (by assumption))) | (exact q2 (fun q => q.elim (by assumption) (by assumption))) | (exfalso; omega)
    · skip
      refine s213_16.mpr (s213_17.mpr ?_)
      refine (s213_21 (by first | assumption | omega)).mpr ?_
      first | (exact q1 (Or.inl (by assumption))) | (exact q1 (Or.inr (by assumption))) | (exact q2 (fun q => q.elim (by assumption) (by assumption))) | (exfalso; omega)
/-- whether what has the one type may come to a place of the other -/
def fitC (a b : Int) : Prop := a = b ∨ (a = 6 ∧ ptrC b)
theorem c_fits {a b : Int} (hd : 1 ≤ d) (q1 : fitC a b → Q (some (some (vI 1))) al hi hr) (q2 : ¬ fitC a b → Q (some (some (vI 0))) al hi hr) : Ev d 214 [vI a, vI b] al hi hr Q := by
  unfold fitC at q1 q2
  rw [e214]
  refine s214_0.mpr (s214_1.mpr ?_)
  refine s214_2.mpr (wif (fun c2 => ?_) (fun c2 => ?_))
  · skip
    refine s214_18.mpr (s214_19.mpr ?_)
    refine (s214_23 (by first | assumption | omega)).mpr ?_
    first | (exact q1 (Or.inl (by assumption))) | (exact q1 (Or.inr ⟨by assumption, by assumption⟩)) | (exact q2 (fun q => q.elim (by assumption) (fun q => absurd q.2 (by assumption)))) | (exact q2 (fun q => q.elim (by assumption) (fun q => absurd q.1 (by assumption)))) | (exfalso; omega)
  · skip
    refine s214_5.mpr (s214_6.mpr ?_)
    refine s214_8.mpr (wif (fun c8 => ?_) (fun c8 => ?_))
    · skip
      refine s214_11.mpr ?_
      refine (s214_12 (by omega)).mpr ?_
      refine c_isPointer (fun p12 => ?_) (fun p12 => ?_)
      · skip
        refine s214_15.mpr (wif (fun c15 => ?_) (fun c15 => ?_))
        · skip
          refine s214_22.mpr ?_
          refine (s214_23 (by first | assumption | omega)).mpr ?_
          first | (exact q1 (Or.inl (by assumption))) | (exact q1 (Or.inr ⟨by assumption, by assumption⟩)) | (exact q2 (fun q => q.elim (by assumption) (fun q => absurd q.2 (by assumption)))) | (exact q2 (fun q => q.elim (by assumption) (fun q => absurd q.1 (by assumption)))) | (exfalso; omega)
        · skip
          refine s214_18.mpr (s214_19.mpr ?_)
          refine (s214_23 (by first | assumption | omega)).mpr ?_
          first | (exact q1 (Or.inl (by assumption))) | (exact q1 (Or.inr ⟨by assumption, by assumption⟩)) | (exact q2 (fun q => q.elim (by assumption) (fun q => absurd q.2 (by assumption)))) | (exact q2 (fun q => q.elim (by assumption) (fun q => absurd q.1 (by assumption)))) | (exfalso; omega)
      · skip
        refine s214_15.mpr (wif (fun c15 => ?_) (fun c15 => ?_))
        · skip
          refine s214_22.mpr ?_
          refine (s214_23 (by first | assumption | omega)).mpr ?_
          first | (exact q1 (Or.inl (by assumption))) | (exact q1 (Or.inr ⟨by assumption, by assumption⟩)) | (exact q2 (fun q => q.elim (by assumption) (fun q => absurd q.2 (by assumption)))) | (exact q2 (fun q => q.elim (by assumption) (fun q => absurd q.1 (by assumption)))) | (exfalso; omega)
        · skip
          refine s214_18.mpr (s214_19.mpr ?_)
          refine (s214_23 (by first | assumption | omega)).mpr ?_
          first | (exact q1 (Or.inl (by assumption))) | (exact q1 (Or.inr ⟨by assumption, by assumption⟩)) | (exact q2 (fun q => q.elim (by assumption) (fun q => absurd q.2 (by assumption)))) | (exact q2 (fun q => q.elim (by assumption) (fun q => absurd q.1 (by assumption)))) | (exfalso; omega)
    · skip
      refine s214_22.mpr ?_
      refine (s214_23 (by first | assumption | omega)).mpr ?_
      first | (exact q1 (Or.inl (by assumption))) | (exact q1 (Or.inr ⟨by assumption, by assumption⟩)) | (exact q2 (fun q => q.elim (by assumption) (fun q => absurd q.2 (by assumption)))) | (exact q2 (fun q => q.elim (by assumption) (fun q => absurd q.1 (by assumption)))) | (exfalso; omega)
theorem fitC_v {a b : Int} (ha : rT a) (hb : rT b) : fitC (cv a) (cv b) ↔ leT a b := by
  unfold fitC leT
  rw [cv_inj ha hb, cv_c ha (by decide) (by decide), ptrC_v hb]
/-- the text's types -/
theorem tyC_cv {ks no p q : Int} (hB : ∀ k, -1 ≤ B k ∧ B k ≤ 255) (h : tyP B ks no p = .ok q) : tyC B p = cv (tyV B p) := by
  obtain ⟨h1, h2, h3⟩ := tyP_v h
  have b1 := hB (p + 1)
  have b2 := hB (p + 2)
  unfold tyC tyV
  by_cases c1 : B p = 255
  · rw [if_pos c1, if_pos c1]; rfl
  · rw [if_neg c1, if_neg c1]
    by_cases c2 : B p = 0 ∨ B p = 2
    · rw [if_pos c2, if_pos c2, cv_p (by omega)]; omega
    · rw [if_neg c2, if_neg c2]
      by_cases c3 : B p ≠ 5
      · rw [if_pos c3, if_pos c3]
        have := h2 (by omega)
        rw [cv_p (by omega)]; omega
      · rw [if_neg c3, if_neg c3]
        have := h2 (by omega)
        have := h3 (by omega)
        rw [cv_p (by omega)]; omega
theorem cv_node {k r : Int} (k0 : 0 ≤ k) (k1 : k < 8) (r0 : 0 ≤ r) (r1 : r < 256) : cv (k + 8 * r) = k + 16 * r := by rw [cv_p (by omega)]; omega
theorem cv_end {c s e : Int} (c0 : 0 ≤ c) (c1 : c < 256) (s0 : 0 ≤ s) (s1 : s < 256) (e0 : 0 ≤ e) (e1 : e < 2) : cv (5 + 8 * c + 2048 * s + 524288 * e) = 5 + 16 * c + 4096 * s + 1048576 * e := by rw [cv_p (by omega)]; omega
/-- the join of the class -/
theorem c_joinW {a b : Int} (q : ∀ x, Q (some (some (vI x))) al hi hr) : Ev d 163 [vI a, vI b] al hi hr Q := by
  rw [e163]
  refine s163_0.mpr (s163_1.mpr (s163_3.mpr (s163_4.mpr (s163_5.mpr (s163_6.mpr ?_)))))
  refine s163_8.mpr (s163_9.mpr (s163_10.mpr (s163_11.mpr ?_)))
  refine s163_12.mpr (wif (fun c12 => ?_) (fun c12 => ?_))
  · skip
    refine s163_31.mpr ?_
    refine (s163_32).mpr ?_
    exact q _
  · skip
    refine s163_15.mpr (s163_16.mpr ?_)
    refine s163_18.mpr (wif (fun c18 => ?_) (fun c18 => ?_))
    · skip
      refine s163_21.mpr (s163_22.mpr ?_)
      refine s163_23.mpr (wif (fun c23 => ?_) (fun c23 => ?_))
      · skip
        refine s163_33.mpr (s163_34.mpr ?_)
        refine s163_36.mpr (wif (fun c36 => ?_) (fun c36 => ?_))
        · skip
          refine s163_39.mpr (s163_40.mpr ?_)
          refine s163_41.mpr (wif (fun c41 => ?_) (fun c41 => ?_))
          · skip
            refine s163_53.mpr ?_
            refine (s163_55).mpr ?_
            exact q _
          · skip
            refine s163_44.mpr (s163_45.mpr ?_)
            refine s163_46.mpr (wif (fun c46 => ?_) (fun c46 => ?_))
            · skip
              refine s163_53.mpr ?_
              refine (s163_55).mpr ?_
              exact q _
            · skip
              refine s163_49.mpr (s163_50.mpr ?_)
              refine (s163_55).mpr ?_
              exact q _
        · skip
          refine s163_53.mpr ?_
          refine (s163_55).mpr ?_
          exact q _
      · skip
        refine s163_26.mpr (s163_27.mpr ?_)
        refine s163_28.mpr (wif (fun c28 => ?_) (fun c28 => ?_))
        · skip
          refine s163_33.mpr (s163_34.mpr ?_)
          refine s163_36.mpr (wif (fun c36 => ?_) (fun c36 => ?_))
          · skip
            refine s163_39.mpr (s163_40.mpr ?_)
            refine s163_41.mpr (wif (fun c41 => ?_) (fun c41 => ?_))
            · skip
              refine s163_53.mpr ?_
              refine (s163_55).mpr ?_
              exact q _
            · skip
              refine s163_44.mpr (s163_45.mpr ?_)
              refine s163_46.mpr (wif (fun c46 => ?_) (fun c46 => ?_))
              · skip
                refine s163_53.mpr ?_
                refine (s163_55).mpr ?_
                exact q _
              · skip
                refine s163_49.mpr (s163_50.mpr ?_)
                refine (s163_55).mpr ?_
                exact q _
          · skip
            refine s163_53.mpr ?_
            refine (s163_55).mpr ?_
            exact q _
        · skip
          refine s163_31.mpr ?_
          refine (s163_32).mpr ?_
          exact q _
    · skip
      refine s163_33.mpr (s163_34.mpr ?_)
      refine s163_36.mpr (wif (fun c36 => ?_) (fun c36 => ?_))
      · skip
        refine s163_39.mpr (s163_40.mpr ?_)
        refine s163_41.mpr (wif (fun c41 => ?_) (fun c41 => ?_))
        · skip
          refine s163_53.mpr ?_
          refine (s163_55).mpr ?_
          exact q _
        · skip
          refine s163_44.mpr (s163_45.mpr ?_)
          refine s163_46.mpr (wif (fun c46 => ?_) (fun c46 => ?_))
          · skip
            refine s163_53.mpr ?_
            refine (s163_55).mpr ?_
            exact q _
          · skip
            refine s163_49.mpr (s163_50.mpr ?_)
            refine (s163_55).mpr ?_
            exact q _
      · skip
        refine s163_53.mpr ?_
        refine (s163_55).mpr ?_
        exact q _
theorem c_join {a b : Int} (ha : rT a) (hb : rT b) (q : Q (some (some (vI (if both a b = -1 then -2 else cv (both a b))))) al hi hr) : Ev d 163 [vI (cv a), vI (cv b)] al hi hr Q := by
  have e1 := cv_inj ha hb
  have e2 := cv_c ha (c := 6) (by decide) (by decide)
  have e3 := cv_c hb (c := 6) (by decide) (by decide)
  have e4 := cv_k ha
  have e5 := cv_k hb
  have q1 : (a = b ∨ (b = 6 ∧ heapT a)) → Q (some (some (vI (cv a)))) al hi hr := fun h => by
    have : both a b = a := by
      unfold both
      by_cases c : a = b
      · rw [if_pos c]
      · rw [if_neg c, if_neg (fun z => by have := kM_p ha.1; rcases h with h | h; exact c h; rw [h.1] at z; have z2 := z.2; have : kindM 6 = 6 := rfl; omega), if_pos (h.resolve_left c)]
    rw [this, if_neg (by omega)] at q; exact q
  have q2 : ¬ (a = b ∨ (b = 6 ∧ heapT a)) → (a = 6 ∧ heapT b) → Q (some (some (vI (cv b)))) al hi hr := fun h h2 => by
    have : both a b = b := by unfold both; rw [if_neg (fun z => h (Or.inl z)), if_pos h2]
    rw [this, if_neg (by omega)] at q; exact q
  have q3 : ¬ (a = b ∨ (b = 6 ∧ heapT a)) → ¬ (a = 6 ∧ heapT b) → Q (some (some (vI (-2)))) al hi hr := fun h h2 => by
    have : both a b = -1 := by unfold both; rw [if_neg (fun z => h (Or.inl z)), if_neg h2, if_neg (fun z => h (Or.inr z))]
    rw [this, if_pos rfl] at q; exact q
  clear q
  unfold heapT at q1 q2 q3
  rw [← e1, ← e3] at q1 q2 q3
  rw [← e2] at q2 q3
  rw [← e4] at q1 q2 q3
  rw [← e5] at q2 q3
  rw [e163]
  refine s163_0.mpr (s163_1.mpr (s163_3.mpr (s163_4.mpr (s163_5.mpr (s163_6.mpr ?_)))))
  refine s163_8.mpr (s163_9.mpr (s163_10.mpr (s163_11.mpr ?_)))
  try simp (disch := first | decide | assumption | omega) only [fAnd_15]
  refine s163_12.mpr (wif (fun c12 => ?_) (fun c12 => ?_))
  · skip
    refine s163_31.mpr ?_
    refine (s163_32).mpr ?_
    first | exact q1 (by omega) | exact q2 (by omega) (by omega) | exact q3 (by omega) (by omega)
  · skip
    refine s163_15.mpr (s163_16.mpr ?_)
    refine s163_18.mpr (wif (fun c18 => ?_) (fun c18 => ?_))
    · skip
      refine s163_21.mpr (s163_22.mpr ?_)
      refine s163_23.mpr (wif (fun c23 => ?_) (fun c23 => ?_))
      · skip
        refine s163_33.mpr (s163_34.mpr ?_)
        refine s163_36.mpr (wif (fun c36 => ?_) (fun c36 => ?_))
        · skip
          refine s163_39.mpr (s163_40.mpr ?_)
          refine s163_41.mpr (wif (fun c41 => ?_) (fun c41 => ?_))
          · skip
            refine s163_53.mpr ?_
            refine (s163_55).mpr ?_
            first | exact q1 (by omega) | exact q2 (by omega) (by omega) | exact q3 (by omega) (by omega)
          · skip
            refine s163_44.mpr (s163_45.mpr ?_)
            refine s163_46.mpr (wif (fun c46 => ?_) (fun c46 => ?_))
            · skip
              refine s163_53.mpr ?_
              refine (s163_55).mpr ?_
              first | exact q1 (by omega) | exact q2 (by omega) (by omega) | exact q3 (by omega) (by omega)
            · skip
              refine s163_49.mpr (s163_50.mpr ?_)
              refine (s163_55).mpr ?_
              first | exact q1 (by omega) | exact q2 (by omega) (by omega) | exact q3 (by omega) (by omega)
        · skip
          refine s163_53.mpr ?_
          refine (s163_55).mpr ?_
          first | exact q1 (by omega) | exact q2 (by omega) (by omega) | exact q3 (by omega) (by omega)
      · skip
        refine s163_26.mpr (s163_27.mpr ?_)
        refine s163_28.mpr (wif (fun c28 => ?_) (fun c28 => ?_))
        · skip
          refine s163_33.mpr (s163_34.mpr ?_)
          refine s163_36.mpr (wif (fun c36 => ?_) (fun c36 => ?_))
          · skip
            refine s163_39.mpr (s163_40.mpr ?_)
            refine s163_41.mpr (wif (fun c41 => ?_) (fun c41 => ?_))
            · skip
              refine s163_53.mpr ?_
              refine (s163_55).mpr ?_
              first | exact q1 (by omega) | exact q2 (by omega) (by omega) | exact q3 (by omega) (by omega)
            · skip
              refine s163_44.mpr (s163_45.mpr ?_)
              refine s163_46.mpr (wif (fun c46 => ?_) (fun c46 => ?_))
              · skip
                refine s163_53.mpr ?_
                refine (s163_55).mpr ?_
                first | exact q1 (by omega) | exact q2 (by omega) (by omega) | exact q3 (by omega) (by omega)
              · skip
                refine s163_49.mpr (s163_50.mpr ?_)
                refine (s163_55).mpr ?_
                first | exact q1 (by omega) | exact q2 (by omega) (by omega) | exact q3 (by omega) (by omega)
          · skip
            refine s163_53.mpr ?_
            refine (s163_55).mpr ?_
            first | exact q1 (by omega) | exact q2 (by omega) (by omega) | exact q3 (by omega) (by omega)
        · skip
          refine s163_31.mpr ?_
          refine (s163_32).mpr ?_
          first | exact q1 (by omega) | exact q2 (by omega) (by omega) | exact q3 (by omega) (by omega)
    · skip
      refine s163_33.mpr (s163_34.mpr ?_)
      refine s163_36.mpr (wif (fun c36 => ?_) (fun c36 => ?_))
      · skip
        refine s163_39.mpr (s163_40.mpr ?_)
        refine s163_41.mpr (wif (fun c41 => ?_) (fun c41 => ?_))
        · skip
          refine s163_53.mpr ?_
          refine (s163_55).mpr ?_
          first | exact q1 (by omega) | exact q2 (by omega) (by omega) | exact q3 (by omega) (by omega)
        · skip
          refine s163_44.mpr (s163_45.mpr ?_)
          refine s163_46.mpr (wif (fun c46 => ?_) (fun c46 => ?_))
          · skip
            refine s163_53.mpr ?_
            refine (s163_55).mpr ?_
            first | exact q1 (by omega) | exact q2 (by omega) (by omega) | exact q3 (by omega) (by omega)
          · skip
            refine s163_49.mpr (s163_50.mpr ?_)
            refine (s163_55).mpr ?_
            first | exact q1 (by omega) | exact q2 (by omega) (by omega) | exact q3 (by omega) (by omega)
      · skip
        refine s163_53.mpr ?_
        refine (s163_55).mpr ?_
        first | exact q1 (by omega) | exact q2 (by omega) (by omega) | exact q3 (by omega) (by omega)
end CV0
