section DV4
variable {d : Nat} {al : AL} {hi : HI} {hr : HR} {Q : QQ} {B : Int → Int} {N : Nat} {n : Int} {f : Int}
theorem v_followReturn {t : Nat} {v p : Int} {X : Tst} (h : VR al hr) (hd : 2 ≤ d) (hk : hr 8 8 = some (t + 1)) (hR : RoutOK al hi hr B f t) (ht : 119 ≤ t) (hT : TxV B n) (f0 : 0 ≤ f) (f1 : f < nFn B) (hs : VS (some X) hi) (hv : vX B X)
    (q : ∀ hi', VF (tsH B f 31 v p X) 0 hi' → FW wV hi hi' → Q (some none) al hi' hr) : Ev d 179 [vR (some 8)] al hi hr Q := by
  have k8 := h.k8; have k11 := h.k11; have k12 := h.k12; have l11 := h.l11; have l12 := h.l12; have r1 := h.2.2.1; have r2 := h.2.2.2.1
  have kT := hR.1.1
  have c16 := hs.2.2.2.1
  have er := hR.res hT f0 f1
  have et : tsH B f 31 v p X = onw ((if rTy B f = -1 then X.1 = 0 else X.1 = 1 ∧ leT (X.2.1 0) (rTy B f)) ∧ ∀ k, 0 ≤ k → k < 10 → ¬ linT (X.2.2 k)) [] := rfl
  rw [et] at q
  have hr1 := (hT.2.2.2.2 f f0 f1).2.1
  -- the locals
  have T47 : ∀ h1, FW wV hi h1 → ((∃ Y : Tst, VS (some Y) h1 ∧ Y.2.2 = X.2.2 ∧ (if rTy B f = -1 then X.1 = 0 else X.1 = 1 ∧ leT (X.2.1 0) (rTy B f))) ∨ (VS none h1 ∧ ¬ (if rTy B f = -1 then X.1 = 0 else X.1 = 1 ∧ leT (X.2.1 0) (rTy B f)))) → Wp d 179 47 [vR (some 8), vI 0] [] al h1 hr Q := by
    intro h1 g1 hj
    refine wp_cnt (N := 10) (fun i ls h2 => ls = [vR (some 8), vI i] ∧ FW wV hi h2 ∧ ((∃ Y : Tst, VS (some Y) h2 ∧ Y.2.2 = X.2.2 ∧ (if rTy B f = -1 then X.1 = 0 else X.1 = 1 ∧ leT (X.2.1 0) (rTy B f)) ∧ ∀ k : Int, 0 ≤ k → k < i → ¬ linT (X.2.2 k)) ∨ (VS none h2 ∧ ¬ ((if rTy B f = -1 then X.1 = 0 else X.1 = 1 ∧ leT (X.2.1 0) (rTy B f)) ∧ ∀ k, 0 ≤ k → k < 10 → ¬ linT (X.2.2 k))))) ?_ ?_ _ _ ⟨rfl, g1, by
      rcases hj with ⟨Y, z1, z2, z3⟩ | ⟨z1, z2⟩
      · exact Or.inl ⟨Y, z1, z2, z3, fun k k0 k1 => absurd k1 (by omega)⟩
      · exact Or.inr ⟨z1, fun z => z2 z.1⟩⟩
    · rintro i ls h2 hi10 ⟨rfl, g2, hj⟩ nx
      rcases hj with ⟨Y, z1, z2, z3, z4⟩ | ⟨z1, z2⟩
      · have e9 : h2 12 i = cv (X.2.2 i) := by rw [z1.2.2.2.2.2 i (by omega) (by omega), z2]
        have eL := linC_v (hv.2.2 i (by omega) (by omega)).r
        have n1 : ¬ linC (cv (X.2.2 i)) → Wp d 179 47 [vR (some 8), vI ((i : Int) + 1)] [] al h2 hr Q := fun y => nx _ _ ⟨rfl, g2, Or.inl ⟨Y, z1, z2, z3, fun k k0 k1 => by
          by_cases e : k = i
          · subst e; exact fun w => y (eL.mpr w)
          · exact z4 k k0 (by omega)⟩⟩
        have n2 : linC (cv (X.2.2 i)) → Wp d 179 47 [vR (some 8), vI ((i : Int) + 1)] [] al (upI h2 8 5 1) hr Q := fun y => nx _ _ ⟨rfl, g2.up wV_5, Or.inr ⟨z1.w, fun w => w.2 i (by omega) (by omega) (eL.mp y)⟩⟩
        refine s179_47.mpr (s179_48.mpr ?_)
        refine s179_50.mpr (wif (fun c50 => ?_) (fun c50 => ?_))
        · first
          | (exfalso; omega)
          | skip
            refine s179_53.mpr (s179_54.mpr ?_)
            refine (s179_55 (by first | decide | assumption | omega)).mpr ?_
            refine s179_58.mpr ?_
            try simp (disch := first | decide | assumption | omega) only [kon, knt_some, knt_none, Option.toList_some, Option.toList_none, List.cons_append, List.nil_append, r2, e9, fAdd_id]
            refine (s179_59 (by first | decide | assumption | omega) (by first | decide | assumption | omega) (by first | decide | assumption | omega)).mpr ?_
            try simp (disch := first | decide | assumption | omega) only [kon, knt_some, knt_none, Option.toList_some, Option.toList_none, List.cons_append, List.nil_append, r2, e9, fAdd_id]
            refine (s179_60 (by omega)).mpr ?_
            refine c_isLinear (fun y60 => ?_) (fun y60 => ?_)
            · skip
              refine s179_63.mpr (wif (fun c63 => ?_) (fun c63 => ?_))
              · first
                | (exfalso; omega)
                | skip
                  refine s179_66.mpr (s179_67.mpr ?_)
                  refine (s179_71 (by first | decide | assumption | omega) (by first | decide | assumption | omega)).mpr ?_
                  first | refine v_want0 h ?_ | refine v_want1 h ?_
                  refine s179_74.mpr (s179_77.mpr ?_)
                  try simp (disch := first | decide | assumption | omega) only [kon, knt_some, knt_none, Option.toList_some, Option.toList_none, List.cons_append, List.nil_append, r2, e9, fAdd_id]
                  first | exact n1 y60 | exact n2 y60 | (exfalso; omega)
              · first
                | (exfalso; omega)
                | skip
                  refine s179_70.mpr ?_
                  refine (s179_71 (by first | decide | assumption | omega) (by first | decide | assumption | omega)).mpr ?_
                  first | refine v_want0 h ?_ | refine v_want1 h ?_
                  refine s179_74.mpr (s179_77.mpr ?_)
                  try simp (disch := first | decide | assumption | omega) only [kon, knt_some, knt_none, Option.toList_some, Option.toList_none, List.cons_append, List.nil_append, r2, e9, fAdd_id]
                  first | exact n1 y60 | exact n2 y60 | (exfalso; omega)
            · skip
              refine s179_63.mpr (wif (fun c63 => ?_) (fun c63 => ?_))
              · first
                | (exfalso; omega)
                | skip
                  refine s179_66.mpr (s179_67.mpr ?_)
                  refine (s179_71 (by first | decide | assumption | omega) (by first | decide | assumption | omega)).mpr ?_
                  first | refine v_want0 h ?_ | refine v_want1 h ?_
                  refine s179_74.mpr (s179_77.mpr ?_)
                  try simp (disch := first | decide | assumption | omega) only [kon, knt_some, knt_none, Option.toList_some, Option.toList_none, List.cons_append, List.nil_append, r2, e9, fAdd_id]
                  first | exact n1 y60 | exact n2 y60 | (exfalso; omega)
              · first
                | (exfalso; omega)
                | skip
                  refine s179_70.mpr ?_
                  refine (s179_71 (by first | decide | assumption | omega) (by first | decide | assumption | omega)).mpr ?_
                  first | refine v_want0 h ?_ | refine v_want1 h ?_
                  refine s179_74.mpr (s179_77.mpr ?_)
                  try simp (disch := first | decide | assumption | omega) only [kon, knt_some, knt_none, Option.toList_some, Option.toList_none, List.cons_append, List.nil_append, r2, e9, fAdd_id]
                  first | exact n1 y60 | exact n2 y60 | (exfalso; omega)
        · first
          | (exfalso; omega)
          | skip
            refine (s179_80).mpr ?_
            exfalso; omega
      · have n1 : ∀ h3, VS none h3 → FW wV h2 h3 → Wp d 179 47 [vR (some 8), vI ((i : Int) + 1)] [] al h3 hr Q := fun h3 y g3 => nx _ _ ⟨rfl, g2.tr g3, Or.inr ⟨y, z2⟩⟩
        refine s179_47.mpr (s179_48.mpr ?_)
        refine s179_50.mpr (wif (fun c50 => ?_) (fun c50 => ?_))
        · first
          | (exfalso; omega)
          | skip
            refine s179_53.mpr (s179_54.mpr ?_)
            refine (s179_55 (by first | decide | assumption | omega)).mpr ?_
            refine s179_58.mpr ?_
            try simp (disch := first | decide | assumption | omega) only [kon, knt_some, knt_none, Option.toList_some, Option.toList_none, List.cons_append, List.nil_append, r2, fAdd_id]
            refine (s179_59 (by first | decide | assumption | omega) (by first | decide | assumption | omega) (by first | decide | assumption | omega)).mpr ?_
            try simp (disch := first | decide | assumption | omega) only [kon, knt_some, knt_none, Option.toList_some, Option.toList_none, List.cons_append, List.nil_append, r2, fAdd_id]
            refine (s179_60 (by omega)).mpr ?_
            refine c_isLinear (fun y60 => ?_) (fun y60 => ?_)
            · skip
              refine s179_63.mpr (wif (fun c63 => ?_) (fun c63 => ?_))
              · first
                | (exfalso; omega)
                | skip
                  refine s179_66.mpr (s179_67.mpr ?_)
                  refine (s179_71 (by first | decide | assumption | omega) (by first | decide | assumption | omega)).mpr ?_
                  refine v_wantN h z1 (fun h3 s3 g3 => ?_)
                  refine s179_74.mpr (s179_77.mpr ?_)
                  try simp (disch := first | decide | assumption | omega) only [kon, knt_some, knt_none, Option.toList_some, Option.toList_none, List.cons_append, List.nil_append, r2, fAdd_id]
                  exact n1 h3 s3 g3
              · first
                | (exfalso; omega)
                | skip
                  refine s179_70.mpr ?_
                  refine (s179_71 (by first | decide | assumption | omega) (by first | decide | assumption | omega)).mpr ?_
                  refine v_wantN h z1 (fun h3 s3 g3 => ?_)
                  refine s179_74.mpr (s179_77.mpr ?_)
                  try simp (disch := first | decide | assumption | omega) only [kon, knt_some, knt_none, Option.toList_some, Option.toList_none, List.cons_append, List.nil_append, r2, fAdd_id]
                  exact n1 h3 s3 g3
            · skip
              refine s179_63.mpr (wif (fun c63 => ?_) (fun c63 => ?_))
              · first
                | (exfalso; omega)
                | skip
                  refine s179_66.mpr (s179_67.mpr ?_)
                  refine (s179_71 (by first | decide | assumption | omega) (by first | decide | assumption | omega)).mpr ?_
                  refine v_wantN h z1 (fun h3 s3 g3 => ?_)
                  refine s179_74.mpr (s179_77.mpr ?_)
                  try simp (disch := first | decide | assumption | omega) only [kon, knt_some, knt_none, Option.toList_some, Option.toList_none, List.cons_append, List.nil_append, r2, fAdd_id]
                  exact n1 h3 s3 g3
              · first
                | (exfalso; omega)
                | skip
                  refine s179_70.mpr ?_
                  refine (s179_71 (by first | decide | assumption | omega) (by first | decide | assumption | omega)).mpr ?_
                  refine v_wantN h z1 (fun h3 s3 g3 => ?_)
                  refine s179_74.mpr (s179_77.mpr ?_)
                  try simp (disch := first | decide | assumption | omega) only [kon, knt_some, knt_none, Option.toList_some, Option.toList_none, List.cons_append, List.nil_append, r2, fAdd_id]
                  exact n1 h3 s3 g3
        · first
          | (exfalso; omega)
          | skip
            refine (s179_80).mpr ?_
            exfalso; omega
    · rintro ls h2 ⟨rfl, g2, hj⟩
      have E := q h2 (by
        rcases hj with ⟨Y, z1, z2, z3, z4⟩ | ⟨z1, z2⟩
        · rw [onw_p ⟨z3, fun k k0 k1 => z4 k k0 (by omega)⟩]; exact Or.inr (Or.inl ⟨rfl, ⟨Y, z1⟩, rfl⟩)
        · exact VF.nn z2 z1 (Or.inl rfl)) g2
      refine s179_47.mpr (s179_48.mpr ?_)
      refine s179_50.mpr (wif (fun c50 => ?_) (fun c50 => ?_))
      · skip
        exfalso; omega
      · skip
        refine (s179_80).mpr ?_
        exact E
  -- the height
  have T29 : ∀ h1 o, FW wV hi h1 → VS o h1 → (∀ Y, o = some Y → Y.2.2 = X.2.2 ∧ (Y.1 = 0 ↔ (if rTy B f = -1 then X.1 = 0 else X.1 = 1 ∧ leT (X.2.1 0) (rTy B f)))) → (o = none → ¬ (if rTy B f = -1 then X.1 = 0 else X.1 = 1 ∧ leT (X.2.1 0) (rTy B f))) → ∀ l1, Wp d 179 29 [vR (some 8), l1] [] al h1 hr Q := by
    intro h1 o g1 s1 ho ho2 l1
    have W0 : h1 8 4 = 0 → Wp d 179 47 [vR (some 8), vI 0] [] al h1 hr Q := fun c => T47 h1 g1 (by
      cases o with
      | none => exact Or.inr ⟨s1, ho2 rfl⟩
      | some Y => exact Or.inl ⟨Y, s1, (ho Y rfl).1, (ho Y rfl).2.mp (by rw [← s1.2.1]; exact c)⟩)
    have W1 : h1 8 4 ≠ 0 → Wp d 179 47 [vR (some 8), vI 0] [] al (upI h1 8 5 1) hr Q := fun c => T47 _ (g1.up wV_5) (Or.inr ⟨s1.w, by
      cases o with
      | none => exact ho2 rfl
      | some Y => exact fun z => c (by rw [s1.2.1]; exact (ho Y rfl).2.mpr z)⟩)
    refine s179_29.mpr (s179_30.mpr ?_)
    refine (s179_31 (by first | decide | assumption | omega)).mpr ?_
    try simp (disch := first | decide | assumption | omega) only [kon, knt_some, knt_none, Option.toList_some, Option.toList_none, List.cons_append, List.nil_append]
    refine s179_34.mpr (wif (fun c34 => ?_) (fun c34 => ?_))
    · skip
      refine s179_37.mpr (s179_38.mpr ?_)
      refine (s179_42 (by first | decide | assumption | omega) (by first | decide | assumption | omega)).mpr ?_
      first | refine v_want0 h ?_ | refine v_want1 h ?_
      refine s179_45.mpr (s179_46.mpr ?_)
      first | exact W0 (by assumption) | exact W1 (by assumption) | (exfalso; omega)
    · skip
      refine s179_41.mpr ?_
      refine (s179_42 (by first | decide | assumption | omega) (by first | decide | assumption | omega)).mpr ?_
      first | refine v_want0 h ?_ | refine v_want1 h ?_
      refine s179_45.mpr (s179_46.mpr ?_)
      first | exact W0 (by assumption) | exact W1 (by assumption) | (exfalso; omega)
  rw [e179]
  rcases hr1 with hn | ⟨hvr, -⟩
  · have er2 : hi (t + 1) 2 = -1 := by rw [er, hn]; rfl
    have E := T29 hi (some X) FW.rf hs (fun Y e => by cases e; exact ⟨rfl, by rw [if_pos hn]⟩) (fun e => by cases e) none
    refine s179_0.mpr ?_
    refine (s179_1 (by first | decide | assumption | omega)).mpr ?_
    try simp (disch := first | decide | assumption | omega) only [kon, knt_some, knt_none, Option.toList_some, Option.toList_none, List.cons_append, List.nil_append, hk, er2]
    refine (s179_4 (by first | decide | assumption | omega)).mpr ?_
    refine s179_7.mpr ?_
    try simp (disch := first | decide | assumption | omega) only [kon, knt_some, knt_none, Option.toList_some, Option.toList_none, List.cons_append, List.nil_append, hk, er2]
    refine s179_8.mpr (wif (fun c8 => ?_) (fun c8 => ?_))
    · first
      | (exfalso; omega)
      | skip
        exact E
    · first
      | (exfalso; omega)
      | skip
        exfalso; omega
  · have hn : rTy B f ≠ -1 := by have := hvr.1; omega
    have nm : ¬ cv (rTy B f) = -1 := cv_m hvr.r
    have er3 : ∀ {h1 : HI}, FW wV hi h1 → h1 (t + 1) 2 = cv (rTy B f) := fun g => by rw [g _ _ (wV_a (by omega))]; exact er
    have E1 : ∀ v1 h1, topV (some X) v1 → VS (popO (some X)) h1 → FW wV hi h1 → fitC v1 (cv (rTy B f)) → ∀ l1, Wp d 179 29 [vR (some 8), l1] [] al h1 hr Q := fun v1 h1 t1 s1 g1 y => T29 h1 _ g1 s1 (fun Y e => by
        have c : 0 < X.1 := nn_pop rfl (by rw [e]; simp)
        rw [pop_y c] at e; cases e
        refine ⟨rfl, ?_⟩
        rw [t1 X rfl c, fitC_v (hv.2.1 _ (by omega) (by omega)).r hvr.r] at y
        rw [if_neg hn]
        show X.1 - 1 = 0 ↔ _
        constructor
        · intro z; rw [z] at y; exact ⟨by omega, y⟩
        · rintro ⟨z, -⟩; omega) (fun e => by
        rw [if_neg hn]
        intro z
        rw [pop_y (by omega)] at e; cases e)
    have E2 : ∀ v1 h1, topV (some X) v1 → VS (popO (some X)) h1 → FW wV hi h1 → ¬ fitC v1 (cv (rTy B f)) → ∀ l1, Wp d 179 29 [vR (some 8), l1] [] al (upI h1 8 5 1) hr Q := fun v1 h1 t1 s1 g1 y => T29 _ none (g1.up wV_5) s1.w (fun Y e => by cases e) (fun _ => by
        rw [if_neg hn]
        intro z
        rw [t1 X rfl (by omega), fitC_v (hv.2.1 _ (by omega) (by omega)).r hvr.r, z.1] at y
        exact y z.2)
    refine s179_0.mpr ?_
    refine (s179_1 (by first | decide | assumption | omega)).mpr ?_
    try simp (disch := first | decide | assumption | omega) only [kon, knt_some, knt_none, Option.toList_some, Option.toList_none, List.cons_append, List.nil_append, hk, er]
    refine (s179_4 (by first | decide | assumption | omega)).mpr ?_
    refine s179_7.mpr ?_
    try simp (disch := first | decide | assumption | omega) only [kon, knt_some, knt_none, Option.toList_some, Option.toList_none, List.cons_append, List.nil_append, hk, er]
    refine s179_8.mpr (wif (fun c8 => ?_) (fun c8 => ?_))
    · first
      | (exfalso; omega)
      | skip
        first | exact absurd (by assumption) nm | exact E1 v1 h1 t1 s1 g1 y23 _ | exact E2 v1 h1 t1 s1 g1 y23 _
    · first
      | (exfalso; omega)
      | skip
        refine s179_11.mpr (s179_12.mpr ?_)
        refine (s179_13 (by first | decide | assumption | omega) (by first | decide | assumption | omega)).mpr ?_
        refine v_pop h hs (fun v1 h1 s1 g1 t1 => ?_)
        have er4 := er3 g1
        refine s179_16.mpr ?_
        refine (s179_17 (by first | decide | assumption | omega)).mpr ?_
        try simp (disch := first | decide | assumption | omega) only [kon, knt_some, knt_none, Option.toList_some, Option.toList_none, List.cons_append, List.nil_append, hk, er]
        refine (s179_20 (by first | decide | assumption | omega)).mpr ?_
        try simp (disch := first | decide | assumption | omega) only [kon, knt_some, knt_none, Option.toList_some, Option.toList_none, List.cons_append, List.nil_append, hk, er]
        refine (s179_23 (by omega)).mpr ?_
        rw [er4]
        refine c_fits (by omega) (fun y23 => ?_) (fun y23 => ?_)
        · skip
          refine (s179_26 (by first | decide | assumption | omega) (by first | decide | assumption | omega)).mpr ?_
          first | refine v_want0 h ?_ | refine v_want1 h ?_
          first | exact absurd (by assumption) nm | exact E1 v1 h1 t1 s1 g1 y23 _ | exact E2 v1 h1 t1 s1 g1 y23 _
        · skip
          refine (s179_26 (by first | decide | assumption | omega) (by first | decide | assumption | omega)).mpr ?_
          first | refine v_want0 h ?_ | refine v_want1 h ?_
          first | exact absurd (by assumption) nm | exact E1 v1 h1 t1 s1 g1 y23 _ | exact E2 v1 h1 t1 s1 g1 y23 _
/-- calls, ends, new processes -/
theorem v_followFlow {t : Nat} {op v p : Int} {X : Tst} {M : Nat} (h : VR al hr) (hd : 3 ≤ d) (hM : ModV al hi hr N n B M) (hT : TxV B n) (hN : hr 8 7 = some N) (hk : hr 8 8 = some (t + 1)) (hR : RoutOK al hi hr B f t) (ht : 119 ≤ t) (f0 : 0 ≤ f) (f1 : f < nFn B) (hs : VS (some X) hi) (hv : vX B X) (o0 : op = 30 ∨ op = 31 ∨ (40 ≤ op ∧ op ≤ 43)) (v0 : op = 30 ∨ op = 40 → 0 ≤ v ∧ v < nFn B)
    (q : ∀ x hi', (x = 0 ∨ x = 1) → VF (if op < 32 then tsH B f op v p X else tsL B f op v p X) x hi' → FW wV hi hi' → Q (some (some (vI x))) al hi' hr) : Ev d 176 [vR (some 8), vI op, vI v] al hi hr Q := by
  have k8 := h.k8; have k11 := h.k11; have k12 := h.k12; have l11 := h.l11; have l12 := h.l12; have r1 := h.2.2.1; have r2 := h.2.2.2.1
  have kN := hM.1.1.1
  have c16 := hs.2.2.2.1
  have rA : op = 30 ∨ op = 40 → ∃ t', roA hi hr N v = some (t' + 1) ∧ 119 ≤ t' ∧ RoutOK al hi hr B v t' := fun e => by
    have v0 := v0 e
    obtain ⟨t', z1, z2, z3, z4⟩ := hM.2.2.2.2.2.1 v v0.1 v0.2
    have := hT.2.1.2.2.2.2.2.2.2.2.2.1
    refine ⟨t', ?_, by have := hM.1.2.1; omega, z4⟩
    unfold roA
    rw [if_pos ⟨v0.1, by rw [hM.2.2.1.2.2]; exact v0.2, by omega⟩, z1]
  have T30 : op = 30 → Wp d 176 72 [vR (some 8), vI op, vI v, none, none] [] al hi hr Q := by
    rintro rfl
    obtain ⟨t', z1, z2, z3⟩ := rA (Or.inl rfl)
    have v0 := v0 (Or.inl rfl)
    have kT := z3.1.1
    have er := z3.res hT v0.1 v0.2
    have m0 := (hT.2.1.2.2.2.2.2.2.2.2.2.2 v v0.1 v0.2).1
    have et : (if (30 : Int) < 32 then tsH B f 30 v p X else tsL B f 30 v p X) = onw (parT B v X) [(p + 2, if rTy B v = -1 then (X.1 - nPar B v, X.2.1, X.2.2) else (X.1 - nPar B v + 1, up1 X.2.1 (X.1 - nPar B v) (rTy B v), X.2.2))] := rfl
    rw [et] at q
    by_cases hn : rTy B v = -1
    · rw [if_pos hn] at q
      refine s176_72.mpr ?_
      refine (s176_73 (by first | decide | assumption | omega)).mpr ?_
      refine s176_76.mpr ?_
      try simp (disch := first | decide | assumption | omega) only [kon, knt_some, knt_none, Option.toList_some, Option.toList_none, List.cons_append, List.nil_append, hN]
      refine (s176_77 (by first | decide | assumption | omega) (by first | decide | assumption | omega)).mpr ?_
      refine t_routineAt hM.1.1 ?_
      simp only [kon, knt_some, knt_none, Option.toList_some, Option.toList_none, List.cons_append, List.nil_append, z1]
      refine s176_80.mpr (s176_81.mpr (s176_82.mpr ?_))
      refine (s176_83 (by first | decide | assumption | omega) (by first | decide | assumption | omega)).mpr ?_
      refine v_popParameters h (by omega) z3 z2 hT v0.1 v0.2 hs hv (fun hi1 s1 g1 => ?_)
      have er1 : hi1 (t' + 1) 2 = -1 := by rw [g1 _ _ (wV_a (by omega)), er, hn]; rfl
      refine s176_86.mpr ?_
      refine s176_87.mpr (wif (fun c87 => ?_) (fun c87 => ?_))
      · skip
        first | (cases c87) | (exfalso; omega)
      · skip
        skip
        refine s176_90.mpr ?_
        refine (s176_91 kT).mpr ?_
        rw [er1]
        refine s176_94.mpr (s176_95.mpr (wif (fun _ => ?_) (fun c => absurd rfl c)))
        refine s176_106.mpr ?_
        refine (s176_107 (by decide)).mpr ?_
        refine q _ _ (Or.inr rfl) (VF.of ?_) g1
        by_cases c : parT B v X
        · rw [wnt_y c] at s1; rw [onw_p c, nx_y (by show X.1 - nPar B v ≤ 16; omega)]; exact s1
        · rw [wnt_n c] at s1; rw [onw_n c]; exact s1
    · rw [if_neg hn] at q
      have hvr := ((hT.2.2.2.2 v v0.1 v0.2).2.1.resolve_left hn).1.r
      have nm : ¬ cv (rTy B v) = -1 := cv_m hvr
      refine s176_72.mpr ?_
      refine (s176_73 (by first | decide | assumption | omega)).mpr ?_
      refine s176_76.mpr ?_
      try simp (disch := first | decide | assumption | omega) only [kon, knt_some, knt_none, Option.toList_some, Option.toList_none, List.cons_append, List.nil_append, hN]
      refine (s176_77 (by first | decide | assumption | omega) (by first | decide | assumption | omega)).mpr ?_
      refine t_routineAt hM.1.1 ?_
      simp only [kon, knt_some, knt_none, Option.toList_some, Option.toList_none, List.cons_append, List.nil_append, z1]
      refine s176_80.mpr (s176_81.mpr (s176_82.mpr ?_))
      refine (s176_83 (by first | decide | assumption | omega) (by first | decide | assumption | omega)).mpr ?_
      refine v_popParameters h (by omega) z3 z2 hT v0.1 v0.2 hs hv (fun hi1 s1 g1 => ?_)
      have er1 : hi1 (t' + 1) 2 = cv (rTy B v) := by rw [g1 _ _ (wV_a (by omega)), er]
      refine s176_86.mpr ?_
      refine s176_87.mpr (wif (fun c87 => ?_) (fun c87 => ?_))
      · skip
        first | (cases c87) | (exfalso; omega)
      · skip
        skip
        refine s176_90.mpr ?_
        refine (s176_91 kT).mpr ?_
        rw [er1]
        refine s176_94.mpr (s176_95.mpr (wif (fun c => absurd c nm) (fun _ => ?_)))
        refine s176_98.mpr (s176_99.mpr ?_)
        refine (s176_100 kT).mpr ?_
        rw [er1]
        refine (s176_103 (by omega) k8).mpr ?_
        refine v_push h s1 (fun _ => rfl) (fun hi2 s2 g2 => ?_)
        simp only [kon, knt_some, knt_none, Option.toList_some, Option.toList_none, List.cons_append, List.nil_append]
        refine s176_106.mpr ?_
        refine (s176_107 (by decide)).mpr ?_
        refine q _ _ (Or.inr rfl) (VF.of ?_) (g1.tr g2)
        by_cases c : parT B v X
        · rw [wnt_y c] at s2
          rw [onw_p c]
          exact (nx_push (X := (X.1 - nPar B v, X.2.1, X.2.2))).symm ▸ s2
        · rw [wnt_n c] at s2; rw [onw_n c]; exact s2
  have T31 : op = 31 → Wp d 176 108 [vR (some 8), vI op, vI v, none, none] [] al hi hr Q := by
    rintro rfl
    refine s176_108.mpr ?_
    refine (s176_109 (by first | decide | assumption | omega) (by first | decide | assumption | omega)).mpr ?_
    refine v_followReturn (v := v) (p := p) h (by omega) hk hR ht hT f0 f1 hs hv (fun hi1 s1 g1 => ?_)
    refine s176_112.mpr ?_
    refine (s176_113 (by first | assumption | omega)).mpr ?_
    exact q _ _ (Or.inl rfl) s1 g1
  have T40 : op = 40 → Wp d 176 114 [vR (some 8), vI op, vI v, none, none] [] al hi hr Q := by
    rintro rfl
    obtain ⟨t', z1, z2, z3⟩ := rA (Or.inr rfl)
    have v0 := v0 (Or.inr rfl)
    have kT := z3.1.1
    have er := z3.res hT v0.1 v0.2
    have m0 := (hT.2.1.2.2.2.2.2.2.2.2.2.2 v v0.1 v0.2).1
    have hvr := (hT.2.2.2.2 v v0.1 v0.2).2.1
    have em : cv (rTy B v) = -1 ↔ rTy B v = -1 := by
      constructor
      · intro z
        rcases hvr with y | y
        · exact y
        · exact absurd z (cv_m y.1.r)
      · intro z; rw [z]; rfl
    have et : (if (40 : Int) < 32 then tsH B f 40 v p X else tsL B f 40 v p X) = onw (rTy B v = -1 ∧ (∀ k, 0 ≤ k → k < nPar B v → ¬ heapT (pTy B v k)) ∧ parT B v X) [(p + 2, (X.1 - nPar B v, X.2.1, X.2.2))] := rfl
    rw [et] at q
    have qA : ∀ hi1, VS (wnt (parT B v X) (some (X.1 - nPar B v, X.2.1, X.2.2))) hi1 → FW wV hi hi1 → rTy B v = -1 → (∀ k, 0 ≤ k → k < nPar B v → ¬ heapT (pTy B v k)) → Q (some (some (vI 1))) al hi1 hr := fun hi1 s1 g1 y1 y2 => q _ _ (Or.inr rfl) (VF.of (by
      by_cases c : parT B v X
      · rw [wnt_y c] at s1; rw [onw_p ⟨y1, y2, c⟩, nx_y (by show X.1 - nPar B v ≤ 16; omega)]; exact s1
      · rw [wnt_n c] at s1; rw [onw_n (fun z => c z.2.2)]; exact s1)) g1
    have qB : ∀ hi1, VS none hi1 → FW wV hi hi1 → ¬ (rTy B v = -1 ∧ (∀ k, 0 ≤ k → k < nPar B v → ¬ heapT (pTy B v k))) → Q (some (some (vI 1))) al hi1 hr := fun hi1 s1 g1 y => q _ _ (Or.inr rfl) (VF.nn (fun z => y ⟨z.1, z.2.1⟩) s1 (Or.inr rfl)) g1
    refine s176_114.mpr ?_
    refine (s176_115 (by first | decide | assumption | omega)).mpr ?_
    refine s176_118.mpr ?_
    try simp (disch := first | decide | assumption | omega) only [kon, knt_some, knt_none, Option.toList_some, Option.toList_none, List.cons_append, List.nil_append, hN]
    refine (s176_119 (by first | decide | assumption | omega) (by first | decide | assumption | omega)).mpr ?_
    refine t_routineAt hM.1.1 ?_
    simp only [kon, knt_some, knt_none, Option.toList_some, Option.toList_none, List.cons_append, List.nil_append, z1]
    refine s176_122.mpr (s176_124.mpr (s176_125.mpr ?_))
    refine (s176_127 (by first | decide | assumption | omega) (by first | decide | assumption | omega)).mpr ?_
    refine v_popParameters h (by omega) z3 z2 hT v0.1 v0.2 hs hv (fun hi1 s1 g1 => ?_)
    have er1 : hi1 (t' + 1) 2 = cv (rTy B v) := by rw [g1 _ _ (wV_a (by omega)), er]
    have z4 := z3.wv z2 g1
    refine s176_130.mpr (s176_131.mpr ?_)
    refine s176_133.mpr (wif (fun c133 => ?_) (fun c133 => ?_))
    · skip
      refine s176_157.mpr ?_
      refine (s176_158 (by first | decide | assumption | omega) (by first | decide | assumption | omega)).mpr ?_
      first | refine v_want0 h ?_ | refine v_want1 h ?_
      refine s176_161.mpr ?_
      refine (s176_162 (by first | assumption | omega)).mpr ?_
      first
      | (cases c133)
      | exact qA hi1 s1 g1 (em.mp (by rw [← er1]; assumption)) (by assumption)
      | exact qB _ s1.w (g1.up wV_5) (fun z => absurd z.2 (by assumption))
      | exact qB _ s1.w (g1.up wV_5) (fun z => absurd (em.mpr z.1) (by rw [← er1]; assumption))
      | (exfalso; omega)
    · skip
      refine s176_136.mpr ?_
      refine (s176_138 (by first | decide | assumption | omega)).mpr ?_
      refine s176_141.mpr ?_
      try simp (disch := first | decide | assumption | omega) only [kon, knt_some, knt_none, Option.toList_some, Option.toList_none, List.cons_append, List.nil_append, hN]
      refine s176_142.mpr (wif (fun c142 => ?_) (fun c142 => ?_))
      · skip
        refine s176_145.mpr ?_
        refine (s176_147 (by omega)).mpr ?_
        refine v_takesPointers (by omega) z4 hT v0.1 v0.2 (fun y147 => ?_) (fun y147 => ?_)
        · skip
          refine s176_150.mpr (wif (fun c150 => ?_) (fun c150 => ?_))
          · skip
            refine s176_153.mpr (s176_154.mpr ?_)
            refine (s176_158 (by first | decide | assumption | omega) (by first | decide | assumption | omega)).mpr ?_
            first | refine v_want0 h ?_ | refine v_want1 h ?_
            refine s176_161.mpr ?_
            refine (s176_162 (by first | assumption | omega)).mpr ?_
            first
            | (cases c133)
            | exact qA hi1 s1 g1 (em.mp (by rw [← er1]; assumption)) (by assumption)
            | exact qB _ s1.w (g1.up wV_5) (fun z => absurd z.2 (by assumption))
            | exact qB _ s1.w (g1.up wV_5) (fun z => absurd (em.mpr z.1) (by rw [← er1]; assumption))
            | (exfalso; omega)
          · skip
            refine s176_157.mpr ?_
            refine (s176_158 (by first | decide | assumption | omega) (by first | decide | assumption | omega)).mpr ?_
            first | refine v_want0 h ?_ | refine v_want1 h ?_
            refine s176_161.mpr ?_
            refine (s176_162 (by first | assumption | omega)).mpr ?_
            first
            | (cases c133)
            | exact qA hi1 s1 g1 (em.mp (by rw [← er1]; assumption)) (by assumption)
            | exact qB _ s1.w (g1.up wV_5) (fun z => absurd z.2 (by assumption))
            | exact qB _ s1.w (g1.up wV_5) (fun z => absurd (em.mpr z.1) (by rw [← er1]; assumption))
            | (exfalso; omega)
        · skip
          refine s176_150.mpr (wif (fun c150 => ?_) (fun c150 => ?_))
          · skip
            refine s176_153.mpr (s176_154.mpr ?_)
            refine (s176_158 (by first | decide | assumption | omega) (by first | decide | assumption | omega)).mpr ?_
            first | refine v_want0 h ?_ | refine v_want1 h ?_
            refine s176_161.mpr ?_
            refine (s176_162 (by first | assumption | omega)).mpr ?_
            first
            | (cases c133)
            | exact qA hi1 s1 g1 (em.mp (by rw [← er1]; assumption)) (by assumption)
            | exact qB _ s1.w (g1.up wV_5) (fun z => absurd z.2 (by assumption))
            | exact qB _ s1.w (g1.up wV_5) (fun z => absurd (em.mpr z.1) (by rw [← er1]; assumption))
            | (exfalso; omega)
          · skip
            refine s176_157.mpr ?_
            refine (s176_158 (by first | decide | assumption | omega) (by first | decide | assumption | omega)).mpr ?_
            first | refine v_want0 h ?_ | refine v_want1 h ?_
            refine s176_161.mpr ?_
            refine (s176_162 (by first | assumption | omega)).mpr ?_
            first
            | (cases c133)
            | exact qA hi1 s1 g1 (em.mp (by rw [← er1]; assumption)) (by assumption)
            | exact qB _ s1.w (g1.up wV_5) (fun z => absurd z.2 (by assumption))
            | exact qB _ s1.w (g1.up wV_5) (fun z => absurd (em.mpr z.1) (by rw [← er1]; assumption))
            | (exfalso; omega)
      · skip
        refine s176_157.mpr ?_
        refine (s176_158 (by first | decide | assumption | omega) (by first | decide | assumption | omega)).mpr ?_
        first | refine v_want0 h ?_ | refine v_want1 h ?_
        refine s176_161.mpr ?_
        refine (s176_162 (by first | assumption | omega)).mpr ?_
        first
        | (cases c133)
        | exact qA hi1 s1 g1 (em.mp (by rw [← er1]; assumption)) (by assumption)
        | exact qB _ s1.w (g1.up wV_5) (fun z => absurd z.2 (by assumption))
        | exact qB _ s1.w (g1.up wV_5) (fun z => absurd (em.mpr z.1) (by rw [← er1]; assumption))
        | (exfalso; omega)
  have T171 : op = 41 → Wp d 176 171 [vR (some 8), vI op, vI v, none, none] [] al hi hr Q := by
    rintro rfl
    have et : (if (41 : Int) < 32 then tsH B f 41 v p X else tsL B f 41 v p X) = onw True [(p + 1, X)] := rfl
    rw [et] at q
    refine s176_171.mpr ?_
    refine (s176_172 (by first | assumption | omega)).mpr ?_
    exact q _ _ (Or.inr rfl) (VF.of (by rw [onw_p trivial, nx_y c16]; exact hs)) FW.rf
  have T163 : op = 42 → Wp d 176 163 [vR (some 8), vI op, vI v, none, none] [] al hi hr Q := by
    rintro rfl
    have et : (if (42 : Int) < 32 then tsH B f 42 v p X else tsL B f 42 v p X) = onw True [] := rfl
    rw [et] at q
    refine s176_163.mpr ?_
    refine (s176_164 (by first | assumption | omega)).mpr ?_
    exact q _ _ (Or.inl rfl) (by rw [onw_p trivial]; exact Or.inr (Or.inl ⟨rfl, ⟨X, hs⟩, rfl⟩)) FW.rf
  have T165 : op = 43 → Wp d 176 165 [vR (some 8), vI op, vI v, none, none] [] al hi hr Q := by
    rintro rfl
    have et : (if (43 : Int) < 32 then tsH B f 43 v p X else tsL B f 43 v p X) = onw (0 < X.1 ∧ X.2.1 (X.1 - 1) = 0) [(p + 1, (X.1 - 1, X.2.1, X.2.2))] := rfl
    rw [et] at q
    refine s176_165.mpr ?_
    refine (s176_166 (by first | decide | assumption | omega) (by first | decide | assumption | omega)).mpr ?_
    refine v_popInt h (by omega) hs (fun Z e => by cases e; exact hv) (fun hi0 s0 g0 => ?_)
    refine s176_169.mpr ?_
    refine (s176_170 (by first | assumption | omega)).mpr ?_
    refine q _ _ (Or.inr rfl) (VF.of ?_) g0
    by_cases c : 0 < X.1 ∧ X.2.1 (X.1 - 1) = 0
    · rw [popI_y c.1 c.2] at s0; rw [onw_p c, nx_y (by show X.1 - 1 ≤ 16; omega)]; exact s0
    · rw [popI_n c] at s0; rw [onw_n c]; exact s0
  rw [e176]
  refine s176_0.mpr ?_
  refine g176_1 (fun c1 => ?_) (fun c1 => ?_) (fun c1 => ?_) (fun c1 => ?_) (fun c1 => ?_) (fun c1 => ?_)
  · skip
    have c1 := List.mem_singleton.mp c1
    exact T30 c1
  · skip
    have c1 := List.mem_singleton.mp c1
    exact T31 c1
  · skip
    have c1 := List.mem_singleton.mp c1
    exact T40 c1
  · skip
    have c1 := List.mem_singleton.mp c1
    exact T163 c1
  · skip
    have c1 := List.mem_singleton.mp c1
    exact T165 c1
  · skip
    exact T171 (by clear rA T30 T31 T40 T171 T163 T165 q; simp only [List.mem_cons, List.not_mem_nil, or_false] at c1; omega)
end DV4
