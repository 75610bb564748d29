section DV2
variable {d : Nat} {al : AL} {hi : HI} {hr : HR} {Q : QQ} {B : Int → Int} {N : Nat} {n : Int} {f : Int}
theorem pI_y {X : Tst} (c : 1 < X.1) (c2 : X.2.1 (X.1 - 1) = 0) : popO (popI (some X)) = some (X.1 - 2, X.2.1, X.2.2) := by
  rw [popI_y (by omega) c2, pop_y (by show 0 < X.1 - 1; omega)]
  show some (X.1 - 1 - 1, X.2.1, X.2.2) = _
  rw [show X.1 - 1 - 1 = X.1 - 2 by omega]
theorem pI_n {X : Tst} (c : ¬ (1 < X.1 ∧ X.2.1 (X.1 - 1) = 0)) : popO (popI (some X)) = none := by
  by_cases c1 : 0 < X.1 ∧ X.2.1 (X.1 - 1) = 0
  · rw [popI_y c1.1 c1.2]; exact pop_n (by show ¬ 0 < X.1 - 1; intro z; exact c ⟨by omega, c1.2⟩)
  · rw [popI_n c1]; rfl
theorem top_I {X : Tst} {v1 : Int} (hv : vX B X) (t1 : topV (popI (some X)) v1) (c : 1 < X.1) (c2 : X.2.1 (X.1 - 1) = 0) : v1 = cv (X.2.1 (X.1 - 2)) ∧ v1 % 16 = kindM (X.2.1 (X.1 - 2)) ∧ rng v1 ∧ v1 / 16 % 256 = whichM (X.2.1 (X.1 - 2)) := by
  have e := popI_y (X := X) (by omega) c2
  have := top_of e (popI_v hv _ e) t1 (by show 0 < X.1 - 1; omega)
  simp only [show X.1 - 1 - 1 = X.1 - 2 by omega] at this
  exact this
/-- an item's type -/
theorem itm_c {a v1 x9 : Int} (ha : vT B a) (e : v1 = cv a) (k2 : v1 % 16 = kindM a) (k3 : rng v1) (k4 : v1 / 16 % 256 = whichM a) (w1 : rng v1 → x9 = v1 / 16 % 256) (n2 : ¬ v1 = 2) (h3 : kindM a = 2 ∨ kindM a = 3) : tyO 1 x9 = cv (itm a) := by
  have n2' : ¬ kindM a = 2 := fun z => n2 (by rw [e, ha.2.2.1 z]; rfl)
  have hw : 0 ≤ whichM a ∧ whichM a < 256 := by unfold whichM; omega
  rw [w1 k3, k4, tyO_v (by decide) (by decide) hw.1 hw.2]
  unfold itm
  rw [if_neg n2', cv_node (by decide) (by decide) hw.1 hw.2]
theorem itm_2 {a v1 : Int} (ha : vT B a) (e : v1 = cv a) (h2 : v1 = 2) : cv (itm a) = 0 := by
  have : a = 2 := (cv_c ha.r (by decide) (by decide)).mp (e.symm.trans h2)
  subst this; rfl
theorem itm_r {a : Int} (ha : vT B a) (h3 : kindM a = 2 ∨ kindM a = 3) : rT (itm a) := (vItm ha h3).r
/-- an item is taken -/
theorem v_take {v p : Int} {X : Tst} (h : VR al hr) (hd : 2 ≤ d) (hs : VS (some X) hi) (hv : vX B X)
    (q : ∀ x hi', (x = 0 ∨ x = 1) → VF (tsH B f 28 v p X) x hi' → FW wV hi hi' → Q (some (some (vI x))) al hi' hr) : Ev d 175 [vR (some 8), vI 28] al hi hr Q := by
  have k8 := h.k8; have k11 := h.k11; have k12 := h.k12; have l11 := h.l11; have l12 := h.l12; have r1 := h.2.2.1; have r2 := h.2.2.2.1
  have c16 := hs.2.2.2.1
  have et : tsH B f 28 v p X = onw (1 < X.1 ∧ X.2.1 (X.1 - 1) = 0 ∧ (X.2.1 (X.1 - 2) = 6 ∨ kindM (X.2.1 (X.1 - 2)) = 2 ∨ kindM (X.2.1 (X.1 - 2)) = 3)) (if X.2.1 (X.1 - 2) = 6 then [] else [(p + 1, (X.1 - 1, up1 X.2.1 (X.1 - 2) (itm (X.2.1 (X.1 - 2))), X.2.2))]) := rfl
  rw [et] at q
  have hv2 : 1 < X.1 → vT B (X.2.1 (X.1 - 2)) := fun c => hv.2.1 _ (by omega) (by omega)
  have t6 : ∀ v1, topV (popI (some X)) v1 → 1 < X.1 → X.2.1 (X.1 - 1) = 0 → (v1 = 6 ↔ X.2.1 (X.1 - 2) = 6) := fun v1 t1 c c2 => by
    rw [(top_I hv t1 c c2).1]; exact cv_c (hv2 c).r (by decide) (by decide)
  have q6 : ∀ v1 hi1, topV (popI (some X)) v1 → VS (popO (popI (some X))) hi1 → FW wV hi hi1 → v1 = 6 → Q (some (some (vI 0))) al hi1 hr := fun v1 hi1 t1 s1 f1 e => q 0 hi1 (Or.inl rfl) (by
    by_cases c : 1 < X.1 ∧ X.2.1 (X.1 - 1) = 0
    · have e6 := (t6 v1 t1 c.1 c.2).mp e
      rw [pI_y c.1 c.2] at s1
      exact VF.z ⟨c.1, c.2, Or.inl e6⟩ e6 ⟨_, s1⟩
    · rw [pI_n c] at s1; exact VF.nn (fun z => c ⟨z.1, z.2.1⟩) s1 (Or.inl rfl)) f1
  have qA : ∀ v1 hi4, topV (popI (some X)) v1 → FW wV hi hi4 → v1 ≠ 6 → (v1 % 16 = 2 ∨ v1 % 16 = 3) → VS (pushO (popO (popI (some X))) (itm (X.2.1 (X.1 - 2)))) hi4 → Q (some (some (vI 1))) al hi4 hr := fun v1 hi4 t1 f4 n6 k s4 => q 1 hi4 (Or.inr rfl) (by
    by_cases c : 1 < X.1 ∧ X.2.1 (X.1 - 1) = 0
    · have k2 := (top_I hv t1 c.1 c.2).2.1
      refine VF.g ⟨c.1, c.2, Or.inr (by omega)⟩ (fun z => n6 ((t6 v1 t1 c.1 c.2).mpr z)) ?_
      rw [nx_y (by show X.1 - 1 ≤ 16; omega)]
      rw [pI_y c.1 c.2, push_y (by show X.1 - 2 < 16; omega)] at s4
      simp only [show X.1 - 2 + 1 = X.1 - 1 by omega] at s4
      exact s4
    · rw [pI_n c] at s4; exact VF.nn (fun z => c ⟨z.1, z.2.1⟩) s4 (Or.inr rfl)) f4
  have qB : ∀ v1 hi4, topV (popI (some X)) v1 → FW wV hi hi4 → v1 ≠ 6 → ¬ (v1 % 16 = 2 ∨ v1 % 16 = 3) → VS none hi4 → Q (some (some (vI 1))) al hi4 hr := fun v1 hi4 t1 f4 n6 k s4 => q 1 hi4 (Or.inr rfl) (VF.nn (fun z => by
    have k2 := (top_I hv t1 z.1 z.2.1).2.1
    rcases z.2.2 with y | y
    · exact n6 ((t6 v1 t1 z.1 z.2.1).mpr y)
    · omega) s4 (Or.inr rfl)) f4
  have nn : popO (popI (some X)) ≠ none → 1 < X.1 ∧ X.2.1 (X.1 - 1) = 0 := fun z => Classical.byContradiction fun c => z (pI_n c)
  have i2 : ∀ v1, topV (popI (some X)) v1 → v1 = 2 → popO (popI (some X)) ≠ none → 0 = cv (itm (X.2.1 (X.1 - 2))) := fun v1 t1 e z => by
    have c := nn z
    exact (itm_2 (hv2 c.1) (top_I hv t1 c.1 c.2).1 e).symm
  have i3 : ∀ v1 x9, topV (popI (some X)) v1 → ¬ v1 = 2 → (rng v1 → x9 = v1 / 16 % 256) → (v1 % 16 = 2 ∨ v1 % 16 = 3) → popO (popI (some X)) ≠ none → tyO 1 x9 = cv (itm (X.2.1 (X.1 - 2))) := fun v1 x9 t1 e w1 k z => by
    have c := nn z
    obtain ⟨k1, k2, k3, k4⟩ := top_I hv t1 c.1 c.2
    exact itm_c (hv2 c.1) k1 k2 k3 k4 w1 e (by omega)
  rw [e175]
  refine s175_0.mpr (s175_1.mpr ?_)
  refine s175_3.mpr (wif (fun c3 => ?_) (fun c3 => ?_))
  · first
    | (exfalso; omega)
    | skip
      exfalso; omega
  · first
    | (exfalso; omega)
    | skip
      refine s175_13.mpr (s175_14.mpr (s175_15.mpr (s175_16.mpr ?_)))
      refine s175_18.mpr (wif (fun c18 => ?_) (fun c18 => ?_))
      · first
        | (exfalso; omega)
        | skip
          refine s175_25.mpr ?_
          refine (s175_26 (by first | decide | assumption | omega) (by first | decide | assumption | omega)).mpr ?_
          first | refine v_pop h s0 (fun v1 hi1 s1 f1 t1 => ?_) | (exfalso; omega)
          refine s175_29.mpr (s175_30.mpr (s175_31.mpr ?_))
          refine s175_33.mpr (wif (fun c33 => ?_) (fun c33 => ?_))
          · first
            | (exfalso; omega)
            | skip
              refine s175_36.mpr ?_
              refine (s175_37 (by first | assumption | omega)).mpr ?_
              first
              | exact q6 v1 hi1 t1 s1 (f0.tr f1) (by assumption)
              | exact qA v1 hi4 t1 ((f0.tr f1).tr f4) (by assumption) (by omega) s4
              | exact qB v1 hi4 t1 (((f0.tr f1).up wV_5).tr f4) (by assumption) (by omega) s4
              | (exfalso; omega)
          · first
            | (exfalso; omega)
            | skip
              refine s175_38.mpr (s175_39.mpr ?_)
              refine (s175_40 (by omega)).mpr ?_
              refine c_kindOf.mpr ?_
              refine s175_43.mpr ?_
              refine s175_44.mpr (wif (fun c44 => ?_) (fun c44 => ?_))
              · first
                | (exfalso; omega)
                | skip
                  refine s175_55.mpr (s175_56.mpr ?_)
                  refine (s175_60 (by first | decide | assumption | omega) (by first | decide | assumption | omega)).mpr ?_
                  first | refine v_want0 h ?_ | refine v_want1 h ?_
                  refine s175_63.mpr (s175_64.mpr ?_)
                  refine s175_65.mpr (wif (fun c65 => ?_) (fun c65 => ?_))
                  · first
                    | (exfalso; omega)
                    | skip
                      refine s175_68.mpr (s175_69.mpr (s175_80.mpr (s175_82.mpr (s175_83.mpr ?_))))
                      refine s175_85.mpr (wif (fun c85 => ?_) (fun c85 => ?_))
                      · first
                        | (exfalso; omega)
                        | skip
                          exfalso; omega
                      · first
                        | (exfalso; omega)
                        | skip
                          refine s175_101.mpr (s175_102.mpr (s175_103.mpr ?_))
                          refine s175_105.mpr (wif (fun c105 => ?_) (fun c105 => ?_))
                          · first
                            | (exfalso; omega)
                            | skip
                              exfalso; omega
                          · first
                            | (exfalso; omega)
                            | skip
                              refine s175_112.mpr ?_
                              refine (s175_114 (by first | decide | assumption | omega) (by first | decide | assumption | omega)).mpr ?_
                              first | refine v_push (t := itm (X.2.1 (X.1 - 2))) h s1 (fun z => i2 v1 t1 (by assumption) z) (fun hi4 s4 f4 => ?_) | refine v_push (t := itm (X.2.1 (X.1 - 2))) h s1 (fun z => i3 v1 x9 t1 (by assumption) w1 (by omega) z) (fun hi4 s4 f4 => ?_) | refine v_pushN h s1.w (fun hi4 s4 f4 => ?_)
                              refine s175_117.mpr ?_
                              refine (s175_118 (by first | assumption | omega)).mpr ?_
                              first
                              | exact q6 v1 hi1 t1 s1 (f0.tr f1) (by assumption)
                              | exact qA v1 hi4 t1 ((f0.tr f1).tr f4) (by assumption) (by omega) s4
                              | exact qB v1 hi4 t1 (((f0.tr f1).up wV_5).tr f4) (by assumption) (by omega) s4
                              | (exfalso; omega)
                  · first
                    | (exfalso; omega)
                    | skip
                      refine s175_72.mpr (s175_73.mpr ?_)
                      refine (s175_74 (by omega)).mpr ?_
                      refine c_namedByG (fun x9 w1 => ?_)
                      refine (s175_77 (by omega)).mpr ?_
                      refine c_typeOf.mpr ?_
                      refine s175_80.mpr (s175_82.mpr (s175_83.mpr ?_))
                      refine s175_85.mpr (wif (fun c85 => ?_) (fun c85 => ?_))
                      · first
                        | (exfalso; omega)
                        | skip
                          exfalso; omega
                      · first
                        | (exfalso; omega)
                        | skip
                          refine s175_101.mpr (s175_102.mpr (s175_103.mpr ?_))
                          refine s175_105.mpr (wif (fun c105 => ?_) (fun c105 => ?_))
                          · first
                            | (exfalso; omega)
                            | skip
                              exfalso; omega
                          · first
                            | (exfalso; omega)
                            | skip
                              refine s175_112.mpr ?_
                              refine (s175_114 (by first | decide | assumption | omega) (by first | decide | assumption | omega)).mpr ?_
                              first | refine v_push (t := itm (X.2.1 (X.1 - 2))) h s1 (fun z => i2 v1 t1 (by assumption) z) (fun hi4 s4 f4 => ?_) | refine v_push (t := itm (X.2.1 (X.1 - 2))) h s1 (fun z => i3 v1 x9 t1 (by assumption) w1 (by omega) z) (fun hi4 s4 f4 => ?_) | refine v_pushN h s1.w (fun hi4 s4 f4 => ?_)
                              refine s175_117.mpr ?_
                              refine (s175_118 (by first | assumption | omega)).mpr ?_
                              first
                              | exact q6 v1 hi1 t1 s1 (f0.tr f1) (by assumption)
                              | exact qA v1 hi4 t1 ((f0.tr f1).tr f4) (by assumption) (by omega) s4
                              | exact qB v1 hi4 t1 (((f0.tr f1).up wV_5).tr f4) (by assumption) (by omega) s4
                              | (exfalso; omega)
              · first
                | (exfalso; omega)
                | skip
                  refine s175_47.mpr ?_
                  refine (s175_48 (by omega)).mpr ?_
                  refine c_kindOf.mpr ?_
                  refine s175_51.mpr ?_
                  refine s175_52.mpr (wif (fun c52 => ?_) (fun c52 => ?_))
                  · first
                    | (exfalso; omega)
                    | skip
                      refine s175_55.mpr (s175_56.mpr ?_)
                      refine (s175_60 (by first | decide | assumption | omega) (by first | decide | assumption | omega)).mpr ?_
                      first | refine v_want0 h ?_ | refine v_want1 h ?_
                      refine s175_63.mpr (s175_64.mpr ?_)
                      refine s175_65.mpr (wif (fun c65 => ?_) (fun c65 => ?_))
                      · first
                        | (exfalso; omega)
                        | skip
                          refine s175_68.mpr (s175_69.mpr (s175_80.mpr (s175_82.mpr (s175_83.mpr ?_))))
                          refine s175_85.mpr (wif (fun c85 => ?_) (fun c85 => ?_))
                          · first
                            | (exfalso; omega)
                            | skip
                              exfalso; omega
                          · first
                            | (exfalso; omega)
                            | skip
                              refine s175_101.mpr (s175_102.mpr (s175_103.mpr ?_))
                              refine s175_105.mpr (wif (fun c105 => ?_) (fun c105 => ?_))
                              · first
                                | (exfalso; omega)
                                | skip
                                  exfalso; omega
                              · first
                                | (exfalso; omega)
                                | skip
                                  refine s175_112.mpr ?_
                                  refine (s175_114 (by first | decide | assumption | omega) (by first | decide | assumption | omega)).mpr ?_
                                  first | refine v_push (t := itm (X.2.1 (X.1 - 2))) h s1 (fun z => i2 v1 t1 (by assumption) z) (fun hi4 s4 f4 => ?_) | refine v_push (t := itm (X.2.1 (X.1 - 2))) h s1 (fun z => i3 v1 x9 t1 (by assumption) w1 (by omega) z) (fun hi4 s4 f4 => ?_) | refine v_pushN h s1.w (fun hi4 s4 f4 => ?_)
                                  refine s175_117.mpr ?_
                                  refine (s175_118 (by first | assumption | omega)).mpr ?_
                                  first
                                  | exact q6 v1 hi1 t1 s1 (f0.tr f1) (by assumption)
                                  | exact qA v1 hi4 t1 ((f0.tr f1).tr f4) (by assumption) (by omega) s4
                                  | exact qB v1 hi4 t1 (((f0.tr f1).up wV_5).tr f4) (by assumption) (by omega) s4
                                  | (exfalso; omega)
                      · first
                        | (exfalso; omega)
                        | skip
                          refine s175_72.mpr (s175_73.mpr ?_)
                          refine (s175_74 (by omega)).mpr ?_
                          refine c_namedByG (fun x9 w1 => ?_)
                          refine (s175_77 (by omega)).mpr ?_
                          refine c_typeOf.mpr ?_
                          refine s175_80.mpr (s175_82.mpr (s175_83.mpr ?_))
                          refine s175_85.mpr (wif (fun c85 => ?_) (fun c85 => ?_))
                          · first
                            | (exfalso; omega)
                            | skip
                              exfalso; omega
                          · first
                            | (exfalso; omega)
                            | skip
                              refine s175_101.mpr (s175_102.mpr (s175_103.mpr ?_))
                              refine s175_105.mpr (wif (fun c105 => ?_) (fun c105 => ?_))
                              · first
                                | (exfalso; omega)
                                | skip
                                  exfalso; omega
                              · first
                                | (exfalso; omega)
                                | skip
                                  refine s175_112.mpr ?_
                                  refine (s175_114 (by first | decide | assumption | omega) (by first | decide | assumption | omega)).mpr ?_
                                  first | refine v_push (t := itm (X.2.1 (X.1 - 2))) h s1 (fun z => i2 v1 t1 (by assumption) z) (fun hi4 s4 f4 => ?_) | refine v_push (t := itm (X.2.1 (X.1 - 2))) h s1 (fun z => i3 v1 x9 t1 (by assumption) w1 (by omega) z) (fun hi4 s4 f4 => ?_) | refine v_pushN h s1.w (fun hi4 s4 f4 => ?_)
                                  refine s175_117.mpr ?_
                                  refine (s175_118 (by first | assumption | omega)).mpr ?_
                                  first
                                  | exact q6 v1 hi1 t1 s1 (f0.tr f1) (by assumption)
                                  | exact qA v1 hi4 t1 ((f0.tr f1).tr f4) (by assumption) (by omega) s4
                                  | exact qB v1 hi4 t1 (((f0.tr f1).up wV_5).tr f4) (by assumption) (by omega) s4
                                  | (exfalso; omega)
                  · first
                    | (exfalso; omega)
                    | skip
                      refine s175_59.mpr ?_
                      refine (s175_60 (by first | decide | assumption | omega) (by first | decide | assumption | omega)).mpr ?_
                      first | refine v_want0 h ?_ | refine v_want1 h ?_
                      refine s175_63.mpr (s175_64.mpr ?_)
                      refine s175_65.mpr (wif (fun c65 => ?_) (fun c65 => ?_))
                      · first
                        | (exfalso; omega)
                        | skip
                          refine s175_68.mpr (s175_69.mpr (s175_80.mpr (s175_82.mpr (s175_83.mpr ?_))))
                          refine s175_85.mpr (wif (fun c85 => ?_) (fun c85 => ?_))
                          · first
                            | (exfalso; omega)
                            | skip
                              exfalso; omega
                          · first
                            | (exfalso; omega)
                            | skip
                              refine s175_101.mpr (s175_102.mpr (s175_103.mpr ?_))
                              refine s175_105.mpr (wif (fun c105 => ?_) (fun c105 => ?_))
                              · first
                                | (exfalso; omega)
                                | skip
                                  exfalso; omega
                              · first
                                | (exfalso; omega)
                                | skip
                                  refine s175_112.mpr ?_
                                  refine (s175_114 (by first | decide | assumption | omega) (by first | decide | assumption | omega)).mpr ?_
                                  first | refine v_push (t := itm (X.2.1 (X.1 - 2))) h s1 (fun z => i2 v1 t1 (by assumption) z) (fun hi4 s4 f4 => ?_) | refine v_push (t := itm (X.2.1 (X.1 - 2))) h s1 (fun z => i3 v1 x9 t1 (by assumption) w1 (by omega) z) (fun hi4 s4 f4 => ?_) | refine v_pushN h s1.w (fun hi4 s4 f4 => ?_)
                                  refine s175_117.mpr ?_
                                  refine (s175_118 (by first | assumption | omega)).mpr ?_
                                  first
                                  | exact q6 v1 hi1 t1 s1 (f0.tr f1) (by assumption)
                                  | exact qA v1 hi4 t1 ((f0.tr f1).tr f4) (by assumption) (by omega) s4
                                  | exact qB v1 hi4 t1 (((f0.tr f1).up wV_5).tr f4) (by assumption) (by omega) s4
                                  | (exfalso; omega)
                      · first
                        | (exfalso; omega)
                        | skip
                          refine s175_72.mpr (s175_73.mpr ?_)
                          refine (s175_74 (by omega)).mpr ?_
                          refine c_namedByG (fun x9 w1 => ?_)
                          refine (s175_77 (by omega)).mpr ?_
                          refine c_typeOf.mpr ?_
                          refine s175_80.mpr (s175_82.mpr (s175_83.mpr ?_))
                          refine s175_85.mpr (wif (fun c85 => ?_) (fun c85 => ?_))
                          · first
                            | (exfalso; omega)
                            | skip
                              exfalso; omega
                          · first
                            | (exfalso; omega)
                            | skip
                              refine s175_101.mpr (s175_102.mpr (s175_103.mpr ?_))
                              refine s175_105.mpr (wif (fun c105 => ?_) (fun c105 => ?_))
                              · first
                                | (exfalso; omega)
                                | skip
                                  exfalso; omega
                              · first
                                | (exfalso; omega)
                                | skip
                                  refine s175_112.mpr ?_
                                  refine (s175_114 (by first | decide | assumption | omega) (by first | decide | assumption | omega)).mpr ?_
                                  first | refine v_push (t := itm (X.2.1 (X.1 - 2))) h s1 (fun z => i2 v1 t1 (by assumption) z) (fun hi4 s4 f4 => ?_) | refine v_push (t := itm (X.2.1 (X.1 - 2))) h s1 (fun z => i3 v1 x9 t1 (by assumption) w1 (by omega) z) (fun hi4 s4 f4 => ?_) | refine v_pushN h s1.w (fun hi4 s4 f4 => ?_)
                                  refine s175_117.mpr ?_
                                  refine (s175_118 (by first | assumption | omega)).mpr ?_
                                  first
                                  | exact q6 v1 hi1 t1 s1 (f0.tr f1) (by assumption)
                                  | exact qA v1 hi4 t1 ((f0.tr f1).tr f4) (by assumption) (by omega) s4
                                  | exact qB v1 hi4 t1 (((f0.tr f1).up wV_5).tr f4) (by assumption) (by omega) s4
                                  | (exfalso; omega)
      · first
        | (exfalso; omega)
        | skip
          refine s175_21.mpr ?_
          refine (s175_22 (by first | decide | assumption | omega) (by first | decide | assumption | omega)).mpr ?_
          refine v_popInt h (by omega) hs (fun Z e => by cases e; exact hv) (fun hi0 s0 f0 => ?_)
          refine s175_25.mpr ?_
          refine (s175_26 (by first | decide | assumption | omega) (by first | decide | assumption | omega)).mpr ?_
          first | refine v_pop h s0 (fun v1 hi1 s1 f1 t1 => ?_) | (exfalso; omega)
          refine s175_29.mpr (s175_30.mpr (s175_31.mpr ?_))
          refine s175_33.mpr (wif (fun c33 => ?_) (fun c33 => ?_))
          · first
            | (exfalso; omega)
            | skip
              refine s175_36.mpr ?_
              refine (s175_37 (by first | assumption | omega)).mpr ?_
              first
              | exact q6 v1 hi1 t1 s1 (f0.tr f1) (by assumption)
              | exact qA v1 hi4 t1 ((f0.tr f1).tr f4) (by assumption) (by omega) s4
              | exact qB v1 hi4 t1 (((f0.tr f1).up wV_5).tr f4) (by assumption) (by omega) s4
              | (exfalso; omega)
          · first
            | (exfalso; omega)
            | skip
              refine s175_38.mpr (s175_39.mpr ?_)
              refine (s175_40 (by omega)).mpr ?_
              refine c_kindOf.mpr ?_
              refine s175_43.mpr ?_
              refine s175_44.mpr (wif (fun c44 => ?_) (fun c44 => ?_))
              · first
                | (exfalso; omega)
                | skip
                  refine s175_55.mpr (s175_56.mpr ?_)
                  refine (s175_60 (by first | decide | assumption | omega) (by first | decide | assumption | omega)).mpr ?_
                  first | refine v_want0 h ?_ | refine v_want1 h ?_
                  refine s175_63.mpr (s175_64.mpr ?_)
                  refine s175_65.mpr (wif (fun c65 => ?_) (fun c65 => ?_))
                  · first
                    | (exfalso; omega)
                    | skip
                      refine s175_68.mpr (s175_69.mpr (s175_80.mpr (s175_82.mpr (s175_83.mpr ?_))))
                      refine s175_85.mpr (wif (fun c85 => ?_) (fun c85 => ?_))
                      · first
                        | (exfalso; omega)
                        | skip
                          exfalso; omega
                      · first
                        | (exfalso; omega)
                        | skip
                          refine s175_101.mpr (s175_102.mpr (s175_103.mpr ?_))
                          refine s175_105.mpr (wif (fun c105 => ?_) (fun c105 => ?_))
                          · first
                            | (exfalso; omega)
                            | skip
                              exfalso; omega
                          · first
                            | (exfalso; omega)
                            | skip
                              refine s175_112.mpr ?_
                              refine (s175_114 (by first | decide | assumption | omega) (by first | decide | assumption | omega)).mpr ?_
                              first | refine v_push (t := itm (X.2.1 (X.1 - 2))) h s1 (fun z => i2 v1 t1 (by assumption) z) (fun hi4 s4 f4 => ?_) | refine v_push (t := itm (X.2.1 (X.1 - 2))) h s1 (fun z => i3 v1 x9 t1 (by assumption) w1 (by omega) z) (fun hi4 s4 f4 => ?_) | refine v_pushN h s1.w (fun hi4 s4 f4 => ?_)
                              refine s175_117.mpr ?_
                              refine (s175_118 (by first | assumption | omega)).mpr ?_
                              first
                              | exact q6 v1 hi1 t1 s1 (f0.tr f1) (by assumption)
                              | exact qA v1 hi4 t1 ((f0.tr f1).tr f4) (by assumption) (by omega) s4
                              | exact qB v1 hi4 t1 (((f0.tr f1).up wV_5).tr f4) (by assumption) (by omega) s4
                              | (exfalso; omega)
                  · first
                    | (exfalso; omega)
                    | skip
                      refine s175_72.mpr (s175_73.mpr ?_)
                      refine (s175_74 (by omega)).mpr ?_
                      refine c_namedByG (fun x9 w1 => ?_)
                      refine (s175_77 (by omega)).mpr ?_
                      refine c_typeOf.mpr ?_
                      refine s175_80.mpr (s175_82.mpr (s175_83.mpr ?_))
                      refine s175_85.mpr (wif (fun c85 => ?_) (fun c85 => ?_))
                      · first
                        | (exfalso; omega)
                        | skip
                          exfalso; omega
                      · first
                        | (exfalso; omega)
                        | skip
                          refine s175_101.mpr (s175_102.mpr (s175_103.mpr ?_))
                          refine s175_105.mpr (wif (fun c105 => ?_) (fun c105 => ?_))
                          · first
                            | (exfalso; omega)
                            | skip
                              exfalso; omega
                          · first
                            | (exfalso; omega)
                            | skip
                              refine s175_112.mpr ?_
                              refine (s175_114 (by first | decide | assumption | omega) (by first | decide | assumption | omega)).mpr ?_
                              first | refine v_push (t := itm (X.2.1 (X.1 - 2))) h s1 (fun z => i2 v1 t1 (by assumption) z) (fun hi4 s4 f4 => ?_) | refine v_push (t := itm (X.2.1 (X.1 - 2))) h s1 (fun z => i3 v1 x9 t1 (by assumption) w1 (by omega) z) (fun hi4 s4 f4 => ?_) | refine v_pushN h s1.w (fun hi4 s4 f4 => ?_)
                              refine s175_117.mpr ?_
                              refine (s175_118 (by first | assumption | omega)).mpr ?_
                              first
                              | exact q6 v1 hi1 t1 s1 (f0.tr f1) (by assumption)
                              | exact qA v1 hi4 t1 ((f0.tr f1).tr f4) (by assumption) (by omega) s4
                              | exact qB v1 hi4 t1 (((f0.tr f1).up wV_5).tr f4) (by assumption) (by omega) s4
                              | (exfalso; omega)
              · first
                | (exfalso; omega)
                | skip
                  refine s175_47.mpr ?_
                  refine (s175_48 (by omega)).mpr ?_
                  refine c_kindOf.mpr ?_
                  refine s175_51.mpr ?_
                  refine s175_52.mpr (wif (fun c52 => ?_) (fun c52 => ?_))
                  · first
                    | (exfalso; omega)
                    | skip
                      refine s175_55.mpr (s175_56.mpr ?_)
                      refine (s175_60 (by first | decide | assumption | omega) (by first | decide | assumption | omega)).mpr ?_
                      first | refine v_want0 h ?_ | refine v_want1 h ?_
                      refine s175_63.mpr (s175_64.mpr ?_)
                      refine s175_65.mpr (wif (fun c65 => ?_) (fun c65 => ?_))
                      · first
                        | (exfalso; omega)
                        | skip
                          refine s175_68.mpr (s175_69.mpr (s175_80.mpr (s175_82.mpr (s175_83.mpr ?_))))
                          refine s175_85.mpr (wif (fun c85 => ?_) (fun c85 => ?_))
                          · first
                            | (exfalso; omega)
                            | skip
                              exfalso; omega
                          · first
                            | (exfalso; omega)
                            | skip
                              refine s175_101.mpr (s175_102.mpr (s175_103.mpr ?_))
                              refine s175_105.mpr (wif (fun c105 => ?_) (fun c105 => ?_))
                              · first
                                | (exfalso; omega)
                                | skip
                                  exfalso; omega
                              · first
                                | (exfalso; omega)
                                | skip
                                  refine s175_112.mpr ?_
                                  refine (s175_114 (by first | decide | assumption | omega) (by first | decide | assumption | omega)).mpr ?_
                                  first | refine v_push (t := itm (X.2.1 (X.1 - 2))) h s1 (fun z => i2 v1 t1 (by assumption) z) (fun hi4 s4 f4 => ?_) | refine v_push (t := itm (X.2.1 (X.1 - 2))) h s1 (fun z => i3 v1 x9 t1 (by assumption) w1 (by omega) z) (fun hi4 s4 f4 => ?_) | refine v_pushN h s1.w (fun hi4 s4 f4 => ?_)
                                  refine s175_117.mpr ?_
                                  refine (s175_118 (by first | assumption | omega)).mpr ?_
                                  first
                                  | exact q6 v1 hi1 t1 s1 (f0.tr f1) (by assumption)
                                  | exact qA v1 hi4 t1 ((f0.tr f1).tr f4) (by assumption) (by omega) s4
                                  | exact qB v1 hi4 t1 (((f0.tr f1).up wV_5).tr f4) (by assumption) (by omega) s4
                                  | (exfalso; omega)
                      · first
                        | (exfalso; omega)
                        | skip
                          refine s175_72.mpr (s175_73.mpr ?_)
                          refine (s175_74 (by omega)).mpr ?_
                          refine c_namedByG (fun x9 w1 => ?_)
                          refine (s175_77 (by omega)).mpr ?_
                          refine c_typeOf.mpr ?_
                          refine s175_80.mpr (s175_82.mpr (s175_83.mpr ?_))
                          refine s175_85.mpr (wif (fun c85 => ?_) (fun c85 => ?_))
                          · first
                            | (exfalso; omega)
                            | skip
                              exfalso; omega
                          · first
                            | (exfalso; omega)
                            | skip
                              refine s175_101.mpr (s175_102.mpr (s175_103.mpr ?_))
                              refine s175_105.mpr (wif (fun c105 => ?_) (fun c105 => ?_))
                              · first
                                | (exfalso; omega)
                                | skip
                                  exfalso; omega
                              · first
                                | (exfalso; omega)
                                | skip
                                  refine s175_112.mpr ?_
                                  refine (s175_114 (by first | decide | assumption | omega) (by first | decide | assumption | omega)).mpr ?_
                                  first | refine v_push (t := itm (X.2.1 (X.1 - 2))) h s1 (fun z => i2 v1 t1 (by assumption) z) (fun hi4 s4 f4 => ?_) | refine v_push (t := itm (X.2.1 (X.1 - 2))) h s1 (fun z => i3 v1 x9 t1 (by assumption) w1 (by omega) z) (fun hi4 s4 f4 => ?_) | refine v_pushN h s1.w (fun hi4 s4 f4 => ?_)
                                  refine s175_117.mpr ?_
                                  refine (s175_118 (by first | assumption | omega)).mpr ?_
                                  first
                                  | exact q6 v1 hi1 t1 s1 (f0.tr f1) (by assumption)
                                  | exact qA v1 hi4 t1 ((f0.tr f1).tr f4) (by assumption) (by omega) s4
                                  | exact qB v1 hi4 t1 (((f0.tr f1).up wV_5).tr f4) (by assumption) (by omega) s4
                                  | (exfalso; omega)
                  · first
                    | (exfalso; omega)
                    | skip
                      refine s175_59.mpr ?_
                      refine (s175_60 (by first | decide | assumption | omega) (by first | decide | assumption | omega)).mpr ?_
                      first | refine v_want0 h ?_ | refine v_want1 h ?_
                      refine s175_63.mpr (s175_64.mpr ?_)
                      refine s175_65.mpr (wif (fun c65 => ?_) (fun c65 => ?_))
                      · first
                        | (exfalso; omega)
                        | skip
                          refine s175_68.mpr (s175_69.mpr (s175_80.mpr (s175_82.mpr (s175_83.mpr ?_))))
                          refine s175_85.mpr (wif (fun c85 => ?_) (fun c85 => ?_))
                          · first
                            | (exfalso; omega)
                            | skip
                              exfalso; omega
                          · first
                            | (exfalso; omega)
                            | skip
                              refine s175_101.mpr (s175_102.mpr (s175_103.mpr ?_))
                              refine s175_105.mpr (wif (fun c105 => ?_) (fun c105 => ?_))
                              · first
                                | (exfalso; omega)
                                | skip
                                  exfalso; omega
                              · first
                                | (exfalso; omega)
                                | skip
                                  refine s175_112.mpr ?_
                                  refine (s175_114 (by first | decide | assumption | omega) (by first | decide | assumption | omega)).mpr ?_
                                  first | refine v_push (t := itm (X.2.1 (X.1 - 2))) h s1 (fun z => i2 v1 t1 (by assumption) z) (fun hi4 s4 f4 => ?_) | refine v_push (t := itm (X.2.1 (X.1 - 2))) h s1 (fun z => i3 v1 x9 t1 (by assumption) w1 (by omega) z) (fun hi4 s4 f4 => ?_) | refine v_pushN h s1.w (fun hi4 s4 f4 => ?_)
                                  refine s175_117.mpr ?_
                                  refine (s175_118 (by first | assumption | omega)).mpr ?_
                                  first
                                  | exact q6 v1 hi1 t1 s1 (f0.tr f1) (by assumption)
                                  | exact qA v1 hi4 t1 ((f0.tr f1).tr f4) (by assumption) (by omega) s4
                                  | exact qB v1 hi4 t1 (((f0.tr f1).up wV_5).tr f4) (by assumption) (by omega) s4
                                  | (exfalso; omega)
                      · first
                        | (exfalso; omega)
                        | skip
                          refine s175_72.mpr (s175_73.mpr ?_)
                          refine (s175_74 (by omega)).mpr ?_
                          refine c_namedByG (fun x9 w1 => ?_)
                          refine (s175_77 (by omega)).mpr ?_
                          refine c_typeOf.mpr ?_
                          refine s175_80.mpr (s175_82.mpr (s175_83.mpr ?_))
                          refine s175_85.mpr (wif (fun c85 => ?_) (fun c85 => ?_))
                          · first
                            | (exfalso; omega)
                            | skip
                              exfalso; omega
                          · first
                            | (exfalso; omega)
                            | skip
                              refine s175_101.mpr (s175_102.mpr (s175_103.mpr ?_))
                              refine s175_105.mpr (wif (fun c105 => ?_) (fun c105 => ?_))
                              · first
                                | (exfalso; omega)
                                | skip
                                  exfalso; omega
                              · first
                                | (exfalso; omega)
                                | skip
                                  refine s175_112.mpr ?_
                                  refine (s175_114 (by first | decide | assumption | omega) (by first | decide | assumption | omega)).mpr ?_
                                  first | refine v_push (t := itm (X.2.1 (X.1 - 2))) h s1 (fun z => i2 v1 t1 (by assumption) z) (fun hi4 s4 f4 => ?_) | refine v_push (t := itm (X.2.1 (X.1 - 2))) h s1 (fun z => i3 v1 x9 t1 (by assumption) w1 (by omega) z) (fun hi4 s4 f4 => ?_) | refine v_pushN h s1.w (fun hi4 s4 f4 => ?_)
                                  refine s175_117.mpr ?_
                                  refine (s175_118 (by first | assumption | omega)).mpr ?_
                                  first
                                  | exact q6 v1 hi1 t1 s1 (f0.tr f1) (by assumption)
                                  | exact qA v1 hi4 t1 ((f0.tr f1).tr f4) (by assumption) (by omega) s4
                                  | exact qB v1 hi4 t1 (((f0.tr f1).up wV_5).tr f4) (by assumption) (by omega) s4
                                  | (exfalso; omega)
theorem pL_y {X : Tst} (c : 2 < X.1) (c2 : X.2.1 (X.1 - 2) = 0) : popO (popI (popO (some X))) = some (X.1 - 3, X.2.1, X.2.2) := by
  rw [pop_y (by omega), pI_y (by show 1 < X.1 - 1; omega) (by show X.2.1 (X.1 - 1 - 1) = 0; rw [show X.1 - 1 - 1 = X.1 - 2 by omega]; exact c2)]
  show some (X.1 - 1 - 2, X.2.1, X.2.2) = _
  rw [show X.1 - 1 - 2 = X.1 - 3 by omega]
theorem pL_n {X : Tst} (c : ¬ (2 < X.1 ∧ X.2.1 (X.1 - 2) = 0)) : popO (popI (popO (some X))) = none := by
  by_cases c1 : 0 < X.1
  · rw [pop_y c1]
    exact pI_n (fun z => c ⟨by have z1 : 1 < X.1 - 1 := z.1; omega, by have z2 : X.2.1 (X.1 - 1 - 1) = 0 := z.2; rw [show X.1 - 1 - 1 = X.1 - 2 by omega] at z2; exact z2⟩)
  · rw [pop_n c1]; rfl
theorem top_L {X : Tst} {v1 : Int} (hv : vX B X) (t1 : topV (popI (popO (some X))) v1) (c : 2 < X.1) (c2 : X.2.1 (X.1 - 2) = 0) : v1 = cv (X.2.1 (X.1 - 3)) ∧ v1 % 16 = kindM (X.2.1 (X.1 - 3)) ∧ rng v1 ∧ v1 / 16 % 256 = whichM (X.2.1 (X.1 - 3)) := by
  rw [pop_y (by omega)] at t1
  have := top_I (hv.pop (by omega)) t1 (by show 1 < X.1 - 1; omega) (by show X.2.1 (X.1 - 1 - 1) = 0; rw [show X.1 - 1 - 1 = X.1 - 2 by omega]; exact c2)
  simp only [show X.1 - 1 - 2 = X.1 - 3 by omega] at this
  exact this
/-- an item is laid -/
theorem v_lay {v p : Int} {X : Tst} (h : VR al hr) (hd : 2 ≤ d) (hs : VS (some X) hi) (hv : vX B X)
    (q : ∀ x hi', (x = 0 ∨ x = 1) → VF (tsH B f 29 v p X) x hi' → FW wV hi hi' → Q (some (some (vI x))) al hi' hr) : Ev d 175 [vR (some 8), vI 29] al hi hr Q := by
  have k8 := h.k8; have k11 := h.k11; have k12 := h.k12; have l11 := h.l11; have l12 := h.l12; have r1 := h.2.2.1; have r2 := h.2.2.2.1
  have c16 := hs.2.2.2.1
  have et : tsH B f 29 v p X = onw (2 < X.1 ∧ X.2.1 (X.1 - 2) = 0 ∧ (X.2.1 (X.1 - 3) = 6 ∨ ((kindM (X.2.1 (X.1 - 3)) = 2 ∨ kindM (X.2.1 (X.1 - 3)) = 3) ∧ leT (X.2.1 (X.1 - 1)) (itm (X.2.1 (X.1 - 3)))))) (if X.2.1 (X.1 - 3) = 6 then [] else [(p + 1, (X.1 - 3, X.2.1, X.2.2))]) := rfl
  rw [et] at q
  have hv3 : 2 < X.1 → vT B (X.2.1 (X.1 - 3)) := fun c => hv.2.1 _ (by omega) (by omega)
  have hv1 : 2 < X.1 → vT B (X.2.1 (X.1 - 1)) := fun c => hv.2.1 _ (by omega) (by omega)
  have t6 : ∀ v1, topV (popI (popO (some X))) v1 → 2 < X.1 → X.2.1 (X.1 - 2) = 0 → (v1 = 6 ↔ X.2.1 (X.1 - 3) = 6) := fun v1 t1 c c2 => by
    rw [(top_L hv t1 c c2).1]; exact cv_c (hv3 c).r (by decide) (by decide)
  have q6 : ∀ v1 hi1, topV (popI (popO (some X))) v1 → VS (popO (popI (popO (some X)))) hi1 → FW wV hi hi1 → v1 = 6 → Q (some (some (vI 0))) al hi1 hr := fun v1 hi1 t1 s1 f1 e => q 0 hi1 (Or.inl rfl) (by
    by_cases c : 2 < X.1 ∧ X.2.1 (X.1 - 2) = 0
    · have e6 := (t6 v1 t1 c.1 c.2).mp e
      rw [pL_y c.1 c.2] at s1
      exact VF.z ⟨c.1, c.2, Or.inl e6⟩ e6 ⟨_, s1⟩
    · rw [pL_n c] at s1; exact VF.nn (fun z => c ⟨z.1, z.2.1⟩) s1 (Or.inl rfl)) f1
  -- the item's type is what the class has
  have iE : ∀ v1 y, topV (popI (popO (some X))) v1 → (v1 % 16 = 2 ∨ v1 % 16 = 3) → ((v1 = 2 ∧ y = 0) ∨ (¬ v1 = 2 ∧ ∃ x9, (rng v1 → x9 = v1 / 16 % 256) ∧ y = tyO 1 x9)) → 2 < X.1 → X.2.1 (X.1 - 2) = 0 → y = cv (itm (X.2.1 (X.1 - 3))) := fun v1 y t1 k hy c c2 => by
    obtain ⟨k1, k2, k3, k4⟩ := top_L hv t1 c c2
    rcases hy with ⟨y1, y2⟩ | ⟨y1, x9, y2, y3⟩
    · rw [y2]; exact (itm_2 (hv3 c) k1 y1).symm
    · rw [y3]; exact itm_c (hv3 c) k1 k2 k3 k4 y2 y1 (by omega)
  have qA : ∀ v9 v1 y hi1, topV (some X) v9 → topV (popI (popO (some X))) v1 → FW wV hi hi1 → v1 ≠ 6 → (v1 % 16 = 2 ∨ v1 % 16 = 3) → ((v1 = 2 ∧ y = 0) ∨ (¬ v1 = 2 ∧ ∃ x9, (rng v1 → x9 = v1 / 16 % 256) ∧ y = tyO 1 x9)) → fitC v9 y → VS (popO (popI (popO (some X)))) hi1 → Q (some (some (vI 1))) al hi1 hr := fun v9 v1 y hi1 t9 t1 f1 n6 k hy hf s4 => q 1 hi1 (Or.inr rfl) (by
    by_cases c : 2 < X.1 ∧ X.2.1 (X.1 - 2) = 0
    · have k2 := (top_L hv t1 c.1 c.2).2.1
      have hk : kindM (X.2.1 (X.1 - 3)) = 2 ∨ kindM (X.2.1 (X.1 - 3)) = 3 := by rw [← k2]; exact k
      have c1 := c.1
      rw [iE v1 y t1 k hy c.1 c.2, (top_of rfl hv t9 (by omega)).1, fitC_v (hv1 c.1).r (itm_r (hv3 c.1) hk)] at hf
      refine VF.g ⟨c.1, c.2, Or.inr ⟨hk, hf⟩⟩ (fun z => n6 ((t6 v1 t1 c.1 c.2).mpr z)) ?_
      rw [nx_y (by show X.1 - 3 ≤ 16; omega)]
      rw [pL_y c.1 c.2] at s4
      exact s4
    · rw [pL_n c] at s4; exact VF.nn (fun z => c ⟨z.1, z.2.1⟩) s4 (Or.inr rfl)) f1
  have qB : ∀ v9 v1 y hi4, topV (some X) v9 → topV (popI (popO (some X))) v1 → FW wV hi hi4 → v1 ≠ 6 → (¬ (v1 % 16 = 2 ∨ v1 % 16 = 3) ∨ (((v1 = 2 ∧ y = 0) ∨ (¬ v1 = 2 ∧ ∃ x9, (rng v1 → x9 = v1 / 16 % 256) ∧ y = tyO 1 x9)) ∧ ¬ fitC v9 y)) → VS none hi4 → Q (some (some (vI 1))) al hi4 hr := fun v9 v1 y hi4 t9 t1 f4 n6 k s4 => q 1 hi4 (Or.inr rfl) (VF.nn (fun z => by
    have k2 := (top_L hv t1 z.1 z.2.1).2.1
    have z1 := z.1
    rcases z.2.2 with w | w
    · exact n6 ((t6 v1 t1 z.1 z.2.1).mpr w)
    · rcases k with k | ⟨k, kf⟩
      · exact k (by rw [k2]; exact w.1)
      · rw [iE v1 y t1 (by rw [k2]; exact w.1) k z.1 z.2.1, (top_of rfl hv t9 (by omega)).1, fitC_v (hv1 z.1).r (itm_r (hv3 z.1) w.1)] at kf
        exact kf w.2) s4 (Or.inr rfl)) f4
  rw [e175]
  refine s175_0.mpr (s175_1.mpr ?_)
  refine s175_3.mpr (wif (fun c3 => ?_) (fun c3 => ?_))
  · first
    | (exfalso; omega)
    | skip
      refine s175_6.mpr ?_
      refine (s175_7 (by first | decide | assumption | omega) (by first | decide | assumption | omega)).mpr ?_
      first | refine v_pop h hs (fun v9 hi9 s9 f9 t9 => ?_) | refine v_pop h s0 (fun v1 hi1 s1 f1 t1 => ?_) | (exfalso; omega)
      refine s175_10.mpr (s175_14.mpr (s175_15.mpr (s175_16.mpr ?_)))
      refine s175_18.mpr (wif (fun c18 => ?_) (fun c18 => ?_))
      · first
        | (exfalso; omega)
        | skip
          refine s175_25.mpr ?_
          refine (s175_26 (by first | decide | assumption | omega) (by first | decide | assumption | omega)).mpr ?_
          first | refine v_pop h hs (fun v9 hi9 s9 f9 t9 => ?_) | refine v_pop h s0 (fun v1 hi1 s1 f1 t1 => ?_) | (exfalso; omega)
          refine s175_29.mpr (s175_30.mpr (s175_31.mpr ?_))
          refine s175_33.mpr (wif (fun c33 => ?_) (fun c33 => ?_))
          · first
            | (exfalso; omega)
            | skip
              refine s175_36.mpr ?_
              refine (s175_37 (by first | assumption | omega)).mpr ?_
              first
              | exact q6 v1 hi1 t1 s1 ((f9.tr f0).tr f1) (by assumption)
              | exact qA v9 v1 0 hi1 t9 t1 ((f9.tr f0).tr f1) (by assumption) (by omega) (Or.inl ⟨by assumption, rfl⟩) (by assumption) s1
              | exact qA v9 v1 _ hi1 t9 t1 ((f9.tr f0).tr f1) (by assumption) (by omega) (Or.inr ⟨by assumption, x9, w1, rfl⟩) (by assumption) s1
              | exact qB v9 v1 0 _ t9 t1 (((f9.tr f0).tr f1).up wV_5) (by assumption) (Or.inr ⟨Or.inl ⟨by assumption, rfl⟩, by assumption⟩) s1.w
              | exact qB v9 v1 _ _ t9 t1 (((f9.tr f0).tr f1).up wV_5) (by assumption) (Or.inr ⟨Or.inr ⟨by assumption, x9, w1, rfl⟩, by assumption⟩) s1.w
              | exact qB v9 v1 0 _ t9 t1 (((f9.tr f0).tr f1).up wV_5) (by assumption) (Or.inl (by omega)) s1.w
              | exact qB v9 v1 0 _ t9 t1 ((((f9.tr f0).tr f1).up wV_5).up wV_5) (by assumption) (Or.inl (by omega)) s1.w.w
              | (exfalso; omega)
          · first
            | (exfalso; omega)
            | skip
              refine s175_38.mpr (s175_39.mpr ?_)
              refine (s175_40 (by omega)).mpr ?_
              refine c_kindOf.mpr ?_
              refine s175_43.mpr ?_
              refine s175_44.mpr (wif (fun c44 => ?_) (fun c44 => ?_))
              · first
                | (exfalso; omega)
                | skip
                  refine s175_55.mpr (s175_56.mpr ?_)
                  refine (s175_60 (by first | decide | assumption | omega) (by first | decide | assumption | omega)).mpr ?_
                  first | refine v_want0 h ?_ | refine v_want1 h ?_
                  refine s175_63.mpr (s175_64.mpr ?_)
                  refine s175_65.mpr (wif (fun c65 => ?_) (fun c65 => ?_))
                  · first
                    | (exfalso; omega)
                    | skip
                      refine s175_68.mpr (s175_69.mpr (s175_80.mpr (s175_82.mpr (s175_83.mpr ?_))))
                      refine s175_85.mpr (wif (fun c85 => ?_) (fun c85 => ?_))
                      · first
                        | (exfalso; omega)
                        | skip
                          refine s175_88.mpr (s175_89.mpr (s175_90.mpr ?_))
                          refine (s175_92 (by omega)).mpr ?_
                          refine c_fits (by omega) (fun y92 => ?_) (fun y92 => ?_)
                          · skip
                            refine (s175_95 (by first | decide | assumption | omega) (by first | decide | assumption | omega)).mpr ?_
                            first | refine v_want0 h ?_ | refine v_want1 h ?_
                            refine s175_98.mpr (s175_117.mpr ?_)
                            refine (s175_118 (by first | assumption | omega)).mpr ?_
                            first
                            | exact q6 v1 hi1 t1 s1 ((f9.tr f0).tr f1) (by assumption)
                            | exact qA v9 v1 0 hi1 t9 t1 ((f9.tr f0).tr f1) (by assumption) (by omega) (Or.inl ⟨by assumption, rfl⟩) (by assumption) s1
                            | exact qA v9 v1 _ hi1 t9 t1 ((f9.tr f0).tr f1) (by assumption) (by omega) (Or.inr ⟨by assumption, x9, w1, rfl⟩) (by assumption) s1
                            | exact qB v9 v1 0 _ t9 t1 (((f9.tr f0).tr f1).up wV_5) (by assumption) (Or.inr ⟨Or.inl ⟨by assumption, rfl⟩, by assumption⟩) s1.w
                            | exact qB v9 v1 _ _ t9 t1 (((f9.tr f0).tr f1).up wV_5) (by assumption) (Or.inr ⟨Or.inr ⟨by assumption, x9, w1, rfl⟩, by assumption⟩) s1.w
                            | exact qB v9 v1 0 _ t9 t1 (((f9.tr f0).tr f1).up wV_5) (by assumption) (Or.inl (by omega)) s1.w
                            | exact qB v9 v1 0 _ t9 t1 ((((f9.tr f0).tr f1).up wV_5).up wV_5) (by assumption) (Or.inl (by omega)) s1.w.w
                            | (exfalso; omega)
                          · skip
                            refine (s175_95 (by first | decide | assumption | omega) (by first | decide | assumption | omega)).mpr ?_
                            first | refine v_want0 h ?_ | refine v_want1 h ?_
                            refine s175_98.mpr (s175_117.mpr ?_)
                            refine (s175_118 (by first | assumption | omega)).mpr ?_
                            first
                            | exact q6 v1 hi1 t1 s1 ((f9.tr f0).tr f1) (by assumption)
                            | exact qA v9 v1 0 hi1 t9 t1 ((f9.tr f0).tr f1) (by assumption) (by omega) (Or.inl ⟨by assumption, rfl⟩) (by assumption) s1
                            | exact qA v9 v1 _ hi1 t9 t1 ((f9.tr f0).tr f1) (by assumption) (by omega) (Or.inr ⟨by assumption, x9, w1, rfl⟩) (by assumption) s1
                            | exact qB v9 v1 0 _ t9 t1 (((f9.tr f0).tr f1).up wV_5) (by assumption) (Or.inr ⟨Or.inl ⟨by assumption, rfl⟩, by assumption⟩) s1.w
                            | exact qB v9 v1 _ _ t9 t1 (((f9.tr f0).tr f1).up wV_5) (by assumption) (Or.inr ⟨Or.inr ⟨by assumption, x9, w1, rfl⟩, by assumption⟩) s1.w
                            | exact qB v9 v1 0 _ t9 t1 (((f9.tr f0).tr f1).up wV_5) (by assumption) (Or.inl (by omega)) s1.w
                            | exact qB v9 v1 0 _ t9 t1 ((((f9.tr f0).tr f1).up wV_5).up wV_5) (by assumption) (Or.inl (by omega)) s1.w.w
                            | (exfalso; omega)
                      · first
                        | (exfalso; omega)
                        | skip
                          exfalso; omega
                  · first
                    | (exfalso; omega)
                    | skip
                      refine s175_72.mpr (s175_73.mpr ?_)
                      refine (s175_74 (by omega)).mpr ?_
                      refine c_namedByG (fun x9 w1 => ?_)
                      refine (s175_77 (by omega)).mpr ?_
                      refine c_typeOf.mpr ?_
                      refine s175_80.mpr (s175_82.mpr (s175_83.mpr ?_))
                      refine s175_85.mpr (wif (fun c85 => ?_) (fun c85 => ?_))
                      · first
                        | (exfalso; omega)
                        | skip
                          refine s175_88.mpr (s175_89.mpr (s175_90.mpr ?_))
                          refine (s175_92 (by omega)).mpr ?_
                          refine c_fits (by omega) (fun y92 => ?_) (fun y92 => ?_)
                          · skip
                            refine (s175_95 (by first | decide | assumption | omega) (by first | decide | assumption | omega)).mpr ?_
                            first | refine v_want0 h ?_ | refine v_want1 h ?_
                            refine s175_98.mpr (s175_117.mpr ?_)
                            refine (s175_118 (by first | assumption | omega)).mpr ?_
                            first
                            | exact q6 v1 hi1 t1 s1 ((f9.tr f0).tr f1) (by assumption)
                            | exact qA v9 v1 0 hi1 t9 t1 ((f9.tr f0).tr f1) (by assumption) (by omega) (Or.inl ⟨by assumption, rfl⟩) (by assumption) s1
                            | exact qA v9 v1 _ hi1 t9 t1 ((f9.tr f0).tr f1) (by assumption) (by omega) (Or.inr ⟨by assumption, x9, w1, rfl⟩) (by assumption) s1
                            | exact qB v9 v1 0 _ t9 t1 (((f9.tr f0).tr f1).up wV_5) (by assumption) (Or.inr ⟨Or.inl ⟨by assumption, rfl⟩, by assumption⟩) s1.w
                            | exact qB v9 v1 _ _ t9 t1 (((f9.tr f0).tr f1).up wV_5) (by assumption) (Or.inr ⟨Or.inr ⟨by assumption, x9, w1, rfl⟩, by assumption⟩) s1.w
                            | exact qB v9 v1 0 _ t9 t1 (((f9.tr f0).tr f1).up wV_5) (by assumption) (Or.inl (by omega)) s1.w
                            | exact qB v9 v1 0 _ t9 t1 ((((f9.tr f0).tr f1).up wV_5).up wV_5) (by assumption) (Or.inl (by omega)) s1.w.w
                            | (exfalso; omega)
                          · skip
                            refine (s175_95 (by first | decide | assumption | omega) (by first | decide | assumption | omega)).mpr ?_
                            first | refine v_want0 h ?_ | refine v_want1 h ?_
                            refine s175_98.mpr (s175_117.mpr ?_)
                            refine (s175_118 (by first | assumption | omega)).mpr ?_
                            first
                            | exact q6 v1 hi1 t1 s1 ((f9.tr f0).tr f1) (by assumption)
                            | exact qA v9 v1 0 hi1 t9 t1 ((f9.tr f0).tr f1) (by assumption) (by omega) (Or.inl ⟨by assumption, rfl⟩) (by assumption) s1
                            | exact qA v9 v1 _ hi1 t9 t1 ((f9.tr f0).tr f1) (by assumption) (by omega) (Or.inr ⟨by assumption, x9, w1, rfl⟩) (by assumption) s1
                            | exact qB v9 v1 0 _ t9 t1 (((f9.tr f0).tr f1).up wV_5) (by assumption) (Or.inr ⟨Or.inl ⟨by assumption, rfl⟩, by assumption⟩) s1.w
                            | exact qB v9 v1 _ _ t9 t1 (((f9.tr f0).tr f1).up wV_5) (by assumption) (Or.inr ⟨Or.inr ⟨by assumption, x9, w1, rfl⟩, by assumption⟩) s1.w
                            | exact qB v9 v1 0 _ t9 t1 (((f9.tr f0).tr f1).up wV_5) (by assumption) (Or.inl (by omega)) s1.w
                            | exact qB v9 v1 0 _ t9 t1 ((((f9.tr f0).tr f1).up wV_5).up wV_5) (by assumption) (Or.inl (by omega)) s1.w.w
                            | (exfalso; omega)
                      · first
                        | (exfalso; omega)
                        | skip
                          exfalso; omega
              · first
                | (exfalso; omega)
                | skip
                  refine s175_47.mpr ?_
                  refine (s175_48 (by omega)).mpr ?_
                  refine c_kindOf.mpr ?_
                  refine s175_51.mpr ?_
                  refine s175_52.mpr (wif (fun c52 => ?_) (fun c52 => ?_))
                  · first
                    | (exfalso; omega)
                    | skip
                      refine s175_55.mpr (s175_56.mpr ?_)
                      refine (s175_60 (by first | decide | assumption | omega) (by first | decide | assumption | omega)).mpr ?_
                      first | refine v_want0 h ?_ | refine v_want1 h ?_
                      refine s175_63.mpr (s175_64.mpr ?_)
                      refine s175_65.mpr (wif (fun c65 => ?_) (fun c65 => ?_))
                      · first
                        | (exfalso; omega)
                        | skip
                          refine s175_68.mpr (s175_69.mpr (s175_80.mpr (s175_82.mpr (s175_83.mpr ?_))))
                          refine s175_85.mpr (wif (fun c85 => ?_) (fun c85 => ?_))
                          · first
                            | (exfalso; omega)
                            | skip
                              refine s175_88.mpr (s175_89.mpr (s175_90.mpr ?_))
                              refine (s175_92 (by omega)).mpr ?_
                              refine c_fits (by omega) (fun y92 => ?_) (fun y92 => ?_)
                              · skip
                                refine (s175_95 (by first | decide | assumption | omega) (by first | decide | assumption | omega)).mpr ?_
                                first | refine v_want0 h ?_ | refine v_want1 h ?_
                                refine s175_98.mpr (s175_117.mpr ?_)
                                refine (s175_118 (by first | assumption | omega)).mpr ?_
                                first
                                | exact q6 v1 hi1 t1 s1 ((f9.tr f0).tr f1) (by assumption)
                                | exact qA v9 v1 0 hi1 t9 t1 ((f9.tr f0).tr f1) (by assumption) (by omega) (Or.inl ⟨by assumption, rfl⟩) (by assumption) s1
                                | exact qA v9 v1 _ hi1 t9 t1 ((f9.tr f0).tr f1) (by assumption) (by omega) (Or.inr ⟨by assumption, x9, w1, rfl⟩) (by assumption) s1
                                | exact qB v9 v1 0 _ t9 t1 (((f9.tr f0).tr f1).up wV_5) (by assumption) (Or.inr ⟨Or.inl ⟨by assumption, rfl⟩, by assumption⟩) s1.w
                                | exact qB v9 v1 _ _ t9 t1 (((f9.tr f0).tr f1).up wV_5) (by assumption) (Or.inr ⟨Or.inr ⟨by assumption, x9, w1, rfl⟩, by assumption⟩) s1.w
                                | exact qB v9 v1 0 _ t9 t1 (((f9.tr f0).tr f1).up wV_5) (by assumption) (Or.inl (by omega)) s1.w
                                | exact qB v9 v1 0 _ t9 t1 ((((f9.tr f0).tr f1).up wV_5).up wV_5) (by assumption) (Or.inl (by omega)) s1.w.w
                                | (exfalso; omega)
                              · skip
                                refine (s175_95 (by first | decide | assumption | omega) (by first | decide | assumption | omega)).mpr ?_
                                first | refine v_want0 h ?_ | refine v_want1 h ?_
                                refine s175_98.mpr (s175_117.mpr ?_)
                                refine (s175_118 (by first | assumption | omega)).mpr ?_
                                first
                                | exact q6 v1 hi1 t1 s1 ((f9.tr f0).tr f1) (by assumption)
                                | exact qA v9 v1 0 hi1 t9 t1 ((f9.tr f0).tr f1) (by assumption) (by omega) (Or.inl ⟨by assumption, rfl⟩) (by assumption) s1
                                | exact qA v9 v1 _ hi1 t9 t1 ((f9.tr f0).tr f1) (by assumption) (by omega) (Or.inr ⟨by assumption, x9, w1, rfl⟩) (by assumption) s1
                                | exact qB v9 v1 0 _ t9 t1 (((f9.tr f0).tr f1).up wV_5) (by assumption) (Or.inr ⟨Or.inl ⟨by assumption, rfl⟩, by assumption⟩) s1.w
                                | exact qB v9 v1 _ _ t9 t1 (((f9.tr f0).tr f1).up wV_5) (by assumption) (Or.inr ⟨Or.inr ⟨by assumption, x9, w1, rfl⟩, by assumption⟩) s1.w
                                | exact qB v9 v1 0 _ t9 t1 (((f9.tr f0).tr f1).up wV_5) (by assumption) (Or.inl (by omega)) s1.w
                                | exact qB v9 v1 0 _ t9 t1 ((((f9.tr f0).tr f1).up wV_5).up wV_5) (by assumption) (Or.inl (by omega)) s1.w.w
                                | (exfalso; omega)
                          · first
                            | (exfalso; omega)
                            | skip
                              exfalso; omega
                      · first
                        | (exfalso; omega)
                        | skip
                          refine s175_72.mpr (s175_73.mpr ?_)
                          refine (s175_74 (by omega)).mpr ?_
                          refine c_namedByG (fun x9 w1 => ?_)
                          refine (s175_77 (by omega)).mpr ?_
                          refine c_typeOf.mpr ?_
                          refine s175_80.mpr (s175_82.mpr (s175_83.mpr ?_))
                          refine s175_85.mpr (wif (fun c85 => ?_) (fun c85 => ?_))
                          · first
                            | (exfalso; omega)
                            | skip
                              refine s175_88.mpr (s175_89.mpr (s175_90.mpr ?_))
                              refine (s175_92 (by omega)).mpr ?_
                              refine c_fits (by omega) (fun y92 => ?_) (fun y92 => ?_)
                              · skip
                                refine (s175_95 (by first | decide | assumption | omega) (by first | decide | assumption | omega)).mpr ?_
                                first | refine v_want0 h ?_ | refine v_want1 h ?_
                                refine s175_98.mpr (s175_117.mpr ?_)
                                refine (s175_118 (by first | assumption | omega)).mpr ?_
                                first
                                | exact q6 v1 hi1 t1 s1 ((f9.tr f0).tr f1) (by assumption)
                                | exact qA v9 v1 0 hi1 t9 t1 ((f9.tr f0).tr f1) (by assumption) (by omega) (Or.inl ⟨by assumption, rfl⟩) (by assumption) s1
                                | exact qA v9 v1 _ hi1 t9 t1 ((f9.tr f0).tr f1) (by assumption) (by omega) (Or.inr ⟨by assumption, x9, w1, rfl⟩) (by assumption) s1
                                | exact qB v9 v1 0 _ t9 t1 (((f9.tr f0).tr f1).up wV_5) (by assumption) (Or.inr ⟨Or.inl ⟨by assumption, rfl⟩, by assumption⟩) s1.w
                                | exact qB v9 v1 _ _ t9 t1 (((f9.tr f0).tr f1).up wV_5) (by assumption) (Or.inr ⟨Or.inr ⟨by assumption, x9, w1, rfl⟩, by assumption⟩) s1.w
                                | exact qB v9 v1 0 _ t9 t1 (((f9.tr f0).tr f1).up wV_5) (by assumption) (Or.inl (by omega)) s1.w
                                | exact qB v9 v1 0 _ t9 t1 ((((f9.tr f0).tr f1).up wV_5).up wV_5) (by assumption) (Or.inl (by omega)) s1.w.w
                                | (exfalso; omega)
                              · skip
                                refine (s175_95 (by first | decide | assumption | omega) (by first | decide | assumption | omega)).mpr ?_
                                first | refine v_want0 h ?_ | refine v_want1 h ?_
                                refine s175_98.mpr (s175_117.mpr ?_)
                                refine (s175_118 (by first | assumption | omega)).mpr ?_
                                first
                                | exact q6 v1 hi1 t1 s1 ((f9.tr f0).tr f1) (by assumption)
                                | exact qA v9 v1 0 hi1 t9 t1 ((f9.tr f0).tr f1) (by assumption) (by omega) (Or.inl ⟨by assumption, rfl⟩) (by assumption) s1
                                | exact qA v9 v1 _ hi1 t9 t1 ((f9.tr f0).tr f1) (by assumption) (by omega) (Or.inr ⟨by assumption, x9, w1, rfl⟩) (by assumption) s1
                                | exact qB v9 v1 0 _ t9 t1 (((f9.tr f0).tr f1).up wV_5) (by assumption) (Or.inr ⟨Or.inl ⟨by assumption, rfl⟩, by assumption⟩) s1.w
                                | exact qB v9 v1 _ _ t9 t1 (((f9.tr f0).tr f1).up wV_5) (by assumption) (Or.inr ⟨Or.inr ⟨by assumption, x9, w1, rfl⟩, by assumption⟩) s1.w
                                | exact qB v9 v1 0 _ t9 t1 (((f9.tr f0).tr f1).up wV_5) (by assumption) (Or.inl (by omega)) s1.w
                                | exact qB v9 v1 0 _ t9 t1 ((((f9.tr f0).tr f1).up wV_5).up wV_5) (by assumption) (Or.inl (by omega)) s1.w.w
                                | (exfalso; omega)
                          · first
                            | (exfalso; omega)
                            | skip
                              exfalso; omega
                  · first
                    | (exfalso; omega)
                    | skip
                      refine s175_59.mpr ?_
                      refine (s175_60 (by first | decide | assumption | omega) (by first | decide | assumption | omega)).mpr ?_
                      first | refine v_want0 h ?_ | refine v_want1 h ?_
                      refine s175_63.mpr (s175_64.mpr ?_)
                      refine s175_65.mpr (wif (fun c65 => ?_) (fun c65 => ?_))
                      · first
                        | (exfalso; omega)
                        | skip
                          refine s175_68.mpr (s175_69.mpr (s175_80.mpr (s175_82.mpr (s175_83.mpr ?_))))
                          refine s175_85.mpr (wif (fun c85 => ?_) (fun c85 => ?_))
                          · first
                            | (exfalso; omega)
                            | skip
                              refine s175_88.mpr (s175_89.mpr (s175_90.mpr ?_))
                              refine (s175_92 (by omega)).mpr ?_
                              refine c_fits (by omega) (fun y92 => ?_) (fun y92 => ?_)
                              · skip
                                refine (s175_95 (by first | decide | assumption | omega) (by first | decide | assumption | omega)).mpr ?_
                                first | refine v_want0 h ?_ | refine v_want1 h ?_
                                refine s175_98.mpr (s175_117.mpr ?_)
                                refine (s175_118 (by first | assumption | omega)).mpr ?_
                                first
                                | exact q6 v1 hi1 t1 s1 ((f9.tr f0).tr f1) (by assumption)
                                | exact qA v9 v1 0 hi1 t9 t1 ((f9.tr f0).tr f1) (by assumption) (by omega) (Or.inl ⟨by assumption, rfl⟩) (by assumption) s1
                                | exact qA v9 v1 _ hi1 t9 t1 ((f9.tr f0).tr f1) (by assumption) (by omega) (Or.inr ⟨by assumption, x9, w1, rfl⟩) (by assumption) s1
                                | exact qB v9 v1 0 _ t9 t1 (((f9.tr f0).tr f1).up wV_5) (by assumption) (Or.inr ⟨Or.inl ⟨by assumption, rfl⟩, by assumption⟩) s1.w
                                | exact qB v9 v1 _ _ t9 t1 (((f9.tr f0).tr f1).up wV_5) (by assumption) (Or.inr ⟨Or.inr ⟨by assumption, x9, w1, rfl⟩, by assumption⟩) s1.w
                                | exact qB v9 v1 0 _ t9 t1 (((f9.tr f0).tr f1).up wV_5) (by assumption) (Or.inl (by omega)) s1.w
                                | exact qB v9 v1 0 _ t9 t1 ((((f9.tr f0).tr f1).up wV_5).up wV_5) (by assumption) (Or.inl (by omega)) s1.w.w
                                | (exfalso; omega)
                              · skip
                                refine (s175_95 (by first | decide | assumption | omega) (by first | decide | assumption | omega)).mpr ?_
                                first | refine v_want0 h ?_ | refine v_want1 h ?_
                                refine s175_98.mpr (s175_117.mpr ?_)
                                refine (s175_118 (by first | assumption | omega)).mpr ?_
                                first
                                | exact q6 v1 hi1 t1 s1 ((f9.tr f0).tr f1) (by assumption)
                                | exact qA v9 v1 0 hi1 t9 t1 ((f9.tr f0).tr f1) (by assumption) (by omega) (Or.inl ⟨by assumption, rfl⟩) (by assumption) s1
                                | exact qA v9 v1 _ hi1 t9 t1 ((f9.tr f0).tr f1) (by assumption) (by omega) (Or.inr ⟨by assumption, x9, w1, rfl⟩) (by assumption) s1
                                | exact qB v9 v1 0 _ t9 t1 (((f9.tr f0).tr f1).up wV_5) (by assumption) (Or.inr ⟨Or.inl ⟨by assumption, rfl⟩, by assumption⟩) s1.w
                                | exact qB v9 v1 _ _ t9 t1 (((f9.tr f0).tr f1).up wV_5) (by assumption) (Or.inr ⟨Or.inr ⟨by assumption, x9, w1, rfl⟩, by assumption⟩) s1.w
                                | exact qB v9 v1 0 _ t9 t1 (((f9.tr f0).tr f1).up wV_5) (by assumption) (Or.inl (by omega)) s1.w
                                | exact qB v9 v1 0 _ t9 t1 ((((f9.tr f0).tr f1).up wV_5).up wV_5) (by assumption) (Or.inl (by omega)) s1.w.w
                                | (exfalso; omega)
                          · first
                            | (exfalso; omega)
                            | skip
                              exfalso; omega
                      · first
                        | (exfalso; omega)
                        | skip
                          refine s175_72.mpr (s175_73.mpr ?_)
                          refine (s175_74 (by omega)).mpr ?_
                          refine c_namedByG (fun x9 w1 => ?_)
                          refine (s175_77 (by omega)).mpr ?_
                          refine c_typeOf.mpr ?_
                          refine s175_80.mpr (s175_82.mpr (s175_83.mpr ?_))
                          refine s175_85.mpr (wif (fun c85 => ?_) (fun c85 => ?_))
                          · first
                            | (exfalso; omega)
                            | skip
                              refine s175_88.mpr (s175_89.mpr (s175_90.mpr ?_))
                              refine (s175_92 (by omega)).mpr ?_
                              refine c_fits (by omega) (fun y92 => ?_) (fun y92 => ?_)
                              · skip
                                refine (s175_95 (by first | decide | assumption | omega) (by first | decide | assumption | omega)).mpr ?_
                                first | refine v_want0 h ?_ | refine v_want1 h ?_
                                refine s175_98.mpr (s175_117.mpr ?_)
                                refine (s175_118 (by first | assumption | omega)).mpr ?_
                                first
                                | exact q6 v1 hi1 t1 s1 ((f9.tr f0).tr f1) (by assumption)
                                | exact qA v9 v1 0 hi1 t9 t1 ((f9.tr f0).tr f1) (by assumption) (by omega) (Or.inl ⟨by assumption, rfl⟩) (by assumption) s1
                                | exact qA v9 v1 _ hi1 t9 t1 ((f9.tr f0).tr f1) (by assumption) (by omega) (Or.inr ⟨by assumption, x9, w1, rfl⟩) (by assumption) s1
                                | exact qB v9 v1 0 _ t9 t1 (((f9.tr f0).tr f1).up wV_5) (by assumption) (Or.inr ⟨Or.inl ⟨by assumption, rfl⟩, by assumption⟩) s1.w
                                | exact qB v9 v1 _ _ t9 t1 (((f9.tr f0).tr f1).up wV_5) (by assumption) (Or.inr ⟨Or.inr ⟨by assumption, x9, w1, rfl⟩, by assumption⟩) s1.w
                                | exact qB v9 v1 0 _ t9 t1 (((f9.tr f0).tr f1).up wV_5) (by assumption) (Or.inl (by omega)) s1.w
                                | exact qB v9 v1 0 _ t9 t1 ((((f9.tr f0).tr f1).up wV_5).up wV_5) (by assumption) (Or.inl (by omega)) s1.w.w
                                | (exfalso; omega)
                              · skip
                                refine (s175_95 (by first | decide | assumption | omega) (by first | decide | assumption | omega)).mpr ?_
                                first | refine v_want0 h ?_ | refine v_want1 h ?_
                                refine s175_98.mpr (s175_117.mpr ?_)
                                refine (s175_118 (by first | assumption | omega)).mpr ?_
                                first
                                | exact q6 v1 hi1 t1 s1 ((f9.tr f0).tr f1) (by assumption)
                                | exact qA v9 v1 0 hi1 t9 t1 ((f9.tr f0).tr f1) (by assumption) (by omega) (Or.inl ⟨by assumption, rfl⟩) (by assumption) s1
                                | exact qA v9 v1 _ hi1 t9 t1 ((f9.tr f0).tr f1) (by assumption) (by omega) (Or.inr ⟨by assumption, x9, w1, rfl⟩) (by assumption) s1
                                | exact qB v9 v1 0 _ t9 t1 (((f9.tr f0).tr f1).up wV_5) (by assumption) (Or.inr ⟨Or.inl ⟨by assumption, rfl⟩, by assumption⟩) s1.w
                                | exact qB v9 v1 _ _ t9 t1 (((f9.tr f0).tr f1).up wV_5) (by assumption) (Or.inr ⟨Or.inr ⟨by assumption, x9, w1, rfl⟩, by assumption⟩) s1.w
                                | exact qB v9 v1 0 _ t9 t1 (((f9.tr f0).tr f1).up wV_5) (by assumption) (Or.inl (by omega)) s1.w
                                | exact qB v9 v1 0 _ t9 t1 ((((f9.tr f0).tr f1).up wV_5).up wV_5) (by assumption) (Or.inl (by omega)) s1.w.w
                                | (exfalso; omega)
                          · first
                            | (exfalso; omega)
                            | skip
                              exfalso; omega
      · first
        | (exfalso; omega)
        | skip
          refine s175_21.mpr ?_
          refine (s175_22 (by first | decide | assumption | omega) (by first | decide | assumption | omega)).mpr ?_
          refine v_popInt h (by omega) s9 (popO_v hv) (fun hi0 s0 f0 => ?_)
          refine s175_25.mpr ?_
          refine (s175_26 (by first | decide | assumption | omega) (by first | decide | assumption | omega)).mpr ?_
          first | refine v_pop h hs (fun v9 hi9 s9 f9 t9 => ?_) | refine v_pop h s0 (fun v1 hi1 s1 f1 t1 => ?_) | (exfalso; omega)
          refine s175_29.mpr (s175_30.mpr (s175_31.mpr ?_))
          refine s175_33.mpr (wif (fun c33 => ?_) (fun c33 => ?_))
          · first
            | (exfalso; omega)
            | skip
              refine s175_36.mpr ?_
              refine (s175_37 (by first | assumption | omega)).mpr ?_
              first
              | exact q6 v1 hi1 t1 s1 ((f9.tr f0).tr f1) (by assumption)
              | exact qA v9 v1 0 hi1 t9 t1 ((f9.tr f0).tr f1) (by assumption) (by omega) (Or.inl ⟨by assumption, rfl⟩) (by assumption) s1
              | exact qA v9 v1 _ hi1 t9 t1 ((f9.tr f0).tr f1) (by assumption) (by omega) (Or.inr ⟨by assumption, x9, w1, rfl⟩) (by assumption) s1
              | exact qB v9 v1 0 _ t9 t1 (((f9.tr f0).tr f1).up wV_5) (by assumption) (Or.inr ⟨Or.inl ⟨by assumption, rfl⟩, by assumption⟩) s1.w
              | exact qB v9 v1 _ _ t9 t1 (((f9.tr f0).tr f1).up wV_5) (by assumption) (Or.inr ⟨Or.inr ⟨by assumption, x9, w1, rfl⟩, by assumption⟩) s1.w
              | exact qB v9 v1 0 _ t9 t1 (((f9.tr f0).tr f1).up wV_5) (by assumption) (Or.inl (by omega)) s1.w
              | exact qB v9 v1 0 _ t9 t1 ((((f9.tr f0).tr f1).up wV_5).up wV_5) (by assumption) (Or.inl (by omega)) s1.w.w
              | (exfalso; omega)
          · first
            | (exfalso; omega)
            | skip
              refine s175_38.mpr (s175_39.mpr ?_)
              refine (s175_40 (by omega)).mpr ?_
              refine c_kindOf.mpr ?_
              refine s175_43.mpr ?_
              refine s175_44.mpr (wif (fun c44 => ?_) (fun c44 => ?_))
              · first
                | (exfalso; omega)
                | skip
                  refine s175_55.mpr (s175_56.mpr ?_)
                  refine (s175_60 (by first | decide | assumption | omega) (by first | decide | assumption | omega)).mpr ?_
                  first | refine v_want0 h ?_ | refine v_want1 h ?_
                  refine s175_63.mpr (s175_64.mpr ?_)
                  refine s175_65.mpr (wif (fun c65 => ?_) (fun c65 => ?_))
                  · first
                    | (exfalso; omega)
                    | skip
                      refine s175_68.mpr (s175_69.mpr (s175_80.mpr (s175_82.mpr (s175_83.mpr ?_))))
                      refine s175_85.mpr (wif (fun c85 => ?_) (fun c85 => ?_))
                      · first
                        | (exfalso; omega)
                        | skip
                          refine s175_88.mpr (s175_89.mpr (s175_90.mpr ?_))
                          refine (s175_92 (by omega)).mpr ?_
                          refine c_fits (by omega) (fun y92 => ?_) (fun y92 => ?_)
                          · skip
                            refine (s175_95 (by first | decide | assumption | omega) (by first | decide | assumption | omega)).mpr ?_
                            first | refine v_want0 h ?_ | refine v_want1 h ?_
                            refine s175_98.mpr (s175_117.mpr ?_)
                            refine (s175_118 (by first | assumption | omega)).mpr ?_
                            first
                            | exact q6 v1 hi1 t1 s1 ((f9.tr f0).tr f1) (by assumption)
                            | exact qA v9 v1 0 hi1 t9 t1 ((f9.tr f0).tr f1) (by assumption) (by omega) (Or.inl ⟨by assumption, rfl⟩) (by assumption) s1
                            | exact qA v9 v1 _ hi1 t9 t1 ((f9.tr f0).tr f1) (by assumption) (by omega) (Or.inr ⟨by assumption, x9, w1, rfl⟩) (by assumption) s1
                            | exact qB v9 v1 0 _ t9 t1 (((f9.tr f0).tr f1).up wV_5) (by assumption) (Or.inr ⟨Or.inl ⟨by assumption, rfl⟩, by assumption⟩) s1.w
                            | exact qB v9 v1 _ _ t9 t1 (((f9.tr f0).tr f1).up wV_5) (by assumption) (Or.inr ⟨Or.inr ⟨by assumption, x9, w1, rfl⟩, by assumption⟩) s1.w
                            | exact qB v9 v1 0 _ t9 t1 (((f9.tr f0).tr f1).up wV_5) (by assumption) (Or.inl (by omega)) s1.w
                            | exact qB v9 v1 0 _ t9 t1 ((((f9.tr f0).tr f1).up wV_5).up wV_5) (by assumption) (Or.inl (by omega)) s1.w.w
                            | (exfalso; omega)
                          · skip
                            refine (s175_95 (by first | decide | assumption | omega) (by first | decide | assumption | omega)).mpr ?_
                            first | refine v_want0 h ?_ | refine v_want1 h ?_
                            refine s175_98.mpr (s175_117.mpr ?_)
                            refine (s175_118 (by first | assumption | omega)).mpr ?_
                            first
                            | exact q6 v1 hi1 t1 s1 ((f9.tr f0).tr f1) (by assumption)
                            | exact qA v9 v1 0 hi1 t9 t1 ((f9.tr f0).tr f1) (by assumption) (by omega) (Or.inl ⟨by assumption, rfl⟩) (by assumption) s1
                            | exact qA v9 v1 _ hi1 t9 t1 ((f9.tr f0).tr f1) (by assumption) (by omega) (Or.inr ⟨by assumption, x9, w1, rfl⟩) (by assumption) s1
                            | exact qB v9 v1 0 _ t9 t1 (((f9.tr f0).tr f1).up wV_5) (by assumption) (Or.inr ⟨Or.inl ⟨by assumption, rfl⟩, by assumption⟩) s1.w
                            | exact qB v9 v1 _ _ t9 t1 (((f9.tr f0).tr f1).up wV_5) (by assumption) (Or.inr ⟨Or.inr ⟨by assumption, x9, w1, rfl⟩, by assumption⟩) s1.w
                            | exact qB v9 v1 0 _ t9 t1 (((f9.tr f0).tr f1).up wV_5) (by assumption) (Or.inl (by omega)) s1.w
                            | exact qB v9 v1 0 _ t9 t1 ((((f9.tr f0).tr f1).up wV_5).up wV_5) (by assumption) (Or.inl (by omega)) s1.w.w
                            | (exfalso; omega)
                      · first
                        | (exfalso; omega)
                        | skip
                          exfalso; omega
                  · first
                    | (exfalso; omega)
                    | skip
                      refine s175_72.mpr (s175_73.mpr ?_)
                      refine (s175_74 (by omega)).mpr ?_
                      refine c_namedByG (fun x9 w1 => ?_)
                      refine (s175_77 (by omega)).mpr ?_
                      refine c_typeOf.mpr ?_
                      refine s175_80.mpr (s175_82.mpr (s175_83.mpr ?_))
                      refine s175_85.mpr (wif (fun c85 => ?_) (fun c85 => ?_))
                      · first
                        | (exfalso; omega)
                        | skip
                          refine s175_88.mpr (s175_89.mpr (s175_90.mpr ?_))
                          refine (s175_92 (by omega)).mpr ?_
                          refine c_fits (by omega) (fun y92 => ?_) (fun y92 => ?_)
                          · skip
                            refine (s175_95 (by first | decide | assumption | omega) (by first | decide | assumption | omega)).mpr ?_
                            first | refine v_want0 h ?_ | refine v_want1 h ?_
                            refine s175_98.mpr (s175_117.mpr ?_)
                            refine (s175_118 (by first | assumption | omega)).mpr ?_
                            first
                            | exact q6 v1 hi1 t1 s1 ((f9.tr f0).tr f1) (by assumption)
                            | exact qA v9 v1 0 hi1 t9 t1 ((f9.tr f0).tr f1) (by assumption) (by omega) (Or.inl ⟨by assumption, rfl⟩) (by assumption) s1
                            | exact qA v9 v1 _ hi1 t9 t1 ((f9.tr f0).tr f1) (by assumption) (by omega) (Or.inr ⟨by assumption, x9, w1, rfl⟩) (by assumption) s1
                            | exact qB v9 v1 0 _ t9 t1 (((f9.tr f0).tr f1).up wV_5) (by assumption) (Or.inr ⟨Or.inl ⟨by assumption, rfl⟩, by assumption⟩) s1.w
                            | exact qB v9 v1 _ _ t9 t1 (((f9.tr f0).tr f1).up wV_5) (by assumption) (Or.inr ⟨Or.inr ⟨by assumption, x9, w1, rfl⟩, by assumption⟩) s1.w
                            | exact qB v9 v1 0 _ t9 t1 (((f9.tr f0).tr f1).up wV_5) (by assumption) (Or.inl (by omega)) s1.w
                            | exact qB v9 v1 0 _ t9 t1 ((((f9.tr f0).tr f1).up wV_5).up wV_5) (by assumption) (Or.inl (by omega)) s1.w.w
                            | (exfalso; omega)
                          · skip
                            refine (s175_95 (by first | decide | assumption | omega) (by first | decide | assumption | omega)).mpr ?_
                            first | refine v_want0 h ?_ | refine v_want1 h ?_
                            refine s175_98.mpr (s175_117.mpr ?_)
                            refine (s175_118 (by first | assumption | omega)).mpr ?_
                            first
                            | exact q6 v1 hi1 t1 s1 ((f9.tr f0).tr f1) (by assumption)
                            | exact qA v9 v1 0 hi1 t9 t1 ((f9.tr f0).tr f1) (by assumption) (by omega) (Or.inl ⟨by assumption, rfl⟩) (by assumption) s1
                            | exact qA v9 v1 _ hi1 t9 t1 ((f9.tr f0).tr f1) (by assumption) (by omega) (Or.inr ⟨by assumption, x9, w1, rfl⟩) (by assumption) s1
                            | exact qB v9 v1 0 _ t9 t1 (((f9.tr f0).tr f1).up wV_5) (by assumption) (Or.inr ⟨Or.inl ⟨by assumption, rfl⟩, by assumption⟩) s1.w
                            | exact qB v9 v1 _ _ t9 t1 (((f9.tr f0).tr f1).up wV_5) (by assumption) (Or.inr ⟨Or.inr ⟨by assumption, x9, w1, rfl⟩, by assumption⟩) s1.w
                            | exact qB v9 v1 0 _ t9 t1 (((f9.tr f0).tr f1).up wV_5) (by assumption) (Or.inl (by omega)) s1.w
                            | exact qB v9 v1 0 _ t9 t1 ((((f9.tr f0).tr f1).up wV_5).up wV_5) (by assumption) (Or.inl (by omega)) s1.w.w
                            | (exfalso; omega)
                      · first
                        | (exfalso; omega)
                        | skip
                          exfalso; omega
              · first
                | (exfalso; omega)
                | skip
                  refine s175_47.mpr ?_
                  refine (s175_48 (by omega)).mpr ?_
                  refine c_kindOf.mpr ?_
                  refine s175_51.mpr ?_
                  refine s175_52.mpr (wif (fun c52 => ?_) (fun c52 => ?_))
                  · first
                    | (exfalso; omega)
                    | skip
                      refine s175_55.mpr (s175_56.mpr ?_)
                      refine (s175_60 (by first | decide | assumption | omega) (by first | decide | assumption | omega)).mpr ?_
                      first | refine v_want0 h ?_ | refine v_want1 h ?_
                      refine s175_63.mpr (s175_64.mpr ?_)
                      refine s175_65.mpr (wif (fun c65 => ?_) (fun c65 => ?_))
                      · first
                        | (exfalso; omega)
                        | skip
                          refine s175_68.mpr (s175_69.mpr (s175_80.mpr (s175_82.mpr (s175_83.mpr ?_))))
                          refine s175_85.mpr (wif (fun c85 => ?_) (fun c85 => ?_))
                          · first
                            | (exfalso; omega)
                            | skip
                              refine s175_88.mpr (s175_89.mpr (s175_90.mpr ?_))
                              refine (s175_92 (by omega)).mpr ?_
                              refine c_fits (by omega) (fun y92 => ?_) (fun y92 => ?_)
                              · skip
                                refine (s175_95 (by first | decide | assumption | omega) (by first | decide | assumption | omega)).mpr ?_
                                first | refine v_want0 h ?_ | refine v_want1 h ?_
                                refine s175_98.mpr (s175_117.mpr ?_)
                                refine (s175_118 (by first | assumption | omega)).mpr ?_
                                first
                                | exact q6 v1 hi1 t1 s1 ((f9.tr f0).tr f1) (by assumption)
                                | exact qA v9 v1 0 hi1 t9 t1 ((f9.tr f0).tr f1) (by assumption) (by omega) (Or.inl ⟨by assumption, rfl⟩) (by assumption) s1
                                | exact qA v9 v1 _ hi1 t9 t1 ((f9.tr f0).tr f1) (by assumption) (by omega) (Or.inr ⟨by assumption, x9, w1, rfl⟩) (by assumption) s1
                                | exact qB v9 v1 0 _ t9 t1 (((f9.tr f0).tr f1).up wV_5) (by assumption) (Or.inr ⟨Or.inl ⟨by assumption, rfl⟩, by assumption⟩) s1.w
                                | exact qB v9 v1 _ _ t9 t1 (((f9.tr f0).tr f1).up wV_5) (by assumption) (Or.inr ⟨Or.inr ⟨by assumption, x9, w1, rfl⟩, by assumption⟩) s1.w
                                | exact qB v9 v1 0 _ t9 t1 (((f9.tr f0).tr f1).up wV_5) (by assumption) (Or.inl (by omega)) s1.w
                                | exact qB v9 v1 0 _ t9 t1 ((((f9.tr f0).tr f1).up wV_5).up wV_5) (by assumption) (Or.inl (by omega)) s1.w.w
                                | (exfalso; omega)
                              · skip
                                refine (s175_95 (by first | decide | assumption | omega) (by first | decide | assumption | omega)).mpr ?_
                                first | refine v_want0 h ?_ | refine v_want1 h ?_
                                refine s175_98.mpr (s175_117.mpr ?_)
                                refine (s175_118 (by first | assumption | omega)).mpr ?_
                                first
                                | exact q6 v1 hi1 t1 s1 ((f9.tr f0).tr f1) (by assumption)
                                | exact qA v9 v1 0 hi1 t9 t1 ((f9.tr f0).tr f1) (by assumption) (by omega) (Or.inl ⟨by assumption, rfl⟩) (by assumption) s1
                                | exact qA v9 v1 _ hi1 t9 t1 ((f9.tr f0).tr f1) (by assumption) (by omega) (Or.inr ⟨by assumption, x9, w1, rfl⟩) (by assumption) s1
                                | exact qB v9 v1 0 _ t9 t1 (((f9.tr f0).tr f1).up wV_5) (by assumption) (Or.inr ⟨Or.inl ⟨by assumption, rfl⟩, by assumption⟩) s1.w
                                | exact qB v9 v1 _ _ t9 t1 (((f9.tr f0).tr f1).up wV_5) (by assumption) (Or.inr ⟨Or.inr ⟨by assumption, x9, w1, rfl⟩, by assumption⟩) s1.w
                                | exact qB v9 v1 0 _ t9 t1 (((f9.tr f0).tr f1).up wV_5) (by assumption) (Or.inl (by omega)) s1.w
                                | exact qB v9 v1 0 _ t9 t1 ((((f9.tr f0).tr f1).up wV_5).up wV_5) (by assumption) (Or.inl (by omega)) s1.w.w
                                | (exfalso; omega)
                          · first
                            | (exfalso; omega)
                            | skip
                              exfalso; omega
                      · first
                        | (exfalso; omega)
                        | skip
                          refine s175_72.mpr (s175_73.mpr ?_)
                          refine (s175_74 (by omega)).mpr ?_
                          refine c_namedByG (fun x9 w1 => ?_)
                          refine (s175_77 (by omega)).mpr ?_
                          refine c_typeOf.mpr ?_
                          refine s175_80.mpr (s175_82.mpr (s175_83.mpr ?_))
                          refine s175_85.mpr (wif (fun c85 => ?_) (fun c85 => ?_))
                          · first
                            | (exfalso; omega)
                            | skip
                              refine s175_88.mpr (s175_89.mpr (s175_90.mpr ?_))
                              refine (s175_92 (by omega)).mpr ?_
                              refine c_fits (by omega) (fun y92 => ?_) (fun y92 => ?_)
                              · skip
                                refine (s175_95 (by first | decide | assumption | omega) (by first | decide | assumption | omega)).mpr ?_
                                first | refine v_want0 h ?_ | refine v_want1 h ?_
                                refine s175_98.mpr (s175_117.mpr ?_)
                                refine (s175_118 (by first | assumption | omega)).mpr ?_
                                first
                                | exact q6 v1 hi1 t1 s1 ((f9.tr f0).tr f1) (by assumption)
                                | exact qA v9 v1 0 hi1 t9 t1 ((f9.tr f0).tr f1) (by assumption) (by omega) (Or.inl ⟨by assumption, rfl⟩) (by assumption) s1
                                | exact qA v9 v1 _ hi1 t9 t1 ((f9.tr f0).tr f1) (by assumption) (by omega) (Or.inr ⟨by assumption, x9, w1, rfl⟩) (by assumption) s1
                                | exact qB v9 v1 0 _ t9 t1 (((f9.tr f0).tr f1).up wV_5) (by assumption) (Or.inr ⟨Or.inl ⟨by assumption, rfl⟩, by assumption⟩) s1.w
                                | exact qB v9 v1 _ _ t9 t1 (((f9.tr f0).tr f1).up wV_5) (by assumption) (Or.inr ⟨Or.inr ⟨by assumption, x9, w1, rfl⟩, by assumption⟩) s1.w
                                | exact qB v9 v1 0 _ t9 t1 (((f9.tr f0).tr f1).up wV_5) (by assumption) (Or.inl (by omega)) s1.w
                                | exact qB v9 v1 0 _ t9 t1 ((((f9.tr f0).tr f1).up wV_5).up wV_5) (by assumption) (Or.inl (by omega)) s1.w.w
                                | (exfalso; omega)
                              · skip
                                refine (s175_95 (by first | decide | assumption | omega) (by first | decide | assumption | omega)).mpr ?_
                                first | refine v_want0 h ?_ | refine v_want1 h ?_
                                refine s175_98.mpr (s175_117.mpr ?_)
                                refine (s175_118 (by first | assumption | omega)).mpr ?_
                                first
                                | exact q6 v1 hi1 t1 s1 ((f9.tr f0).tr f1) (by assumption)
                                | exact qA v9 v1 0 hi1 t9 t1 ((f9.tr f0).tr f1) (by assumption) (by omega) (Or.inl ⟨by assumption, rfl⟩) (by assumption) s1
                                | exact qA v9 v1 _ hi1 t9 t1 ((f9.tr f0).tr f1) (by assumption) (by omega) (Or.inr ⟨by assumption, x9, w1, rfl⟩) (by assumption) s1
                                | exact qB v9 v1 0 _ t9 t1 (((f9.tr f0).tr f1).up wV_5) (by assumption) (Or.inr ⟨Or.inl ⟨by assumption, rfl⟩, by assumption⟩) s1.w
                                | exact qB v9 v1 _ _ t9 t1 (((f9.tr f0).tr f1).up wV_5) (by assumption) (Or.inr ⟨Or.inr ⟨by assumption, x9, w1, rfl⟩, by assumption⟩) s1.w
                                | exact qB v9 v1 0 _ t9 t1 (((f9.tr f0).tr f1).up wV_5) (by assumption) (Or.inl (by omega)) s1.w
                                | exact qB v9 v1 0 _ t9 t1 ((((f9.tr f0).tr f1).up wV_5).up wV_5) (by assumption) (Or.inl (by omega)) s1.w.w
                                | (exfalso; omega)
                          · first
                            | (exfalso; omega)
                            | skip
                              exfalso; omega
                  · first
                    | (exfalso; omega)
                    | skip
                      refine s175_59.mpr ?_
                      refine (s175_60 (by first | decide | assumption | omega) (by first | decide | assumption | omega)).mpr ?_
                      first | refine v_want0 h ?_ | refine v_want1 h ?_
                      refine s175_63.mpr (s175_64.mpr ?_)
                      refine s175_65.mpr (wif (fun c65 => ?_) (fun c65 => ?_))
                      · first
                        | (exfalso; omega)
                        | skip
                          refine s175_68.mpr (s175_69.mpr (s175_80.mpr (s175_82.mpr (s175_83.mpr ?_))))
                          refine s175_85.mpr (wif (fun c85 => ?_) (fun c85 => ?_))
                          · first
                            | (exfalso; omega)
                            | skip
                              refine s175_88.mpr (s175_89.mpr (s175_90.mpr ?_))
                              refine (s175_92 (by omega)).mpr ?_
                              refine c_fits (by omega) (fun y92 => ?_) (fun y92 => ?_)
                              · skip
                                refine (s175_95 (by first | decide | assumption | omega) (by first | decide | assumption | omega)).mpr ?_
                                first | refine v_want0 h ?_ | refine v_want1 h ?_
                                refine s175_98.mpr (s175_117.mpr ?_)
                                refine (s175_118 (by first | assumption | omega)).mpr ?_
                                first
                                | exact q6 v1 hi1 t1 s1 ((f9.tr f0).tr f1) (by assumption)
                                | exact qA v9 v1 0 hi1 t9 t1 ((f9.tr f0).tr f1) (by assumption) (by omega) (Or.inl ⟨by assumption, rfl⟩) (by assumption) s1
                                | exact qA v9 v1 _ hi1 t9 t1 ((f9.tr f0).tr f1) (by assumption) (by omega) (Or.inr ⟨by assumption, x9, w1, rfl⟩) (by assumption) s1
                                | exact qB v9 v1 0 _ t9 t1 (((f9.tr f0).tr f1).up wV_5) (by assumption) (Or.inr ⟨Or.inl ⟨by assumption, rfl⟩, by assumption⟩) s1.w
                                | exact qB v9 v1 _ _ t9 t1 (((f9.tr f0).tr f1).up wV_5) (by assumption) (Or.inr ⟨Or.inr ⟨by assumption, x9, w1, rfl⟩, by assumption⟩) s1.w
                                | exact qB v9 v1 0 _ t9 t1 (((f9.tr f0).tr f1).up wV_5) (by assumption) (Or.inl (by omega)) s1.w
                                | exact qB v9 v1 0 _ t9 t1 ((((f9.tr f0).tr f1).up wV_5).up wV_5) (by assumption) (Or.inl (by omega)) s1.w.w
                                | (exfalso; omega)
                              · skip
                                refine (s175_95 (by first | decide | assumption | omega) (by first | decide | assumption | omega)).mpr ?_
                                first | refine v_want0 h ?_ | refine v_want1 h ?_
                                refine s175_98.mpr (s175_117.mpr ?_)
                                refine (s175_118 (by first | assumption | omega)).mpr ?_
                                first
                                | exact q6 v1 hi1 t1 s1 ((f9.tr f0).tr f1) (by assumption)
                                | exact qA v9 v1 0 hi1 t9 t1 ((f9.tr f0).tr f1) (by assumption) (by omega) (Or.inl ⟨by assumption, rfl⟩) (by assumption) s1
                                | exact qA v9 v1 _ hi1 t9 t1 ((f9.tr f0).tr f1) (by assumption) (by omega) (Or.inr ⟨by assumption, x9, w1, rfl⟩) (by assumption) s1
                                | exact qB v9 v1 0 _ t9 t1 (((f9.tr f0).tr f1).up wV_5) (by assumption) (Or.inr ⟨Or.inl ⟨by assumption, rfl⟩, by assumption⟩) s1.w
                                | exact qB v9 v1 _ _ t9 t1 (((f9.tr f0).tr f1).up wV_5) (by assumption) (Or.inr ⟨Or.inr ⟨by assumption, x9, w1, rfl⟩, by assumption⟩) s1.w
                                | exact qB v9 v1 0 _ t9 t1 (((f9.tr f0).tr f1).up wV_5) (by assumption) (Or.inl (by omega)) s1.w
                                | exact qB v9 v1 0 _ t9 t1 ((((f9.tr f0).tr f1).up wV_5).up wV_5) (by assumption) (Or.inl (by omega)) s1.w.w
                                | (exfalso; omega)
                          · first
                            | (exfalso; omega)
                            | skip
                              exfalso; omega
                      · first
                        | (exfalso; omega)
                        | skip
                          refine s175_72.mpr (s175_73.mpr ?_)
                          refine (s175_74 (by omega)).mpr ?_
                          refine c_namedByG (fun x9 w1 => ?_)
                          refine (s175_77 (by omega)).mpr ?_
                          refine c_typeOf.mpr ?_
                          refine s175_80.mpr (s175_82.mpr (s175_83.mpr ?_))
                          refine s175_85.mpr (wif (fun c85 => ?_) (fun c85 => ?_))
                          · first
                            | (exfalso; omega)
                            | skip
                              refine s175_88.mpr (s175_89.mpr (s175_90.mpr ?_))
                              refine (s175_92 (by omega)).mpr ?_
                              refine c_fits (by omega) (fun y92 => ?_) (fun y92 => ?_)
                              · skip
                                refine (s175_95 (by first | decide | assumption | omega) (by first | decide | assumption | omega)).mpr ?_
                                first | refine v_want0 h ?_ | refine v_want1 h ?_
                                refine s175_98.mpr (s175_117.mpr ?_)
                                refine (s175_118 (by first | assumption | omega)).mpr ?_
                                first
                                | exact q6 v1 hi1 t1 s1 ((f9.tr f0).tr f1) (by assumption)
                                | exact qA v9 v1 0 hi1 t9 t1 ((f9.tr f0).tr f1) (by assumption) (by omega) (Or.inl ⟨by assumption, rfl⟩) (by assumption) s1
                                | exact qA v9 v1 _ hi1 t9 t1 ((f9.tr f0).tr f1) (by assumption) (by omega) (Or.inr ⟨by assumption, x9, w1, rfl⟩) (by assumption) s1
                                | exact qB v9 v1 0 _ t9 t1 (((f9.tr f0).tr f1).up wV_5) (by assumption) (Or.inr ⟨Or.inl ⟨by assumption, rfl⟩, by assumption⟩) s1.w
                                | exact qB v9 v1 _ _ t9 t1 (((f9.tr f0).tr f1).up wV_5) (by assumption) (Or.inr ⟨Or.inr ⟨by assumption, x9, w1, rfl⟩, by assumption⟩) s1.w
                                | exact qB v9 v1 0 _ t9 t1 (((f9.tr f0).tr f1).up wV_5) (by assumption) (Or.inl (by omega)) s1.w
                                | exact qB v9 v1 0 _ t9 t1 ((((f9.tr f0).tr f1).up wV_5).up wV_5) (by assumption) (Or.inl (by omega)) s1.w.w
                                | (exfalso; omega)
                              · skip
                                refine (s175_95 (by first | decide | assumption | omega) (by first | decide | assumption | omega)).mpr ?_
                                first | refine v_want0 h ?_ | refine v_want1 h ?_
                                refine s175_98.mpr (s175_117.mpr ?_)
                                refine (s175_118 (by first | assumption | omega)).mpr ?_
                                first
                                | exact q6 v1 hi1 t1 s1 ((f9.tr f0).tr f1) (by assumption)
                                | exact qA v9 v1 0 hi1 t9 t1 ((f9.tr f0).tr f1) (by assumption) (by omega) (Or.inl ⟨by assumption, rfl⟩) (by assumption) s1
                                | exact qA v9 v1 _ hi1 t9 t1 ((f9.tr f0).tr f1) (by assumption) (by omega) (Or.inr ⟨by assumption, x9, w1, rfl⟩) (by assumption) s1
                                | exact qB v9 v1 0 _ t9 t1 (((f9.tr f0).tr f1).up wV_5) (by assumption) (Or.inr ⟨Or.inl ⟨by assumption, rfl⟩, by assumption⟩) s1.w
                                | exact qB v9 v1 _ _ t9 t1 (((f9.tr f0).tr f1).up wV_5) (by assumption) (Or.inr ⟨Or.inr ⟨by assumption, x9, w1, rfl⟩, by assumption⟩) s1.w
                                | exact qB v9 v1 0 _ t9 t1 (((f9.tr f0).tr f1).up wV_5) (by assumption) (Or.inl (by omega)) s1.w
                                | exact qB v9 v1 0 _ t9 t1 ((((f9.tr f0).tr f1).up wV_5).up wV_5) (by assumption) (Or.inl (by omega)) s1.w.w
                                | (exfalso; omega)
                          · first
                            | (exfalso; omega)
                            | skip
                              exfalso; omega
  · first
    | (exfalso; omega)
    | skip
      exfalso; omega
/-- nodes and rows, what is new -/
theorem v_followHeap {op v p : Int} {X : Tst} {M : Nat} (h : VR al hr) (hd : 3 ≤ d) (hM : ModV al hi hr N n B M) (hT : TxV B n) (hN : hr 8 7 = some N) (hs : VS (some X) hi) (hv : vX B X) (o0 : 22 ≤ op ∧ op ≤ 29) (v0 : (op = 22 ∨ op = 23 ∨ op = 24 ∨ op = 26) → 0 ≤ v ∧ v ≤ 255)
    (q : ∀ x hi', (x = 0 ∨ x = 1) → VF (tsH B f op v p X) x hi' → FW wV hi hi' → Q (some (some (vI x))) al hi' hr) : Ev d 173 [vR (some 8), vI op, vI v] al hi hr Q := by
  have k8 := h.k8; have k11 := h.k11; have k12 := h.k12; have l11 := h.l11; have l12 := h.l12; have r1 := h.2.2.1; have r2 := h.2.2.2.1
  have c16 := hs.2.2.2.1
  have T22 : op = 22 → Wp d 173 36 [vR (some 8), vI op, vI v] [] al hi hr Q := by
    rintro rfl
    have v0 := v0 (Or.inl rfl)
    have e1 : tyO 1 v = cv (1 + 8 * v) := by rw [tyO_v (by decide) (by decide) v0.1 (by omega), cv_node (by decide) (by decide) v0.1 (by omega)]
    have et : tsH B f 22 v p X = onw True [(p + 2, (X.1 + 1, up1 X.2.1 X.1 (1 + 8 * v), X.2.2))] := rfl
    rw [et] at q
    refine s173_36.mpr (s173_37.mpr (s173_38.mpr ?_))
    refine (s173_39 (by omega)).mpr ?_
    refine c_typeOf.mpr ?_
    refine (s173_42 (by first | decide | assumption | omega) (by first | decide | assumption | omega)).mpr ?_
    refine v_push h hs (fun _ => e1) (fun hi1 s1 f1 => ?_)
    refine s173_45.mpr ?_
    refine (s173_46 (by first | assumption | omega)).mpr ?_
    exact q _ _ (Or.inr rfl) (VF.of (by rw [onw_p trivial, nx_push]; exact s1)) f1
  have key : ∀ t c' hi4, VS (pushO (popI (some X)) t) hi4 → VF (onw (0 < X.1 ∧ X.2.1 (X.1 - 1) = 0) [(c', (X.1, up1 X.2.1 (X.1 - 1) t, X.2.2))]) 1 hi4 := fun t c' hi4 s4 => by
    by_cases c : 0 < X.1 ∧ X.2.1 (X.1 - 1) = 0
    · refine VF.of ?_
      rw [onw_p c, nx_y (by show X.1 ≤ 16; omega)]
      rw [popI_y c.1 c.2, push_y (by show X.1 - 1 < 16; omega)] at s4
      simp only [Int.sub_add_cancel] at s4
      exact s4
    · rw [popI_n c] at s4; exact VF.nn c s4 (Or.inr rfl)
  have T25 : op = 25 → Wp d 173 47 [vR (some 8), vI op, vI v] [] al hi hr Q := by
    rintro rfl
    have et : tsH B f 25 v p X = onw (0 < X.1 ∧ X.2.1 (X.1 - 1) = 0) [(p + 1, (X.1, up1 X.2.1 (X.1 - 1) 2, X.2.2))] := rfl
    rw [et] at q
    refine s173_47.mpr ?_
    refine (s173_48 (by first | decide | assumption | omega) (by first | decide | assumption | omega)).mpr ?_
    refine v_popInt h (by omega) hs (fun Z e => by cases e; exact hv) (fun hi0 s0 f0 => ?_)
    refine s173_51.mpr (s173_52.mpr ?_)
    refine (s173_53 (by first | decide | assumption | omega) (by first | decide | assumption | omega)).mpr ?_
    refine v_push (t := 2) h s0 (fun _ => rfl) (fun hi1 s1 f1 => ?_)
    refine s173_56.mpr ?_
    refine (s173_57 (by first | assumption | omega)).mpr ?_
    exact q _ _ (Or.inr rfl) (key _ _ _ s1) (f0.tr f1)
  have T26 : op = 26 → Wp d 173 58 [vR (some 8), vI op, vI v] [] al hi hr Q := by
    rintro rfl
    have v0 := v0 (by omega)
    have e1 : tyO 3 v = cv (3 + 8 * v) := by rw [tyO_v (by decide) (by decide) v0.1 (by omega), cv_node (by decide) (by decide) v0.1 (by omega)]
    have et : tsH B f 26 v p X = onw (0 < X.1 ∧ X.2.1 (X.1 - 1) = 0) [(p + 2, (X.1, up1 X.2.1 (X.1 - 1) (3 + 8 * v), X.2.2))] := rfl
    rw [et] at q
    refine s173_58.mpr ?_
    refine (s173_59 (by first | decide | assumption | omega) (by first | decide | assumption | omega)).mpr ?_
    refine v_popInt h (by omega) hs (fun Z e => by cases e; exact hv) (fun hi0 s0 f0 => ?_)
    refine s173_62.mpr (s173_63.mpr (s173_64.mpr ?_))
    refine (s173_65 (by omega)).mpr ?_
    refine c_typeOf.mpr ?_
    refine (s173_68 (by first | decide | assumption | omega) (by first | decide | assumption | omega)).mpr ?_
    refine v_push h s0 (fun _ => e1) (fun hi1 s1 f1 => ?_)
    refine s173_71.mpr ?_
    refine (s173_72 (by first | assumption | omega)).mpr ?_
    exact q _ _ (Or.inr rfl) (key _ _ _ s1) (f0.tr f1)
  have T73 : op = 23 ∨ op = 24 → Wp d 173 73 [vR (some 8), vI op, vI v] [] al hi hr Q := by
    rintro (rfl | rfl)
    · skip
      refine s173_73.mpr (s173_74.mpr (s173_75.mpr ?_))
      refine (s173_76 (by first | decide | assumption | omega) (by first | decide | assumption | omega)).mpr ?_
      skip
      refine v_get (f := f) (p := p) h (by omega) hM hT hN hs hv (v0 (by omega)).1 (fun x hi1 hx s1 f1 => ?_)
      simp only [kon, knt_some, knt_none, Option.toList_some, Option.toList_none, List.cons_append, List.nil_append]
      exact (s173_79 hx).mpr (q _ _ hx s1 f1)
    · skip
      refine s173_73.mpr (s173_74.mpr (s173_75.mpr ?_))
      refine (s173_76 (by first | decide | assumption | omega) (by first | decide | assumption | omega)).mpr ?_
      skip
      refine v_put (f := f) (p := p) h (by omega) hM hT hN hs hv (v0 (by omega)).1 (fun x hi1 hx s1 f1 => ?_)
      simp only [kon, knt_some, knt_none, Option.toList_some, Option.toList_none, List.cons_append, List.nil_append]
      exact (s173_79 hx).mpr (q _ _ hx s1 f1)
  have T80 : op = 27 ∨ op = 28 ∨ op = 29 → Wp d 173 80 [vR (some 8), vI op, vI v] [] al hi hr Q := by
    rintro (rfl | rfl | rfl)
    · skip
      refine s173_80.mpr (s173_81.mpr ?_)
      refine (s173_82 (by first | decide | assumption | omega) (by first | decide | assumption | omega)).mpr ?_
      skip
      refine v_length (f := f) (v := v) (p := p) h (by omega) hs hv (fun x hi1 hx s1 f1 => ?_)
      simp only [kon, knt_some, knt_none, Option.toList_some, Option.toList_none, List.cons_append, List.nil_append]
      exact (s173_85 hx).mpr (q _ _ hx s1 f1)
    · skip
      refine s173_80.mpr (s173_81.mpr ?_)
      refine (s173_82 (by first | decide | assumption | omega) (by first | decide | assumption | omega)).mpr ?_
      skip
      refine v_take (f := f) (v := v) (p := p) h (by omega) hs hv (fun x hi1 hx s1 f1 => ?_)
      simp only [kon, knt_some, knt_none, Option.toList_some, Option.toList_none, List.cons_append, List.nil_append]
      exact (s173_85 hx).mpr (q _ _ hx s1 f1)
    · skip
      refine s173_80.mpr (s173_81.mpr ?_)
      refine (s173_82 (by first | decide | assumption | omega) (by first | decide | assumption | omega)).mpr ?_
      skip
      refine v_lay (f := f) (v := v) (p := p) h (by omega) hs hv (fun x hi1 hx s1 f1 => ?_)
      simp only [kon, knt_some, knt_none, Option.toList_some, Option.toList_none, List.cons_append, List.nil_append]
      exact (s173_85 hx).mpr (q _ _ hx s1 f1)
  rw [e173]
  refine s173_0.mpr ?_
  refine g173_1 (fun c1 => ?_) (fun c1 => ?_) (fun c1 => ?_) (fun c1 => ?_) (fun c1 => ?_)
  · skip
    have c1 := List.mem_singleton.mp c1
    exact T22 c1
  · skip
    have c1 := List.mem_singleton.mp c1
    exact T25 c1
  · skip
    have c1 := List.mem_singleton.mp c1
    exact T26 c1
  · skip
    exact T73 (by simpa using c1)
  · skip
    exact T80 (by simp only [List.mem_cons, List.not_mem_nil, or_false] at c1; omega)
end DV2
