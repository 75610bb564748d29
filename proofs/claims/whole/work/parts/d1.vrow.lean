section DV1
variable {d : Nat} {al : AL} {hi : HI} {hr : HR} {Q : QQ} {B : Int → Int} {N : Nat} {n : Int} {f : Int}
/-- the top of a state, two below -/
theorem top_2 {X : Tst} {v1 : Int} (hv : vX B X) (t1 : topV (popO (some X)) v1) (c : 1 < X.1) : v1 = cv (X.2.1 (X.1 - 2)) ∧ v1 % 16 = kindM (X.2.1 (X.1 - 2)) ∧ rng v1 ∧ v1 / 16 % 256 = whichM (X.2.1 (X.1 - 2)) := by
  have e := pop_y (X := X) (by omega)
  have := top_of e (hv.pop (by omega)) t1 (by show 0 < X.1 - 1; omega)
  simp only [show X.1 - 1 - 1 = X.1 - 2 by omega] at this
  exact this
theorem pp_2 {X : Tst} (z : popO (popO (some X)) ≠ none) : 1 < X.1 := by
  have c : 0 < X.1 := nn_pop rfl (fun w => z (by rw [w]; rfl))
  rw [pop_y c] at z
  have : 0 < X.1 - 1 := nn_pop rfl z
  omega
theorem pp_n {X : Tst} (z : ¬ 1 < X.1) : popO (popO (some X)) = none := Classical.byContradiction fun y => z (pp_2 y)
theorem pp_y {X : Tst} (z : 1 < X.1) : popO (popO (some X)) = some (X.1 - 2, X.2.1, X.2.2) := by
  rw [pop_y (by omega), pop_y (by show 0 < X.1 - 1; omega)]
  show some (X.1 - 1 - 1, X.2.1, X.2.2) = _
  rw [show X.1 - 1 - 1 = X.1 - 2 by omega]
/-- a node's field is laid -/
theorem v_put {v p : Int} {X : Tst} {M : Nat} (h : VR al hr) (hd : 2 ≤ d) (hM : ModV al hi hr N n B M) (hT : TxV B n) (hN : hr 8 7 = some N) (hs : VS (some X) hi) (hv : vX B X) (v0 : 0 ≤ v)
    (q : ∀ x hi', (x = 0 ∨ x = 1) → VF (tsH B f 24 v p X) x hi' → FW wV hi hi' → Q (some (some (vI x))) al hi' hr) : Ev d 174 [vR (some 8), vI 24, vI v] al hi hr Q := by
  have k8 := h.k8; have k11 := h.k11; have k12 := h.k12; have l11 := h.l11; have l12 := h.l12; have r1 := h.2.2.1; have r2 := h.2.2.2.1
  have kN := hM.1.1.1
  have c16 := hs.2.2.2.1
  have et : tsH B f 24 v p X = onw (1 < X.1 ∧ (X.2.1 (X.1 - 2) = 6 ∨ (kindM (X.2.1 (X.1 - 2)) = 1 ∧ v < nFld B (whichM (X.2.1 (X.1 - 2))) ∧ leT (X.2.1 (X.1 - 1)) (fTy B (whichM (X.2.1 (X.1 - 2))) v)))) (if X.2.1 (X.1 - 2) = 6 then [] else [(p + 2, (X.1 - 2, X.2.1, X.2.2))]) := rfl
  rw [et] at q
  have key : ∀ v1 x9 hi1, topV (popO (some X)) v1 → (rng v1 → x9 = v1 / 16 % 256) → FW wV hi hi1 → 1 < X.1 → v1 % 16 = 1 → tfR hi1 N x9 v = if v < nFld B (whichM (X.2.1 (X.1 - 2))) then cv (fTy B (whichM (X.2.1 (X.1 - 2))) v) else -1 := fun v1 x9 hi1 t1 w1 f1 c k => by
    obtain ⟨k1, k2, k3, k4⟩ := top_2 hv t1 c
    have hvt := hv.2.1 (X.1 - 2) (by omega) (by omega)
    rw [w1 k3, k4]
    exact (hM.wv f1).tf hT (by unfold whichM; omega) (hvt.2.2.2.2.2.2.1 (by omega)) v0
  have t6 : ∀ v1, topV (popO (some X)) v1 → 1 < X.1 → (v1 = 6 ↔ X.2.1 (X.1 - 2) = 6) := fun v1 t1 c => by
    rw [(top_2 hv t1 c).1]; exact cv_c (hv.2.1 _ (by omega) (by omega)).r (by decide) (by decide)
  have q6 : ∀ v1 hi1, topV (popO (some X)) v1 → VS (popO (popO (some X))) hi1 → FW wV hi hi1 → v1 = 6 → Q (some (some (vI 0))) al hi1 hr := fun v1 hi1 t1 s1 f1 e => q 0 hi1 (Or.inl rfl) (by
    by_cases c : 1 < X.1
    · have e6 := (t6 v1 t1 c).mp e
      rw [pp_y c] at s1
      exact VF.z ⟨c, Or.inl e6⟩ e6 ⟨_, s1⟩
    · rw [pp_n c] at s1; exact VF.nn (fun z => c z.1) s1 (Or.inl rfl)) f1
  have vF : ∀ c : 1 < X.1, kindM (X.2.1 (X.1 - 2)) = 1 → v < nFld B (whichM (X.2.1 (X.1 - 2))) → rT (fTy B (whichM (X.2.1 (X.1 - 2))) v) := fun c k y => by
    have hvt := hv.2.1 (X.1 - 2) (by omega) (by omega)
    exact (hT.2.2.1 _ v (by unfold whichM; omega) (hvt.2.2.2.2.2.2.1 (by omega)) v0 y).1.r
  have qA : ∀ v9 v1 x9 hi1, topV (some X) v9 → topV (popO (some X)) v1 → (rng v1 → x9 = v1 / 16 % 256) → FW wV hi hi1 → v1 ≠ 6 → v1 % 16 = 1 → tfR hi1 N x9 v ≠ -1 → fitC v9 (tfR hi1 N x9 v) → VS (popO (popO (some X))) hi1 → Q (some (some (vI 1))) al hi1 hr := fun v9 v1 x9 hi1 t9 t1 w1 f1 n6 k nt hf s4 => q 1 hi1 (Or.inr rfl) (by
    by_cases c : 1 < X.1
    · have e := key v1 x9 hi1 t1 w1 f1 c k
      have k2 := (top_2 hv t1 c).2.1
      have hlt : v < nFld B (whichM (X.2.1 (X.1 - 2))) := by
        apply Classical.byContradiction; intro z; rw [if_neg z] at e; exact nt e
      rw [if_pos hlt] at e
      rw [e, (top_of rfl hv t9 (by omega)).1, fitC_v (hv.2.1 _ (by omega) (by omega)).r (vF c (by omega) hlt)] at hf
      refine VF.g ⟨c, Or.inr ⟨by omega, hlt, hf⟩⟩ (fun z => n6 ((t6 v1 t1 c).mpr z)) ?_
      rw [nx_y (by show X.1 - 2 ≤ 16; omega)]
      rw [pp_y c] at s4
      exact s4
    · rw [pp_n c] at s4; exact VF.nn (fun z => c z.1) s4 (Or.inr rfl)) f1
  have qB : ∀ v9 v1 x9 hi1 hi4, topV (some X) v9 → topV (popO (some X)) v1 → (rng v1 → x9 = v1 / 16 % 256) → FW wV hi hi1 → FW wV hi hi4 → v1 ≠ 6 → (v1 % 16 ≠ 1 ∨ tfR hi1 N x9 v = -1 ∨ ¬ fitC v9 (tfR hi1 N x9 v)) → VS none hi4 → Q (some (some (vI 1))) al hi4 hr := fun v9 v1 x9 hi1 hi4 t9 t1 w1 f1 f4 n6 k s4 => q 1 hi4 (Or.inr rfl) (VF.nn (fun z => by
    obtain ⟨c, z⟩ := z
    rcases z with z | z
    · exact n6 ((t6 v1 t1 c).mpr z)
    · have k2 := (top_2 hv t1 c).2.1
      have e := key v1 x9 hi1 t1 w1 f1 c (by omega)
      rw [if_pos z.2.1] at e
      rcases k with k | k | k
      · omega
      · rw [k] at e; exact cv_m (vF c z.1 z.2.1) e.symm
      · rw [e, (top_of rfl hv t9 (by omega)).1, fitC_v (hv.2.1 _ (by omega) (by omega)).r (vF c z.1 z.2.1)] at k
        exact k z.2.2) s4 (Or.inr rfl)) f4
  rw [e174]
  refine s174_0.mpr (s174_1.mpr ?_)
  refine s174_3.mpr (wif (fun c3 => ?_) (fun c3 => ?_))
  · first
    | (exfalso; omega)
    | skip
      refine s174_6.mpr ?_
      refine (s174_7 (by first | decide | assumption | omega) (by first | decide | assumption | omega)).mpr ?_
      first | refine v_pop h hs (fun v9 hi0 s0 f0 t9 => ?_) | refine v_pop h s0 (fun v1 hi1 s1 f1 t1 => ?_)
      refine s174_10.mpr (s174_14.mpr (s174_15.mpr ?_))
      refine (s174_16 (by first | decide | assumption | omega) (by first | decide | assumption | omega)).mpr ?_
      first | refine v_pop h hs (fun v9 hi0 s0 f0 t9 => ?_) | refine v_pop h s0 (fun v1 hi1 s1 f1 t1 => ?_)
      refine s174_19.mpr (s174_21.mpr (s174_23.mpr ?_))
      refine s174_25.mpr (wif (fun c25 => ?_) (fun c25 => ?_))
      · first
        | (exfalso; omega)
        | skip
          refine s174_28.mpr ?_
          refine (s174_29 (by first | assumption | omega)).mpr ?_
          first
          | exact q6 v1 hi1 t1 s1 (f0.tr f1) (by assumption)
          | exact qA v9 v1 x9 hi1 t9 t1 w1 (f0.tr f1) (by assumption) (by assumption) (by assumption) (by assumption) s1
          | exact qB v9 v1 x9 hi1 _ t9 t1 w1 (f0.tr f1) ((f0.tr f1).up wV_5) (by assumption) (Or.inr (Or.inr (by assumption))) s1.w
          | exact qB v9 v1 x9 hi1 _ t9 t1 w1 (f0.tr f1) ((f0.tr f1).up wV_5) (by assumption) (Or.inr (Or.inl (by assumption))) s1.w
          | exact qB v9 v1 x9 hi1 _ t9 t1 w1 (f0.tr f1) (((f0.tr f1).up wV_5).up wV_5) (by assumption) (Or.inr (Or.inl (by assumption))) s1.w.w
          | exact qB v9 v1 (v1 / 16 % 256) hi1 _ t9 t1 (fun _ => rfl) (f0.tr f1) ((f0.tr f1).up wV_5) (by assumption) (Or.inl (by assumption)) s1.w
          | exact qB v9 v1 (v1 / 16 % 256) hi1 _ t9 t1 (fun _ => rfl) (f0.tr f1) (((f0.tr f1).up wV_5).up wV_5) (by assumption) (Or.inl (by assumption)) s1.w.w
          | (exfalso; omega)
      · first
        | (exfalso; omega)
        | skip
          refine s174_30.mpr ?_
          refine (s174_32 (by omega)).mpr ?_
          refine c_kindOf.mpr ?_
          refine s174_35.mpr ?_
          refine s174_36.mpr (wif (fun c36 => ?_) (fun c36 => ?_))
          · first
            | (exfalso; omega)
            | skip
              refine s174_39.mpr ?_
              refine (s174_40 (by first | decide | assumption | omega)).mpr ?_
              refine s174_43.mpr ?_
              try simp (disch := first | decide | assumption | omega) only [kon, knt_some, knt_none, Option.toList_some, Option.toList_none, List.cons_append, List.nil_append, hN]
              refine (s174_45 (by omega)).mpr ?_
              refine c_namedByG (fun x9 w1 => ?_)
              refine s174_48.mpr ?_
              refine (s174_49 (by first | decide | assumption | omega) (by first | decide | assumption | omega)).mpr ?_
              refine t_typeOfField hM.1.1 (by omega) (hM.wv (f0.tr f1)).2.2.2.2.2.2.1 ?_
              refine s174_52.mpr (s174_56.mpr (s174_58.mpr (s174_59.mpr (s174_61.mpr ?_))))
              refine s174_62.mpr (wif (fun c62 => ?_) (fun c62 => ?_))
              · first
                | (exfalso; omega)
                | skip
                  refine s174_69.mpr ?_
                  refine (s174_70 (by first | decide | assumption | omega) (by first | decide | assumption | omega)).mpr ?_
                  first | refine v_want0 h ?_ | refine v_want1 h ?_
                  refine s174_73.mpr (s174_74.mpr ?_)
                  refine s174_76.mpr (wif (fun c76 => ?_) (fun c76 => ?_))
                  · first
                    | (exfalso; omega)
                    | skip
                      refine s174_79.mpr (s174_80.mpr (s174_81.mpr ?_))
                      refine (s174_83 (by omega)).mpr ?_
                      refine c_fits (by omega) (fun y83 => ?_) (fun y83 => ?_)
                      · skip
                        refine (s174_86 (by first | decide | assumption | omega) (by first | decide | assumption | omega)).mpr ?_
                        first | refine v_want0 h ?_ | refine v_want1 h ?_
                        refine s174_89.mpr (s174_98.mpr ?_)
                        refine (s174_99 (by first | assumption | omega)).mpr ?_
                        first
                        | exact q6 v1 hi1 t1 s1 (f0.tr f1) (by assumption)
                        | exact qA v9 v1 x9 hi1 t9 t1 w1 (f0.tr f1) (by assumption) (by assumption) (by assumption) (by assumption) s1
                        | exact qB v9 v1 x9 hi1 _ t9 t1 w1 (f0.tr f1) ((f0.tr f1).up wV_5) (by assumption) (Or.inr (Or.inr (by assumption))) s1.w
                        | exact qB v9 v1 x9 hi1 _ t9 t1 w1 (f0.tr f1) ((f0.tr f1).up wV_5) (by assumption) (Or.inr (Or.inl (by assumption))) s1.w
                        | exact qB v9 v1 x9 hi1 _ t9 t1 w1 (f0.tr f1) (((f0.tr f1).up wV_5).up wV_5) (by assumption) (Or.inr (Or.inl (by assumption))) s1.w.w
                        | exact qB v9 v1 (v1 / 16 % 256) hi1 _ t9 t1 (fun _ => rfl) (f0.tr f1) ((f0.tr f1).up wV_5) (by assumption) (Or.inl (by assumption)) s1.w
                        | exact qB v9 v1 (v1 / 16 % 256) hi1 _ t9 t1 (fun _ => rfl) (f0.tr f1) (((f0.tr f1).up wV_5).up wV_5) (by assumption) (Or.inl (by assumption)) s1.w.w
                        | (exfalso; omega)
                      · skip
                        refine (s174_86 (by first | decide | assumption | omega) (by first | decide | assumption | omega)).mpr ?_
                        first | refine v_want0 h ?_ | refine v_want1 h ?_
                        refine s174_89.mpr (s174_98.mpr ?_)
                        refine (s174_99 (by first | assumption | omega)).mpr ?_
                        first
                        | exact q6 v1 hi1 t1 s1 (f0.tr f1) (by assumption)
                        | exact qA v9 v1 x9 hi1 t9 t1 w1 (f0.tr f1) (by assumption) (by assumption) (by assumption) (by assumption) s1
                        | exact qB v9 v1 x9 hi1 _ t9 t1 w1 (f0.tr f1) ((f0.tr f1).up wV_5) (by assumption) (Or.inr (Or.inr (by assumption))) s1.w
                        | exact qB v9 v1 x9 hi1 _ t9 t1 w1 (f0.tr f1) ((f0.tr f1).up wV_5) (by assumption) (Or.inr (Or.inl (by assumption))) s1.w
                        | exact qB v9 v1 x9 hi1 _ t9 t1 w1 (f0.tr f1) (((f0.tr f1).up wV_5).up wV_5) (by assumption) (Or.inr (Or.inl (by assumption))) s1.w.w
                        | exact qB v9 v1 (v1 / 16 % 256) hi1 _ t9 t1 (fun _ => rfl) (f0.tr f1) ((f0.tr f1).up wV_5) (by assumption) (Or.inl (by assumption)) s1.w
                        | exact qB v9 v1 (v1 / 16 % 256) hi1 _ t9 t1 (fun _ => rfl) (f0.tr f1) (((f0.tr f1).up wV_5).up wV_5) (by assumption) (Or.inl (by assumption)) s1.w.w
                        | (exfalso; omega)
                  · first
                    | (exfalso; omega)
                    | skip
                      exfalso; omega
              · first
                | (exfalso; omega)
                | skip
                  refine s174_65.mpr (s174_66.mpr ?_)
                  refine (s174_70 (by first | decide | assumption | omega) (by first | decide | assumption | omega)).mpr ?_
                  first | refine v_want0 h ?_ | refine v_want1 h ?_
                  refine s174_73.mpr (s174_74.mpr ?_)
                  refine s174_76.mpr (wif (fun c76 => ?_) (fun c76 => ?_))
                  · first
                    | (exfalso; omega)
                    | skip
                      refine s174_79.mpr (s174_80.mpr (s174_81.mpr ?_))
                      refine (s174_83 (by omega)).mpr ?_
                      refine c_fits (by omega) (fun y83 => ?_) (fun y83 => ?_)
                      · skip
                        refine (s174_86 (by first | decide | assumption | omega) (by first | decide | assumption | omega)).mpr ?_
                        first | refine v_want0 h ?_ | refine v_want1 h ?_
                        refine s174_89.mpr (s174_98.mpr ?_)
                        refine (s174_99 (by first | assumption | omega)).mpr ?_
                        first
                        | exact q6 v1 hi1 t1 s1 (f0.tr f1) (by assumption)
                        | exact qA v9 v1 x9 hi1 t9 t1 w1 (f0.tr f1) (by assumption) (by assumption) (by assumption) (by assumption) s1
                        | exact qB v9 v1 x9 hi1 _ t9 t1 w1 (f0.tr f1) ((f0.tr f1).up wV_5) (by assumption) (Or.inr (Or.inr (by assumption))) s1.w
                        | exact qB v9 v1 x9 hi1 _ t9 t1 w1 (f0.tr f1) ((f0.tr f1).up wV_5) (by assumption) (Or.inr (Or.inl (by assumption))) s1.w
                        | exact qB v9 v1 x9 hi1 _ t9 t1 w1 (f0.tr f1) (((f0.tr f1).up wV_5).up wV_5) (by assumption) (Or.inr (Or.inl (by assumption))) s1.w.w
                        | exact qB v9 v1 (v1 / 16 % 256) hi1 _ t9 t1 (fun _ => rfl) (f0.tr f1) ((f0.tr f1).up wV_5) (by assumption) (Or.inl (by assumption)) s1.w
                        | exact qB v9 v1 (v1 / 16 % 256) hi1 _ t9 t1 (fun _ => rfl) (f0.tr f1) (((f0.tr f1).up wV_5).up wV_5) (by assumption) (Or.inl (by assumption)) s1.w.w
                        | (exfalso; omega)
                      · skip
                        refine (s174_86 (by first | decide | assumption | omega) (by first | decide | assumption | omega)).mpr ?_
                        first | refine v_want0 h ?_ | refine v_want1 h ?_
                        refine s174_89.mpr (s174_98.mpr ?_)
                        refine (s174_99 (by first | assumption | omega)).mpr ?_
                        first
                        | exact q6 v1 hi1 t1 s1 (f0.tr f1) (by assumption)
                        | exact qA v9 v1 x9 hi1 t9 t1 w1 (f0.tr f1) (by assumption) (by assumption) (by assumption) (by assumption) s1
                        | exact qB v9 v1 x9 hi1 _ t9 t1 w1 (f0.tr f1) ((f0.tr f1).up wV_5) (by assumption) (Or.inr (Or.inr (by assumption))) s1.w
                        | exact qB v9 v1 x9 hi1 _ t9 t1 w1 (f0.tr f1) ((f0.tr f1).up wV_5) (by assumption) (Or.inr (Or.inl (by assumption))) s1.w
                        | exact qB v9 v1 x9 hi1 _ t9 t1 w1 (f0.tr f1) (((f0.tr f1).up wV_5).up wV_5) (by assumption) (Or.inr (Or.inl (by assumption))) s1.w.w
                        | exact qB v9 v1 (v1 / 16 % 256) hi1 _ t9 t1 (fun _ => rfl) (f0.tr f1) ((f0.tr f1).up wV_5) (by assumption) (Or.inl (by assumption)) s1.w
                        | exact qB v9 v1 (v1 / 16 % 256) hi1 _ t9 t1 (fun _ => rfl) (f0.tr f1) (((f0.tr f1).up wV_5).up wV_5) (by assumption) (Or.inl (by assumption)) s1.w.w
                        | (exfalso; omega)
                  · first
                    | (exfalso; omega)
                    | skip
                      exfalso; omega
          · first
            | (exfalso; omega)
            | skip
              refine s174_55.mpr (s174_56.mpr (s174_58.mpr (s174_59.mpr (s174_61.mpr ?_))))
              refine s174_62.mpr (wif (fun c62 => ?_) (fun c62 => ?_))
              · first
                | (exfalso; omega)
                | skip
                  refine s174_69.mpr ?_
                  refine (s174_70 (by first | decide | assumption | omega) (by first | decide | assumption | omega)).mpr ?_
                  first | refine v_want0 h ?_ | refine v_want1 h ?_
                  refine s174_73.mpr (s174_74.mpr ?_)
                  refine s174_76.mpr (wif (fun c76 => ?_) (fun c76 => ?_))
                  · first
                    | (exfalso; omega)
                    | skip
                      refine s174_79.mpr (s174_80.mpr (s174_81.mpr ?_))
                      refine (s174_83 (by omega)).mpr ?_
                      refine c_fits (by omega) (fun y83 => ?_) (fun y83 => ?_)
                      · skip
                        refine (s174_86 (by first | decide | assumption | omega) (by first | decide | assumption | omega)).mpr ?_
                        first | refine v_want0 h ?_ | refine v_want1 h ?_
                        refine s174_89.mpr (s174_98.mpr ?_)
                        refine (s174_99 (by first | assumption | omega)).mpr ?_
                        first
                        | exact q6 v1 hi1 t1 s1 (f0.tr f1) (by assumption)
                        | exact qA v9 v1 x9 hi1 t9 t1 w1 (f0.tr f1) (by assumption) (by assumption) (by assumption) (by assumption) s1
                        | exact qB v9 v1 x9 hi1 _ t9 t1 w1 (f0.tr f1) ((f0.tr f1).up wV_5) (by assumption) (Or.inr (Or.inr (by assumption))) s1.w
                        | exact qB v9 v1 x9 hi1 _ t9 t1 w1 (f0.tr f1) ((f0.tr f1).up wV_5) (by assumption) (Or.inr (Or.inl (by assumption))) s1.w
                        | exact qB v9 v1 x9 hi1 _ t9 t1 w1 (f0.tr f1) (((f0.tr f1).up wV_5).up wV_5) (by assumption) (Or.inr (Or.inl (by assumption))) s1.w.w
                        | exact qB v9 v1 (v1 / 16 % 256) hi1 _ t9 t1 (fun _ => rfl) (f0.tr f1) ((f0.tr f1).up wV_5) (by assumption) (Or.inl (by assumption)) s1.w
                        | exact qB v9 v1 (v1 / 16 % 256) hi1 _ t9 t1 (fun _ => rfl) (f0.tr f1) (((f0.tr f1).up wV_5).up wV_5) (by assumption) (Or.inl (by assumption)) s1.w.w
                        | (exfalso; omega)
                      · skip
                        refine (s174_86 (by first | decide | assumption | omega) (by first | decide | assumption | omega)).mpr ?_
                        first | refine v_want0 h ?_ | refine v_want1 h ?_
                        refine s174_89.mpr (s174_98.mpr ?_)
                        refine (s174_99 (by first | assumption | omega)).mpr ?_
                        first
                        | exact q6 v1 hi1 t1 s1 (f0.tr f1) (by assumption)
                        | exact qA v9 v1 x9 hi1 t9 t1 w1 (f0.tr f1) (by assumption) (by assumption) (by assumption) (by assumption) s1
                        | exact qB v9 v1 x9 hi1 _ t9 t1 w1 (f0.tr f1) ((f0.tr f1).up wV_5) (by assumption) (Or.inr (Or.inr (by assumption))) s1.w
                        | exact qB v9 v1 x9 hi1 _ t9 t1 w1 (f0.tr f1) ((f0.tr f1).up wV_5) (by assumption) (Or.inr (Or.inl (by assumption))) s1.w
                        | exact qB v9 v1 x9 hi1 _ t9 t1 w1 (f0.tr f1) (((f0.tr f1).up wV_5).up wV_5) (by assumption) (Or.inr (Or.inl (by assumption))) s1.w.w
                        | exact qB v9 v1 (v1 / 16 % 256) hi1 _ t9 t1 (fun _ => rfl) (f0.tr f1) ((f0.tr f1).up wV_5) (by assumption) (Or.inl (by assumption)) s1.w
                        | exact qB v9 v1 (v1 / 16 % 256) hi1 _ t9 t1 (fun _ => rfl) (f0.tr f1) (((f0.tr f1).up wV_5).up wV_5) (by assumption) (Or.inl (by assumption)) s1.w.w
                        | (exfalso; omega)
                  · first
                    | (exfalso; omega)
                    | skip
                      exfalso; omega
              · first
                | (exfalso; omega)
                | skip
                  refine s174_65.mpr (s174_66.mpr ?_)
                  refine (s174_70 (by first | decide | assumption | omega) (by first | decide | assumption | omega)).mpr ?_
                  first | refine v_want0 h ?_ | refine v_want1 h ?_
                  refine s174_73.mpr (s174_74.mpr ?_)
                  refine s174_76.mpr (wif (fun c76 => ?_) (fun c76 => ?_))
                  · first
                    | (exfalso; omega)
                    | skip
                      refine s174_79.mpr (s174_80.mpr (s174_81.mpr ?_))
                      refine (s174_83 (by omega)).mpr ?_
                      refine c_fits (by omega) (fun y83 => ?_) (fun y83 => ?_)
                      · skip
                        refine (s174_86 (by first | decide | assumption | omega) (by first | decide | assumption | omega)).mpr ?_
                        first | refine v_want0 h ?_ | refine v_want1 h ?_
                        refine s174_89.mpr (s174_98.mpr ?_)
                        refine (s174_99 (by first | assumption | omega)).mpr ?_
                        first
                        | exact q6 v1 hi1 t1 s1 (f0.tr f1) (by assumption)
                        | exact qA v9 v1 x9 hi1 t9 t1 w1 (f0.tr f1) (by assumption) (by assumption) (by assumption) (by assumption) s1
                        | exact qB v9 v1 x9 hi1 _ t9 t1 w1 (f0.tr f1) ((f0.tr f1).up wV_5) (by assumption) (Or.inr (Or.inr (by assumption))) s1.w
                        | exact qB v9 v1 x9 hi1 _ t9 t1 w1 (f0.tr f1) ((f0.tr f1).up wV_5) (by assumption) (Or.inr (Or.inl (by assumption))) s1.w
                        | exact qB v9 v1 x9 hi1 _ t9 t1 w1 (f0.tr f1) (((f0.tr f1).up wV_5).up wV_5) (by assumption) (Or.inr (Or.inl (by assumption))) s1.w.w
                        | exact qB v9 v1 (v1 / 16 % 256) hi1 _ t9 t1 (fun _ => rfl) (f0.tr f1) ((f0.tr f1).up wV_5) (by assumption) (Or.inl (by assumption)) s1.w
                        | exact qB v9 v1 (v1 / 16 % 256) hi1 _ t9 t1 (fun _ => rfl) (f0.tr f1) (((f0.tr f1).up wV_5).up wV_5) (by assumption) (Or.inl (by assumption)) s1.w.w
                        | (exfalso; omega)
                      · skip
                        refine (s174_86 (by first | decide | assumption | omega) (by first | decide | assumption | omega)).mpr ?_
                        first | refine v_want0 h ?_ | refine v_want1 h ?_
                        refine s174_89.mpr (s174_98.mpr ?_)
                        refine (s174_99 (by first | assumption | omega)).mpr ?_
                        first
                        | exact q6 v1 hi1 t1 s1 (f0.tr f1) (by assumption)
                        | exact qA v9 v1 x9 hi1 t9 t1 w1 (f0.tr f1) (by assumption) (by assumption) (by assumption) (by assumption) s1
                        | exact qB v9 v1 x9 hi1 _ t9 t1 w1 (f0.tr f1) ((f0.tr f1).up wV_5) (by assumption) (Or.inr (Or.inr (by assumption))) s1.w
                        | exact qB v9 v1 x9 hi1 _ t9 t1 w1 (f0.tr f1) ((f0.tr f1).up wV_5) (by assumption) (Or.inr (Or.inl (by assumption))) s1.w
                        | exact qB v9 v1 x9 hi1 _ t9 t1 w1 (f0.tr f1) (((f0.tr f1).up wV_5).up wV_5) (by assumption) (Or.inr (Or.inl (by assumption))) s1.w.w
                        | exact qB v9 v1 (v1 / 16 % 256) hi1 _ t9 t1 (fun _ => rfl) (f0.tr f1) ((f0.tr f1).up wV_5) (by assumption) (Or.inl (by assumption)) s1.w
                        | exact qB v9 v1 (v1 / 16 % 256) hi1 _ t9 t1 (fun _ => rfl) (f0.tr f1) (((f0.tr f1).up wV_5).up wV_5) (by assumption) (Or.inl (by assumption)) s1.w.w
                        | (exfalso; omega)
                  · first
                    | (exfalso; omega)
                    | skip
                      exfalso; omega
  · first
    | (exfalso; omega)
    | skip
      exfalso; omega
/-- a row's length -/
theorem v_length {v p : Int} {X : Tst} (h : VR al hr) (hd : 2 ≤ d) (hs : VS (some X) hi) (hv : vX B X)
    (q : ∀ x hi', (x = 0 ∨ x = 1) → VF (tsH B f 27 v p X) x hi' → FW wV hi hi' → Q (some (some (vI x))) al hi' hr) : Ev d 175 [vR (some 8), vI 27] al hi hr Q := by
  have k8 := h.k8; have k11 := h.k11; have k12 := h.k12; have l11 := h.l11; have l12 := h.l12; have r1 := h.2.2.1; have r2 := h.2.2.2.1
  have c16 := hs.2.2.2.1
  have et : tsH B f 27 v p X = onw (0 < X.1 ∧ (X.2.1 (X.1 - 1) = 6 ∨ kindM (X.2.1 (X.1 - 1)) = 2 ∨ kindM (X.2.1 (X.1 - 1)) = 3)) (if X.2.1 (X.1 - 1) = 6 then [] else [(p + 1, (X.1, up1 X.2.1 (X.1 - 1) 0, X.2.2))]) := rfl
  rw [et] at q
  have t6 : ∀ v1, topV (some X) v1 → 0 < X.1 → (v1 = 6 ↔ X.2.1 (X.1 - 1) = 6) := fun v1 t1 c => by
    rw [t1 X rfl c]; exact cv_c (hv.2.1 _ (by omega) (by omega)).r (by decide) (by decide)
  have q6 : ∀ v1 hi1, topV (some X) v1 → VS (popO (some X)) hi1 → FW wV hi hi1 → v1 = 6 → Q (some (some (vI 0))) al hi1 hr := fun v1 hi1 t1 s1 f1 e => q 0 hi1 (Or.inl rfl) (by
    by_cases c : 0 < X.1
    · have e6 := (t6 v1 t1 c).mp e
      rw [pop_y c] at s1
      exact VF.z ⟨c, Or.inl e6⟩ e6 ⟨_, s1⟩
    · rw [pop_n c] at s1; exact VF.nn (fun z => c z.1) s1 (Or.inl rfl)) f1
  have qA : ∀ v1 hi4, topV (some X) v1 → FW wV hi hi4 → v1 ≠ 6 → (v1 % 16 = 2 ∨ v1 % 16 = 3) → VS (pushO (popO (some X)) 0) hi4 → Q (some (some (vI 1))) al hi4 hr := fun v1 hi4 t1 f4 n6 k s4 => q 1 hi4 (Or.inr rfl) (by
    by_cases c : 0 < X.1
    · have k2 := (top_of rfl hv t1 c).2.1
      refine VF.g ⟨c, Or.inr (by omega)⟩ (fun z => n6 ((t6 v1 t1 c).mpr z)) ?_
      rw [nx_y (by show X.1 ≤ 16; omega)]
      rw [pop_y c, push_y (by show X.1 - 1 < 16; omega)] at s4
      simp only [Int.sub_add_cancel] at s4
      exact s4
    · rw [pop_n c] at s4; exact VF.nn (fun z => c z.1) s4 (Or.inr rfl)) f4
  have qB : ∀ v1 hi4, topV (some X) v1 → FW wV hi hi4 → v1 ≠ 6 → ¬ (v1 % 16 = 2 ∨ v1 % 16 = 3) → VS none hi4 → Q (some (some (vI 1))) al hi4 hr := fun v1 hi4 t1 f4 n6 k s4 => q 1 hi4 (Or.inr rfl) (VF.nn (fun z => by
    have k2 := (top_of rfl hv t1 z.1).2.1
    rcases z.2 with y | y
    · exact n6 ((t6 v1 t1 z.1).mpr y)
    · omega) s4 (Or.inr rfl)) f4
  rw [e175]
  refine s175_0.mpr (s175_1.mpr ?_)
  refine s175_3.mpr (wif (fun c3 => ?_) (fun c3 => ?_))
  · first
    | (exfalso; omega)
    | skip
      exfalso; omega
  · first
    | (exfalso; omega)
    | skip
      refine s175_13.mpr (s175_14.mpr (s175_15.mpr (s175_16.mpr ?_)))
      refine s175_18.mpr (wif (fun c18 => ?_) (fun c18 => ?_))
      · first
        | (exfalso; omega)
        | skip
          refine s175_25.mpr ?_
          refine (s175_26 (by first | decide | assumption | omega) (by first | decide | assumption | omega)).mpr ?_
          refine v_pop h hs (fun v1 hi1 s1 f1 t1 => ?_)
          refine s175_29.mpr (s175_30.mpr (s175_31.mpr ?_))
          refine s175_33.mpr (wif (fun c33 => ?_) (fun c33 => ?_))
          · first
            | (exfalso; omega)
            | skip
              refine s175_36.mpr ?_
              refine (s175_37 (by first | assumption | omega)).mpr ?_
              first
              | exact q6 v1 hi1 t1 s1 f1 (by assumption)
              | exact qA v1 hi4 t1 (f1.tr f4) (by assumption) (by omega) s4
              | exact qB v1 hi4 t1 ((f1.up wV_5).tr f4) (by assumption) (by omega) s4
              | (exfalso; omega)
          · first
            | (exfalso; omega)
            | skip
              refine s175_38.mpr (s175_39.mpr ?_)
              refine (s175_40 (by omega)).mpr ?_
              refine c_kindOf.mpr ?_
              refine s175_43.mpr ?_
              refine s175_44.mpr (wif (fun c44 => ?_) (fun c44 => ?_))
              · first
                | (exfalso; omega)
                | skip
                  refine s175_55.mpr (s175_56.mpr ?_)
                  refine (s175_60 (by first | decide | assumption | omega) (by first | decide | assumption | omega)).mpr ?_
                  first | refine v_want0 h ?_ | refine v_want1 h ?_
                  refine s175_63.mpr (s175_64.mpr ?_)
                  refine s175_65.mpr (wif (fun c65 => ?_) (fun c65 => ?_))
                  · first
                    | (exfalso; omega)
                    | skip
                      refine s175_68.mpr (s175_69.mpr (s175_80.mpr (s175_82.mpr (s175_83.mpr ?_))))
                      refine s175_85.mpr (wif (fun c85 => ?_) (fun c85 => ?_))
                      · first
                        | (exfalso; omega)
                        | skip
                          exfalso; omega
                      · first
                        | (exfalso; omega)
                        | skip
                          refine s175_101.mpr (s175_102.mpr (s175_103.mpr ?_))
                          refine s175_105.mpr (wif (fun c105 => ?_) (fun c105 => ?_))
                          · first
                            | (exfalso; omega)
                            | skip
                              refine s175_108.mpr (s175_109.mpr ?_)
                              refine (s175_114 (by first | decide | assumption | omega) (by first | decide | assumption | omega)).mpr ?_
                              first | refine v_push (t := 0) h s1 (fun _ => rfl) (fun hi4 s4 f4 => ?_) | refine v_pushN h s1.w (fun hi4 s4 f4 => ?_)
                              refine s175_117.mpr ?_
                              refine (s175_118 (by first | assumption | omega)).mpr ?_
                              first
                              | exact q6 v1 hi1 t1 s1 f1 (by assumption)
                              | exact qA v1 hi4 t1 (f1.tr f4) (by assumption) (by omega) s4
                              | exact qB v1 hi4 t1 ((f1.up wV_5).tr f4) (by assumption) (by omega) s4
                              | (exfalso; omega)
                          · first
                            | (exfalso; omega)
                            | skip
                              exfalso; omega
                  · first
                    | (exfalso; omega)
                    | skip
                      refine s175_72.mpr (s175_73.mpr ?_)
                      refine (s175_74 (by omega)).mpr ?_
                      refine c_namedByG (fun x9 w1 => ?_)
                      refine (s175_77 (by omega)).mpr ?_
                      refine c_typeOf.mpr ?_
                      refine s175_80.mpr (s175_82.mpr (s175_83.mpr ?_))
                      refine s175_85.mpr (wif (fun c85 => ?_) (fun c85 => ?_))
                      · first
                        | (exfalso; omega)
                        | skip
                          exfalso; omega
                      · first
                        | (exfalso; omega)
                        | skip
                          refine s175_101.mpr (s175_102.mpr (s175_103.mpr ?_))
                          refine s175_105.mpr (wif (fun c105 => ?_) (fun c105 => ?_))
                          · first
                            | (exfalso; omega)
                            | skip
                              refine s175_108.mpr (s175_109.mpr ?_)
                              refine (s175_114 (by first | decide | assumption | omega) (by first | decide | assumption | omega)).mpr ?_
                              first | refine v_push (t := 0) h s1 (fun _ => rfl) (fun hi4 s4 f4 => ?_) | refine v_pushN h s1.w (fun hi4 s4 f4 => ?_)
                              refine s175_117.mpr ?_
                              refine (s175_118 (by first | assumption | omega)).mpr ?_
                              first
                              | exact q6 v1 hi1 t1 s1 f1 (by assumption)
                              | exact qA v1 hi4 t1 (f1.tr f4) (by assumption) (by omega) s4
                              | exact qB v1 hi4 t1 ((f1.up wV_5).tr f4) (by assumption) (by omega) s4
                              | (exfalso; omega)
                          · first
                            | (exfalso; omega)
                            | skip
                              exfalso; omega
              · first
                | (exfalso; omega)
                | skip
                  refine s175_47.mpr ?_
                  refine (s175_48 (by omega)).mpr ?_
                  refine c_kindOf.mpr ?_
                  refine s175_51.mpr ?_
                  refine s175_52.mpr (wif (fun c52 => ?_) (fun c52 => ?_))
                  · first
                    | (exfalso; omega)
                    | skip
                      refine s175_55.mpr (s175_56.mpr ?_)
                      refine (s175_60 (by first | decide | assumption | omega) (by first | decide | assumption | omega)).mpr ?_
                      first | refine v_want0 h ?_ | refine v_want1 h ?_
                      refine s175_63.mpr (s175_64.mpr ?_)
                      refine s175_65.mpr (wif (fun c65 => ?_) (fun c65 => ?_))
                      · first
                        | (exfalso; omega)
                        | skip
                          refine s175_68.mpr (s175_69.mpr (s175_80.mpr (s175_82.mpr (s175_83.mpr ?_))))
                          refine s175_85.mpr (wif (fun c85 => ?_) (fun c85 => ?_))
                          · first
                            | (exfalso; omega)
                            | skip
                              exfalso; omega
                          · first
                            | (exfalso; omega)
                            | skip
                              refine s175_101.mpr (s175_102.mpr (s175_103.mpr ?_))
                              refine s175_105.mpr (wif (fun c105 => ?_) (fun c105 => ?_))
                              · first
                                | (exfalso; omega)
                                | skip
                                  refine s175_108.mpr (s175_109.mpr ?_)
                                  refine (s175_114 (by first | decide | assumption | omega) (by first | decide | assumption | omega)).mpr ?_
                                  first | refine v_push (t := 0) h s1 (fun _ => rfl) (fun hi4 s4 f4 => ?_) | refine v_pushN h s1.w (fun hi4 s4 f4 => ?_)
                                  refine s175_117.mpr ?_
                                  refine (s175_118 (by first | assumption | omega)).mpr ?_
                                  first
                                  | exact q6 v1 hi1 t1 s1 f1 (by assumption)
                                  | exact qA v1 hi4 t1 (f1.tr f4) (by assumption) (by omega) s4
                                  | exact qB v1 hi4 t1 ((f1.up wV_5).tr f4) (by assumption) (by omega) s4
                                  | (exfalso; omega)
                              · first
                                | (exfalso; omega)
                                | skip
                                  exfalso; omega
                      · first
                        | (exfalso; omega)
                        | skip
                          refine s175_72.mpr (s175_73.mpr ?_)
                          refine (s175_74 (by omega)).mpr ?_
                          refine c_namedByG (fun x9 w1 => ?_)
                          refine (s175_77 (by omega)).mpr ?_
                          refine c_typeOf.mpr ?_
                          refine s175_80.mpr (s175_82.mpr (s175_83.mpr ?_))
                          refine s175_85.mpr (wif (fun c85 => ?_) (fun c85 => ?_))
                          · first
                            | (exfalso; omega)
                            | skip
                              exfalso; omega
                          · first
                            | (exfalso; omega)
                            | skip
                              refine s175_101.mpr (s175_102.mpr (s175_103.mpr ?_))
                              refine s175_105.mpr (wif (fun c105 => ?_) (fun c105 => ?_))
                              · first
                                | (exfalso; omega)
                                | skip
                                  refine s175_108.mpr (s175_109.mpr ?_)
                                  refine (s175_114 (by first | decide | assumption | omega) (by first | decide | assumption | omega)).mpr ?_
                                  first | refine v_push (t := 0) h s1 (fun _ => rfl) (fun hi4 s4 f4 => ?_) | refine v_pushN h s1.w (fun hi4 s4 f4 => ?_)
                                  refine s175_117.mpr ?_
                                  refine (s175_118 (by first | assumption | omega)).mpr ?_
                                  first
                                  | exact q6 v1 hi1 t1 s1 f1 (by assumption)
                                  | exact qA v1 hi4 t1 (f1.tr f4) (by assumption) (by omega) s4
                                  | exact qB v1 hi4 t1 ((f1.up wV_5).tr f4) (by assumption) (by omega) s4
                                  | (exfalso; omega)
                              · first
                                | (exfalso; omega)
                                | skip
                                  exfalso; omega
                  · first
                    | (exfalso; omega)
                    | skip
                      refine s175_59.mpr ?_
                      refine (s175_60 (by first | decide | assumption | omega) (by first | decide | assumption | omega)).mpr ?_
                      first | refine v_want0 h ?_ | refine v_want1 h ?_
                      refine s175_63.mpr (s175_64.mpr ?_)
                      refine s175_65.mpr (wif (fun c65 => ?_) (fun c65 => ?_))
                      · first
                        | (exfalso; omega)
                        | skip
                          refine s175_68.mpr (s175_69.mpr (s175_80.mpr (s175_82.mpr (s175_83.mpr ?_))))
                          refine s175_85.mpr (wif (fun c85 => ?_) (fun c85 => ?_))
                          · first
                            | (exfalso; omega)
                            | skip
                              exfalso; omega
                          · first
                            | (exfalso; omega)
                            | skip
                              refine s175_101.mpr (s175_102.mpr (s175_103.mpr ?_))
                              refine s175_105.mpr (wif (fun c105 => ?_) (fun c105 => ?_))
                              · first
                                | (exfalso; omega)
                                | skip
                                  refine s175_108.mpr (s175_109.mpr ?_)
                                  refine (s175_114 (by first | decide | assumption | omega) (by first | decide | assumption | omega)).mpr ?_
                                  first | refine v_push (t := 0) h s1 (fun _ => rfl) (fun hi4 s4 f4 => ?_) | refine v_pushN h s1.w (fun hi4 s4 f4 => ?_)
                                  refine s175_117.mpr ?_
                                  refine (s175_118 (by first | assumption | omega)).mpr ?_
                                  first
                                  | exact q6 v1 hi1 t1 s1 f1 (by assumption)
                                  | exact qA v1 hi4 t1 (f1.tr f4) (by assumption) (by omega) s4
                                  | exact qB v1 hi4 t1 ((f1.up wV_5).tr f4) (by assumption) (by omega) s4
                                  | (exfalso; omega)
                              · first
                                | (exfalso; omega)
                                | skip
                                  exfalso; omega
                      · first
                        | (exfalso; omega)
                        | skip
                          refine s175_72.mpr (s175_73.mpr ?_)
                          refine (s175_74 (by omega)).mpr ?_
                          refine c_namedByG (fun x9 w1 => ?_)
                          refine (s175_77 (by omega)).mpr ?_
                          refine c_typeOf.mpr ?_
                          refine s175_80.mpr (s175_82.mpr (s175_83.mpr ?_))
                          refine s175_85.mpr (wif (fun c85 => ?_) (fun c85 => ?_))
                          · first
                            | (exfalso; omega)
                            | skip
                              exfalso; omega
                          · first
                            | (exfalso; omega)
                            | skip
                              refine s175_101.mpr (s175_102.mpr (s175_103.mpr ?_))
                              refine s175_105.mpr (wif (fun c105 => ?_) (fun c105 => ?_))
                              · first
                                | (exfalso; omega)
                                | skip
                                  refine s175_108.mpr (s175_109.mpr ?_)
                                  refine (s175_114 (by first | decide | assumption | omega) (by first | decide | assumption | omega)).mpr ?_
                                  first | refine v_push (t := 0) h s1 (fun _ => rfl) (fun hi4 s4 f4 => ?_) | refine v_pushN h s1.w (fun hi4 s4 f4 => ?_)
                                  refine s175_117.mpr ?_
                                  refine (s175_118 (by first | assumption | omega)).mpr ?_
                                  first
                                  | exact q6 v1 hi1 t1 s1 f1 (by assumption)
                                  | exact qA v1 hi4 t1 (f1.tr f4) (by assumption) (by omega) s4
                                  | exact qB v1 hi4 t1 ((f1.up wV_5).tr f4) (by assumption) (by omega) s4
                                  | (exfalso; omega)
                              · first
                                | (exfalso; omega)
                                | skip
                                  exfalso; omega
      · first
        | (exfalso; omega)
        | skip
          exfalso; omega
end DV1
