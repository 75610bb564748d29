section DV0
variable {d : Nat} {al : AL} {hi : HI} {hr : HR} {Q : QQ} {B : Int → Int} {N : Nat} {n : Int} {f : Int}
theorem VF.z {c : Prop} {a q : Int} {Y : Tst} (hc : c) (ha : a = 6) (h : ∃ Z, VS (some Z) hi) : VF (onw c (if a = 6 then [] else [(q, Y)])) 0 hi := by
  rw [onw_p hc, if_pos ha]
  exact Or.inr (Or.inl ⟨rfl, h, rfl⟩)
theorem VF.g {c : Prop} {a q : Int} {Y : Tst} (hc : c) (ha : a ≠ 6) (h : VS (nxO (some [(q, Y)])) hi) : VF (onw c (if a = 6 then [] else [(q, Y)])) 1 hi := by
  rw [if_neg ha]
  exact VF.of (by rw [onw_p hc]; exact h)
theorem VF.nn {c : Prop} {fl : List (Int × Tst)} {x : Int} (hc : ¬ c) (h : VS none hi) (hx : x = 0 ∨ x = 1) : VF (onw c fl) x hi := by rw [onw_n hc]; exact VF.no h hx
/-- a node's field is taken -/
theorem v_get {v p : Int} {X : Tst} {M : Nat} (h : VR al hr) (hd : 2 ≤ d) (hM : ModV al hi hr N n B M) (hT : TxV B n) (hN : hr 8 7 = some N) (hs : VS (some X) hi) (hv : vX B X) (v0 : 0 ≤ v)
    (q : ∀ x hi', (x = 0 ∨ x = 1) → VF (tsH B f 23 v p X) x hi' → FW wV hi hi' → Q (some (some (vI x))) al hi' hr) : Ev d 174 [vR (some 8), vI 23, vI v] al hi hr Q := by
  have k8 := h.k8; have k11 := h.k11; have k12 := h.k12; have l11 := h.l11; have l12 := h.l12; have r1 := h.2.2.1; have r2 := h.2.2.2.1
  have kN := hM.1.1.1
  have c16 := hs.2.2.2.1
  have et : tsH B f 23 v p X = onw (0 < X.1 ∧ (X.2.1 (X.1 - 1) = 6 ∨ (kindM (X.2.1 (X.1 - 1)) = 1 ∧ v < nFld B (whichM (X.2.1 (X.1 - 1)))))) (if X.2.1 (X.1 - 1) = 6 then [] else [(p + 2, (X.1, up1 X.2.1 (X.1 - 1) (fTy B (whichM (X.2.1 (X.1 - 1))) v), X.2.2))]) := rfl
  rw [et] at q
  have key : ∀ v1 x9 hi1, topV (some X) v1 → (rng v1 → x9 = v1 / 16 % 256) → FW wV hi hi1 → 0 < X.1 → v1 % 16 = 1 → tfR hi1 N x9 v = if v < nFld B (whichM (X.2.1 (X.1 - 1))) then cv (fTy B (whichM (X.2.1 (X.1 - 1))) v) else -1 := fun v1 x9 hi1 t1 w1 f1 c k => by
    obtain ⟨k1, k2, k3, k4⟩ := top_of rfl hv t1 c
    have hvt := hv.2.1 (X.1 - 1) (by omega) (by omega)
    rw [w1 k3, k4]
    exact (hM.wv f1).tf hT (by unfold whichM; omega) (hvt.2.2.2.2.2.2.1 (by omega)) v0
  have t6 : ∀ v1, topV (some X) v1 → 0 < X.1 → (v1 = 6 ↔ X.2.1 (X.1 - 1) = 6) := fun v1 t1 c => by
    rw [t1 X rfl c]; exact cv_c (hv.2.1 _ (by omega) (by omega)).r (by decide) (by decide)
  have q6 : ∀ v1 hi1, topV (some X) v1 → VS (popO (some X)) hi1 → FW wV hi hi1 → v1 = 6 → Q (some (some (vI 0))) al hi1 hr := fun v1 hi1 t1 s1 f1 e => q 0 hi1 (Or.inl rfl) (by
    by_cases c : 0 < X.1
    · have e6 := (t6 v1 t1 c).mp e
      rw [pop_y c] at s1
      exact VF.z ⟨c, Or.inl e6⟩ e6 ⟨_, s1⟩
    · rw [pop_n c] at s1; exact VF.nn (fun z => c z.1) s1 (Or.inl rfl)) f1
  have qA : ∀ v1 x9 hi1 hi4, topV (some X) v1 → (rng v1 → x9 = v1 / 16 % 256) → FW wV hi hi1 → FW wV hi1 hi4 → v1 ≠ 6 → v1 % 16 = 1 → tfR hi1 N x9 v ≠ -1 → VS (pushO (popO (some X)) (fTy B (whichM (X.2.1 (X.1 - 1))) v)) hi4 → Q (some (some (vI 1))) al hi4 hr := fun v1 x9 hi1 hi4 t1 w1 f1 f4 n6 k nt s4 => q 1 hi4 (Or.inr rfl) (by
    by_cases c : 0 < X.1
    · have e := key v1 x9 hi1 t1 w1 f1 c k
      have k2 := (top_of rfl hv t1 c).2.1
      have hlt : v < nFld B (whichM (X.2.1 (X.1 - 1))) := by
        apply Classical.byContradiction; intro z; rw [if_neg z] at e; exact nt e
      refine VF.g ⟨c, Or.inr ⟨by omega, hlt⟩⟩ (fun z => n6 ((t6 v1 t1 c).mpr z)) ?_
      rw [nx_y (by show X.1 ≤ 16; omega)]
      rw [pop_y c, push_y (by show X.1 - 1 < 16; omega)] at s4
      simp only [Int.sub_add_cancel] at s4
      exact s4
    · rw [pop_n c] at s4; exact VF.nn (fun z => c z.1) s4 (Or.inr rfl)) (f1.tr f4)
  have qB : ∀ v1 x9 hi1 hi4, topV (some X) v1 → (rng v1 → x9 = v1 / 16 % 256) → FW wV hi hi1 → FW wV hi hi4 → v1 ≠ 6 → (v1 % 16 ≠ 1 ∨ tfR hi1 N x9 v = -1) → VS none hi4 → Q (some (some (vI 1))) al hi4 hr := fun v1 x9 hi1 hi4 t1 w1 f1 f4 n6 k s4 => q 1 hi4 (Or.inr rfl) (VF.nn (fun z => by
    obtain ⟨c, z⟩ := z
    rcases z with z | z
    · exact n6 ((t6 v1 t1 c).mpr z)
    · have k2 := (top_of rfl hv t1 c).2.1
      have hvt := hv.2.1 (X.1 - 1) (by omega) (by omega)
      have e := key v1 x9 hi1 t1 w1 f1 c (by omega)
      rw [if_pos z.2] at e
      rcases k with k | k
      · omega
      · rw [k] at e
        exact cv_m (hT.2.2.1 _ v (by unfold whichM; omega) (hvt.2.2.2.2.2.2.1 (by omega)) v0 z.2).1.r e.symm) s4 (Or.inr rfl)) f4
  rw [e174]
  refine s174_0.mpr (s174_1.mpr ?_)
  refine s174_3.mpr (wif (fun c3 => ?_) (fun c3 => ?_))
  · first
    | (exfalso; omega)
    | skip
      exfalso; omega
  · first
    | (exfalso; omega)
    | skip
      refine s174_13.mpr (s174_14.mpr (s174_15.mpr ?_))
      refine (s174_16 (by first | decide | assumption | omega) (by first | decide | assumption | omega)).mpr ?_
      refine v_pop h hs (fun v1 hi1 s1 f1 t1 => ?_)
      refine s174_19.mpr (s174_21.mpr (s174_23.mpr ?_))
      refine s174_25.mpr (wif (fun c25 => ?_) (fun c25 => ?_))
      · first
        | (exfalso; omega)
        | skip
          refine s174_28.mpr ?_
          refine (s174_29 (by first | assumption | omega)).mpr ?_
          first
          | exact q6 v1 hi1 t1 s1 f1 (by assumption)
          | exact qA v1 x9 hi1 hi4 t1 w1 f1 f4 (by assumption) (by assumption) (by assumption) s4
          | exact qB v1 x9 hi1 hi4 t1 w1 f1 ((f1.up wV_5).tr f4) (by assumption) (by omega) s4
          | exact qB v1 (v1 / 16 % 256) hi1 hi4 t1 (fun _ => rfl) f1 ((f1.up wV_5).tr f4) (by assumption) (by omega) s4
          | (exfalso; omega)
      · first
        | (exfalso; omega)
        | skip
          refine s174_30.mpr ?_
          refine (s174_32 (by omega)).mpr ?_
          refine c_kindOf.mpr ?_
          refine s174_35.mpr ?_
          refine s174_36.mpr (wif (fun c36 => ?_) (fun c36 => ?_))
          · first
            | (exfalso; omega)
            | skip
              refine s174_39.mpr ?_
              refine (s174_40 (by first | decide | assumption | omega)).mpr ?_
              refine s174_43.mpr ?_
              try simp (disch := first | decide | assumption | omega) only [kon, knt_some, knt_none, Option.toList_some, Option.toList_none, List.cons_append, List.nil_append, hN]
              refine (s174_45 (by omega)).mpr ?_
              refine c_namedByG (fun x9 w1 => ?_)
              refine s174_48.mpr ?_
              refine (s174_49 (by first | decide | assumption | omega) (by first | decide | assumption | omega)).mpr ?_
              refine t_typeOfField hM.1.1 (by omega) (hM.wv f1).2.2.2.2.2.2.1 ?_
              refine s174_52.mpr (s174_56.mpr (s174_58.mpr (s174_59.mpr (s174_61.mpr ?_))))
              refine s174_62.mpr (wif (fun c62 => ?_) (fun c62 => ?_))
              · first
                | (exfalso; omega)
                | skip
                  refine s174_69.mpr ?_
                  refine (s174_70 (by first | decide | assumption | omega) (by first | decide | assumption | omega)).mpr ?_
                  first | refine v_want0 h ?_ | refine v_want1 h ?_
                  refine s174_73.mpr (s174_74.mpr ?_)
                  refine s174_76.mpr (wif (fun c76 => ?_) (fun c76 => ?_))
                  · first
                    | (exfalso; omega)
                    | skip
                      exfalso; omega
                  · first
                    | (exfalso; omega)
                    | skip
                      refine s174_92.mpr (s174_93.mpr ?_)
                      refine (s174_95 (by first | decide | assumption | omega) (by first | decide | assumption | omega)).mpr ?_
                      first
                      | refine v_pushN h s1.w (fun hi4 s4 f4 => ?_)
                      | refine v_push (t := fTy B (whichM (X.2.1 (X.1 - 1))) v) h s1 (fun z => by
                          have c := nn_pop rfl z
                          have e := key v1 x9 hi1 t1 w1 f1 c (by assumption)
                          rw [e]
                          by_cases y : v < nFld B (whichM (X.2.1 (X.1 - 1)))
                          · exact if_pos y
                          · rw [if_neg y] at e; exact absurd e (by assumption)) (fun hi4 s4 f4 => ?_)
                      | (exfalso; omega)
                      refine s174_98.mpr ?_
                      refine (s174_99 (by first | assumption | omega)).mpr ?_
                      first
                      | exact q6 v1 hi1 t1 s1 f1 (by assumption)
                      | exact qA v1 x9 hi1 hi4 t1 w1 f1 f4 (by assumption) (by assumption) (by assumption) s4
                      | exact qB v1 x9 hi1 hi4 t1 w1 f1 ((f1.up wV_5).tr f4) (by assumption) (by omega) s4
                      | exact qB v1 (v1 / 16 % 256) hi1 hi4 t1 (fun _ => rfl) f1 ((f1.up wV_5).tr f4) (by assumption) (by omega) s4
                      | (exfalso; omega)
              · first
                | (exfalso; omega)
                | skip
                  refine s174_65.mpr (s174_66.mpr ?_)
                  refine (s174_70 (by first | decide | assumption | omega) (by first | decide | assumption | omega)).mpr ?_
                  first | refine v_want0 h ?_ | refine v_want1 h ?_
                  refine s174_73.mpr (s174_74.mpr ?_)
                  refine s174_76.mpr (wif (fun c76 => ?_) (fun c76 => ?_))
                  · first
                    | (exfalso; omega)
                    | skip
                      exfalso; omega
                  · first
                    | (exfalso; omega)
                    | skip
                      refine s174_92.mpr (s174_93.mpr ?_)
                      refine (s174_95 (by first | decide | assumption | omega) (by first | decide | assumption | omega)).mpr ?_
                      first
                      | refine v_pushN h s1.w (fun hi4 s4 f4 => ?_)
                      | refine v_push (t := fTy B (whichM (X.2.1 (X.1 - 1))) v) h s1 (fun z => by
                          have c := nn_pop rfl z
                          have e := key v1 x9 hi1 t1 w1 f1 c (by assumption)
                          rw [e]
                          by_cases y : v < nFld B (whichM (X.2.1 (X.1 - 1)))
                          · exact if_pos y
                          · rw [if_neg y] at e; exact absurd e (by assumption)) (fun hi4 s4 f4 => ?_)
                      | (exfalso; omega)
                      refine s174_98.mpr ?_
                      refine (s174_99 (by first | assumption | omega)).mpr ?_
                      first
                      | exact q6 v1 hi1 t1 s1 f1 (by assumption)
                      | exact qA v1 x9 hi1 hi4 t1 w1 f1 f4 (by assumption) (by assumption) (by assumption) s4
                      | exact qB v1 x9 hi1 hi4 t1 w1 f1 ((f1.up wV_5).tr f4) (by assumption) (by omega) s4
                      | exact qB v1 (v1 / 16 % 256) hi1 hi4 t1 (fun _ => rfl) f1 ((f1.up wV_5).tr f4) (by assumption) (by omega) s4
                      | (exfalso; omega)
          · first
            | (exfalso; omega)
            | skip
              refine s174_55.mpr (s174_56.mpr (s174_58.mpr (s174_59.mpr (s174_61.mpr ?_))))
              refine s174_62.mpr (wif (fun c62 => ?_) (fun c62 => ?_))
              · first
                | (exfalso; omega)
                | skip
                  refine s174_69.mpr ?_
                  refine (s174_70 (by first | decide | assumption | omega) (by first | decide | assumption | omega)).mpr ?_
                  first | refine v_want0 h ?_ | refine v_want1 h ?_
                  refine s174_73.mpr (s174_74.mpr ?_)
                  refine s174_76.mpr (wif (fun c76 => ?_) (fun c76 => ?_))
                  · first
                    | (exfalso; omega)
                    | skip
                      exfalso; omega
                  · first
                    | (exfalso; omega)
                    | skip
                      refine s174_92.mpr (s174_93.mpr ?_)
                      refine (s174_95 (by first | decide | assumption | omega) (by first | decide | assumption | omega)).mpr ?_
                      first
                      | refine v_pushN h s1.w (fun hi4 s4 f4 => ?_)
                      | refine v_push (t := fTy B (whichM (X.2.1 (X.1 - 1))) v) h s1 (fun z => by
                          have c := nn_pop rfl z
                          have e := key v1 x9 hi1 t1 w1 f1 c (by assumption)
                          rw [e]
                          by_cases y : v < nFld B (whichM (X.2.1 (X.1 - 1)))
                          · exact if_pos y
                          · rw [if_neg y] at e; exact absurd e (by assumption)) (fun hi4 s4 f4 => ?_)
                      | (exfalso; omega)
                      refine s174_98.mpr ?_
                      refine (s174_99 (by first | assumption | omega)).mpr ?_
                      first
                      | exact q6 v1 hi1 t1 s1 f1 (by assumption)
                      | exact qA v1 x9 hi1 hi4 t1 w1 f1 f4 (by assumption) (by assumption) (by assumption) s4
                      | exact qB v1 x9 hi1 hi4 t1 w1 f1 ((f1.up wV_5).tr f4) (by assumption) (by omega) s4
                      | exact qB v1 (v1 / 16 % 256) hi1 hi4 t1 (fun _ => rfl) f1 ((f1.up wV_5).tr f4) (by assumption) (by omega) s4
                      | (exfalso; omega)
              · first
                | (exfalso; omega)
                | skip
                  refine s174_65.mpr (s174_66.mpr ?_)
                  refine (s174_70 (by first | decide | assumption | omega) (by first | decide | assumption | omega)).mpr ?_
                  first | refine v_want0 h ?_ | refine v_want1 h ?_
                  refine s174_73.mpr (s174_74.mpr ?_)
                  refine s174_76.mpr (wif (fun c76 => ?_) (fun c76 => ?_))
                  · first
                    | (exfalso; omega)
                    | skip
                      exfalso; omega
                  · first
                    | (exfalso; omega)
                    | skip
                      refine s174_92.mpr (s174_93.mpr ?_)
                      refine (s174_95 (by first | decide | assumption | omega) (by first | decide | assumption | omega)).mpr ?_
                      first
                      | refine v_pushN h s1.w (fun hi4 s4 f4 => ?_)
                      | refine v_push (t := fTy B (whichM (X.2.1 (X.1 - 1))) v) h s1 (fun z => by
                          have c := nn_pop rfl z
                          have e := key v1 x9 hi1 t1 w1 f1 c (by assumption)
                          rw [e]
                          by_cases y : v < nFld B (whichM (X.2.1 (X.1 - 1)))
                          · exact if_pos y
                          · rw [if_neg y] at e; exact absurd e (by assumption)) (fun hi4 s4 f4 => ?_)
                      | (exfalso; omega)
                      refine s174_98.mpr ?_
                      refine (s174_99 (by first | assumption | omega)).mpr ?_
                      first
                      | exact q6 v1 hi1 t1 s1 f1 (by assumption)
                      | exact qA v1 x9 hi1 hi4 t1 w1 f1 f4 (by assumption) (by assumption) (by assumption) s4
                      | exact qB v1 x9 hi1 hi4 t1 w1 f1 ((f1.up wV_5).tr f4) (by assumption) (by omega) s4
                      | exact qB v1 (v1 / 16 % 256) hi1 hi4 t1 (fun _ => rfl) f1 ((f1.up wV_5).tr f4) (by assumption) (by omega) s4
                      | (exfalso; omega)
end DV0
