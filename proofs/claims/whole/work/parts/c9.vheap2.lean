section CV9
variable {d : Nat} {al : AL} {hi : HI} {hr : HR} {Q : QQ} {B : Int → Int} {N : Nat} {n : Int} {f : Int}
/-- the top of a state that came of another -/
theorem top_of {o : Option Tst} {Y : Tst} {v1 : Int} (e : o = some Y) (hv : vX B Y) (t1 : topV o v1) (c : 0 < Y.1) : v1 = cv (Y.2.1 (Y.1 - 1)) ∧ v1 % 16 = kindM (Y.2.1 (Y.1 - 1)) ∧ rng v1 ∧ v1 / 16 % 256 = whichM (Y.2.1 (Y.1 - 1)) := by
  have hv1 := (hv.2.1 (Y.1 - 1) (by omega) (by omega)).r
  have e2 := t1 Y e c
  rw [e2]
  exact ⟨rfl, cv_k hv1, cv_r hv1, cv_w hv1⟩
theorem v_blk35 {v p : Int} {X : Tst} (h : VR al hr) (hd : 2 ≤ d) (hs : VS (some X) hi) (hv : vX B X)
    (q : ∀ hi', VF (tsL B f 35 v p X) 1 hi' → FW wV hi hi' → Q (some (some (vI 1))) al hi' hr) : Ev d 180 [vR (some 8), vI 35, vI v] al hi hr Q := by
  have k8 := h.k8; have k11 := h.k11; have k12 := h.k12; have l11 := h.l11; have l12 := h.l12; have r1 := h.2.2.1; have r2 := h.2.2.2.1
  have c16 := hs.2.2.2.1
  have et : tsL B f 35 v p X = onw (0 < X.1 ∧ kindM (X.2.1 (X.1 - 1)) = 4) [(p + 1, (X.1 - 1, X.2.1, X.2.2))] := rfl
  rw [et] at q
  rw [e180]
  refine s180_0.mpr (s180_1.mpr ?_)
  refine s180_3.mpr (wif (fun c3 => ?_) (fun c3 => ?_))
  · first
    | (exfalso; omega)
    | skip
      exfalso; omega
  · first
    | (exfalso; omega)
    | skip
      refine s180_17.mpr (s180_18.mpr ?_)
      refine s180_20.mpr (wif (fun c20 => ?_) (fun c20 => ?_))
      · first
        | (exfalso; omega)
        | skip
          exfalso; omega
      · first
        | (exfalso; omega)
        | skip
          refine s180_27.mpr ?_
          refine (s180_28 (by first | decide | assumption | omega) (by first | decide | assumption | omega)).mpr ?_
          refine v_pop h hs (fun v1 hi1 s1 f1 t1 => ?_)
          refine s180_31.mpr (s180_32.mpr (s180_33.mpr ?_))
          refine (s180_34 (by omega)).mpr ?_
          refine c_kindOf.mpr ?_
          refine s180_37.mpr ?_
          refine s180_38.mpr (wif (fun c38 => ?_) (fun c38 => ?_))
          · first
            | (exfalso; omega)
            | skip
              refine s180_41.mpr (s180_42.mpr ?_)
              refine (s180_46 (by first | decide | assumption | omega) (by first | decide | assumption | omega)).mpr ?_
              first | refine v_want0 h ?_ | refine v_want1 h ?_
              refine s180_49.mpr (s180_50.mpr ?_)
              refine s180_52.mpr (wif (fun c52 => ?_) (fun c52 => ?_))
              · first
                | (exfalso; omega)
                | skip
                  refine s180_84.mpr (s180_85.mpr ?_)
                  refine s180_87.mpr (wif (fun c87 => ?_) (fun c87 => ?_))
                  · first
                    | (exfalso; omega)
                    | skip
                      exfalso; omega
                  · first
                    | (exfalso; omega)
                    | skip
                      refine s180_95.mpr ?_
                      refine (s180_96 (by first | assumption | omega)).mpr ?_
                      first
                      | (refine q _ ?_ f1
                         by_cases c : 0 < X.1
                         · have k2 := (top_of rfl hv t1 c).2.1
                           rw [pop_y c] at s1
                           refine VF.of ?_
                           rw [onw_p ⟨c, by omega⟩, nx_y (by show X.1 - 1 ≤ 16; omega)]; exact s1
                         · rw [pop_n c] at s1; rw [onw_n (fun z => c z.1)]; exact VF.no s1 (Or.inr rfl))
                      | (refine q _ ?_ (f1.up wV_5)
                         rw [onw_n (fun z => by have k2 := (top_of rfl hv t1 z.1).2.1; omega)]; exact VF.no s1.w (Or.inr rfl))
              · first
                | (exfalso; omega)
                | skip
                  exfalso; omega
          · first
            | (exfalso; omega)
            | skip
              refine s180_45.mpr ?_
              refine (s180_46 (by first | decide | assumption | omega) (by first | decide | assumption | omega)).mpr ?_
              first | refine v_want0 h ?_ | refine v_want1 h ?_
              refine s180_49.mpr (s180_50.mpr ?_)
              refine s180_52.mpr (wif (fun c52 => ?_) (fun c52 => ?_))
              · first
                | (exfalso; omega)
                | skip
                  refine s180_84.mpr (s180_85.mpr ?_)
                  refine s180_87.mpr (wif (fun c87 => ?_) (fun c87 => ?_))
                  · first
                    | (exfalso; omega)
                    | skip
                      exfalso; omega
                  · first
                    | (exfalso; omega)
                    | skip
                      refine s180_95.mpr ?_
                      refine (s180_96 (by first | assumption | omega)).mpr ?_
                      first
                      | (refine q _ ?_ f1
                         by_cases c : 0 < X.1
                         · have k2 := (top_of rfl hv t1 c).2.1
                           rw [pop_y c] at s1
                           refine VF.of ?_
                           rw [onw_p ⟨c, by omega⟩, nx_y (by show X.1 - 1 ≤ 16; omega)]; exact s1
                         · rw [pop_n c] at s1; rw [onw_n (fun z => c z.1)]; exact VF.no s1 (Or.inr rfl))
                      | (refine q _ ?_ (f1.up wV_5)
                         rw [onw_n (fun z => by have k2 := (top_of rfl hv t1 z.1).2.1; omega)]; exact VF.no s1.w (Or.inr rfl))
              · first
                | (exfalso; omega)
                | skip
                  exfalso; omega
theorem v_blk34 {v p : Int} {X : Tst} {M : Nat} (h : VR al hr) (hd : 2 ≤ d) (hM : ModV al hi hr N n B M) (hT : TxV B n) (hN : hr 8 7 = some N) (hs : VS (some X) hi) (hv : vX B X)
    (q : ∀ hi', VF (tsL B f 34 v p X) 1 hi' → FW wV hi hi' → Q (some (some (vI 1))) al hi' hr) : Ev d 180 [vR (some 8), vI 34, vI v] al hi hr Q := by
  have k8 := h.k8; have k11 := h.k11; have k12 := h.k12; have l11 := h.l11; have l12 := h.l12; have r1 := h.2.2.1; have r2 := h.2.2.2.1
  have kN := hM.1.1.1
  have c16 := hs.2.2.2.1
  have et : tsL B f 34 v p X = onw (1 < X.1 ∧ X.2.1 (X.1 - 1) = 0 ∧ kindM (X.2.1 (X.1 - 2)) = 4 ∧ v < nFld B (whichM (X.2.1 (X.1 - 2)))) [(p + 2, (X.1 - 1, X.2.1, X.2.2))] := rfl
  rw [et] at q
  let Y : Tst := (X.1 - 1, X.2.1, X.2.2)
  have hY : ∀ Z, popI (some X) = some Z → vX B Z := popI_v hv
  have cI : (0 < X.1 ∧ X.2.1 (X.1 - 1) = 0 ∧ popI (some X) = some Y) ∨ (¬ (0 < X.1 ∧ X.2.1 (X.1 - 1) = 0) ∧ popI (some X) = none) := by
    by_cases c : 0 < X.1 ∧ X.2.1 (X.1 - 1) = 0
    · exact Or.inl ⟨c.1, c.2, popI_y c.1 c.2⟩
    · exact Or.inr ⟨c, popI_n c⟩
  have e2 : X.1 - 1 - 1 = X.1 - 2 := by omega
  -- what the second pop finds
  have tY : ∀ v1, topV (popI (some X)) v1 → 1 < X.1 → X.2.1 (X.1 - 1) = 0 → v1 = cv (X.2.1 (X.1 - 2)) ∧ v1 % 16 = kindM (X.2.1 (X.1 - 2)) ∧ rng v1 ∧ v1 / 16 % 256 = whichM (X.2.1 (X.1 - 2)) := fun v1 t1 c1 c2 => by
    have e := popI_y (X := X) (by omega) c2
    have := top_of e (hY _ e) t1 (by show 0 < X.1 - 1; omega)
    simp only [e2] at this
    exact this
  have key : ∀ v1 x9 hi1, topV (popI (some X)) v1 → (rng v1 → x9 = v1 / 16 % 256) → FW wV hi hi1 → 1 < X.1 → X.2.1 (X.1 - 1) = 0 → v1 % 16 = 4 → szR hi1 N x9 = nFld B (whichM (X.2.1 (X.1 - 2))) := fun v1 x9 hi1 t1 w1 f1 c1 c2 k => by
    obtain ⟨k1, k2, k3, k4⟩ := tY v1 t1 c1 c2
    have hvt := hv.2.1 (X.1 - 2) (by omega) (by omega)
    rw [w1 k3, k4]
    exact (hM.wv f1).sz hT (by unfold whichM; omega) (hvt.2.2.2.2.2.2.1 (by omega))
  have qN : ∀ hi', VS none hi' → FW wV hi hi' → ¬ (1 < X.1 ∧ X.2.1 (X.1 - 1) = 0 ∧ kindM (X.2.1 (X.1 - 2)) = 4 ∧ v < nFld B (whichM (X.2.1 (X.1 - 2)))) → Q (some (some (vI 1))) al hi' hr := fun hi' s f1 c => q hi' (by rw [onw_n c]; exact VF.no s (Or.inr rfl)) f1
  have pp : popO (popI (some X)) ≠ none → 1 < X.1 ∧ X.2.1 (X.1 - 1) = 0 := fun z => by
    rcases cI with ⟨c1, c2, c3⟩ | ⟨c1, c2⟩
    · rw [c3] at z
      exact ⟨by have := nn_pop rfl z; show 1 < X.1; have this : 0 < X.1 - 1 := this; omega, c2⟩
    · rw [c2] at z; exact absurd rfl z
  rw [e180]
  refine s180_0.mpr (s180_1.mpr ?_)
  refine s180_3.mpr (wif (fun c3 => ?_) (fun c3 => ?_))
  · first
    | (exfalso; omega)
    | skip
      exfalso; omega
  · first
    | (exfalso; omega)
    | skip
      refine s180_17.mpr (s180_18.mpr ?_)
      refine s180_20.mpr (wif (fun c20 => ?_) (fun c20 => ?_))
      · first
        | (exfalso; omega)
        | skip
          refine s180_23.mpr ?_
          refine (s180_24 (by first | decide | assumption | omega) (by first | decide | assumption | omega)).mpr ?_
          refine v_popInt h (by omega) hs (fun Z e => by cases e; exact hv) (fun hi0 s0 f0 => ?_)
          refine s180_27.mpr ?_
          refine (s180_28 (by first | decide | assumption | omega) (by first | decide | assumption | omega)).mpr ?_
          first | refine v_pop h s0 (fun v1 hi1 s1 f1 t1 => ?_) | (exfalso; omega)
          refine s180_31.mpr (s180_32.mpr (s180_33.mpr ?_))
          refine (s180_34 (by omega)).mpr ?_
          refine c_kindOf.mpr ?_
          refine s180_37.mpr ?_
          refine s180_38.mpr (wif (fun c38 => ?_) (fun c38 => ?_))
          · first
            | (exfalso; omega)
            | skip
              refine s180_41.mpr (s180_42.mpr ?_)
              refine (s180_46 (by first | decide | assumption | omega) (by first | decide | assumption | omega)).mpr ?_
              first | refine v_want0 h ?_ | refine v_want1 h ?_
              refine s180_49.mpr (s180_50.mpr ?_)
              refine s180_52.mpr (wif (fun c52 => ?_) (fun c52 => ?_))
              · first
                | (exfalso; omega)
                | skip
                  refine s180_84.mpr (s180_85.mpr ?_)
                  refine s180_87.mpr (wif (fun c87 => ?_) (fun c87 => ?_))
                  · first
                    | (exfalso; omega)
                    | skip
                      exfalso; omega
                  · first
                    | (exfalso; omega)
                    | skip
                      refine s180_95.mpr ?_
                      refine (s180_96 (by first | assumption | omega)).mpr ?_
                      first
                      | (by_cases c : 1 < X.1 ∧ X.2.1 (X.1 - 1) = 0
                         · rw [key v1 x9 hi1 t1 w1 (f0.tr f1) c.1 c.2 (by assumption)] at c68
                           refine q _ (VF.of ?_) ((f0.tr f1).tr f4)
                           rw [onw_p ⟨c.1, c.2, by have := (tY v1 t1 c.1 c.2).2.1; omega, c68⟩, nx_y (by show X.1 - 1 ≤ 16; omega)]
                           rw [popI_y (by omega) c.2, pop_y (by show 0 < X.1 - 1; omega), push_y (by show X.1 - 1 - 1 < 16; omega)] at s4
                           simp only [Int.sub_add_cancel] at s4
                           simp only [e2, up1_sf] at s4
                           exact s4
                         · refine qN _ ?_ ((f0.tr f1).tr f4) (fun z => c ⟨z.1, z.2.1⟩)
                           have : popO (popI (some X)) = none := Classical.byContradiction fun z => c (pp z)
                           rw [this] at s4; exact s4)
                      | (refine qN _ s4 (((f0.tr f1).up wV_5).tr f4) (fun z => ?_)
                         have k2 := (tY v1 t1 z.1 z.2.1).2.1
                         have c68 := c68
                         first
                         | (exfalso; omega)
                         | (rw [key v1 x9 hi1 t1 w1 (f0.tr f1) z.1 z.2.1 (by assumption)] at c68; exact absurd z.2.2.2 c68))
                      | (refine qN _ s4 ((((f0.tr f1).up wV_5).up wV_5).tr f4) (fun z => ?_)
                         have k2 := (tY v1 t1 z.1 z.2.1).2.1
                         omega)
              · first
                | (exfalso; omega)
                | skip
                  refine s180_55.mpr (s180_56.mpr (s180_57.mpr ?_))
                  refine (s180_58 (by first | decide | assumption | omega)).mpr ?_
                  refine s180_61.mpr ?_
                  try simp (disch := first | decide | assumption | omega) only [kon, knt_some, knt_none, Option.toList_some, Option.toList_none, List.cons_append, List.nil_append, hN]
                  refine (s180_62 (by omega)).mpr ?_
                  refine c_namedByG (fun x9 w1 => ?_)
                  refine (s180_65 (by first | decide | assumption | omega) (by first | decide | assumption | omega)).mpr ?_
                  refine t_sizeOfRecord hM.1.1 ?_
                  refine s180_68.mpr (wif (fun c68 => ?_) (fun c68 => ?_))
                  · first
                    | (exfalso; omega)
                    | skip
                      refine s180_71.mpr (s180_72.mpr ?_)
                      refine (s180_76 (by first | decide | assumption | omega) (by first | decide | assumption | omega)).mpr ?_
                      first | refine v_want0 h ?_ | refine v_want1 h ?_
                      refine s180_79.mpr (s180_80.mpr ?_)
                      refine (s180_81 (by first | decide | assumption | omega) (by first | decide | assumption | omega)).mpr ?_
                      first
                      | refine v_push (t := X.2.1 (X.1 - 2)) h s1 (fun z => (tY v1 t1 (pp z).1 (pp z).2).1) (fun hi4 s4 f4 => ?_)
                      | refine v_pushN h s1.w (fun hi4 s4 f4 => ?_)
                      | refine v_pushN h s1.w.w (fun hi4 s4 f4 => ?_)
                      refine s180_84.mpr (s180_85.mpr ?_)
                      refine s180_87.mpr (wif (fun c87 => ?_) (fun c87 => ?_))
                      · first
                        | (exfalso; omega)
                        | skip
                          exfalso; omega
                      · first
                        | (exfalso; omega)
                        | skip
                          refine s180_95.mpr ?_
                          refine (s180_96 (by first | assumption | omega)).mpr ?_
                          first
                          | (by_cases c : 1 < X.1 ∧ X.2.1 (X.1 - 1) = 0
                             · rw [key v1 x9 hi1 t1 w1 (f0.tr f1) c.1 c.2 (by assumption)] at c68
                               refine q _ (VF.of ?_) ((f0.tr f1).tr f4)
                               rw [onw_p ⟨c.1, c.2, by have := (tY v1 t1 c.1 c.2).2.1; omega, c68⟩, nx_y (by show X.1 - 1 ≤ 16; omega)]
                               rw [popI_y (by omega) c.2, pop_y (by show 0 < X.1 - 1; omega), push_y (by show X.1 - 1 - 1 < 16; omega)] at s4
                               simp only [Int.sub_add_cancel] at s4
                               simp only [e2, up1_sf] at s4
                               exact s4
                             · refine qN _ ?_ ((f0.tr f1).tr f4) (fun z => c ⟨z.1, z.2.1⟩)
                               have : popO (popI (some X)) = none := Classical.byContradiction fun z => c (pp z)
                               rw [this] at s4; exact s4)
                          | (refine qN _ s4 (((f0.tr f1).up wV_5).tr f4) (fun z => ?_)
                             have k2 := (tY v1 t1 z.1 z.2.1).2.1
                             have c68 := c68
                             first
                             | (exfalso; omega)
                             | (rw [key v1 x9 hi1 t1 w1 (f0.tr f1) z.1 z.2.1 (by assumption)] at c68; exact absurd z.2.2.2 c68))
                          | (refine qN _ s4 ((((f0.tr f1).up wV_5).up wV_5).tr f4) (fun z => ?_)
                             have k2 := (tY v1 t1 z.1 z.2.1).2.1
                             omega)
                  · first
                    | (exfalso; omega)
                    | skip
                      refine s180_75.mpr ?_
                      refine (s180_76 (by first | decide | assumption | omega) (by first | decide | assumption | omega)).mpr ?_
                      first | refine v_want0 h ?_ | refine v_want1 h ?_
                      refine s180_79.mpr (s180_80.mpr ?_)
                      refine (s180_81 (by first | decide | assumption | omega) (by first | decide | assumption | omega)).mpr ?_
                      first
                      | refine v_push (t := X.2.1 (X.1 - 2)) h s1 (fun z => (tY v1 t1 (pp z).1 (pp z).2).1) (fun hi4 s4 f4 => ?_)
                      | refine v_pushN h s1.w (fun hi4 s4 f4 => ?_)
                      | refine v_pushN h s1.w.w (fun hi4 s4 f4 => ?_)
                      refine s180_84.mpr (s180_85.mpr ?_)
                      refine s180_87.mpr (wif (fun c87 => ?_) (fun c87 => ?_))
                      · first
                        | (exfalso; omega)
                        | skip
                          exfalso; omega
                      · first
                        | (exfalso; omega)
                        | skip
                          refine s180_95.mpr ?_
                          refine (s180_96 (by first | assumption | omega)).mpr ?_
                          first
                          | (by_cases c : 1 < X.1 ∧ X.2.1 (X.1 - 1) = 0
                             · rw [key v1 x9 hi1 t1 w1 (f0.tr f1) c.1 c.2 (by assumption)] at c68
                               refine q _ (VF.of ?_) ((f0.tr f1).tr f4)
                               rw [onw_p ⟨c.1, c.2, by have := (tY v1 t1 c.1 c.2).2.1; omega, c68⟩, nx_y (by show X.1 - 1 ≤ 16; omega)]
                               rw [popI_y (by omega) c.2, pop_y (by show 0 < X.1 - 1; omega), push_y (by show X.1 - 1 - 1 < 16; omega)] at s4
                               simp only [Int.sub_add_cancel] at s4
                               simp only [e2, up1_sf] at s4
                               exact s4
                             · refine qN _ ?_ ((f0.tr f1).tr f4) (fun z => c ⟨z.1, z.2.1⟩)
                               have : popO (popI (some X)) = none := Classical.byContradiction fun z => c (pp z)
                               rw [this] at s4; exact s4)
                          | (refine qN _ s4 (((f0.tr f1).up wV_5).tr f4) (fun z => ?_)
                             have k2 := (tY v1 t1 z.1 z.2.1).2.1
                             have c68 := c68
                             first
                             | (exfalso; omega)
                             | (rw [key v1 x9 hi1 t1 w1 (f0.tr f1) z.1 z.2.1 (by assumption)] at c68; exact absurd z.2.2.2 c68))
                          | (refine qN _ s4 ((((f0.tr f1).up wV_5).up wV_5).tr f4) (fun z => ?_)
                             have k2 := (tY v1 t1 z.1 z.2.1).2.1
                             omega)
          · first
            | (exfalso; omega)
            | skip
              refine s180_45.mpr ?_
              refine (s180_46 (by first | decide | assumption | omega) (by first | decide | assumption | omega)).mpr ?_
              first | refine v_want0 h ?_ | refine v_want1 h ?_
              refine s180_49.mpr (s180_50.mpr ?_)
              refine s180_52.mpr (wif (fun c52 => ?_) (fun c52 => ?_))
              · first
                | (exfalso; omega)
                | skip
                  refine s180_84.mpr (s180_85.mpr ?_)
                  refine s180_87.mpr (wif (fun c87 => ?_) (fun c87 => ?_))
                  · first
                    | (exfalso; omega)
                    | skip
                      exfalso; omega
                  · first
                    | (exfalso; omega)
                    | skip
                      refine s180_95.mpr ?_
                      refine (s180_96 (by first | assumption | omega)).mpr ?_
                      first
                      | (by_cases c : 1 < X.1 ∧ X.2.1 (X.1 - 1) = 0
                         · rw [key v1 x9 hi1 t1 w1 (f0.tr f1) c.1 c.2 (by assumption)] at c68
                           refine q _ (VF.of ?_) ((f0.tr f1).tr f4)
                           rw [onw_p ⟨c.1, c.2, by have := (tY v1 t1 c.1 c.2).2.1; omega, c68⟩, nx_y (by show X.1 - 1 ≤ 16; omega)]
                           rw [popI_y (by omega) c.2, pop_y (by show 0 < X.1 - 1; omega), push_y (by show X.1 - 1 - 1 < 16; omega)] at s4
                           simp only [Int.sub_add_cancel] at s4
                           simp only [e2, up1_sf] at s4
                           exact s4
                         · refine qN _ ?_ ((f0.tr f1).tr f4) (fun z => c ⟨z.1, z.2.1⟩)
                           have : popO (popI (some X)) = none := Classical.byContradiction fun z => c (pp z)
                           rw [this] at s4; exact s4)
                      | (refine qN _ s4 (((f0.tr f1).up wV_5).tr f4) (fun z => ?_)
                         have k2 := (tY v1 t1 z.1 z.2.1).2.1
                         have c68 := c68
                         first
                         | (exfalso; omega)
                         | (rw [key v1 x9 hi1 t1 w1 (f0.tr f1) z.1 z.2.1 (by assumption)] at c68; exact absurd z.2.2.2 c68))
                      | (refine qN _ s4 ((((f0.tr f1).up wV_5).up wV_5).tr f4) (fun z => ?_)
                         have k2 := (tY v1 t1 z.1 z.2.1).2.1
                         omega)
              · first
                | (exfalso; omega)
                | skip
                  refine s180_55.mpr (s180_56.mpr (s180_57.mpr ?_))
                  refine (s180_58 (by first | decide | assumption | omega)).mpr ?_
                  refine s180_61.mpr ?_
                  try simp (disch := first | decide | assumption | omega) only [kon, knt_some, knt_none, Option.toList_some, Option.toList_none, List.cons_append, List.nil_append, hN]
                  refine (s180_62 (by omega)).mpr ?_
                  refine c_namedByG (fun x9 w1 => ?_)
                  refine (s180_65 (by first | decide | assumption | omega) (by first | decide | assumption | omega)).mpr ?_
                  refine t_sizeOfRecord hM.1.1 ?_
                  refine s180_68.mpr (wif (fun c68 => ?_) (fun c68 => ?_))
                  · first
                    | (exfalso; omega)
                    | skip
                      refine s180_71.mpr (s180_72.mpr ?_)
                      refine (s180_76 (by first | decide | assumption | omega) (by first | decide | assumption | omega)).mpr ?_
                      first | refine v_want0 h ?_ | refine v_want1 h ?_
                      refine s180_79.mpr (s180_80.mpr ?_)
                      refine (s180_81 (by first | decide | assumption | omega) (by first | decide | assumption | omega)).mpr ?_
                      first
                      | refine v_push (t := X.2.1 (X.1 - 2)) h s1 (fun z => (tY v1 t1 (pp z).1 (pp z).2).1) (fun hi4 s4 f4 => ?_)
                      | refine v_pushN h s1.w (fun hi4 s4 f4 => ?_)
                      | refine v_pushN h s1.w.w (fun hi4 s4 f4 => ?_)
                      refine s180_84.mpr (s180_85.mpr ?_)
                      refine s180_87.mpr (wif (fun c87 => ?_) (fun c87 => ?_))
                      · first
                        | (exfalso; omega)
                        | skip
                          exfalso; omega
                      · first
                        | (exfalso; omega)
                        | skip
                          refine s180_95.mpr ?_
                          refine (s180_96 (by first | assumption | omega)).mpr ?_
                          first
                          | (by_cases c : 1 < X.1 ∧ X.2.1 (X.1 - 1) = 0
                             · rw [key v1 x9 hi1 t1 w1 (f0.tr f1) c.1 c.2 (by assumption)] at c68
                               refine q _ (VF.of ?_) ((f0.tr f1).tr f4)
                               rw [onw_p ⟨c.1, c.2, by have := (tY v1 t1 c.1 c.2).2.1; omega, c68⟩, nx_y (by show X.1 - 1 ≤ 16; omega)]
                               rw [popI_y (by omega) c.2, pop_y (by show 0 < X.1 - 1; omega), push_y (by show X.1 - 1 - 1 < 16; omega)] at s4
                               simp only [Int.sub_add_cancel] at s4
                               simp only [e2, up1_sf] at s4
                               exact s4
                             · refine qN _ ?_ ((f0.tr f1).tr f4) (fun z => c ⟨z.1, z.2.1⟩)
                               have : popO (popI (some X)) = none := Classical.byContradiction fun z => c (pp z)
                               rw [this] at s4; exact s4)
                          | (refine qN _ s4 (((f0.tr f1).up wV_5).tr f4) (fun z => ?_)
                             have k2 := (tY v1 t1 z.1 z.2.1).2.1
                             have c68 := c68
                             first
                             | (exfalso; omega)
                             | (rw [key v1 x9 hi1 t1 w1 (f0.tr f1) z.1 z.2.1 (by assumption)] at c68; exact absurd z.2.2.2 c68))
                          | (refine qN _ s4 ((((f0.tr f1).up wV_5).up wV_5).tr f4) (fun z => ?_)
                             have k2 := (tY v1 t1 z.1 z.2.1).2.1
                             omega)
                  · first
                    | (exfalso; omega)
                    | skip
                      refine s180_75.mpr ?_
                      refine (s180_76 (by first | decide | assumption | omega) (by first | decide | assumption | omega)).mpr ?_
                      first | refine v_want0 h ?_ | refine v_want1 h ?_
                      refine s180_79.mpr (s180_80.mpr ?_)
                      refine (s180_81 (by first | decide | assumption | omega) (by first | decide | assumption | omega)).mpr ?_
                      first
                      | refine v_push (t := X.2.1 (X.1 - 2)) h s1 (fun z => (tY v1 t1 (pp z).1 (pp z).2).1) (fun hi4 s4 f4 => ?_)
                      | refine v_pushN h s1.w (fun hi4 s4 f4 => ?_)
                      | refine v_pushN h s1.w.w (fun hi4 s4 f4 => ?_)
                      refine s180_84.mpr (s180_85.mpr ?_)
                      refine s180_87.mpr (wif (fun c87 => ?_) (fun c87 => ?_))
                      · first
                        | (exfalso; omega)
                        | skip
                          exfalso; omega
                      · first
                        | (exfalso; omega)
                        | skip
                          refine s180_95.mpr ?_
                          refine (s180_96 (by first | assumption | omega)).mpr ?_
                          first
                          | (by_cases c : 1 < X.1 ∧ X.2.1 (X.1 - 1) = 0
                             · rw [key v1 x9 hi1 t1 w1 (f0.tr f1) c.1 c.2 (by assumption)] at c68
                               refine q _ (VF.of ?_) ((f0.tr f1).tr f4)
                               rw [onw_p ⟨c.1, c.2, by have := (tY v1 t1 c.1 c.2).2.1; omega, c68⟩, nx_y (by show X.1 - 1 ≤ 16; omega)]
                               rw [popI_y (by omega) c.2, pop_y (by show 0 < X.1 - 1; omega), push_y (by show X.1 - 1 - 1 < 16; omega)] at s4
                               simp only [Int.sub_add_cancel] at s4
                               simp only [e2, up1_sf] at s4
                               exact s4
                             · refine qN _ ?_ ((f0.tr f1).tr f4) (fun z => c ⟨z.1, z.2.1⟩)
                               have : popO (popI (some X)) = none := Classical.byContradiction fun z => c (pp z)
                               rw [this] at s4; exact s4)
                          | (refine qN _ s4 (((f0.tr f1).up wV_5).tr f4) (fun z => ?_)
                             have k2 := (tY v1 t1 z.1 z.2.1).2.1
                             have c68 := c68
                             first
                             | (exfalso; omega)
                             | (rw [key v1 x9 hi1 t1 w1 (f0.tr f1) z.1 z.2.1 (by assumption)] at c68; exact absurd z.2.2.2 c68))
                          | (refine qN _ s4 ((((f0.tr f1).up wV_5).up wV_5).tr f4) (fun z => ?_)
                             have k2 := (tY v1 t1 z.1 z.2.1).2.1
                             omega)
      · first
        | (exfalso; omega)
        | skip
          refine s180_27.mpr ?_
          refine (s180_28 (by first | decide | assumption | omega) (by first | decide | assumption | omega)).mpr ?_
          first | refine v_pop h s0 (fun v1 hi1 s1 f1 t1 => ?_) | (exfalso; omega)
          refine s180_31.mpr (s180_32.mpr (s180_33.mpr ?_))
          refine (s180_34 (by omega)).mpr ?_
          refine c_kindOf.mpr ?_
          refine s180_37.mpr ?_
          refine s180_38.mpr (wif (fun c38 => ?_) (fun c38 => ?_))
          · first
            | (exfalso; omega)
            | skip
              refine s180_41.mpr (s180_42.mpr ?_)
              refine (s180_46 (by first | decide | assumption | omega) (by first | decide | assumption | omega)).mpr ?_
              first | refine v_want0 h ?_ | refine v_want1 h ?_
              refine s180_49.mpr (s180_50.mpr ?_)
              refine s180_52.mpr (wif (fun c52 => ?_) (fun c52 => ?_))
              · first
                | (exfalso; omega)
                | skip
                  refine s180_84.mpr (s180_85.mpr ?_)
                  refine s180_87.mpr (wif (fun c87 => ?_) (fun c87 => ?_))
                  · first
                    | (exfalso; omega)
                    | skip
                      exfalso; omega
                  · first
                    | (exfalso; omega)
                    | skip
                      refine s180_95.mpr ?_
                      refine (s180_96 (by first | assumption | omega)).mpr ?_
                      first
                      | (by_cases c : 1 < X.1 ∧ X.2.1 (X.1 - 1) = 0
                         · rw [key v1 x9 hi1 t1 w1 (f0.tr f1) c.1 c.2 (by assumption)] at c68
                           refine q _ (VF.of ?_) ((f0.tr f1).tr f4)
                           rw [onw_p ⟨c.1, c.2, by have := (tY v1 t1 c.1 c.2).2.1; omega, c68⟩, nx_y (by show X.1 - 1 ≤ 16; omega)]
                           rw [popI_y (by omega) c.2, pop_y (by show 0 < X.1 - 1; omega), push_y (by show X.1 - 1 - 1 < 16; omega)] at s4
                           simp only [Int.sub_add_cancel] at s4
                           simp only [e2, up1_sf] at s4
                           exact s4
                         · refine qN _ ?_ ((f0.tr f1).tr f4) (fun z => c ⟨z.1, z.2.1⟩)
                           have : popO (popI (some X)) = none := Classical.byContradiction fun z => c (pp z)
                           rw [this] at s4; exact s4)
                      | (refine qN _ s4 (((f0.tr f1).up wV_5).tr f4) (fun z => ?_)
                         have k2 := (tY v1 t1 z.1 z.2.1).2.1
                         have c68 := c68
                         first
                         | (exfalso; omega)
                         | (rw [key v1 x9 hi1 t1 w1 (f0.tr f1) z.1 z.2.1 (by assumption)] at c68; exact absurd z.2.2.2 c68))
                      | (refine qN _ s4 ((((f0.tr f1).up wV_5).up wV_5).tr f4) (fun z => ?_)
                         have k2 := (tY v1 t1 z.1 z.2.1).2.1
                         omega)
              · first
                | (exfalso; omega)
                | skip
                  refine s180_55.mpr (s180_56.mpr (s180_57.mpr ?_))
                  refine (s180_58 (by first | decide | assumption | omega)).mpr ?_
                  refine s180_61.mpr ?_
                  try simp (disch := first | decide | assumption | omega) only [kon, knt_some, knt_none, Option.toList_some, Option.toList_none, List.cons_append, List.nil_append, hN]
                  refine (s180_62 (by omega)).mpr ?_
                  refine c_namedByG (fun x9 w1 => ?_)
                  refine (s180_65 (by first | decide | assumption | omega) (by first | decide | assumption | omega)).mpr ?_
                  refine t_sizeOfRecord hM.1.1 ?_
                  refine s180_68.mpr (wif (fun c68 => ?_) (fun c68 => ?_))
                  · first
                    | (exfalso; omega)
                    | skip
                      refine s180_71.mpr (s180_72.mpr ?_)
                      refine (s180_76 (by first | decide | assumption | omega) (by first | decide | assumption | omega)).mpr ?_
                      first | refine v_want0 h ?_ | refine v_want1 h ?_
                      refine s180_79.mpr (s180_80.mpr ?_)
                      refine (s180_81 (by first | decide | assumption | omega) (by first | decide | assumption | omega)).mpr ?_
                      first
                      | refine v_push (t := X.2.1 (X.1 - 2)) h s1 (fun z => (tY v1 t1 (pp z).1 (pp z).2).1) (fun hi4 s4 f4 => ?_)
                      | refine v_pushN h s1.w (fun hi4 s4 f4 => ?_)
                      | refine v_pushN h s1.w.w (fun hi4 s4 f4 => ?_)
                      refine s180_84.mpr (s180_85.mpr ?_)
                      refine s180_87.mpr (wif (fun c87 => ?_) (fun c87 => ?_))
                      · first
                        | (exfalso; omega)
                        | skip
                          exfalso; omega
                      · first
                        | (exfalso; omega)
                        | skip
                          refine s180_95.mpr ?_
                          refine (s180_96 (by first | assumption | omega)).mpr ?_
                          first
                          | (by_cases c : 1 < X.1 ∧ X.2.1 (X.1 - 1) = 0
                             · rw [key v1 x9 hi1 t1 w1 (f0.tr f1) c.1 c.2 (by assumption)] at c68
                               refine q _ (VF.of ?_) ((f0.tr f1).tr f4)
                               rw [onw_p ⟨c.1, c.2, by have := (tY v1 t1 c.1 c.2).2.1; omega, c68⟩, nx_y (by show X.1 - 1 ≤ 16; omega)]
                               rw [popI_y (by omega) c.2, pop_y (by show 0 < X.1 - 1; omega), push_y (by show X.1 - 1 - 1 < 16; omega)] at s4
                               simp only [Int.sub_add_cancel] at s4
                               simp only [e2, up1_sf] at s4
                               exact s4
                             · refine qN _ ?_ ((f0.tr f1).tr f4) (fun z => c ⟨z.1, z.2.1⟩)
                               have : popO (popI (some X)) = none := Classical.byContradiction fun z => c (pp z)
                               rw [this] at s4; exact s4)
                          | (refine qN _ s4 (((f0.tr f1).up wV_5).tr f4) (fun z => ?_)
                             have k2 := (tY v1 t1 z.1 z.2.1).2.1
                             have c68 := c68
                             first
                             | (exfalso; omega)
                             | (rw [key v1 x9 hi1 t1 w1 (f0.tr f1) z.1 z.2.1 (by assumption)] at c68; exact absurd z.2.2.2 c68))
                          | (refine qN _ s4 ((((f0.tr f1).up wV_5).up wV_5).tr f4) (fun z => ?_)
                             have k2 := (tY v1 t1 z.1 z.2.1).2.1
                             omega)
                  · first
                    | (exfalso; omega)
                    | skip
                      refine s180_75.mpr ?_
                      refine (s180_76 (by first | decide | assumption | omega) (by first | decide | assumption | omega)).mpr ?_
                      first | refine v_want0 h ?_ | refine v_want1 h ?_
                      refine s180_79.mpr (s180_80.mpr ?_)
                      refine (s180_81 (by first | decide | assumption | omega) (by first | decide | assumption | omega)).mpr ?_
                      first
                      | refine v_push (t := X.2.1 (X.1 - 2)) h s1 (fun z => (tY v1 t1 (pp z).1 (pp z).2).1) (fun hi4 s4 f4 => ?_)
                      | refine v_pushN h s1.w (fun hi4 s4 f4 => ?_)
                      | refine v_pushN h s1.w.w (fun hi4 s4 f4 => ?_)
                      refine s180_84.mpr (s180_85.mpr ?_)
                      refine s180_87.mpr (wif (fun c87 => ?_) (fun c87 => ?_))
                      · first
                        | (exfalso; omega)
                        | skip
                          exfalso; omega
                      · first
                        | (exfalso; omega)
                        | skip
                          refine s180_95.mpr ?_
                          refine (s180_96 (by first | assumption | omega)).mpr ?_
                          first
                          | (by_cases c : 1 < X.1 ∧ X.2.1 (X.1 - 1) = 0
                             · rw [key v1 x9 hi1 t1 w1 (f0.tr f1) c.1 c.2 (by assumption)] at c68
                               refine q _ (VF.of ?_) ((f0.tr f1).tr f4)
                               rw [onw_p ⟨c.1, c.2, by have := (tY v1 t1 c.1 c.2).2.1; omega, c68⟩, nx_y (by show X.1 - 1 ≤ 16; omega)]
                               rw [popI_y (by omega) c.2, pop_y (by show 0 < X.1 - 1; omega), push_y (by show X.1 - 1 - 1 < 16; omega)] at s4
                               simp only [Int.sub_add_cancel] at s4
                               simp only [e2, up1_sf] at s4
                               exact s4
                             · refine qN _ ?_ ((f0.tr f1).tr f4) (fun z => c ⟨z.1, z.2.1⟩)
                               have : popO (popI (some X)) = none := Classical.byContradiction fun z => c (pp z)
                               rw [this] at s4; exact s4)
                          | (refine qN _ s4 (((f0.tr f1).up wV_5).tr f4) (fun z => ?_)
                             have k2 := (tY v1 t1 z.1 z.2.1).2.1
                             have c68 := c68
                             first
                             | (exfalso; omega)
                             | (rw [key v1 x9 hi1 t1 w1 (f0.tr f1) z.1 z.2.1 (by assumption)] at c68; exact absurd z.2.2.2 c68))
                          | (refine qN _ s4 ((((f0.tr f1).up wV_5).up wV_5).tr f4) (fun z => ?_)
                             have k2 := (tY v1 t1 z.1 z.2.1).2.1
                             omega)
          · first
            | (exfalso; omega)
            | skip
              refine s180_45.mpr ?_
              refine (s180_46 (by first | decide | assumption | omega) (by first | decide | assumption | omega)).mpr ?_
              first | refine v_want0 h ?_ | refine v_want1 h ?_
              refine s180_49.mpr (s180_50.mpr ?_)
              refine s180_52.mpr (wif (fun c52 => ?_) (fun c52 => ?_))
              · first
                | (exfalso; omega)
                | skip
                  refine s180_84.mpr (s180_85.mpr ?_)
                  refine s180_87.mpr (wif (fun c87 => ?_) (fun c87 => ?_))
                  · first
                    | (exfalso; omega)
                    | skip
                      exfalso; omega
                  · first
                    | (exfalso; omega)
                    | skip
                      refine s180_95.mpr ?_
                      refine (s180_96 (by first | assumption | omega)).mpr ?_
                      first
                      | (by_cases c : 1 < X.1 ∧ X.2.1 (X.1 - 1) = 0
                         · rw [key v1 x9 hi1 t1 w1 (f0.tr f1) c.1 c.2 (by assumption)] at c68
                           refine q _ (VF.of ?_) ((f0.tr f1).tr f4)
                           rw [onw_p ⟨c.1, c.2, by have := (tY v1 t1 c.1 c.2).2.1; omega, c68⟩, nx_y (by show X.1 - 1 ≤ 16; omega)]
                           rw [popI_y (by omega) c.2, pop_y (by show 0 < X.1 - 1; omega), push_y (by show X.1 - 1 - 1 < 16; omega)] at s4
                           simp only [Int.sub_add_cancel] at s4
                           simp only [e2, up1_sf] at s4
                           exact s4
                         · refine qN _ ?_ ((f0.tr f1).tr f4) (fun z => c ⟨z.1, z.2.1⟩)
                           have : popO (popI (some X)) = none := Classical.byContradiction fun z => c (pp z)
                           rw [this] at s4; exact s4)
                      | (refine qN _ s4 (((f0.tr f1).up wV_5).tr f4) (fun z => ?_)
                         have k2 := (tY v1 t1 z.1 z.2.1).2.1
                         have c68 := c68
                         first
                         | (exfalso; omega)
                         | (rw [key v1 x9 hi1 t1 w1 (f0.tr f1) z.1 z.2.1 (by assumption)] at c68; exact absurd z.2.2.2 c68))
                      | (refine qN _ s4 ((((f0.tr f1).up wV_5).up wV_5).tr f4) (fun z => ?_)
                         have k2 := (tY v1 t1 z.1 z.2.1).2.1
                         omega)
              · first
                | (exfalso; omega)
                | skip
                  refine s180_55.mpr (s180_56.mpr (s180_57.mpr ?_))
                  refine (s180_58 (by first | decide | assumption | omega)).mpr ?_
                  refine s180_61.mpr ?_
                  try simp (disch := first | decide | assumption | omega) only [kon, knt_some, knt_none, Option.toList_some, Option.toList_none, List.cons_append, List.nil_append, hN]
                  refine (s180_62 (by omega)).mpr ?_
                  refine c_namedByG (fun x9 w1 => ?_)
                  refine (s180_65 (by first | decide | assumption | omega) (by first | decide | assumption | omega)).mpr ?_
                  refine t_sizeOfRecord hM.1.1 ?_
                  refine s180_68.mpr (wif (fun c68 => ?_) (fun c68 => ?_))
                  · first
                    | (exfalso; omega)
                    | skip
                      refine s180_71.mpr (s180_72.mpr ?_)
                      refine (s180_76 (by first | decide | assumption | omega) (by first | decide | assumption | omega)).mpr ?_
                      first | refine v_want0 h ?_ | refine v_want1 h ?_
                      refine s180_79.mpr (s180_80.mpr ?_)
                      refine (s180_81 (by first | decide | assumption | omega) (by first | decide | assumption | omega)).mpr ?_
                      first
                      | refine v_push (t := X.2.1 (X.1 - 2)) h s1 (fun z => (tY v1 t1 (pp z).1 (pp z).2).1) (fun hi4 s4 f4 => ?_)
                      | refine v_pushN h s1.w (fun hi4 s4 f4 => ?_)
                      | refine v_pushN h s1.w.w (fun hi4 s4 f4 => ?_)
                      refine s180_84.mpr (s180_85.mpr ?_)
                      refine s180_87.mpr (wif (fun c87 => ?_) (fun c87 => ?_))
                      · first
                        | (exfalso; omega)
                        | skip
                          exfalso; omega
                      · first
                        | (exfalso; omega)
                        | skip
                          refine s180_95.mpr ?_
                          refine (s180_96 (by first | assumption | omega)).mpr ?_
                          first
                          | (by_cases c : 1 < X.1 ∧ X.2.1 (X.1 - 1) = 0
                             · rw [key v1 x9 hi1 t1 w1 (f0.tr f1) c.1 c.2 (by assumption)] at c68
                               refine q _ (VF.of ?_) ((f0.tr f1).tr f4)
                               rw [onw_p ⟨c.1, c.2, by have := (tY v1 t1 c.1 c.2).2.1; omega, c68⟩, nx_y (by show X.1 - 1 ≤ 16; omega)]
                               rw [popI_y (by omega) c.2, pop_y (by show 0 < X.1 - 1; omega), push_y (by show X.1 - 1 - 1 < 16; omega)] at s4
                               simp only [Int.sub_add_cancel] at s4
                               simp only [e2, up1_sf] at s4
                               exact s4
                             · refine qN _ ?_ ((f0.tr f1).tr f4) (fun z => c ⟨z.1, z.2.1⟩)
                               have : popO (popI (some X)) = none := Classical.byContradiction fun z => c (pp z)
                               rw [this] at s4; exact s4)
                          | (refine qN _ s4 (((f0.tr f1).up wV_5).tr f4) (fun z => ?_)
                             have k2 := (tY v1 t1 z.1 z.2.1).2.1
                             have c68 := c68
                             first
                             | (exfalso; omega)
                             | (rw [key v1 x9 hi1 t1 w1 (f0.tr f1) z.1 z.2.1 (by assumption)] at c68; exact absurd z.2.2.2 c68))
                          | (refine qN _ s4 ((((f0.tr f1).up wV_5).up wV_5).tr f4) (fun z => ?_)
                             have k2 := (tY v1 t1 z.1 z.2.1).2.1
                             omega)
                  · first
                    | (exfalso; omega)
                    | skip
                      refine s180_75.mpr ?_
                      refine (s180_76 (by first | decide | assumption | omega) (by first | decide | assumption | omega)).mpr ?_
                      first | refine v_want0 h ?_ | refine v_want1 h ?_
                      refine s180_79.mpr (s180_80.mpr ?_)
                      refine (s180_81 (by first | decide | assumption | omega) (by first | decide | assumption | omega)).mpr ?_
                      first
                      | refine v_push (t := X.2.1 (X.1 - 2)) h s1 (fun z => (tY v1 t1 (pp z).1 (pp z).2).1) (fun hi4 s4 f4 => ?_)
                      | refine v_pushN h s1.w (fun hi4 s4 f4 => ?_)
                      | refine v_pushN h s1.w.w (fun hi4 s4 f4 => ?_)
                      refine s180_84.mpr (s180_85.mpr ?_)
                      refine s180_87.mpr (wif (fun c87 => ?_) (fun c87 => ?_))
                      · first
                        | (exfalso; omega)
                        | skip
                          exfalso; omega
                      · first
                        | (exfalso; omega)
                        | skip
                          refine s180_95.mpr ?_
                          refine (s180_96 (by first | assumption | omega)).mpr ?_
                          first
                          | (by_cases c : 1 < X.1 ∧ X.2.1 (X.1 - 1) = 0
                             · rw [key v1 x9 hi1 t1 w1 (f0.tr f1) c.1 c.2 (by assumption)] at c68
                               refine q _ (VF.of ?_) ((f0.tr f1).tr f4)
                               rw [onw_p ⟨c.1, c.2, by have := (tY v1 t1 c.1 c.2).2.1; omega, c68⟩, nx_y (by show X.1 - 1 ≤ 16; omega)]
                               rw [popI_y (by omega) c.2, pop_y (by show 0 < X.1 - 1; omega), push_y (by show X.1 - 1 - 1 < 16; omega)] at s4
                               simp only [Int.sub_add_cancel] at s4
                               simp only [e2, up1_sf] at s4
                               exact s4
                             · refine qN _ ?_ ((f0.tr f1).tr f4) (fun z => c ⟨z.1, z.2.1⟩)
                               have : popO (popI (some X)) = none := Classical.byContradiction fun z => c (pp z)
                               rw [this] at s4; exact s4)
                          | (refine qN _ s4 (((f0.tr f1).up wV_5).tr f4) (fun z => ?_)
                             have k2 := (tY v1 t1 z.1 z.2.1).2.1
                             have c68 := c68
                             first
                             | (exfalso; omega)
                             | (rw [key v1 x9 hi1 t1 w1 (f0.tr f1) z.1 z.2.1 (by assumption)] at c68; exact absurd z.2.2.2 c68))
                          | (refine qN _ s4 ((((f0.tr f1).up wV_5).up wV_5).tr f4) (fun z => ?_)
                             have k2 := (tY v1 t1 z.1 z.2.1).2.1
                             omega)
/-- numbers -/
theorem v_int19 {v p : Int} {X : Tst} (h : VR al hr) (hd : 2 ≤ d) (hs : VS (some X) hi) (hv : vX B X)
    (q : ∀ hi', VF (tsP 19 v p X) 1 hi' → FW wV hi hi' → Q (some (some (vI 1))) al hi' hr) : Ev d 172 [vR (some 8), vI 19, vI v] al hi hr Q := by
  have k8 := h.k8; have k11 := h.k11; have k12 := h.k12; have l11 := h.l11; have l12 := h.l12; have r1 := h.2.2.1; have r2 := h.2.2.2.1
  have c16 := hs.2.2.2.1
  have et : tsP 19 v p X = onw (0 < X.1 ∧ (X.2.1 (X.1 - 1) = 6 ∨ heapT (X.2.1 (X.1 - 1)))) [(p + 1, (X.1, up1 X.2.1 (X.1 - 1) 0, X.2.2))] := rfl
  rw [et] at q
  have tp : ∀ v1, topV (some X) v1 → 0 < X.1 → (ptrC v1 ∨ v1 % 16 = 6 ↔ X.2.1 (X.1 - 1) = 6 ∨ heapT (X.2.1 (X.1 - 1))) := fun v1 t1 c => by
    have hvt := hv.2.1 (X.1 - 1) (by omega) (by omega)
    obtain ⟨k1, k2, k3, k4⟩ := top_of rfl hv t1 c
    rw [k2]
    rw [k1, ptrC_v hvt.r]
    have := hvt.2.2.2.1
    have k6 : kindM 6 = 6 := rfl
    constructor
    · rintro (z | z)
      · exact Or.inr z
      · exact Or.inl (this z)
    · rintro (z | z)
      · exact Or.inr (by rw [z]; rfl)
      · exact Or.inl z
  have qA : ∀ v1 hi4, topV (some X) v1 → FW wV hi hi4 → VS (pushO (popO (some X)) 0) hi4 → (ptrC v1 ∨ v1 % 16 = 6) → Q (some (some (vI 1))) al hi4 hr := fun v1 hi4 t1 f1 s4 y => q _ (by
    by_cases c : 0 < X.1
    · refine VF.of ?_
      rw [onw_p ⟨c, (tp v1 t1 c).mp y⟩, nx_y (by show X.1 ≤ 16; omega)]
      rw [pop_y c, push_y (by show X.1 - 1 < 16; omega)] at s4
      simp only [Int.sub_add_cancel] at s4
      exact s4
    · rw [pop_n c] at s4; rw [onw_n (fun z => c z.1)]; exact VF.no s4 (Or.inr rfl)) f1
  have qB : ∀ v1 hi4, topV (some X) v1 → FW wV hi hi4 → VS none hi4 → ¬ (ptrC v1 ∨ v1 % 16 = 6) → Q (some (some (vI 1))) al hi4 hr := fun v1 hi4 t1 f1 s4 y => q _ (by
    rw [onw_n (fun z => y ((tp v1 t1 z.1).mpr z.2))]; exact VF.no s4 (Or.inr rfl)) f1
  rw [e172]
  refine s172_0.mpr ?_
  refine g172_1 (fun c1 => ?_) (fun c1 => ?_) (fun c1 => ?_) (fun c1 => ?_)
  · skip
    have c1 := List.mem_singleton.mp c1
    refine s172_28.mpr (s172_29.mpr ?_)
    refine (s172_30 (by first | decide | assumption | omega) (by first | decide | assumption | omega)).mpr ?_
    refine v_pop h hs (fun v1 hi1 s1 f1 t1 => ?_)
    refine (s172_33 (by omega)).mpr ?_
    refine c_isPointerOrNil (by omega) (fun y => ?_) (fun y => ?_)
    · skip
      refine (s172_36 (by first | decide | assumption | omega) (by first | decide | assumption | omega)).mpr ?_
      first | refine v_want0 h ?_ | refine v_want1 h ?_
      refine s172_39.mpr (s172_40.mpr ?_)
      refine (s172_41 (by first | decide | assumption | omega) (by first | decide | assumption | omega)).mpr ?_
      first
      | refine v_push (t := 0) h s1 (fun _ => rfl) (fun hi4 s4 f4 => ?_)
      | refine v_pushN h s1.w (fun hi4 s4 f4 => ?_)
      refine s172_44.mpr ?_
      refine (s172_45 (by first | assumption | omega)).mpr ?_
      first | exact qB v1 hi4 t1 ((f1.up wV_5).tr f4) s4 y | exact qA v1 hi4 t1 (f1.tr f4) s4 y
    · skip
      refine (s172_36 (by first | decide | assumption | omega) (by first | decide | assumption | omega)).mpr ?_
      first | refine v_want0 h ?_ | refine v_want1 h ?_
      refine s172_39.mpr (s172_40.mpr ?_)
      refine (s172_41 (by first | decide | assumption | omega) (by first | decide | assumption | omega)).mpr ?_
      first
      | refine v_push (t := 0) h s1 (fun _ => rfl) (fun hi4 s4 f4 => ?_)
      | refine v_pushN h s1.w (fun hi4 s4 f4 => ?_)
      refine s172_44.mpr ?_
      refine (s172_45 (by first | assumption | omega)).mpr ?_
      first | exact qB v1 hi4 t1 ((f1.up wV_5).tr f4) s4 y | exact qA v1 hi4 t1 (f1.tr f4) s4 y
  · skip
    have c1 := List.mem_singleton.mp c1
    exfalso; omega
  · skip
    have c1 := List.mem_singleton.mp c1
    exfalso; omega
  · skip
    exact absurd c1 (by simp)
theorem v_intD {op v p : Int} {X : Tst} (h : VR al hr) (hd : 2 ≤ d) (hs : VS (some X) hi) (hv : vX B X) (o0 : 7 ≤ op ∧ op ≤ 18)
    (q : ∀ hi', VF (tsP op v p X) 1 hi' → FW wV hi hi' → Q (some (some (vI 1))) al hi' hr) : Ev d 172 [vR (some 8), vI op, vI v] al hi hr Q := by
  have k8 := h.k8; have k11 := h.k11; have k12 := h.k12; have l11 := h.l11; have l12 := h.l12; have r1 := h.2.2.1; have r2 := h.2.2.2.1
  have c16 := hs.2.2.2.1
  have et : tsP op v p X = onw (1 < X.1 ∧ X.2.1 (X.1 - 1) = 0 ∧ X.2.1 (X.1 - 2) = 0) [(p + 1, (X.1 - 1, up1 X.2.1 (X.1 - 2) 0, X.2.2))] := by
    unfold tsP
    rw [if_neg (by omega), if_neg (by omega), if_neg (by omega), if_neg (by omega), if_neg (by omega), if_neg (by omega), if_neg (by omega), if_neg (by omega)]
  rw [et] at q
  have e2 : X.1 - 1 - 1 = X.1 - 2 := by omega
  have qA : ∀ hi4, FW wV hi hi4 → VS (pushO (popI (popI (some X))) 0) hi4 → Q (some (some (vI 1))) al hi4 hr := fun hi4 f1 s4 => q _ (by
    by_cases c : 1 < X.1 ∧ X.2.1 (X.1 - 1) = 0 ∧ X.2.1 (X.1 - 2) = 0
    · refine VF.of ?_
      rw [onw_p c, nx_y (by show X.1 - 1 ≤ 16; omega)]
      rw [popI_y (by omega) c.2.1, popI_y (by show 0 < X.1 - 1; omega) (by show X.2.1 (X.1 - 1 - 1) = 0; rw [e2]; exact c.2.2), push_y (by show X.1 - 1 - 1 < 16; omega)] at s4
      simp only [Int.sub_add_cancel] at s4
      simp only [e2] at s4
      exact s4
    · rw [onw_n c]
      refine VF.no ?_ (Or.inr rfl)
      by_cases c1 : 0 < X.1 ∧ X.2.1 (X.1 - 1) = 0
      · rw [popI_y c1.1 c1.2, popI_n (fun z => c ⟨by have z1 : 0 < X.1 - 1 := z.1; omega, c1.2, by have z2 : X.2.1 (X.1 - 1 - 1) = 0 := z.2; rw [e2] at z2; exact z2⟩)] at s4
        exact s4
      · rw [popI_n c1] at s4; exact s4) f1
  rw [e172]
  refine s172_0.mpr ?_
  refine g172_1 (fun c1 => ?_) (fun c1 => ?_) (fun c1 => ?_) (fun c1 => ?_)
  · skip
    have c1 := List.mem_singleton.mp c1
    exfalso; omega
  · skip
    have c1 := List.mem_singleton.mp c1
    exfalso; omega
  · skip
    have c1 := List.mem_singleton.mp c1
    exfalso; omega
  · skip
    refine s172_64.mpr ?_
    refine (s172_65 (by first | decide | assumption | omega) (by first | decide | assumption | omega)).mpr ?_
    first | refine v_popInt h (by omega) hs (fun Z e => by cases e; exact hv) (fun hi0 s0 f0 => ?_) | refine v_popInt h (by omega) s0 (popI_v hv) (fun hi1 s1 f1 => ?_)
    refine s172_68.mpr ?_
    refine (s172_69 (by first | decide | assumption | omega) (by first | decide | assumption | omega)).mpr ?_
    first | refine v_popInt h (by omega) hs (fun Z e => by cases e; exact hv) (fun hi0 s0 f0 => ?_) | refine v_popInt h (by omega) s0 (popI_v hv) (fun hi1 s1 f1 => ?_)
    refine s172_72.mpr (s172_73.mpr ?_)
    refine (s172_74 (by first | decide | assumption | omega) (by first | decide | assumption | omega)).mpr ?_
    refine v_push (t := 0) h s1 (fun _ => rfl) (fun hi4 s4 f4 => ?_)
    refine s172_77.mpr ?_
    refine (s172_78 (by first | assumption | omega)).mpr ?_
    exact qA _ ((f0.tr f1).tr f4) s4
end CV9
