section CV7
variable {d : Nat} {al : AL} {hi : HI} {hr : HR} {Q : QQ} {B : Int → Int} {N : Nat} {n : Int}
/-- what goes on to the next instruction -/
def nxO (r : Option (List (Int × Tst))) : Option Tst := match r with
  | some [(_, Y)] => if Y.1 ≤ 16 then some Y else none
  | _ => none
theorem nx_n : nxO none = none := rfl
theorem nx_e : nxO (some []) = none := rfl
theorem nx_y {q : Int} {Y : Tst} (h : Y.1 ≤ 16) : nxO (some [(q, Y)]) = some Y := if_pos h
theorem nx_x {q : Int} {Y : Tst} (h : ¬ Y.1 ≤ 16) : nxO (some [(q, Y)]) = none := if_neg h
theorem nx_push {q t : Int} {X : Tst} : nxO (some [(q, (X.1 + 1, up1 X.2.1 X.1 t, X.2.2))]) = pushO (some X) t := by
  by_cases c : X.1 < 16
  · rw [nx_y (by show X.1 + 1 ≤ 16; omega)]; exact (if_pos c).symm
  · rw [nx_x (by show ¬ X.1 + 1 ≤ 16; omega)]; exact (if_neg c).symm
theorem VS.eq {X Y : Tst} (h : VS (some X) hi) (e : eqX X Y) : VS (some Y) hi := by
  obtain ⟨a1, a2, a3, a4, a5, a6⟩ := h
  obtain ⟨e1, e2, e3⟩ := e
  exact ⟨a1, by rw [← e1]; exact a2, by rw [← e1]; exact a3, by rw [← e1]; exact a4, fun k k0 k1 => by rw [a5 k k0 (by omega), e2 k k0 (by omega)], fun k k0 k1 => by rw [a6 k k0 k1, e3 k k0 k1]⟩
def locO (o : Option Tst) (v t : Int) : Option Tst := match o with
  | none => none
  | some Y => some (Y.1, Y.2.1, up1 Y.2.2 v t)
theorem VS.loc {o : Option Tst} {v t x : Int} (h : VS o hi) (hx : o ≠ none → x = cv t) : VS (locO o v t) (upI hi 12 v x) := by
  cases o with
  | none => exact ⟨by rw [upI_a (by decide)]; exact h.1, by rw [upI_a (by decide)]; exact h.2⟩
  | some Y =>
    obtain ⟨a1, a2, a3, a4, a5, a6⟩ := h
    refine ⟨by rw [upI_a (by decide)]; exact a1, by rw [upI_a (by decide)]; exact a2, a3, a4, fun k k0 k1 => by rw [upI_a (by decide)]; exact a5 k k0 k1, fun k k0 k1 => ?_⟩
    show upI hi 12 v x 12 k = cv (up1 Y.2.2 v t k)
    by_cases e : k = v
    · subst e; rw [upI_eq, up1_eq]; exact hx (by simp)
    · rw [upI_i e, up1_ne e]; exact a6 k k0 k1
theorem VS.ln {v x : Int} (h : VS none hi) : VS none (upI hi 12 v x) := VS.loc (t := 0) h (fun z => absurd rfl z)
theorem v_pushN {v : Int} (h : VR al hr) (hs : VS none hi) (q : ∀ hi', VS none hi' → FW wV hi hi' → Q (some none) al hi' hr) : Ev d 164 [vR (some 8), vI v] al hi hr Q := v_push (t := 0) h hs (fun z => absurd rfl z) q
theorem v_popN (h : VR al hr) (hs : VS none hi) (q : ∀ v hi', VS none hi' → FW wV hi hi' → Q (some (some (vI v))) al hi' hr) : Ev d 165 [vR (some 8)] al hi hr Q := v_pop h hs (fun v hi' s f _ => q v hi' s f)
theorem pop_y {X : Tst} (h : 0 < X.1) : popO (some X) = some (X.1 - 1, X.2.1, X.2.2) := if_pos h
theorem pop_n {X : Tst} (h : ¬ 0 < X.1) : popO (some X) = none := if_neg h
theorem push_y {X : Tst} {t : Int} (h : X.1 < 16) : pushO (some X) t = some (X.1 + 1, up1 X.2.1 X.1 t, X.2.2) := if_pos h
theorem push_n {X : Tst} {t : Int} (h : ¬ X.1 < 16) : pushO (some X) t = none := if_neg h
theorem nn_pop {o : Option Tst} {X : Tst} (e : o = some X) (h : popO o ≠ none) : 0 < X.1 := by
  subst e
  apply Classical.byContradiction
  intro c
  exact h (pop_n c)
theorem v_followLoad {v : Int} {X : Tst} (h : VR al hr) (hd : 1 ≤ d) (hs : VS (some X) hi) (hv : vX B X) (v0 : 0 ≤ v ∧ v < 10) (p : Int)
    (q : ∀ hi', VS (nxO (tsP 2 v p X)) hi' → FW wV hi hi' → Q (some none) al hi' hr) : Ev d 171 [vR (some 8), vI v] al hi hr Q := by
  have k8 := h.k8; have k11 := h.k11; have k12 := h.k12; have l11 := h.l11; have l12 := h.l12; have r1 := h.2.2.1; have r2 := h.2.2.2.1
  have e9 : hi 12 v = cv (X.2.2 v) := hs.2.2.2.2.2 v v0.1 v0.2
  have hT := (hv.2.2 v v0.1 v0.2).r
  have e7 := cv_c hT (c := 7) (by decide) (by decide)
  have eL := linC_v hT
  have et : tsP 2 v p X = onw (X.2.2 v ≠ 7) [(p + 2, (X.1 + 1, up1 X.2.1 X.1 (X.2.2 v), if linT (X.2.2 v) then up1 X.2.2 v 7 else X.2.2))] := rfl
  rw [et] at q
  rw [e171]
  by_cases c7 : X.2.2 v = 7
  · rw [onw_n (fun z => z c7), nx_n] at q
    have e8 : hi 12 v = 7 := by rw [e9, c7]; rfl
    refine s171_0.mpr (s171_1.mpr ?_)
    refine s171_3.mpr (wif (fun c3 => ?_) (fun c3 => ?_))
    · first
      | (exfalso; omega)
      | skip
        refine s171_7.mpr ?_
        refine (s171_8 (by first | decide | assumption | omega)).mpr ?_
        refine s171_11.mpr ?_
        try simp (disch := first | decide | assumption | omega) only [kon, knt_some, knt_none, Option.toList_some, Option.toList_none, List.cons_append, List.nil_append, r2, e8]
        refine (s171_12 (by first | decide | assumption | omega) (by first | decide | assumption | omega) (by first | decide | assumption | omega)).mpr ?_
        refine s171_13.mpr (s171_14.mpr (s171_15.mpr (s171_16.mpr ?_)))
        try simp (disch := first | decide | assumption | omega) only [kon, knt_some, knt_none, Option.toList_some, Option.toList_none, List.cons_append, List.nil_append, r2, e8]
        refine s171_18.mpr (wif (fun c18 => ?_) (fun c18 => ?_))
        · first
          | (exfalso; omega)
          | skip
            refine s171_25.mpr ?_
            refine (s171_26 (by first | decide | assumption | omega) (by first | decide | assumption | omega)).mpr ?_
            refine v_want0 h ?_
            refine s171_29.mpr (s171_30.mpr ?_)
            refine (s171_31 (by first | decide | assumption | omega) (by first | decide | assumption | omega)).mpr ?_
            refine v_pushN h hs.w (fun hi1 s1 f1 => ?_)
            refine s171_34.mpr ?_
            refine (s171_35 (by omega)).mpr ?_
            refine c_isLinear (fun y35 => ?_) (fun y35 => ?_)
            · skip
              refine s171_38.mpr (wif (fun c38 => ?_) (fun c38 => ?_))
              · first
                | (exfalso; omega)
                | skip
                  refine (s171_49).mpr ?_
                  first | exact q _ s1 ((FW.up FW.rf wV_5).tr f1) | exact q _ s1.ln (((FW.up FW.rf wV_5).tr f1).up wV_12)
              · first
                | (exfalso; omega)
                | skip
                  refine s171_41.mpr ?_
                  refine (s171_42 (by first | decide | assumption | omega)).mpr ?_
                  refine s171_45.mpr (s171_46.mpr ?_)
                  try simp (disch := first | decide | assumption | omega) only [kon, knt_some, knt_none, Option.toList_some, Option.toList_none, List.cons_append, List.nil_append, r2, e8]
                  refine (s171_48 (by first | decide | assumption | omega) (by first | decide | assumption | omega) (by first | decide | assumption | omega)).mpr ?_
                  try simp (disch := first | decide | assumption | omega) only [kon, knt_some, knt_none, Option.toList_some, Option.toList_none, List.cons_append, List.nil_append, r2, e8]
                  refine (s171_49).mpr ?_
                  first | exact q _ s1 ((FW.up FW.rf wV_5).tr f1) | exact q _ s1.ln (((FW.up FW.rf wV_5).tr f1).up wV_12)
            · skip
              refine s171_38.mpr (wif (fun c38 => ?_) (fun c38 => ?_))
              · first
                | (exfalso; omega)
                | skip
                  refine (s171_49).mpr ?_
                  first | exact q _ s1 ((FW.up FW.rf wV_5).tr f1) | exact q _ s1.ln (((FW.up FW.rf wV_5).tr f1).up wV_12)
              · first
                | (exfalso; omega)
                | skip
                  refine s171_41.mpr ?_
                  refine (s171_42 (by first | decide | assumption | omega)).mpr ?_
                  refine s171_45.mpr (s171_46.mpr ?_)
                  try simp (disch := first | decide | assumption | omega) only [kon, knt_some, knt_none, Option.toList_some, Option.toList_none, List.cons_append, List.nil_append, r2, e8]
                  refine (s171_48 (by first | decide | assumption | omega) (by first | decide | assumption | omega) (by first | decide | assumption | omega)).mpr ?_
                  try simp (disch := first | decide | assumption | omega) only [kon, knt_some, knt_none, Option.toList_some, Option.toList_none, List.cons_append, List.nil_append, r2, e8]
                  refine (s171_49).mpr ?_
                  first | exact q _ s1 ((FW.up FW.rf wV_5).tr f1) | exact q _ s1.ln (((FW.up FW.rf wV_5).tr f1).up wV_12)
        · first
          | (exfalso; omega)
          | skip
            refine s171_21.mpr (s171_22.mpr ?_)
            refine (s171_26 (by first | decide | assumption | omega) (by first | decide | assumption | omega)).mpr ?_
            refine v_want0 h ?_
            refine s171_29.mpr (s171_30.mpr ?_)
            refine (s171_31 (by first | decide | assumption | omega) (by first | decide | assumption | omega)).mpr ?_
            refine v_pushN h hs.w (fun hi1 s1 f1 => ?_)
            refine s171_34.mpr ?_
            refine (s171_35 (by omega)).mpr ?_
            refine c_isLinear (fun y35 => ?_) (fun y35 => ?_)
            · skip
              refine s171_38.mpr (wif (fun c38 => ?_) (fun c38 => ?_))
              · first
                | (exfalso; omega)
                | skip
                  refine (s171_49).mpr ?_
                  first | exact q _ s1 ((FW.up FW.rf wV_5).tr f1) | exact q _ s1.ln (((FW.up FW.rf wV_5).tr f1).up wV_12)
              · first
                | (exfalso; omega)
                | skip
                  refine s171_41.mpr ?_
                  refine (s171_42 (by first | decide | assumption | omega)).mpr ?_
                  refine s171_45.mpr (s171_46.mpr ?_)
                  try simp (disch := first | decide | assumption | omega) only [kon, knt_some, knt_none, Option.toList_some, Option.toList_none, List.cons_append, List.nil_append, r2, e8]
                  refine (s171_48 (by first | decide | assumption | omega) (by first | decide | assumption | omega) (by first | decide | assumption | omega)).mpr ?_
                  try simp (disch := first | decide | assumption | omega) only [kon, knt_some, knt_none, Option.toList_some, Option.toList_none, List.cons_append, List.nil_append, r2, e8]
                  refine (s171_49).mpr ?_
                  first | exact q _ s1 ((FW.up FW.rf wV_5).tr f1) | exact q _ s1.ln (((FW.up FW.rf wV_5).tr f1).up wV_12)
            · skip
              refine s171_38.mpr (wif (fun c38 => ?_) (fun c38 => ?_))
              · first
                | (exfalso; omega)
                | skip
                  refine (s171_49).mpr ?_
                  first | exact q _ s1 ((FW.up FW.rf wV_5).tr f1) | exact q _ s1.ln (((FW.up FW.rf wV_5).tr f1).up wV_12)
              · first
                | (exfalso; omega)
                | skip
                  refine s171_41.mpr ?_
                  refine (s171_42 (by first | decide | assumption | omega)).mpr ?_
                  refine s171_45.mpr (s171_46.mpr ?_)
                  try simp (disch := first | decide | assumption | omega) only [kon, knt_some, knt_none, Option.toList_some, Option.toList_none, List.cons_append, List.nil_append, r2, e8]
                  refine (s171_48 (by first | decide | assumption | omega) (by first | decide | assumption | omega) (by first | decide | assumption | omega)).mpr ?_
                  try simp (disch := first | decide | assumption | omega) only [kon, knt_some, knt_none, Option.toList_some, Option.toList_none, List.cons_append, List.nil_append, r2, e8]
                  refine (s171_49).mpr ?_
                  first | exact q _ s1 ((FW.up FW.rf wV_5).tr f1) | exact q _ s1.ln (((FW.up FW.rf wV_5).tr f1).up wV_12)
    · first
      | (exfalso; omega)
      | skip
        refine (s171_6).mpr ?_
        first | exact q _ s1 ((FW.up FW.rf wV_5).tr f1) | exact q _ s1.ln (((FW.up FW.rf wV_5).tr f1).up wV_12)
  · rw [onw_p c7] at q
    have n7 : ¬ cv (X.2.2 v) = 7 := fun z => c7 (e7.mp z)
    by_cases cl : linT (X.2.2 v)
    · rw [if_pos cl] at q
      have q2 : ∀ hi', VS (locO (pushO (some X) (X.2.2 v)) v 7) hi' → FW wV hi hi' → Q (some none) al hi' hr := fun hi' s f => q hi' (by
        by_cases c : X.1 < 16
        · rw [nx_y (by show X.1 + 1 ≤ 16; omega)]; rw [push_y c] at s; exact s
        · rw [nx_x (by show ¬ X.1 + 1 ≤ 16; omega)]; rw [push_n c] at s; exact s) f
      refine s171_0.mpr (s171_1.mpr ?_)
      refine s171_3.mpr (wif (fun c3 => ?_) (fun c3 => ?_))
      · first
        | (exfalso; omega)
        | skip
          refine s171_7.mpr ?_
          refine (s171_8 (by first | decide | assumption | omega)).mpr ?_
          refine s171_11.mpr ?_
          try simp (disch := first | decide | assumption | omega) only [kon, knt_some, knt_none, Option.toList_some, Option.toList_none, List.cons_append, List.nil_append, r2, e9]
          refine (s171_12 (by first | decide | assumption | omega) (by first | decide | assumption | omega) (by first | decide | assumption | omega)).mpr ?_
          refine s171_13.mpr (s171_14.mpr (s171_15.mpr (s171_16.mpr ?_)))
          try simp (disch := first | decide | assumption | omega) only [kon, knt_some, knt_none, Option.toList_some, Option.toList_none, List.cons_append, List.nil_append, r2, e9]
          refine s171_18.mpr (wif (fun c18 => ?_) (fun c18 => ?_))
          · first
            | (exfalso; omega)
            | skip
              refine s171_25.mpr ?_
              refine (s171_26 (by first | decide | assumption | omega) (by first | decide | assumption | omega)).mpr ?_
              refine v_want1 h ?_
              refine s171_29.mpr (s171_30.mpr ?_)
              refine (s171_31 (by first | decide | assumption | omega) (by first | decide | assumption | omega)).mpr ?_
              refine v_push h hs (fun _ => rfl) (fun hi1 s1 f1 => ?_)
              refine s171_34.mpr ?_
              refine (s171_35 (by omega)).mpr ?_
              refine c_isLinear (fun y35 => ?_) (fun y35 => absurd (eL.mpr cl) y35)
              refine s171_38.mpr (wif (fun c38 => ?_) (fun c38 => ?_))
              · first
                | (exfalso; omega)
                | skip
                  refine (s171_49).mpr ?_
                  exact q2 _ (s1.loc (fun _ => rfl)) (f1.up wV_12)
              · first
                | (exfalso; omega)
                | skip
                  refine s171_41.mpr ?_
                  refine (s171_42 (by first | decide | assumption | omega)).mpr ?_
                  refine s171_45.mpr (s171_46.mpr ?_)
                  try simp (disch := first | decide | assumption | omega) only [kon, knt_some, knt_none, Option.toList_some, Option.toList_none, List.cons_append, List.nil_append, r2, e9]
                  refine (s171_48 (by first | decide | assumption | omega) (by first | decide | assumption | omega) (by first | decide | assumption | omega)).mpr ?_
                  try simp (disch := first | decide | assumption | omega) only [kon, knt_some, knt_none, Option.toList_some, Option.toList_none, List.cons_append, List.nil_append, r2, e9]
                  refine (s171_49).mpr ?_
                  exact q2 _ (s1.loc (fun _ => rfl)) (f1.up wV_12)
          · first
            | (exfalso; omega)
            | skip
              refine s171_21.mpr (s171_22.mpr ?_)
              refine (s171_26 (by first | decide | assumption | omega) (by first | decide | assumption | omega)).mpr ?_
              refine v_want1 h ?_
              refine s171_29.mpr (s171_30.mpr ?_)
              refine (s171_31 (by first | decide | assumption | omega) (by first | decide | assumption | omega)).mpr ?_
              refine v_push h hs (fun _ => rfl) (fun hi1 s1 f1 => ?_)
              refine s171_34.mpr ?_
              refine (s171_35 (by omega)).mpr ?_
              refine c_isLinear (fun y35 => ?_) (fun y35 => absurd (eL.mpr cl) y35)
              refine s171_38.mpr (wif (fun c38 => ?_) (fun c38 => ?_))
              · first
                | (exfalso; omega)
                | skip
                  refine (s171_49).mpr ?_
                  exact q2 _ (s1.loc (fun _ => rfl)) (f1.up wV_12)
              · first
                | (exfalso; omega)
                | skip
                  refine s171_41.mpr ?_
                  refine (s171_42 (by first | decide | assumption | omega)).mpr ?_
                  refine s171_45.mpr (s171_46.mpr ?_)
                  try simp (disch := first | decide | assumption | omega) only [kon, knt_some, knt_none, Option.toList_some, Option.toList_none, List.cons_append, List.nil_append, r2, e9]
                  refine (s171_48 (by first | decide | assumption | omega) (by first | decide | assumption | omega) (by first | decide | assumption | omega)).mpr ?_
                  try simp (disch := first | decide | assumption | omega) only [kon, knt_some, knt_none, Option.toList_some, Option.toList_none, List.cons_append, List.nil_append, r2, e9]
                  refine (s171_49).mpr ?_
                  exact q2 _ (s1.loc (fun _ => rfl)) (f1.up wV_12)
      · first
        | (exfalso; omega)
        | skip
          refine (s171_6).mpr ?_
          exact q2 _ (s1.loc (fun _ => rfl)) (f1.up wV_12)
    · rw [if_neg cl, nx_push] at q
      refine s171_0.mpr (s171_1.mpr ?_)
      refine s171_3.mpr (wif (fun c3 => ?_) (fun c3 => ?_))
      · first
        | (exfalso; omega)
        | skip
          refine s171_7.mpr ?_
          refine (s171_8 (by first | decide | assumption | omega)).mpr ?_
          refine s171_11.mpr ?_
          try simp (disch := first | decide | assumption | omega) only [kon, knt_some, knt_none, Option.toList_some, Option.toList_none, List.cons_append, List.nil_append, r2, e9]
          refine (s171_12 (by first | decide | assumption | omega) (by first | decide | assumption | omega) (by first | decide | assumption | omega)).mpr ?_
          refine s171_13.mpr (s171_14.mpr (s171_15.mpr (s171_16.mpr ?_)))
          try simp (disch := first | decide | assumption | omega) only [kon, knt_some, knt_none, Option.toList_some, Option.toList_none, List.cons_append, List.nil_append, r2, e9]
          refine s171_18.mpr (wif (fun c18 => ?_) (fun c18 => ?_))
          · first
            | (exfalso; omega)
            | skip
              refine s171_25.mpr ?_
              refine (s171_26 (by first | decide | assumption | omega) (by first | decide | assumption | omega)).mpr ?_
              refine v_want1 h ?_
              refine s171_29.mpr (s171_30.mpr ?_)
              refine (s171_31 (by first | decide | assumption | omega) (by first | decide | assumption | omega)).mpr ?_
              refine v_push h hs (fun _ => rfl) (fun hi1 s1 f1 => ?_)
              refine s171_34.mpr ?_
              refine (s171_35 (by omega)).mpr ?_
              refine c_isLinear (fun y35 => absurd (eL.mp y35) cl) (fun y35 => ?_)
              refine s171_38.mpr (wif (fun c38 => ?_) (fun c38 => ?_))
              · first
                | (exfalso; omega)
                | skip
                  refine (s171_49).mpr ?_
                  exact q _ s1 f1
              · first
                | (exfalso; omega)
                | skip
                  refine s171_41.mpr ?_
                  refine (s171_42 (by first | decide | assumption | omega)).mpr ?_
                  refine s171_45.mpr (s171_46.mpr ?_)
                  try simp (disch := first | decide | assumption | omega) only [kon, knt_some, knt_none, Option.toList_some, Option.toList_none, List.cons_append, List.nil_append, r2, e9]
                  refine (s171_48 (by first | decide | assumption | omega) (by first | decide | assumption | omega) (by first | decide | assumption | omega)).mpr ?_
                  try simp (disch := first | decide | assumption | omega) only [kon, knt_some, knt_none, Option.toList_some, Option.toList_none, List.cons_append, List.nil_append, r2, e9]
                  refine (s171_49).mpr ?_
                  exact q _ s1 f1
          · first
            | (exfalso; omega)
            | skip
              refine s171_21.mpr (s171_22.mpr ?_)
              refine (s171_26 (by first | decide | assumption | omega) (by first | decide | assumption | omega)).mpr ?_
              refine v_want1 h ?_
              refine s171_29.mpr (s171_30.mpr ?_)
              refine (s171_31 (by first | decide | assumption | omega) (by first | decide | assumption | omega)).mpr ?_
              refine v_push h hs (fun _ => rfl) (fun hi1 s1 f1 => ?_)
              refine s171_34.mpr ?_
              refine (s171_35 (by omega)).mpr ?_
              refine c_isLinear (fun y35 => absurd (eL.mp y35) cl) (fun y35 => ?_)
              refine s171_38.mpr (wif (fun c38 => ?_) (fun c38 => ?_))
              · first
                | (exfalso; omega)
                | skip
                  refine (s171_49).mpr ?_
                  exact q _ s1 f1
              · first
                | (exfalso; omega)
                | skip
                  refine s171_41.mpr ?_
                  refine (s171_42 (by first | decide | assumption | omega)).mpr ?_
                  refine s171_45.mpr (s171_46.mpr ?_)
                  try simp (disch := first | decide | assumption | omega) only [kon, knt_some, knt_none, Option.toList_some, Option.toList_none, List.cons_append, List.nil_append, r2, e9]
                  refine (s171_48 (by first | decide | assumption | omega) (by first | decide | assumption | omega) (by first | decide | assumption | omega)).mpr ?_
                  try simp (disch := first | decide | assumption | omega) only [kon, knt_some, knt_none, Option.toList_some, Option.toList_none, List.cons_append, List.nil_append, r2, e9]
                  refine (s171_49).mpr ?_
                  exact q _ s1 f1
      · first
        | (exfalso; omega)
        | skip
          refine (s171_6).mpr ?_
          exact q _ s1 f1
theorem up1_sf {g : Int → Int} {i : Int} : up1 g i (g i) = g := by
  funext j
  unfold up1
  split
  · rename_i e; rw [e]
  · rfl
theorem v_followMove {op v : Int} {X : Tst} (h : VR al hr) (hd : 2 ≤ d) (hs : VS (some X) hi) (hv : vX B X) (o0 : 0 ≤ op ∧ op ≤ 6) (v0 : op = 2 ∨ op = 3 → 0 ≤ v ∧ v < 10) (p : Int)
    (q : ∀ hi', VS (nxO (tsP op v p X)) hi' → FW wV hi hi' → Q (some (some (vI 1))) al hi' hr) : Ev d 170 [vR (some 8), vI op, vI v] al hi hr Q := by
  have k8 := h.k8; have k11 := h.k11; have k12 := h.k12; have l11 := h.l11; have l12 := h.l12; have r1 := h.2.2.1; have r2 := h.2.2.2.1
  have T0 : op = 0 → Wp d 170 40 [vR (some 8), vI op, vI v, none, none, none] [] al hi hr Q := by
    rintro rfl
    rw [show tsP 0 v p X = some [(p + 5, (X.1 + 1, up1 X.2.1 X.1 0, X.2.2))] from onw_p trivial, nx_push] at q
    refine s170_40.mpr (s170_41.mpr ?_)
    refine (s170_42 (by first | decide | assumption | omega) (by first | decide | assumption | omega)).mpr ?_
    refine v_push h hs (fun _ => cv_0.symm) (fun hi1 s1 f1 => ?_)
    refine s170_45.mpr (s170_185.mpr ?_)
    refine (s170_186 (by first | assumption | omega)).mpr ?_
    exact q _ s1 f1
  have T1 : op = 1 → Wp d 170 48 [vR (some 8), vI op, vI v, none, none, none] [] al hi hr Q := by
    rintro rfl
    rw [show tsP 1 v p X = some [(p + 1, (X.1 + 1, up1 X.2.1 X.1 6, X.2.2))] from onw_p trivial, nx_push] at q
    refine s170_48.mpr (s170_49.mpr ?_)
    refine (s170_51 (by first | decide | assumption | omega) (by first | decide | assumption | omega)).mpr ?_
    refine v_push h hs (fun _ => cv_6.symm) (fun hi1 s1 f1 => ?_)
    refine s170_54.mpr (s170_185.mpr ?_)
    refine (s170_186 (by first | assumption | omega)).mpr ?_
    exact q _ s1 f1
  have T2 : op = 2 → Wp d 170 57 [vR (some 8), vI op, vI v, none, none, none] [] al hi hr Q := by
    rintro rfl
    refine s170_57.mpr (s170_58.mpr ?_)
    refine (s170_59 (by first | decide | assumption | omega) (by first | decide | assumption | omega)).mpr ?_
    refine v_followLoad h (by omega) hs hv (v0 (Or.inl rfl)) p (fun hi1 s1 f1 => ?_)
    refine s170_62.mpr (s170_185.mpr ?_)
    refine (s170_186 (by first | assumption | omega)).mpr ?_
    exact q _ s1 f1
  have T3 : op = 3 → Wp d 170 65 [vR (some 8), vI op, vI v, none, none, none] [] al hi hr Q := by
    rintro rfl
    have v0 := v0 (Or.inr rfl)
    have e9 : hi 12 v = cv (X.2.2 v) := hs.2.2.2.2.2 v v0.1 v0.2
    have eL := linC_v (hv.2.2 v v0.1 v0.2).r
    have et : tsP 3 v p X = onw (¬ linT (X.2.2 v) ∧ 0 < X.1) [(p + 2, (X.1 - 1, X.2.1, up1 X.2.2 v (X.2.1 (X.1 - 1))))] := rfl
    rw [et] at q
    by_cases cl : linT (X.2.2 v)
    · rw [onw_n (fun z => z.1 cl), nx_n] at q
      refine s170_65.mpr (s170_66.mpr ?_)
      refine s170_68.mpr (wif (fun c68 => ?_) (fun c68 => ?_))
      · first
        | (exfalso; omega)
        | skip
          first | (exfalso; omega) | skip
          refine s170_71.mpr (s170_72.mpr ?_)
          refine (s170_73 k8).mpr ?_
          rw [r2]
          refine s170_76.mpr ?_
          refine (s170_77 k12 (by omega) (by omega)).mpr ?_
          rw [e9]
          refine (s170_78 (by omega)).mpr ?_
          refine c_isLinear (fun _ => ?_) (fun y => absurd (eL.mpr cl) y)
          simp only [kon, knt_some, knt_none, Option.toList_some, Option.toList_none, List.cons_append, List.nil_append]
          refine s170_81.mpr (wif (fun c => absurd c (by decide)) (fun _ => ?_))
          refine s170_88.mpr ?_
          refine (s170_89 (by omega) k8).mpr ?_
          refine v_want0 h ?_
          simp only [kon, knt_some, knt_none, Option.toList_some, Option.toList_none, List.cons_append, List.nil_append]
          refine s170_92.mpr ?_
          refine (s170_93 k8).mpr ?_
          rw [r2]
          refine s170_96.mpr (s170_97.mpr ?_)
          refine (s170_98 (by omega) k8).mpr ?_
          refine v_popN h hs.w (fun v1 hi1 s1 f1 => ?_)
          simp only [kon, knt_some, knt_none, Option.toList_some, Option.toList_none, List.cons_append, List.nil_append]
          refine (s170_101 k12 (by omega) (by omega)).mpr ?_
          refine s170_102.mpr (s170_185.mpr ?_)
          refine (s170_186 (by decide)).mpr ?_
          exact q _ s1.ln (((FW.up FW.rf wV_5).tr f1).up wV_12)
      · first
        | (exfalso; omega)
        | skip
          refine s170_185.mpr ?_
          refine (s170_186 (by first | assumption | omega)).mpr ?_
          exfalso; omega
    · have q2 : ∀ v1 hi1, VS (popO (some X)) hi1 → topV (some X) v1 → FW wV hi hi1 → Q (some (some (vI 1))) al (upI hi1 12 v v1) hr := fun v1 hi1 s1 t1 f1 => q _ (by
        by_cases c : 0 < X.1
        · rw [onw_p ⟨cl, c⟩, nx_y (by show X.1 - 1 ≤ 16; have := hs.2.2.2.1; omega)]
          rw [pop_y c] at s1
          exact s1.loc (v := v) (t := X.2.1 (X.1 - 1)) (fun _ => t1 X rfl c)
        · rw [onw_n (fun z => c z.2), nx_n]; rw [pop_n c] at s1; exact s1.ln) (f1.up wV_12)
      refine s170_65.mpr (s170_66.mpr ?_)
      refine s170_68.mpr (wif (fun c68 => ?_) (fun c68 => ?_))
      · first
        | (exfalso; omega)
        | skip
          skip
          refine s170_71.mpr (s170_72.mpr ?_)
          refine (s170_73 k8).mpr ?_
          rw [r2]
          refine s170_76.mpr ?_
          refine (s170_77 k12 (by omega) (by omega)).mpr ?_
          rw [e9]
          refine (s170_78 (by omega)).mpr ?_
          refine c_isLinear (fun y => absurd (eL.mp y) cl) (fun _ => ?_)
          simp only [kon, knt_some, knt_none, Option.toList_some, Option.toList_none, List.cons_append, List.nil_append]
          refine s170_81.mpr (wif (fun _ => ?_) (fun c => absurd rfl c))
          refine s170_84.mpr (s170_85.mpr ?_)
          refine (s170_89 (by omega) k8).mpr ?_
          refine v_want1 h ?_
          simp only [kon, knt_some, knt_none, Option.toList_some, Option.toList_none, List.cons_append, List.nil_append]
          refine s170_92.mpr ?_
          refine (s170_93 k8).mpr ?_
          rw [r2]
          refine s170_96.mpr (s170_97.mpr ?_)
          refine (s170_98 (by omega) k8).mpr ?_
          refine v_pop h hs (fun v1 hi1 s1 f1 t1 => ?_)
          simp only [kon, knt_some, knt_none, Option.toList_some, Option.toList_none, List.cons_append, List.nil_append]
          refine (s170_101 k12 (by omega) (by omega)).mpr ?_
          refine s170_102.mpr (s170_185.mpr ?_)
          refine (s170_186 (by decide)).mpr ?_
          exact q2 v1 hi1 s1 t1 f1
      · first
        | (exfalso; omega)
        | skip
          exfalso; omega
  have tk : ∀ v1, topV (some X) v1 → 0 < X.1 → (linC v1 ↔ linT (X.2.1 (X.1 - 1))) := fun v1 t1 c => by rw [t1 X rfl c]; exact linC_v (hv.2.1 _ (by omega) (by omega)).r
  have T4 : op = 4 → Wp d 170 105 [vR (some 8), vI op, vI v, none, none, none] [] al hi hr Q := by
    rintro rfl
    have et : tsP 4 v p X = onw (0 < X.1 ∧ ¬ linT (X.2.1 (X.1 - 1))) [(p + 1, (X.1 - 1, X.2.1, X.2.2))] := rfl
    rw [et] at q
    have q1 : ∀ v1 hi1, VS (popO (some X)) hi1 → topV (some X) v1 → FW wV hi hi1 → linC v1 → Q (some (some (vI 1))) al (upI hi1 8 5 1) hr := fun v1 hi1 s1 t1 f1 y => q _ (by
      rw [onw_n (fun z => z.2 ((tk v1 t1 z.1).mp y))]; exact s1.w) (f1.up wV_5)
    have q2 : ∀ v1 hi1, VS (popO (some X)) hi1 → topV (some X) v1 → FW wV hi hi1 → ¬ linC v1 → Q (some (some (vI 1))) al hi1 hr := fun v1 hi1 s1 t1 f1 y => q _ (by
      by_cases c : 0 < X.1
      · rw [onw_p ⟨c, fun z => y ((tk v1 t1 c).mpr z)⟩, nx_y (by show X.1 - 1 ≤ 16; have := hs.2.2.2.1; omega)]; rw [pop_y c] at s1; exact s1
      · rw [onw_n (fun z => c z.1)]; rw [pop_n c] at s1; exact s1) f1
    refine s170_105.mpr (s170_106.mpr ?_)
    refine (s170_107 (by first | decide | assumption | omega) (by first | decide | assumption | omega)).mpr ?_
    refine v_pop h hs (fun v1 hi1 s1 f1 t1 => ?_)
    refine (s170_110 (by omega)).mpr ?_
    refine c_isLinear (fun y110 => ?_) (fun y110 => ?_)
    · skip
      refine s170_113.mpr (wif (fun c113 => ?_) (fun c113 => ?_))
      · first
        | (exfalso; omega)
        | skip
          refine s170_116.mpr (s170_117.mpr ?_)
          refine (s170_121 (by first | decide | assumption | omega) (by first | decide | assumption | omega)).mpr ?_
          first | refine v_want0 h ?_ | refine v_want1 h ?_
          refine s170_124.mpr (s170_185.mpr ?_)
          refine (s170_186 (by first | assumption | omega)).mpr ?_
          first | exact q1 v1 hi1 s1 t1 f1 (by assumption) | exact q2 v1 hi1 s1 t1 f1 (by assumption) | (exfalso; omega)
      · first
        | (exfalso; omega)
        | skip
          refine s170_120.mpr ?_
          refine (s170_121 (by first | decide | assumption | omega) (by first | decide | assumption | omega)).mpr ?_
          first | refine v_want0 h ?_ | refine v_want1 h ?_
          refine s170_124.mpr (s170_185.mpr ?_)
          refine (s170_186 (by first | assumption | omega)).mpr ?_
          first | exact q1 v1 hi1 s1 t1 f1 (by assumption) | exact q2 v1 hi1 s1 t1 f1 (by assumption) | (exfalso; omega)
    · skip
      refine s170_113.mpr (wif (fun c113 => ?_) (fun c113 => ?_))
      · first
        | (exfalso; omega)
        | skip
          refine s170_116.mpr (s170_117.mpr ?_)
          refine (s170_121 (by first | decide | assumption | omega) (by first | decide | assumption | omega)).mpr ?_
          first | refine v_want0 h ?_ | refine v_want1 h ?_
          refine s170_124.mpr (s170_185.mpr ?_)
          refine (s170_186 (by first | assumption | omega)).mpr ?_
          first | exact q1 v1 hi1 s1 t1 f1 (by assumption) | exact q2 v1 hi1 s1 t1 f1 (by assumption) | (exfalso; omega)
      · first
        | (exfalso; omega)
        | skip
          refine s170_120.mpr ?_
          refine (s170_121 (by first | decide | assumption | omega) (by first | decide | assumption | omega)).mpr ?_
          first | refine v_want0 h ?_ | refine v_want1 h ?_
          refine s170_124.mpr (s170_185.mpr ?_)
          refine (s170_186 (by first | assumption | omega)).mpr ?_
          first | exact q1 v1 hi1 s1 t1 f1 (by assumption) | exact q2 v1 hi1 s1 t1 f1 (by assumption) | (exfalso; omega)
  have T5 : op = 5 → Wp d 170 127 [vR (some 8), vI op, vI v, none, none, none] [] al hi hr Q := by
    rintro rfl
    have et : tsP 5 v p X = onw (0 < X.1 ∧ ¬ linT (X.2.1 (X.1 - 1))) [(p + 1, (X.1 + 1, up1 X.2.1 X.1 (X.2.1 (X.1 - 1)), X.2.2))] := rfl
    rw [et] at q
    have q1 : ∀ v1 hi3, topV (some X) v1 → FW wV hi hi3 → linC v1 → VS none hi3 → Q (some (some (vI 1))) al hi3 hr := fun v1 hi3 t1 f1 y s3 => q _ (by
      rw [onw_n (fun z => z.2 ((tk v1 t1 z.1).mp y))]; exact s3) f1
    have q2 : ∀ v1 hi3, topV (some X) v1 → FW wV hi hi3 → ¬ linC v1 → VS (pushO (pushO (popO (some X)) (X.2.1 (X.1 - 1))) (X.2.1 (X.1 - 1))) hi3 → Q (some (some (vI 1))) al hi3 hr := fun v1 hi3 t1 f1 y s3 => q _ (by
      by_cases c : 0 < X.1
      · have c16 := hs.2.2.2.1
        rw [onw_p ⟨c, fun z => y ((tk v1 t1 c).mpr z)⟩, nx_push]
        rw [pop_y c, push_y (by show X.1 - 1 < 16; omega)] at s3
        simp only [Int.sub_add_cancel, up1_sf] at s3
        exact s3
      · rw [onw_n (fun z => c z.1)]; rw [pop_n c] at s3; exact s3) f1
    refine s170_127.mpr ?_
    refine (s170_128 (by first | decide | assumption | omega) (by first | decide | assumption | omega)).mpr ?_
    refine v_pop h hs (fun v1 hi1 s1 f1 t1 => ?_)
    refine s170_131.mpr (s170_132.mpr (s170_133.mpr ?_))
    refine (s170_134 (by omega)).mpr ?_
    refine c_isLinear (fun y134 => ?_) (fun y134 => ?_)
    · skip
      refine s170_137.mpr (wif (fun c137 => ?_) (fun c137 => ?_))
      · first
        | (exfalso; omega)
        | skip
          refine s170_140.mpr (s170_141.mpr ?_)
          refine (s170_145 (by first | decide | assumption | omega) (by first | decide | assumption | omega)).mpr ?_
          first | skip
          first
          | (refine v_want0 h ?_
             simp only [kon, knt_some, knt_none, Option.toList_some, Option.toList_none, List.cons_append, List.nil_append]
             refine s170_148.mpr (s170_149.mpr ?_)
             refine (s170_150 (by omega) k8).mpr ?_
             refine v_pushN h s1.w (fun hi2 s2 f2 => ?_)
             simp only [kon, knt_some, knt_none, Option.toList_some, Option.toList_none, List.cons_append, List.nil_append]
             refine s170_153.mpr (s170_154.mpr ?_)
             refine (s170_155 (by omega) k8).mpr ?_
             refine v_pushN h s2 (fun hi3 s3 f3 => ?_)
             simp only [kon, knt_some, knt_none, Option.toList_some, Option.toList_none, List.cons_append, List.nil_append]
             refine s170_158.mpr (s170_185.mpr ?_)
             refine (s170_186 (by decide)).mpr ?_
             exact q1 v1 hi3 t1 (((f1.up wV_5).tr f2).tr f3) (by assumption) s3)
          | (refine v_want1 h ?_
             simp only [kon, knt_some, knt_none, Option.toList_some, Option.toList_none, List.cons_append, List.nil_append]
             refine s170_148.mpr (s170_149.mpr ?_)
             refine (s170_150 (by omega) k8).mpr ?_
             refine v_push h s1 (fun z => t1 X rfl (nn_pop rfl z)) (fun hi2 s2 f2 => ?_)
             simp only [kon, knt_some, knt_none, Option.toList_some, Option.toList_none, List.cons_append, List.nil_append]
             refine s170_153.mpr (s170_154.mpr ?_)
             refine (s170_155 (by omega) k8).mpr ?_
             refine v_push h s2 (fun z => t1 X rfl (nn_pop rfl (fun w => z (by rw [w]; rfl)))) (fun hi3 s3 f3 => ?_)
             simp only [kon, knt_some, knt_none, Option.toList_some, Option.toList_none, List.cons_append, List.nil_append]
             refine s170_158.mpr (s170_185.mpr ?_)
             refine (s170_186 (by decide)).mpr ?_
             exact q2 v1 hi3 t1 ((f1.tr f2).tr f3) (by assumption) s3)
          | (exfalso; omega)
      · first
        | (exfalso; omega)
        | skip
          refine s170_144.mpr ?_
          refine (s170_145 (by first | decide | assumption | omega) (by first | decide | assumption | omega)).mpr ?_
          first | skip
          first
          | (refine v_want0 h ?_
             simp only [kon, knt_some, knt_none, Option.toList_some, Option.toList_none, List.cons_append, List.nil_append]
             refine s170_148.mpr (s170_149.mpr ?_)
             refine (s170_150 (by omega) k8).mpr ?_
             refine v_pushN h s1.w (fun hi2 s2 f2 => ?_)
             simp only [kon, knt_some, knt_none, Option.toList_some, Option.toList_none, List.cons_append, List.nil_append]
             refine s170_153.mpr (s170_154.mpr ?_)
             refine (s170_155 (by omega) k8).mpr ?_
             refine v_pushN h s2 (fun hi3 s3 f3 => ?_)
             simp only [kon, knt_some, knt_none, Option.toList_some, Option.toList_none, List.cons_append, List.nil_append]
             refine s170_158.mpr (s170_185.mpr ?_)
             refine (s170_186 (by decide)).mpr ?_
             exact q1 v1 hi3 t1 (((f1.up wV_5).tr f2).tr f3) (by assumption) s3)
          | (refine v_want1 h ?_
             simp only [kon, knt_some, knt_none, Option.toList_some, Option.toList_none, List.cons_append, List.nil_append]
             refine s170_148.mpr (s170_149.mpr ?_)
             refine (s170_150 (by omega) k8).mpr ?_
             refine v_push h s1 (fun z => t1 X rfl (nn_pop rfl z)) (fun hi2 s2 f2 => ?_)
             simp only [kon, knt_some, knt_none, Option.toList_some, Option.toList_none, List.cons_append, List.nil_append]
             refine s170_153.mpr (s170_154.mpr ?_)
             refine (s170_155 (by omega) k8).mpr ?_
             refine v_push h s2 (fun z => t1 X rfl (nn_pop rfl (fun w => z (by rw [w]; rfl)))) (fun hi3 s3 f3 => ?_)
             simp only [kon, knt_some, knt_none, Option.toList_some, Option.toList_none, List.cons_append, List.nil_append]
             refine s170_158.mpr (s170_185.mpr ?_)
             refine (s170_186 (by decide)).mpr ?_
             exact q2 v1 hi3 t1 ((f1.tr f2).tr f3) (by assumption) s3)
          | (exfalso; omega)
    · skip
      refine s170_137.mpr (wif (fun c137 => ?_) (fun c137 => ?_))
      · first
        | (exfalso; omega)
        | skip
          refine s170_140.mpr (s170_141.mpr ?_)
          refine (s170_145 (by first | decide | assumption | omega) (by first | decide | assumption | omega)).mpr ?_
          first | skip
          first
          | (refine v_want0 h ?_
             simp only [kon, knt_some, knt_none, Option.toList_some, Option.toList_none, List.cons_append, List.nil_append]
             refine s170_148.mpr (s170_149.mpr ?_)
             refine (s170_150 (by omega) k8).mpr ?_
             refine v_pushN h s1.w (fun hi2 s2 f2 => ?_)
             simp only [kon, knt_some, knt_none, Option.toList_some, Option.toList_none, List.cons_append, List.nil_append]
             refine s170_153.mpr (s170_154.mpr ?_)
             refine (s170_155 (by omega) k8).mpr ?_
             refine v_pushN h s2 (fun hi3 s3 f3 => ?_)
             simp only [kon, knt_some, knt_none, Option.toList_some, Option.toList_none, List.cons_append, List.nil_append]
             refine s170_158.mpr (s170_185.mpr ?_)
             refine (s170_186 (by decide)).mpr ?_
             exact q1 v1 hi3 t1 (((f1.up wV_5).tr f2).tr f3) (by assumption) s3)
          | (refine v_want1 h ?_
             simp only [kon, knt_some, knt_none, Option.toList_some, Option.toList_none, List.cons_append, List.nil_append]
             refine s170_148.mpr (s170_149.mpr ?_)
             refine (s170_150 (by omega) k8).mpr ?_
             refine v_push h s1 (fun z => t1 X rfl (nn_pop rfl z)) (fun hi2 s2 f2 => ?_)
             simp only [kon, knt_some, knt_none, Option.toList_some, Option.toList_none, List.cons_append, List.nil_append]
             refine s170_153.mpr (s170_154.mpr ?_)
             refine (s170_155 (by omega) k8).mpr ?_
             refine v_push h s2 (fun z => t1 X rfl (nn_pop rfl (fun w => z (by rw [w]; rfl)))) (fun hi3 s3 f3 => ?_)
             simp only [kon, knt_some, knt_none, Option.toList_some, Option.toList_none, List.cons_append, List.nil_append]
             refine s170_158.mpr (s170_185.mpr ?_)
             refine (s170_186 (by decide)).mpr ?_
             exact q2 v1 hi3 t1 ((f1.tr f2).tr f3) (by assumption) s3)
          | (exfalso; omega)
      · first
        | (exfalso; omega)
        | skip
          refine s170_144.mpr ?_
          refine (s170_145 (by first | decide | assumption | omega) (by first | decide | assumption | omega)).mpr ?_
          first | skip
          first
          | (refine v_want0 h ?_
             simp only [kon, knt_some, knt_none, Option.toList_some, Option.toList_none, List.cons_append, List.nil_append]
             refine s170_148.mpr (s170_149.mpr ?_)
             refine (s170_150 (by omega) k8).mpr ?_
             refine v_pushN h s1.w (fun hi2 s2 f2 => ?_)
             simp only [kon, knt_some, knt_none, Option.toList_some, Option.toList_none, List.cons_append, List.nil_append]
             refine s170_153.mpr (s170_154.mpr ?_)
             refine (s170_155 (by omega) k8).mpr ?_
             refine v_pushN h s2 (fun hi3 s3 f3 => ?_)
             simp only [kon, knt_some, knt_none, Option.toList_some, Option.toList_none, List.cons_append, List.nil_append]
             refine s170_158.mpr (s170_185.mpr ?_)
             refine (s170_186 (by decide)).mpr ?_
             exact q1 v1 hi3 t1 (((f1.up wV_5).tr f2).tr f3) (by assumption) s3)
          | (refine v_want1 h ?_
             simp only [kon, knt_some, knt_none, Option.toList_some, Option.toList_none, List.cons_append, List.nil_append]
             refine s170_148.mpr (s170_149.mpr ?_)
             refine (s170_150 (by omega) k8).mpr ?_
             refine v_push h s1 (fun z => t1 X rfl (nn_pop rfl z)) (fun hi2 s2 f2 => ?_)
             simp only [kon, knt_some, knt_none, Option.toList_some, Option.toList_none, List.cons_append, List.nil_append]
             refine s170_153.mpr (s170_154.mpr ?_)
             refine (s170_155 (by omega) k8).mpr ?_
             refine v_push h s2 (fun z => t1 X rfl (nn_pop rfl (fun w => z (by rw [w]; rfl)))) (fun hi3 s3 f3 => ?_)
             simp only [kon, knt_some, knt_none, Option.toList_some, Option.toList_none, List.cons_append, List.nil_append]
             refine s170_158.mpr (s170_185.mpr ?_)
             refine (s170_186 (by decide)).mpr ?_
             exact q2 v1 hi3 t1 ((f1.tr f2).tr f3) (by assumption) s3)
          | (exfalso; omega)
  have T6 : op = 6 → Wp d 170 161 [vR (some 8), vI op, vI v, none, none, none] [] al hi hr Q := by
    rintro rfl
    have et : tsP 6 v p X = onw (1 < X.1) [(p + 1, (X.1, up1 (up1 X.2.1 (X.1 - 2) (X.2.1 (X.1 - 1))) (X.1 - 1) (X.2.1 (X.1 - 2)), X.2.2))] := rfl
    rw [et] at q
    have q2 : ∀ hi3, FW wV hi hi3 → VS (pushO (pushO (popO (popO (some X))) (X.2.1 (X.1 - 1))) (X.2.1 (X.1 - 2))) hi3 → Q (some (some (vI 1))) al hi3 hr := fun hi3 f1 s3 => q _ (by
      have c16 := hs.2.2.2.1
      by_cases c : 1 < X.1
      · rw [onw_p c, nx_y (by show X.1 ≤ 16; exact c16)]
        rw [pop_y (by omega), pop_y (by show 0 < X.1 - 1; omega), push_y (by show X.1 - 1 - 1 < 16; omega), push_y (by show X.1 - 1 - 1 + 1 < 16; omega)] at s3
        simp only [show X.1 - 1 - 1 = X.1 - 2 by omega, show X.1 - 2 + 1 = X.1 - 1 by omega, Int.sub_add_cancel] at s3
        exact s3
      · rw [onw_n c]
        by_cases c1 : 0 < X.1
        · rw [pop_y c1, pop_n (by show ¬ 0 < X.1 - 1; omega)] at s3; exact s3
        · rw [pop_n c1] at s3; exact s3) f1
    refine s170_161.mpr ?_
    refine (s170_162 (by first | decide | assumption | omega) (by first | decide | assumption | omega)).mpr ?_
    first
    | (refine v_pop h hs (fun v1 hi1 s1 f1 t1 => ?_)
       simp only [kon, knt_some, knt_none, Option.toList_some, Option.toList_none, List.cons_append, List.nil_append]
       refine s170_165.mpr (s170_167.mpr ?_)
       refine (s170_168 (by omega) k8).mpr ?_
       refine v_pop h s1 (fun v2 hi2 s2 f2 t2 => ?_)
       simp only [kon, knt_some, knt_none, Option.toList_some, Option.toList_none, List.cons_append, List.nil_append]
       refine s170_171.mpr (s170_173.mpr (s170_174.mpr ?_))
       refine (s170_176 (by omega) k8).mpr ?_
       refine v_push (t := X.2.1 (X.1 - 1)) h s2 (fun z => t1 X rfl (nn_pop rfl (fun w => z (by rw [w]; rfl)))) (fun hi3 s3 f3 => ?_)
       simp only [kon, knt_some, knt_none, Option.toList_some, Option.toList_none, List.cons_append, List.nil_append]
       refine s170_179.mpr (s170_180.mpr ?_)
       refine (s170_182 (by omega) k8).mpr ?_
       refine v_push (t := X.2.1 (X.1 - 2)) h s3 (fun z => ?_) (fun hi4 s4 f4 => ?_)
       · have z1 : popO (popO (some X)) ≠ none := fun w => z (by rw [w]; rfl)
         have c1 : 0 < X.1 := nn_pop rfl (fun w => z1 (by rw [w]; rfl))
         have e1 := pop_y c1
         have c2 := nn_pop e1 z1
         have := t2 _ e1 c2
         rw [this]; show cv (X.2.1 (X.1 - 1 - 1)) = _; rw [show X.1 - 1 - 1 = X.1 - 2 by omega]
       · simp only [kon, knt_some, knt_none, Option.toList_some, Option.toList_none, List.cons_append, List.nil_append]
         refine s170_185.mpr ?_
         refine (s170_186 (by decide)).mpr ?_
         exact q2 hi4 (((f1.tr f2).tr f3).tr f4) s4)
  rw [e170]
  refine s170_0.mpr ?_
  refine g170_1 (fun c1 => ?_) (fun c1 => ?_) (fun c1 => ?_) (fun c1 => ?_) (fun c1 => ?_) (fun c1 => ?_) (fun c1 => ?_)
  · skip
    have c1 := List.mem_singleton.mp c1
    exact T0 c1
  · skip
    have c1 := List.mem_singleton.mp c1
    exact T1 c1
  · skip
    have c1 := List.mem_singleton.mp c1
    exact T2 c1
  · skip
    have c1 := List.mem_singleton.mp c1
    exact T3 c1
  · skip
    have c1 := List.mem_singleton.mp c1
    exact T4 c1
  · skip
    have c1 := List.mem_singleton.mp c1
    exact T5 c1
  · skip
    exact T6 (by simp only [List.mem_cons, List.not_mem_nil, or_false] at c1; omega)
end CV7
