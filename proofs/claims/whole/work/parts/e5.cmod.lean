/-! THE CLASS: module, typeAt -/
section CM5
variable {d : Nat} {al : AL} {hi : HI} {hr : HR} {Q : QQ} {B : Int → Int} {N : Nat} {n : Int} {L : Nat}
def shA (hr : HR) (m : Int) : Option Nat := if 0 ≤ m ∧ m < 6 then hr 4 m else none
theorem x_onShelf2 {m : Int} (hA : SA al) (hc : CR hr) (q : Q (some (some (vR (shA hr m)))) al hi hr) : Ev d 202 [vR (some 2), vI m] al hi hr Q := x_onShelf hA hc q
theorem x_moduleN {m f w : Int} (hA : SA al) (hc : CR hr) (hd : 1 ≤ d) (e : shA hr m = none) (q : Q (some (some (vI (-1)))) al hi hr) : Ev d 190 [vR (some 2), vI m, vI f, vI w] al hi hr Q := by
  have k2 : isK al 2 12 := hA.k (by decide) (by decide) rfl
  rw [e190]
  refine s190_0.mpr (s190_1.mpr ?_)
  refine (s190_2 (by first | decide | assumption | omega) (by first | decide | assumption | omega)).mpr ?_
  refine x_onShelf2 hA hc ?_
  simp only [kon, knt_some, knt_none, Option.toList_some, Option.toList_none, List.cons_append, List.nil_append, e]
  refine s190_5.mpr (s190_7.mpr ?_)
  refine s190_9.mpr (wif (fun c9 => ?_) (fun c9 => ?_))
  · skip
    refine s190_12.mpr ?_
    refine (s190_13).mpr ?_
    exact q
  · skip
    exact absurd rfl (by assumption)
theorem x_ofRoutineN {w : Int} (q : Q (some (some (vI (-1)))) al hi hr) : Ev d 204 [vR none, vI w] al hi hr Q := by
  rw [e204]
  refine s204_0.mpr ?_
  refine s204_1.mpr (wif (fun c1 => ?_) (fun c1 => ?_))
  · skip
    refine s204_4.mpr ?_
    refine (s204_5).mpr ?_
    exact q
  · skip
    exact absurd rfl (by assumption)
theorem x_ofRoutine {w f : Int} {t H C : Nat} {A : Asg} (hR : RoutOK al hi hr B f t) (hV : RtV al hi hr B f t H C A) (q : ∀ v, (if w = 10 then v = nPar B f else if w = 11 then v = nLoc B f else if w = 12 then v = cLen B f else if w = 13 then v = cAt B f else if w = 14 then HG B f v else v = -1) → Q (some (some (vI v))) al hi hr) : Ev d 204 [vR (some (t + 1)), vI w] al hi hr Q := by
  have k := hR.1.1
  obtain ⟨e0, e2, e3, e4, e5, -⟩ := hR.2.2.2
  have hg : HG B f (hi (t + 1) 6) := ⟨A, hV.2.2, hV.2.1.2.2.1, hV.2.1.2.2.2.1, hV.2.1.2.2.2.2⟩
  rw [e204]
  refine s204_0.mpr ?_
  refine s204_1.mpr (wif (fun c1 => ?_) (fun c1 => ?_))
  · skip
    cases ‹some (t + 1) = none›
  · skip
    refine s204_6.mpr ?_
    refine g204_7 (fun c7 => ?_) (fun c7 => ?_) (fun c7 => ?_) (fun c7 => ?_) (fun c7 => ?_) (fun c7 => ?_)
    · skip
      have c7 := List.mem_singleton.mp c7
      refine s204_40.mpr ?_
      refine (s204_41 (by first | decide | assumption | omega)).mpr ?_
      refine (s204_44).mpr ?_
      refine q _ ?_
      first
      | (rw [if_pos (by assumption)]; exact e0)
      | (rw [if_neg (by omega), if_pos (by assumption)]; exact e3)
      | (rw [if_neg (by omega), if_neg (by omega), if_pos (by assumption)]; exact e4)
      | (rw [if_neg (by omega), if_neg (by omega), if_neg (by omega), if_pos (by assumption)]; exact e5)
      | (rw [if_neg (by omega), if_neg (by omega), if_neg (by omega), if_neg (by omega), if_pos (by assumption)]; exact hg)
      | (rename_i c9; simp only [List.mem_cons, List.not_mem_nil, or_false, not_or] at c9; rw [if_neg (by omega), if_neg (by omega), if_neg (by omega), if_neg (by omega), if_neg (by omega)])
      | (simp only [List.mem_cons, List.not_mem_nil, or_false, not_or] at c7; rw [if_neg (by omega), if_neg (by omega), if_neg (by omega), if_neg (by omega), if_neg (by omega)])
    · skip
      have c7 := List.mem_singleton.mp c7
      refine s204_45.mpr ?_
      refine (s204_46 (by first | decide | assumption | omega)).mpr ?_
      refine (s204_49).mpr ?_
      refine q _ ?_
      first
      | (rw [if_pos (by assumption)]; exact e0)
      | (rw [if_neg (by omega), if_pos (by assumption)]; exact e3)
      | (rw [if_neg (by omega), if_neg (by omega), if_pos (by assumption)]; exact e4)
      | (rw [if_neg (by omega), if_neg (by omega), if_neg (by omega), if_pos (by assumption)]; exact e5)
      | (rw [if_neg (by omega), if_neg (by omega), if_neg (by omega), if_neg (by omega), if_pos (by assumption)]; exact hg)
      | (rename_i c9; simp only [List.mem_cons, List.not_mem_nil, or_false, not_or] at c9; rw [if_neg (by omega), if_neg (by omega), if_neg (by omega), if_neg (by omega), if_neg (by omega)])
      | (simp only [List.mem_cons, List.not_mem_nil, or_false, not_or] at c7; rw [if_neg (by omega), if_neg (by omega), if_neg (by omega), if_neg (by omega), if_neg (by omega)])
    · skip
      have c7 := List.mem_singleton.mp c7
      refine s204_50.mpr ?_
      refine (s204_51 (by first | decide | assumption | omega)).mpr ?_
      refine (s204_54).mpr ?_
      refine q _ ?_
      first
      | (rw [if_pos (by assumption)]; exact e0)
      | (rw [if_neg (by omega), if_pos (by assumption)]; exact e3)
      | (rw [if_neg (by omega), if_neg (by omega), if_pos (by assumption)]; exact e4)
      | (rw [if_neg (by omega), if_neg (by omega), if_neg (by omega), if_pos (by assumption)]; exact e5)
      | (rw [if_neg (by omega), if_neg (by omega), if_neg (by omega), if_neg (by omega), if_pos (by assumption)]; exact hg)
      | (rename_i c9; simp only [List.mem_cons, List.not_mem_nil, or_false, not_or] at c9; rw [if_neg (by omega), if_neg (by omega), if_neg (by omega), if_neg (by omega), if_neg (by omega)])
      | (simp only [List.mem_cons, List.not_mem_nil, or_false, not_or] at c7; rw [if_neg (by omega), if_neg (by omega), if_neg (by omega), if_neg (by omega), if_neg (by omega)])
    · skip
      have c7 := List.mem_singleton.mp c7
      refine s204_55.mpr ?_
      refine (s204_56 (by first | decide | assumption | omega)).mpr ?_
      refine (s204_59).mpr ?_
      refine q _ ?_
      first
      | (rw [if_pos (by assumption)]; exact e0)
      | (rw [if_neg (by omega), if_pos (by assumption)]; exact e3)
      | (rw [if_neg (by omega), if_neg (by omega), if_pos (by assumption)]; exact e4)
      | (rw [if_neg (by omega), if_neg (by omega), if_neg (by omega), if_pos (by assumption)]; exact e5)
      | (rw [if_neg (by omega), if_neg (by omega), if_neg (by omega), if_neg (by omega), if_pos (by assumption)]; exact hg)
      | (rename_i c9; simp only [List.mem_cons, List.not_mem_nil, or_false, not_or] at c9; rw [if_neg (by omega), if_neg (by omega), if_neg (by omega), if_neg (by omega), if_neg (by omega)])
      | (simp only [List.mem_cons, List.not_mem_nil, or_false, not_or] at c7; rw [if_neg (by omega), if_neg (by omega), if_neg (by omega), if_neg (by omega), if_neg (by omega)])
    · skip
      have c7 := List.mem_singleton.mp c7
      refine s204_60.mpr ?_
      refine (s204_61 (by first | decide | assumption | omega)).mpr ?_
      refine (s204_64).mpr ?_
      refine q _ ?_
      first
      | (rw [if_pos (by assumption)]; exact e0)
      | (rw [if_neg (by omega), if_pos (by assumption)]; exact e3)
      | (rw [if_neg (by omega), if_neg (by omega), if_pos (by assumption)]; exact e4)
      | (rw [if_neg (by omega), if_neg (by omega), if_neg (by omega), if_pos (by assumption)]; exact e5)
      | (rw [if_neg (by omega), if_neg (by omega), if_neg (by omega), if_neg (by omega), if_pos (by assumption)]; exact hg)
      | (rename_i c9; simp only [List.mem_cons, List.not_mem_nil, or_false, not_or] at c9; rw [if_neg (by omega), if_neg (by omega), if_neg (by omega), if_neg (by omega), if_neg (by omega)])
      | (simp only [List.mem_cons, List.not_mem_nil, or_false, not_or] at c7; rw [if_neg (by omega), if_neg (by omega), if_neg (by omega), if_neg (by omega), if_neg (by omega)])
    · skip
      refine s204_65.mpr ?_
      refine (s204_66).mpr ?_
      refine q _ ?_
      first
      | (rw [if_pos (by assumption)]; exact e0)
      | (rw [if_neg (by omega), if_pos (by assumption)]; exact e3)
      | (rw [if_neg (by omega), if_neg (by omega), if_pos (by assumption)]; exact e4)
      | (rw [if_neg (by omega), if_neg (by omega), if_neg (by omega), if_pos (by assumption)]; exact e5)
      | (rw [if_neg (by omega), if_neg (by omega), if_neg (by omega), if_neg (by omega), if_pos (by assumption)]; exact hg)
      | (rename_i c9; simp only [List.mem_cons, List.not_mem_nil, or_false, not_or] at c9; rw [if_neg (by omega), if_neg (by omega), if_neg (by omega), if_neg (by omega), if_neg (by omega)])
      | (simp only [List.mem_cons, List.not_mem_nil, or_false, not_or] at c7; rw [if_neg (by omega), if_neg (by omega), if_neg (by omega), if_neg (by omega), if_neg (by omega)])
theorem GC.ro {f : Int} (h : GC al hi hr N n B L) : (¬ (0 ≤ f ∧ f < nFn B) ∧ roA hi hr N f = none) ∨ ((0 ≤ f ∧ f < nFn B) ∧ ∃ t H C A, roA hi hr N f = some (t + 1) ∧ N < t ∧ t + 2 < L ∧ RoutOK al hi hr B f t ∧ RtV al hi hr B f t H C A) := by
  obtain ⟨M, h1, h2, h3, h4, h5⟩ := h
  have e8 := h1.2.2.1.2.2
  have f10 : nFn B ≤ 10 := h2.2.1.2.2.2.2.2.2.2.2.2.1
  unfold roA
  by_cases c : 0 ≤ f ∧ f < nFn B
  · right
    obtain ⟨t, H, C, A, e1, e2, e3, e4, e5, e6, e7, r⟩ := h5 f c.1 c.2
    obtain ⟨t', q1, q2, q3, q4⟩ := h1.2.2.2.2.2.1 f c.1 c.2
    rw [e1] at q1; cases q1
    exact ⟨c, t, H, C, A, by rw [if_pos ⟨c.1, by omega, by omega⟩]; exact e1, by omega, by omega, q4, r⟩
  · left
    exact ⟨c, if_neg (by omega)⟩
theorem x_module {m f w : Int} (hA : SA al) (hc : CR hr) (hd : 1 ≤ d) (e : shA hr m = some N) (hG : GC al hi hr N n B L) (q : ∀ v, MO B n f w v → Q (some (some (vI v))) al hi hr) : Ev d 190 [vR (some 2), vI m, vI f, vI w] al hi hr Q := by
  have k2 : isK al 2 12 := hA.k (by decide) (by decide) rfl
  obtain ⟨M, hM, -⟩ := id hG
  have kN := hM.1.1.1
  obtain ⟨e2, e6, e8⟩ := hM.2.2.1
  have e1 := hM.2.1.1
  have R0 : w ∉ ([0, 1, 2, 3] : List Int) → Wp d 190 68 [vR (some 2), vI m, vI f, vI w, vR (some N)] [] al hi hr Q := by
    intro hw
    rcases hG.ro (f := f) with ⟨cf, ro⟩ | ⟨cf, t, H, C, A, ro, -, -, hR, hV⟩
    · skip
      refine s190_68.mpr (s190_70.mpr ?_)
      refine (s190_71 (by first | decide | assumption | omega) (by first | decide | assumption | omega)).mpr ?_
      refine t_routineAt hM.1.1 ?_
      simp only [kon, knt_some, knt_none, Option.toList_some, Option.toList_none, List.cons_append, List.nil_append, ro]
      refine s190_74.mpr ?_
      refine (s190_75 (by omega)).mpr ?_
      refine x_ofRoutineN ?_
      refine (s190_78).mpr ?_
      exact q _ (MO_n hw cf)
    · skip
      refine s190_68.mpr (s190_70.mpr ?_)
      refine (s190_71 (by first | decide | assumption | omega) (by first | decide | assumption | omega)).mpr ?_
      refine t_routineAt hM.1.1 ?_
      simp only [kon, knt_some, knt_none, Option.toList_some, Option.toList_none, List.cons_append, List.nil_append, ro]
      refine s190_74.mpr ?_
      refine (s190_75 (by omega)).mpr ?_
      refine x_ofRoutine hR hV (fun v hv => ?_)
      refine (s190_78).mpr ?_
      exact q v (by rw [MO_f cf hw]; exact hv)
  rw [e190]
  refine s190_0.mpr (s190_1.mpr ?_)
  refine (s190_2 (by first | decide | assumption | omega) (by first | decide | assumption | omega)).mpr ?_
  refine x_onShelf2 hA hc ?_
  simp only [kon, knt_some, knt_none, Option.toList_some, Option.toList_none, List.cons_append, List.nil_append, e]
  refine s190_5.mpr (s190_7.mpr ?_)
  refine s190_9.mpr (wif (fun c9 => ?_) (fun c9 => ?_))
  · skip
    cases ‹some N = none›
  · skip
    refine s190_14.mpr ?_
    refine g190_15 (fun c15 => ?_) (fun c15 => ?_) (fun c15 => ?_) (fun c15 => ?_) (fun c15 => ?_)
    · skip
      have c15 := List.mem_singleton.mp c15
      refine s190_44.mpr ?_
      refine (s190_46 (by first | decide | assumption | omega)).mpr ?_
      try simp (disch := first | decide | assumption | omega) only [kon, knt_some, knt_none, Option.toList_some, Option.toList_none, List.cons_append, List.nil_append, e1, e2, e6, e8]
      refine (s190_49).mpr ?_
      first | exact q _ (MO_0 c15) | exact q _ (MO_1 c15) | exact q _ (MO_2 c15) | exact q _ (MO_3 c15)
    · skip
      have c15 := List.mem_singleton.mp c15
      refine s190_50.mpr ?_
      refine (s190_52 (by first | decide | assumption | omega)).mpr ?_
      try simp (disch := first | decide | assumption | omega) only [kon, knt_some, knt_none, Option.toList_some, Option.toList_none, List.cons_append, List.nil_append, e1, e2, e6, e8]
      refine (s190_55).mpr ?_
      first | exact q _ (MO_0 c15) | exact q _ (MO_1 c15) | exact q _ (MO_2 c15) | exact q _ (MO_3 c15)
    · skip
      have c15 := List.mem_singleton.mp c15
      refine s190_56.mpr ?_
      refine (s190_58 (by first | decide | assumption | omega)).mpr ?_
      try simp (disch := first | decide | assumption | omega) only [kon, knt_some, knt_none, Option.toList_some, Option.toList_none, List.cons_append, List.nil_append, e1, e2, e6, e8]
      refine (s190_61).mpr ?_
      first | exact q _ (MO_0 c15) | exact q _ (MO_1 c15) | exact q _ (MO_2 c15) | exact q _ (MO_3 c15)
    · skip
      have c15 := List.mem_singleton.mp c15
      refine s190_62.mpr ?_
      refine (s190_64 (by first | decide | assumption | omega)).mpr ?_
      try simp (disch := first | decide | assumption | omega) only [kon, knt_some, knt_none, Option.toList_some, Option.toList_none, List.cons_append, List.nil_append, e1, e2, e6, e8]
      refine (s190_67).mpr ?_
      first | exact q _ (MO_0 c15) | exact q _ (MO_1 c15) | exact q _ (MO_2 c15) | exact q _ (MO_3 c15)
    · skip
      exact R0 (by assumption)
theorem x_typeAtN {m f p w i : Int} (hA : SA al) (hc : CR hr) (hd : 1 ≤ d) (e : shA hr m = none) (q : Q (some (some (vI (-1)))) al hi hr) : Ev d 191 [vR (some 2), vI m, vI f, vI p, vI w, vI i] al hi hr Q := by
  have k2 : isK al 2 12 := hA.k (by decide) (by decide) rfl
  rw [e191]
  refine s191_0.mpr (s191_1.mpr ?_)
  refine (s191_2 (by first | decide | assumption | omega) (by first | decide | assumption | omega)).mpr ?_
  refine x_onShelf2 hA hc ?_
  simp only [kon, knt_some, knt_none, Option.toList_some, Option.toList_none, List.cons_append, List.nil_append, e]
  refine s191_5.mpr (s191_7.mpr ?_)
  refine s191_9.mpr (wif (fun c9 => ?_) (fun c9 => ?_))
  · skip
    refine s191_12.mpr (s191_13.mpr (s191_22.mpr (s191_24.mpr ?_)))
    refine s191_26.mpr (wif (fun c26 => ?_) (fun c26 => ?_))
    · skip
      refine s191_43.mpr ?_
      refine (s191_44).mpr ?_
      exact q
    · skip
      exact absurd rfl (by assumption)
  · skip
    exact absurd rfl (by assumption)
theorem x_typeAt {m f p w i : Int} (hA : SA al) (hc : CR hr) (hd : 1 ≤ d) (e : shA hr m = some N) (hG : GC al hi hr N n B L)
    (no : ¬ ((0 ≤ f ∧ f < nFn B) ∧ (0 ≤ p ∧ p < cLen B f) ∧ 0 ≤ i ∧ (w = 0 ∨ w = 1)) → Q (some (some (vI (-1)))) al hi hr)
    (ok : (0 ≤ f ∧ f < nFn B) → (0 ≤ p ∧ p < cLen B f) → 0 ≤ i → (w = 0 ∨ w = 1) → ∀ v, TA B f p w i v → Q (some (some (vI v))) al hi hr) : Ev d 191 [vR (some 2), vI m, vI f, vI p, vI w, vI i] al hi hr Q := by
  have k2 : isK al 2 12 := hA.k (by decide) (by decide) rfl
  obtain ⟨M, hM, hT, -⟩ := id hG
  have kN := hM.1.1.1
  rw [e191]
  rcases hG.ro (f := f) with ⟨cf, ro⟩ | ⟨cf, t, H, C, A, ro, -, -, hR, hV, hm, hL⟩
  · skip
    refine s191_0.mpr (s191_1.mpr ?_)
    refine (s191_2 (by first | decide | assumption | omega) (by first | decide | assumption | omega)).mpr ?_
    refine x_onShelf2 hA hc ?_
    simp only [kon, knt_some, knt_none, Option.toList_some, Option.toList_none, List.cons_append, List.nil_append, e]
    refine s191_5.mpr (s191_7.mpr ?_)
    refine s191_9.mpr (wif (fun c9 => ?_) (fun c9 => ?_))
    · skip
      cases ‹some N = none›
    · skip
      refine s191_16.mpr (s191_18.mpr ?_)
      refine (s191_19 (by first | decide | assumption | omega) (by first | decide | assumption | omega)).mpr ?_
      refine t_routineAt hM.1.1 ?_
      simp only [kon, knt_some, knt_none, Option.toList_some, Option.toList_none, List.cons_append, List.nil_append, ro]
      refine s191_22.mpr (s191_24.mpr ?_)
      refine s191_26.mpr (wif (fun c26 => ?_) (fun c26 => ?_))
      · skip
        refine s191_43.mpr ?_
        refine (s191_44).mpr ?_
        exact no (fun z => cf z.1)
      · skip
        exact absurd rfl (by assumption)
  have kR := hR.1.1
  have l10 : nLoc B f ≤ 10 := (hT.2.1.2.2.2.2.2.2.2.2.2.2 f cf.1 cf.2).2.2.2.2.2.2.2.2.1
  have l240 : cLen B f ≤ 240 := hV.2.2.2.2.2.2.2.2
  have e3 : hi (t + 1) 3 = nLoc B f := hR.2.2.2.2.2.1
  by_cases cp : 0 ≤ p ∧ p < cLen B f
  case neg =>
    have eh : (if p < 0 ∨ cLen B f ≤ p then -1 else hi H p) = -1 := if_pos (by omega)
    refine s191_0.mpr (s191_1.mpr ?_)
    refine (s191_2 (by first | decide | assumption | omega) (by first | decide | assumption | omega)).mpr ?_
    refine x_onShelf2 hA hc ?_
    simp only [kon, knt_some, knt_none, Option.toList_some, Option.toList_none, List.cons_append, List.nil_append, e]
    refine s191_5.mpr (s191_7.mpr ?_)
    refine s191_9.mpr (wif (fun c9 => ?_) (fun c9 => ?_))
    · skip
      cases ‹some N = none›
    · skip
      refine s191_16.mpr (s191_18.mpr ?_)
      refine (s191_19 (by first | decide | assumption | omega) (by first | decide | assumption | omega)).mpr ?_
      refine t_routineAt hM.1.1 ?_
      simp only [kon, knt_some, knt_none, Option.toList_some, Option.toList_none, List.cons_append, List.nil_append, ro]
      refine s191_22.mpr (s191_24.mpr ?_)
      refine s191_26.mpr (wif (fun c26 => ?_) (fun c26 => ?_))
      · skip
        first | (cases ‹some (t + 1) = none›) | (refine s191_43.mpr (s191_44.mpr ?_); exact no (fun z => cp z.2.1))
      · skip
        refine s191_29.mpr (s191_31.mpr ?_)
        refine (s191_32 (by first | decide | assumption | omega) (by first | decide | assumption | omega)).mpr ?_
        refine r_heightAt hV ?_
        simp only [kon, knt_some, knt_none, Option.toList_some, Option.toList_none, List.cons_append, List.nil_append, eh]
        refine s191_35.mpr (wif (fun c35 => ?_) (fun c35 => ?_))
        · skip
          first | (cases ‹some (t + 1) = none›) | (refine s191_43.mpr (s191_44.mpr ?_); exact no (fun z => cp z.2.1))
        · skip
          exfalso; omega
  have eh : (if p < 0 ∨ cLen B f ≤ p then -1 else hi H p) = hi H p := if_neg (by omega)
  have mp := hm.1 p cp.1 cp.2
  have RN : ∀ l7, l7 = vR (some (t + 1)) → (hi H p < 0 ∨ i < 0) → Q (some (some (vI (-1)))) al hi hr := by
    intro l7 _ hh
    by_cases c : 0 ≤ i ∧ (w = 0 ∨ w = 1)
    · refine ok cf cp c.1 c.2 (-1) ⟨A, hL, ?_⟩
      cases hX : A p with
      | none => rfl
      | some X => rw [hX] at mp; have := mp.1; have := mp.2.1; omega
    · exact no (fun z => c z.2.2)
  cases hX : A p with
  | none =>
    rw [hX] at mp
    have mp : hi H p = -1 := mp
    refine s191_0.mpr (s191_1.mpr ?_)
    refine (s191_2 (by first | decide | assumption | omega) (by first | decide | assumption | omega)).mpr ?_
    refine x_onShelf2 hA hc ?_
    simp only [kon, knt_some, knt_none, Option.toList_some, Option.toList_none, List.cons_append, List.nil_append, e]
    refine s191_5.mpr (s191_7.mpr ?_)
    refine s191_9.mpr (wif (fun c9 => ?_) (fun c9 => ?_))
    · skip
      cases ‹some N = none›
    · skip
      refine s191_16.mpr (s191_18.mpr ?_)
      refine (s191_19 (by first | decide | assumption | omega) (by first | decide | assumption | omega)).mpr ?_
      refine t_routineAt hM.1.1 ?_
      simp only [kon, knt_some, knt_none, Option.toList_some, Option.toList_none, List.cons_append, List.nil_append, ro]
      refine s191_22.mpr (s191_24.mpr ?_)
      refine s191_26.mpr (wif (fun c26 => ?_) (fun c26 => ?_))
      · skip
        first | (cases ‹some (t + 1) = none›) | (refine s191_43.mpr (s191_44.mpr ?_); exact RN _ rfl (by omega))
      · skip
        refine s191_29.mpr (s191_31.mpr ?_)
        refine (s191_32 (by first | decide | assumption | omega) (by first | decide | assumption | omega)).mpr ?_
        refine r_heightAt hV ?_
        simp only [kon, knt_some, knt_none, Option.toList_some, Option.toList_none, List.cons_append, List.nil_append, eh]
        refine s191_35.mpr (wif (fun c35 => ?_) (fun c35 => ?_))
        · skip
          first | (cases ‹some (t + 1) = none›) | (refine s191_43.mpr (s191_44.mpr ?_); exact RN _ rfl (by omega))
        · skip
          exfalso; omega
  | some X =>
    rw [hX] at mp
    obtain ⟨m1, m2, m3, m4, m5⟩ := mp
    have vX9 := hL.2.2.2 p X cp.1 hX
    have TA9 : ∀ v, v = (if w = 0 then (if i < X.1 then kindM (X.2.1 i) else -1) else (if i < nLoc B f then kindM (X.2.2 i) else -1)) → TA B f p w i v := fun v hv => ⟨A, hL, by rw [hX]; exact hv⟩
    have e1 : 0 ≤ i → i < X.1 → hi C (26 * p + i) % 16 = kindM (X.2.1 i) := fun a b => by rw [m4 i a b, cv_k (vX9.2.1 i a b).r]
    have e2 : 0 ≤ i → i < nLoc B f → hi C (26 * p + (16 + i)) % 16 = kindM (X.2.2 i) := fun a b => by rw [show 26 * p + (16 + i) = 26 * p + 16 + i by omega, m5 i a (by omega), cv_k (vX9.2.2 i a (by omega)).r]
    refine s191_0.mpr (s191_1.mpr ?_)
    refine (s191_2 (by first | decide | assumption | omega) (by first | decide | assumption | omega)).mpr ?_
    refine x_onShelf2 hA hc ?_
    simp only [kon, knt_some, knt_none, Option.toList_some, Option.toList_none, List.cons_append, List.nil_append, e]
    refine s191_5.mpr (s191_7.mpr ?_)
    refine s191_9.mpr (wif (fun c9 => ?_) (fun c9 => ?_))
    · skip
      cases ‹some N = none›
    · skip
      refine s191_16.mpr (s191_18.mpr ?_)
      refine (s191_19 (by first | decide | assumption | omega) (by first | decide | assumption | omega)).mpr ?_
      refine t_routineAt hM.1.1 ?_
      simp only [kon, knt_some, knt_none, Option.toList_some, Option.toList_none, List.cons_append, List.nil_append, ro]
      refine s191_22.mpr (s191_24.mpr ?_)
      refine s191_26.mpr (wif (fun c26 => ?_) (fun c26 => ?_))
      · skip
        first | (cases ‹some (t + 1) = none›) | (refine s191_43.mpr (s191_44.mpr ?_); exact RN _ rfl (by omega))
      · skip
        refine s191_29.mpr (s191_31.mpr ?_)
        refine (s191_32 (by first | decide | assumption | omega) (by first | decide | assumption | omega)).mpr ?_
        refine r_heightAt hV ?_
        simp only [kon, knt_some, knt_none, Option.toList_some, Option.toList_none, List.cons_append, List.nil_append, eh, m1]
        refine s191_35.mpr (wif (fun c35 => ?_) (fun c35 => ?_))
        · skip
          first | (cases ‹some (t + 1) = none›) | (refine s191_43.mpr (s191_44.mpr ?_); exact RN _ rfl (by omega))
        · skip
          refine s191_38.mpr ?_
          refine s191_40.mpr (wif (fun c40 => ?_) (fun c40 => ?_))
          · skip
            first | (cases ‹some (t + 1) = none›) | (refine s191_43.mpr (s191_44.mpr ?_); exact RN _ rfl (by omega))
          · skip
            refine s191_45.mpr ?_
            refine s191_47.mpr (wif (fun c47 => ?_) (fun c47 => ?_))
            · skip
              refine s191_50.mpr (s191_52.mpr (s191_54.mpr ?_))
              refine (s191_55 (by first | decide | assumption | omega) (by first | decide | assumption | omega)).mpr ?_
              refine r_heightAt hV ?_
              simp only [kon, knt_some, knt_none, Option.toList_some, Option.toList_none, List.cons_append, List.nil_append, eh, m1]
              refine s191_58.mpr (wif (fun c58 => ?_) (fun c58 => ?_))
              · skip
                refine s191_61.mpr (s191_63.mpr (s191_64.mpr ?_))
                refine (s191_66 (by first | decide | assumption | omega) (by first | decide | assumption | omega)).mpr ?_
                refine r_typeComing hV cp.1 (by omega) (by omega) (by omega) ?_
                rw [if_neg (by omega)]
                simp only [kon, knt_some, knt_none, Option.toList_some, Option.toList_none, List.cons_append, List.nil_append]
                refine (s191_69 (by omega)).mpr ?_
                refine c_kindOf.mpr ?_
                refine (s191_72).mpr ?_
                skip
                by_cases cw : w = 0 ∨ w = 1
                · refine ok cf cp (by omega) cw _ (TA9 _ ?_)
                  first
                  | (rw [if_pos (by omega), if_pos (by omega), e1 (by omega) (by omega)])
                  | (rw [if_neg (by omega), if_pos (by omega), e2 (by omega) (by omega)])
                  | (rw [if_pos (by omega), if_neg (by omega)])
                  | (rw [if_neg (by omega), if_neg (by omega)])
                · first | exact no (fun z => cw z.2.2.2) | (exfalso; omega)
              · skip
                refine s191_73.mpr (s191_75.mpr ?_)
                refine s191_76.mpr (wif (fun c76 => ?_) (fun c76 => ?_))
                · skip
                  refine s191_79.mpr (s191_81.mpr ?_)
                  refine (s191_83 (by first | decide | assumption | omega)).mpr ?_
                  try simp (disch := first | decide | assumption | omega) only [kon, knt_some, knt_none, Option.toList_some, Option.toList_none, List.cons_append, List.nil_append, e3, fAdd_id]
                  refine s191_86.mpr (wif (fun c86 => ?_) (fun c86 => ?_))
                  · skip
                    refine s191_89.mpr (s191_91.mpr (s191_92.mpr (s191_94.mpr (s191_96.mpr ?_))))
                    try simp (disch := first | decide | assumption | omega) only [kon, knt_some, knt_none, Option.toList_some, Option.toList_none, List.cons_append, List.nil_append, e3, fAdd_id]
                    refine (s191_97 (by first | decide | assumption | omega) (by first | decide | assumption | omega)).mpr ?_
                    refine r_typeComing hV cp.1 (by omega) (by omega) (by omega) ?_
                    rw [if_neg (by omega)]
                    simp only [kon, knt_some, knt_none, Option.toList_some, Option.toList_none, List.cons_append, List.nil_append]
                    refine (s191_100 (by omega)).mpr ?_
                    refine c_kindOf.mpr ?_
                    refine (s191_103).mpr ?_
                    skip
                    by_cases cw : w = 0 ∨ w = 1
                    · refine ok cf cp (by omega) cw _ (TA9 _ ?_)
                      first
                      | (rw [if_pos (by omega), if_pos (by omega), e1 (by omega) (by omega)])
                      | (rw [if_neg (by omega), if_pos (by omega), e2 (by omega) (by omega)])
                      | (rw [if_pos (by omega), if_neg (by omega)])
                      | (rw [if_neg (by omega), if_neg (by omega)])
                    · first | exact no (fun z => cw z.2.2.2) | (exfalso; omega)
                  · skip
                    refine s191_104.mpr ?_
                    refine (s191_105).mpr ?_
                    skip
                    by_cases cw : w = 0 ∨ w = 1
                    · refine ok cf cp (by omega) cw _ (TA9 _ ?_)
                      first
                      | (rw [if_pos (by omega), if_pos (by omega), e1 (by omega) (by omega)])
                      | (rw [if_neg (by omega), if_pos (by omega), e2 (by omega) (by omega)])
                      | (rw [if_pos (by omega), if_neg (by omega)])
                      | (rw [if_neg (by omega), if_neg (by omega)])
                    · first | exact no (fun z => cw z.2.2.2) | (exfalso; omega)
                · skip
                  refine s191_104.mpr ?_
                  refine (s191_105).mpr ?_
                  skip
                  by_cases cw : w = 0 ∨ w = 1
                  · refine ok cf cp (by omega) cw _ (TA9 _ ?_)
                    first
                    | (rw [if_pos (by omega), if_pos (by omega), e1 (by omega) (by omega)])
                    | (rw [if_neg (by omega), if_pos (by omega), e2 (by omega) (by omega)])
                    | (rw [if_pos (by omega), if_neg (by omega)])
                    | (rw [if_neg (by omega), if_neg (by omega)])
                  · first | exact no (fun z => cw z.2.2.2) | (exfalso; omega)
            · skip
              refine s191_73.mpr (s191_75.mpr ?_)
              refine s191_76.mpr (wif (fun c76 => ?_) (fun c76 => ?_))
              · skip
                refine s191_79.mpr (s191_81.mpr ?_)
                refine (s191_83 (by first | decide | assumption | omega)).mpr ?_
                try simp (disch := first | decide | assumption | omega) only [kon, knt_some, knt_none, Option.toList_some, Option.toList_none, List.cons_append, List.nil_append, e3, fAdd_id]
                refine s191_86.mpr (wif (fun c86 => ?_) (fun c86 => ?_))
                · skip
                  refine s191_89.mpr (s191_91.mpr (s191_92.mpr (s191_94.mpr (s191_96.mpr ?_))))
                  try simp (disch := first | decide | assumption | omega) only [kon, knt_some, knt_none, Option.toList_some, Option.toList_none, List.cons_append, List.nil_append, e3, fAdd_id]
                  refine (s191_97 (by first | decide | assumption | omega) (by first | decide | assumption | omega)).mpr ?_
                  refine r_typeComing hV cp.1 (by omega) (by omega) (by omega) ?_
                  rw [if_neg (by omega)]
                  simp only [kon, knt_some, knt_none, Option.toList_some, Option.toList_none, List.cons_append, List.nil_append]
                  refine (s191_100 (by omega)).mpr ?_
                  refine c_kindOf.mpr ?_
                  refine (s191_103).mpr ?_
                  skip
                  by_cases cw : w = 0 ∨ w = 1
                  · refine ok cf cp (by omega) cw _ (TA9 _ ?_)
                    first
                    | (rw [if_pos (by omega), if_pos (by omega), e1 (by omega) (by omega)])
                    | (rw [if_neg (by omega), if_pos (by omega), e2 (by omega) (by omega)])
                    | (rw [if_pos (by omega), if_neg (by omega)])
                    | (rw [if_neg (by omega), if_neg (by omega)])
                  · first | exact no (fun z => cw z.2.2.2) | (exfalso; omega)
                · skip
                  refine s191_104.mpr ?_
                  refine (s191_105).mpr ?_
                  skip
                  by_cases cw : w = 0 ∨ w = 1
                  · refine ok cf cp (by omega) cw _ (TA9 _ ?_)
                    first
                    | (rw [if_pos (by omega), if_pos (by omega), e1 (by omega) (by omega)])
                    | (rw [if_neg (by omega), if_pos (by omega), e2 (by omega) (by omega)])
                    | (rw [if_pos (by omega), if_neg (by omega)])
                    | (rw [if_neg (by omega), if_neg (by omega)])
                  · first | exact no (fun z => cw z.2.2.2) | (exfalso; omega)
              · skip
                refine s191_104.mpr ?_
                refine (s191_105).mpr ?_
                skip
                by_cases cw : w = 0 ∨ w = 1
                · refine ok cf cp (by omega) cw _ (TA9 _ ?_)
                  first
                  | (rw [if_pos (by omega), if_pos (by omega), e1 (by omega) (by omega)])
                  | (rw [if_neg (by omega), if_pos (by omega), e2 (by omega) (by omega)])
                  | (rw [if_pos (by omega), if_neg (by omega)])
                  | (rw [if_neg (by omega), if_neg (by omega)])
                · first | exact no (fun z => cw z.2.2.2) | (exfalso; omega)
end CM5
