/-! RUNNING, the reference: places, the stack, what goes -/
section RS0
variable {d : Nat} {al : AL} {hi : HI} {hr : HR} {Q : QQ}
/-- a process that is there -/
def AP (s : HI) (p : Int) : Prop := (0 ≤ p ∧ p < 12) ∧ 1 ≤ s 94 p ∧ s 94 p ≤ 16
theorem AP.b {s : HI} {p : Int} (h : AP s p) : 0 ≤ ai s p ∧ ai s p < 192 := by unfold AP at h; unfold ai; omega
theorem r_act {p : Int} (hA : SA al) (hR : MR hr) (hp : AP hi p) (q : Q (some (some (vI (ai hi p)))) al hi hr) : Ev d 282 [vR (some 49), vI p] al hi hr Q := by
  have kM : isK al 49 13 := hA.k (by decide) (by decide) rfl
  obtain ⟨⟨p0, p1⟩, a0, a1⟩ := id hp
  have l94 := SA.len (a := 94) (n := 12) hA (by decide) (by decide) rfl
  have e : fSub (fAdd (fMul 16 p) (hi 94 p)) 1 = ai hi p := by rw [fMul_id (by omega) (by omega), fAdd_id (by omega) (by omega), fSub_id (by omega) (by omega)]; rfl
  rw [e282]
  refine s282_0.mpr (s282_2.mpr (s282_3.mpr (s282_4.mpr ((s282_5 kM).mpr ?_))))
  rw [mr_64 hR]
  refine s282_8.mpr ?_
  try simp (disch := first | decide | assumption | omega) only [e]
  refine (s282_9 (hA.k (by decide) (by decide) rfl) (by first | assumption | omega) (by first | assumption | omega)).mpr ?_
  refine s282_10.mpr (s282_11.mpr (s282_12.mpr ?_))
  try simp (disch := first | decide | assumption | omega) only [e]
  refine (s282_13).mpr ?_
  exact q
theorem r_local {p a k : Int} (p0 : 0 ≤ p ∧ p < 12) (a0 : 0 ≤ a ∧ a < 16) (k0 : 0 ≤ k ∧ k < 100) (q : Q (some (some (vI (26 * (16 * p + a) + k)))) al hi hr) : Ev d 283 [vI p, vI a, vI k] al hi hr Q := by
  have e : fAdd (fMul 26 (fAdd (fMul 16 p) a)) k = 26 * (16 * p + a) + k := by rw [fMul_id (x := 16) (by omega) (by omega), fAdd_id (x := 16 * p) (by omega) (by omega), fMul_id (by omega) (by omega), fAdd_id (by omega) (by omega)]
  rw [e283]
  refine s283_0.mpr (s283_2.mpr (s283_4.mpr (s283_5.mpr (s283_6.mpr (s283_7.mpr ?_)))))
  refine s283_8.mpr (s283_9.mpr (s283_10.mpr ?_))
  try simp (disch := first | decide | assumption | omega) only [e]
  refine (s283_11).mpr ?_
  exact q
theorem r_stack {p k : Int} (hA : SA al) (hR : MR hr) (hd : 1 ≤ d) (hp : AP hi p) (k0 : -20 ≤ k ∧ k < 100) (q : Q (some (some (vI (sk hi p k)))) al hi hr) : Ev d 284 [vR (some 49), vI p, vI k] al hi hr Q := by
  have kM : isK al 49 13 := hA.k (by decide) (by decide) rfl
  have ha := hp.b
  have e : fAdd (fAdd (fMul 26 (ai hi p)) 10) k = sk hi p k := by rw [fMul_id (by omega) (by omega), fAdd_id (x := 26 * ai hi p) (by omega) (by omega), fAdd_id (by omega) (by omega)]; rfl
  rw [e284]
  refine s284_0.mpr (s284_2.mpr (s284_3.mpr ?_))
  refine (s284_4 (by omega) kM).mpr ?_
  refine r_act hA hR hp ?_
  refine s284_7.mpr (s284_8.mpr (s284_10.mpr (s284_11.mpr (s284_12.mpr ?_))))
  try simp (disch := first | decide | assumption | omega) only [kon, knt_some, knt_none, Option.toList_some, Option.toList_none, List.cons_append, List.nil_append, e]
  refine (s284_13).mpr ?_
  exact q
theorem r_set {i v w : Int} (hA : SA al) (hR : MR hr) (i0 : 0 ≤ i ∧ i < 4992) (q : Q (some none) al (st2 hi i v w) hr) : Ev d 285 [vR (some 49), vI i, vI v, vI w] al hi hr Q := by
  have kM : isK al 49 13 := hA.k (by decide) (by decide) rfl
  have l98 := SA.len (a := 98) (n := 4992) hA (by decide) (by decide) rfl
  have l99 := SA.len (a := 99) (n := 4992) hA (by decide) (by decide) rfl
  rw [e285]
  refine s285_0.mpr ((s285_1 kM).mpr ?_)
  rw [mr_68 hR]
  refine s285_4.mpr (s285_5.mpr ?_)
  refine (s285_6 (hA.k (by decide) (by decide) rfl) (by first | assumption | omega) (by first | assumption | omega)).mpr ?_
  refine s285_7.mpr ((s285_8 kM).mpr ?_)
  rw [mr_69 hR]
  refine s285_11.mpr (s285_12.mpr ?_)
  refine (s285_13 (hA.k (by decide) (by decide) rfl) (by first | assumption | omega) (by first | assumption | omega)).mpr ?_
  refine (s285_14).mpr ?_
  exact q
theorem sk_b {s : HI} {p k : Int} (hp : AP s p) (k0 : -10 ≤ k ∧ k < 16) : 0 ≤ sk s p k ∧ sk s p k < 4992 := by have := hp.b; unfold sk; omega
theorem st2_n {s : HI} {i v w : Int} {a : Nat} {j : Int} (h1 : a ≠ 98) (h2 : a ≠ 99) : st2 s i v w a j = s a j := by unfold st2; rw [upI_a h2, upI_a h1]
theorem st2_ai {s : HI} {i v w p : Int} : ai (st2 s i v w) p = ai s p := by unfold ai; rw [st2_n (by decide) (by decide)]
theorem r_push {p v w : Int} (hA : SA al) (hR : MR hr) (hd : 2 ≤ d) (hp : AP hi p) (h0 : 0 ≤ hg hi p ∧ hg hi p < 16) (q : Q (some none) al (psh hi p v w) hr) : Ev d 286 [vR (some 49), vI p, vI v, vI w] al hi hr Q := by
  have kM : isK al 49 13 := hA.k (by decide) (by decide) rfl
  have k97 : isK al 97 15 := hA.k (by decide) (by decide) rfl
  have l97 : aln al 97 = 192 := hA.len (by decide) (by decide) rfl
  have ha := hp.b
  have eh : hi 97 (ai hi p) = hg hi p := rfl
  have hp2 : AP (st2 hi (sk hi p (hg hi p)) v w) p := by unfold AP; rw [st2_n (by decide) (by decide)]; exact hp
  have e97 : st2 hi (sk hi p (hg hi p)) v w 97 (ai hi p) = hg hi p := st2_n (by decide) (by decide)
  rw [e286]
  refine s286_0.mpr (s286_1.mpr (s286_2.mpr (s286_3.mpr ((s286_4 kM).mpr ?_))))
  rw [mr_67 hR]
  refine s286_7.mpr (s286_8.mpr ?_)
  refine (s286_9 (by omega) kM).mpr ?_
  first | refine r_act hA hR hp ?_ | refine r_act hA hR hp2 ?_
  try rw [st2_ai]
  refine (s286_12 (hA.k (by decide) (by decide) rfl) (by first | assumption | omega) (by first | assumption | omega)).mpr ?_
  try simp (disch := first | decide | assumption | omega) only [kon, knt_some, knt_none, Option.toList_some, Option.toList_none, List.cons_append, List.nil_append, eh, e97, fAdd_id]
  refine (s286_13 (by omega) kM).mpr ?_
  refine r_stack hA hR (by omega) hp (by omega) ?_
  refine s286_16.mpr (s286_17.mpr ?_)
  refine (s286_18 (by omega) kM).mpr ?_
  refine r_set hA hR (sk_b hp (by omega)) ?_
  refine s286_21.mpr ((s286_22 kM).mpr ?_)
  rw [mr_67 hR]
  refine s286_25.mpr (s286_26.mpr ?_)
  refine (s286_27 (by omega) kM).mpr ?_
  first | refine r_act hA hR hp ?_ | refine r_act hA hR hp2 ?_
  try rw [st2_ai]
  refine s286_30.mpr ?_
  refine (s286_31 (by first | decide | assumption | omega) (by first | decide | assumption | omega) (by first | decide | assumption | omega)).mpr ?_
  refine s286_32.mpr (s286_33.mpr ?_)
  try simp (disch := first | decide | assumption | omega) only [kon, knt_some, knt_none, Option.toList_some, Option.toList_none, List.cons_append, List.nil_append, eh, e97, fAdd_id]
  refine (s286_34 (by first | decide | assumption | omega) (by first | decide | assumption | omega) (by first | decide | assumption | omega)).mpr ?_
  try simp (disch := first | decide | assumption | omega) only [kon, knt_some, knt_none, Option.toList_some, Option.toList_none, List.cons_append, List.nil_append, eh, e97, fAdd_id]
  refine (s286_35).mpr ?_
  exact q
theorem ppz_ai {s : HI} {p n p' : Int} : ai (pp s p n) p' = ai s p' := by unfold ai pp; rw [upI_a (by decide)]
theorem ppz_n {s : HI} {p n : Int} {a : Nat} {j : Int} (h1 : a ≠ 97) : pp s p n a j = s a j := upI_a h1
theorem ppz_hg {s : HI} {p n : Int} : hg (pp s p n) p = hg s p - n := by unfold hg; rw [ppz_ai]; exact upI_eq
theorem ppz_sk {s : HI} {p n k : Int} : sk (pp s p n) p k = sk s p k := by unfold sk; rw [ppz_ai]
theorem AP.po {s : HI} {p n : Int} (h : AP s p) : AP (pp s p n) p := by unfold AP; rw [ppz_n (by decide)]; exact h
theorem tv_e {s : HI} {p : Int} : s 98 (sk s p (hg s p - 1)) = tv s p 0 := by unfold tv; rw [Int.sub_zero]
theorem ts_e {s : HI} {p : Int} : s 99 (sk s p (hg s p - 1)) = ts s p 0 := by unfold ts; rw [Int.sub_zero]
theorem r_pop {p : Int} (hA : SA al) (hR : MR hr) (hd : 2 ≤ d) (hp : AP hi p) (h0 : 1 ≤ hg hi p ∧ hg hi p ≤ 16) (q : Q (some (some (vI (sk hi p (hg hi p - 1))))) al (pp hi p 1) hr) : Ev d 287 [vR (some 49), vI p] al hi hr Q := by
  have kM : isK al 49 13 := hA.k (by decide) (by decide) rfl
  have k97 : isK al 97 15 := hA.k (by decide) (by decide) rfl
  have l97 : aln al 97 = 192 := hA.len (by decide) (by decide) rfl
  have ha := hp.b
  have eh : hi 97 (ai hi p) = hg hi p := rfl
  have e1 : upI hi 97 (ai hi p) (hg hi p - 1) = pp hi p 1 := rfl
  have e97 : pp hi p 1 97 (ai hi p) = hg hi p - 1 := upI_eq
  rw [e287]
  refine s287_0.mpr ((s287_1 kM).mpr ?_)
  rw [mr_67 hR]
  refine s287_4.mpr (s287_5.mpr ?_)
  refine (s287_6 (by omega) kM).mpr ?_
  first | refine r_act hA hR hp ?_ | refine r_act hA hR hp.po ?_
  try rw [ppz_ai]
  refine s287_9.mpr ?_
  refine (s287_10 (by first | decide | assumption | omega) (by first | decide | assumption | omega) (by first | decide | assumption | omega)).mpr ?_
  refine s287_11.mpr (s287_12.mpr ?_)
  try simp (disch := first | decide | assumption | omega) only [kon, knt_some, knt_none, Option.toList_some, Option.toList_none, List.cons_append, List.nil_append, eh, e1, e97, fSub_id]
  refine (s287_13 (by first | decide | assumption | omega) (by first | decide | assumption | omega) (by first | decide | assumption | omega)).mpr ?_
  refine s287_14.mpr (s287_15.mpr (s287_16.mpr ((s287_17 kM).mpr ?_)))
  rw [mr_67 hR]
  refine s287_20.mpr (s287_21.mpr ?_)
  try simp (disch := first | decide | assumption | omega) only [kon, knt_some, knt_none, Option.toList_some, Option.toList_none, List.cons_append, List.nil_append, eh, e1, e97, fSub_id]
  refine (s287_22 (by omega) kM).mpr ?_
  first | refine r_act hA hR hp ?_ | refine r_act hA hR hp.po ?_
  try rw [ppz_ai]
  refine (s287_25 (hA.k (by decide) (by decide) rfl) (by first | assumption | omega) (by first | assumption | omega)).mpr ?_
  try simp (disch := first | decide | assumption | omega) only [kon, knt_some, knt_none, Option.toList_some, Option.toList_none, List.cons_append, List.nil_append, eh, e1, e97, fSub_id]
  refine (s287_26 (by omega) kM).mpr ?_
  refine r_stack hA hR (by omega) hp.po (by omega) ?_
  rw [ppz_sk]
  refine s287_29.mpr (s287_30.mpr ?_)
  refine (s287_31).mpr ?_
  exact q
theorem r_popValue {p : Int} (hA : SA al) (hR : MR hr) (hd : 3 ≤ d) (hp : AP hi p) (h0 : 1 ≤ hg hi p ∧ hg hi p ≤ 16) (q : Q (some (some (vI (tv hi p 0)))) al (pp hi p 1) hr) : Ev d 288 [vR (some 49), vI p] al hi hr Q := by
  have kM : isK al 49 13 := hA.k (by decide) (by decide) rfl
  have hb := sk_b (k := hg hi p - 1) hp (by omega)
  have e1 : pp hi p 1 98 (sk hi p (hg hi p - 1)) = tv hi p 0 := by rw [ppz_n (by decide)]; exact tv_e
  have l98 := SA.len (a := 98) (n := 4992) hA (by decide) (by decide) rfl
  rw [e288]
  refine s288_0.mpr ((s288_1 kM).mpr ?_)
  rw [mr_68 hR]
  refine s288_4.mpr (s288_5.mpr ?_)
  refine (s288_6 (by omega) kM).mpr ?_
  refine r_pop hA hR (by omega) hp h0 ?_
  refine (s288_9 (hA.k (by decide) (by decide) rfl) (by first | assumption | omega) (by first | assumption | omega)).mpr ?_
  try simp (disch := first | decide | assumption | omega) only [kon, knt_some, knt_none, Option.toList_some, Option.toList_none, List.cons_append, List.nil_append, e1]
  refine (s288_10).mpr ?_
  exact q
theorem r_own {v w o : Int} (hA : SA al) (hR : MR hr) (h2 : w = 2 → 0 ≤ v ∧ v < 128) (h3 : w = 3 → 0 ≤ v ∧ v < 24) (q : Q (some none) al (ownS hi v w o) hr) : Ev d 297 [vR (some 49), vI v, vI w, vI o] al hi hr Q := by
  have kM : isK al 49 13 := hA.k (by decide) (by decide) rfl
  have l110 := SA.len (a := 110) (n := 128) hA (by decide) (by decide) rfl
  have l113 := SA.len (a := 113) (n := 24) hA (by decide) (by decide) rfl
  unfold ownS at q
  rw [e297]
  by_cases z2 : w = 2
  · have := h2 z2
    rw [if_pos z2] at q
    refine s297_0.mpr (s297_1.mpr ?_)
    refine s297_2.mpr (wif (fun c2 => ?_) (fun c2 => ?_))
    · skip
      refine s297_5.mpr ((s297_6 kM).mpr ?_)
      rw [mr_80 hR]
      refine s297_9.mpr (s297_10.mpr ?_)
      refine (s297_11 (hA.k (by decide) (by decide) rfl) (by first | assumption | omega) (by first | assumption | omega)).mpr ?_
      refine s297_12.mpr ?_
      refine (s297_27).mpr ?_
      exact q
    · skip
      exact absurd z2 (by assumption)
  · by_cases z3 : w = 3
    · have := h3 z3
      rw [if_neg z2, if_pos z3] at q
      refine s297_0.mpr (s297_1.mpr ?_)
      refine s297_2.mpr (wif (fun c2 => ?_) (fun c2 => ?_))
      · skip
        exact absurd (by assumption) z2
      · skip
        refine s297_15.mpr (s297_16.mpr ?_)
        refine s297_17.mpr (wif (fun c17 => ?_) (fun c17 => ?_))
        · skip
          refine s297_20.mpr ((s297_21 kM).mpr ?_)
          rw [mr_83 hR]
          refine s297_24.mpr (s297_25.mpr ?_)
          refine (s297_26 (hA.k (by decide) (by decide) rfl) (by first | assumption | omega) (by first | assumption | omega)).mpr ?_
          first | exact absurd z3 (by assumption) | (refine s297_27.mpr ?_; exact q)
        · skip
          first | exact absurd z3 (by assumption) | (refine s297_27.mpr ?_; exact q)
    · rw [if_neg z2, if_neg z3] at q
      refine s297_0.mpr (s297_1.mpr ?_)
      refine s297_2.mpr (wif (fun c2 => ?_) (fun c2 => ?_))
      · skip
        exact absurd (by assumption) z2
      · skip
        refine s297_15.mpr (s297_16.mpr ?_)
        refine s297_17.mpr (wif (fun c17 => ?_) (fun c17 => ?_))
        · skip
          exact absurd (by assumption) z3
        · skip
          refine (s297_27).mpr ?_
          exact q
theorem r_goTo {p x : Int} (hA : SA al) (hR : MR hr) (hd : 1 ≤ d) (hp : AP hi p) (q : Q (some none) al (goS hi p x) hr) : Ev d 308 [vR (some 49), vI p, vI x] al hi hr Q := by
  have kM : isK al 49 13 := hA.k (by decide) (by decide) rfl
  have k96 : isK al 96 15 := hA.k (by decide) (by decide) rfl
  have l96 : aln al 96 = 192 := hA.len (by decide) (by decide) rfl
  have ha := hp.b
  rw [e308]
  refine s308_0.mpr ((s308_1 kM).mpr ?_)
  rw [mr_66 hR]
  refine s308_4.mpr (s308_5.mpr ?_)
  refine (s308_6 (by omega) kM).mpr ?_
  refine r_act hA hR hp ?_
  refine s308_9.mpr ?_
  refine (s308_10 (hA.k (by decide) (by decide) rfl) (by first | assumption | omega) (by first | assumption | omega)).mpr ?_
  try simp (disch := first | decide | assumption | omega) only [kon, knt_some, knt_none, Option.toList_some, Option.toList_none, List.cons_append, List.nil_append]
  refine (s308_11).mpr ?_
  exact q
end RS0
