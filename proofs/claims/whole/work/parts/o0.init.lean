/-! THE LAW: the two objects are made -/
section LI0
variable {d : Nat} {al al' : AL} {hi hi' hb : HI} {hr hr' : HR} {Q : QQ} {ab : Nat → Nat × Nat} {n z a k l s pc M : Nat} {i x : Int} {R : List (Nat × Int × Option Nat)} {V : List (Nat × Int × Int)} {o : Nat} {f : Int} {c : Option Nat} {ls st : List AV}
/-- what was put -/
def lkR : List (Nat × Int × Option Nat) → HR
  | [], _, _ => none
  | p :: R, a, i => if a = p.1 ∧ i = p.2.1 then p.2.2 else lkR R a i
def lkV (hb : HI) : List (Nat × Int × Int) → HI
  | [], a, i => hb a i
  | p :: V, a, i => if a = p.1 ∧ i = p.2.1 then p.2.2 else lkV hb V a i
def LG (ab : Nat → Nat × Nat) (hb : HI) (n : Nat) (R : List (Nat × Int × Option Nat)) (V : List (Nat × Int × Int)) (z : Nat) (al : AL) (hi : HI) (hr : HR) : Prop := (al.1 = n ∧ 2 ≤ n ∧ (∀ a, a < n → al.2.2 a = if a < 2 then ab a else skl a) ∧ al.2.1 = z) ∧ (hr = lkR R ∧ ∀ p ∈ R, p.1 < n) ∧ (hi = lkV hb V ∧ (∀ p ∈ V, p.1 < n) ∧ ∀ a i, 2 ≤ a → hb a i = 0)
theorem lkR_n : ∀ {R : List (Nat × Int × Option Nat)}, (∀ p ∈ R, p.1 ≠ a) → lkR R a i = none
  | [], _ => rfl
  | p :: R, h => by
    show (if _ then _ else _) = _
    rw [if_neg (fun y => h p List.mem_cons_self y.1.symm)]
    exact lkR_n (fun q hq => h q (List.mem_cons_of_mem _ hq))
theorem lkV_n : ∀ {V : List (Nat × Int × Int)}, (∀ p ∈ V, p.1 ≠ a) → lkV hb V a i = hb a i
  | [], _ => rfl
  | p :: V, h => by
    show (if _ then _ else _) = _
    rw [if_neg (fun y => h p List.mem_cons_self y.1.symm)]
    exact lkV_n (fun q hq => h q (List.mem_cons_of_mem _ hq))
theorem LG.kk (H : LG ab hb n R V z al hi hr) (h2 : 2 ≤ a) (h3 : a < n) (h4 : (skl a).1 = k) : isK al a k := ⟨h2, by rw [H.1.1]; exact h3, by rw [H.1.2.2.1 a h3, if_neg (by omega)]; exact h4⟩
theorem LG.rr (H : LG ab hb n R V z al hi hr) (h : lkR R a i = c) : hr a i = c := by rw [H.2.1.1]; exact h
theorem LG.nw {n' z' : Nat} (H : LG ab hb n R V z al hi hr) (hk : skl n = (k, l)) (e : n + 1 = n') (ez : z + s = z') (q : ∀ al' hi' hr', LG ab hb n' R V z' al' hi' hr' → Wp d M pc ls (vR (some n) :: st) al' hi' hr' Q) : Wp d M pc ls (vR (some al.1) :: st) (nwA al k l s) (zeI hi al.1) (zeR hr al.1) Q := by
  obtain ⟨⟨h1, h2, h3, h4⟩, ⟨h5, h6⟩, h7, h8, h9⟩ := H
  subst e ez
  rw [h1]
  refine q _ _ _ ⟨⟨by show al.1 + 1 = _; rw [h1], by omega, fun a ha => ?_, by show al.2.1 + s = _; rw [h4]⟩, ⟨?_, fun p hp => by have := h6 p hp; omega⟩, ?_, fun p hp => by have := h8 p hp; omega, h9⟩
  · show (if a = al.1 then (k, l) else al.2.2 a) = _
    by_cases c : a = n
    · rw [if_pos (by omega), if_neg (by omega), c, hk]
    · rw [if_neg (by omega)]; exact h3 a (by omega)
  · subst h5
    funext b j
    by_cases c : b = n
    · rw [c, zeR_eq, lkR_n (fun p hp => by have := h6 p hp; omega)]
    · rw [zeR_a c]
  · subst h7
    funext b j
    by_cases c : b = n
    · rw [c, zeI_eq, lkV_n (fun p hp => by have := h8 p hp; omega), h9 n j h2]
    · rw [zeI_a c]
theorem LG.wR (H : LG ab hb n R V z al hi hr) (ho : o < n) (q : ∀ hr', LG ab hb n ((o, f, c) :: R) V z al hi hr' → Wp d M pc ls st al hi hr' Q) : Wp d M pc ls st al hi (upR hr o f c) Q := by
  obtain ⟨h0, ⟨h5, h6⟩, h7⟩ := H
  subst h5
  refine q _ ⟨h0, ⟨rfl, fun p hp => ?_⟩, h7⟩
  rcases List.mem_cons.mp hp with e | e
  · rw [e]; exact ho
  · exact h6 p e
theorem LG.wV (H : LG ab hb n R V z al hi hr) (ho : o < n) (q : ∀ hi', LG ab hb n R ((o, f, x) :: V) z al hi' hr → Wp d M pc ls st al hi' hr Q) : Wp d M pc ls st al (upI hi o f x) hr Q := by
  obtain ⟨h0, h5, h7, h8, h9⟩ := H
  subst h7
  refine q _ ⟨h0, h5, rfl, fun p hp => ?_, h9⟩
  rcases List.mem_cons.mp hp with e | e
  · rw [e]; exact ho
  · exact h8 p e
def iRL : List (Nat × Int × Option Nat) := [(49, 88, some 118), (49, 87, some 117), (49, 86, some 116), (49, 85, some 115), (49, 84, some 114), (49, 83, some 113), (49, 82, some 112), (49, 81, some 111), (49, 80, some 110), (49, 79, some 109), (49, 78, some 108), (49, 77, some 107), (49, 76, some 106), (49, 75, some 105), (49, 74, some 104), (49, 73, some 103), (49, 72, some 102), (49, 71, some 101), (49, 70, some 100), (49, 69, some 99), (49, 68, some 98), (49, 67, some 97), (49, 66, some 96), (49, 65, some 95), (49, 64, some 94), (49, 63, some 93), (49, 62, some 92), (49, 61, some 91), (49, 60, some 90), (49, 59, some 89), (49, 58, some 88), (49, 57, some 87), (49, 50, some 86), (49, 47, some 85), (49, 46, some 84), (49, 45, some 83), (49, 44, some 82), (49, 43, some 81), (49, 42, some 80), (49, 41, some 79), (49, 40, some 78), (49, 39, some 77), (49, 34, some 76), (49, 33, some 75), (49, 32, some 74), (49, 31, some 73), (49, 30, some 72), (49, 29, some 71), (49, 25, some 70), (49, 21, some 69), (49, 20, some 68), (49, 19, some 67), (49, 18, some 66), (49, 17, some 65), (49, 16, some 64), (49, 15, some 63), (49, 14, some 62), (49, 13, some 61), (49, 12, some 60), (49, 11, some 59), (49, 10, some 58), (49, 9, some 57), (49, 8, some 56), (49, 7, some 55), (49, 6, some 54), (49, 5, some 53), (49, 4, some 52), (49, 3, some 51), (49, 1, some 50), (2, 8, some 26), (26, 14, some 48), (26, 13, some 47), (26, 12, some 46), (26, 7, some 45), (26, 6, some 44), (26, 5, some 43), (26, 4, some 33), (33, 0, some 29), (33, 9, some 42), (33, 8, some 41), (33, 7, some 40), (33, 6, some 39), (33, 5, some 38), (33, 4, some 37), (33, 3, some 36), (33, 2, some 35), (33, 1, some 34), (26, 3, some 29), (29, 2, some 32), (29, 1, some 31), (29, 0, some 30), (26, 2, some 28), (26, 1, some 27), (2, 7, some 14), (14, 10, some 25), (14, 9, some 24), (14, 8, some 23), (14, 7, some 22), (14, 6, some 21), (14, 5, some 20), (14, 4, some 19), (14, 3, some 18), (14, 2, some 17), (14, 0, some 15), (15, 0, some 16), (2, 6, some 8), (8, 8, none), (8, 7, none), (8, 3, some 13), (8, 2, some 12), (8, 1, some 11), (8, 0, some 9), (9, 0, some 10), (2, 5, some 5), (5, 0, some 6), (6, 0, some 7), (2, 2, some 4), (2, 0, some 3)]
def iVL : List (Nat × Int × Int) := [(49, 23, -1), (26, 11, 0), (26, 10, 0), (26, 9, 0), (26, 8, 0), (33, 10, 0), (29, 4, 0), (29, 3, 0), (26, 0, 0), (14, 11, 0), (14, 1, 0), (15, 5, -1), (15, 4, 0), (15, 3, 0), (15, 2, 0), (15, 1, 0), (8, 6, 0), (8, 5, 0), (8, 4, 0), (9, 5, -1), (9, 4, 0), (9, 3, 0), (9, 2, 0), (9, 1, 0), (5, 1, 0), (6, 5, -1), (6, 4, 0), (6, 3, 0), (6, 2, 0), (6, 1, 0), (2, 4, -1), (2, 3, -1), (2, 1, 0)]
set_option maxRecDepth 20000 in
theorem l_start (H : LG ab hb 2 [] [] 0 al hi hr) (hd : 20 ≤ d) (q : ∀ z al' hi' hr', LG ab hb 119 iRL iVL z al' hi' hr' → z ≤ 200000 → Wp d 328 16 [vR (some 1), vR (some 2), vR (some 49), none] [] al' hi' hr' Q) : Ev d 328 [vR (some 1)] al hi hr Q := by
  refine e328.mpr ?_
  refine s328_0.mpr ?_
  refine H.nw (n' := 3) (z' := 9) rfl rfl rfl (fun al hi hr H => ?_)
  refine s328_3.mpr ?_
  refine (s328_4 (by omega)).mpr ?_
  refine e185.mpr ?_
  refine s185_0.mpr ?_
  refine s185_1.mpr ?_
  refine s185_4.mpr ?_
  refine s185_5.mpr ?_
  refine (s185_8 (by decide) (by decide)).mpr ?_
  refine H.nw (n' := 4) (z' := 2009) rfl rfl rfl (fun al hi hr H => ?_)
  refine (s185_10 (H.kk (by decide) (by decide) rfl)).mpr ?_
  refine H.wR (by decide) (fun hr H => ?_)
  refine s185_13.mpr ?_
  refine s185_14.mpr ?_
  refine (s185_15 (H.kk (by decide) (by decide) rfl)).mpr ?_
  refine H.wV (by decide) (fun hi H => ?_)
  refine s185_18.mpr ?_
  refine s185_19.mpr ?_
  refine (s185_21 (by decide) (by decide)).mpr ?_
  refine H.nw (n' := 5) (z' := 2015) rfl rfl rfl (fun al hi hr H => ?_)
  refine (s185_24 (H.kk (by decide) (by decide) rfl)).mpr ?_
  refine H.wR (by decide) (fun hr H => ?_)
  refine s185_27.mpr ?_
  refine s185_28.mpr ?_
  refine (s185_29 (H.kk (by decide) (by decide) rfl)).mpr ?_
  refine H.wV (by decide) (fun hi H => ?_)
  refine s185_32.mpr ?_
  refine s185_33.mpr ?_
  refine (s185_34 (H.kk (by decide) (by decide) rfl)).mpr ?_
  refine H.wV (by decide) (fun hi H => ?_)
  refine s185_37.mpr ?_
  refine s185_38.mpr ?_
  refine H.nw (n' := 6) (z' := 2017) rfl rfl rfl (fun al hi hr H => ?_)
  refine s185_41.mpr ?_
  refine (s185_42 (by omega)).mpr ?_
  refine e29.mpr ?_
  refine s29_0.mpr ?_
  refine s29_1.mpr ?_
  refine s29_4.mpr ?_
  refine s29_5.mpr ?_
  refine H.nw (n' := 7) (z' := 2023) rfl rfl rfl (fun al hi hr H => ?_)
  refine s29_8.mpr ?_
  refine (s29_9 (by omega)).mpr ?_
  refine e10.mpr ?_
  refine s10_0.mpr ?_
  refine s10_1.mpr ?_
  refine s10_4.mpr ?_
  refine s10_5.mpr ?_
  refine (s10_6 (by decide) (by decide)).mpr ?_
  refine H.nw (n' := 8) (z' := 2023) rfl rfl rfl (fun al hi hr H => ?_)
  refine (s10_8 (H.kk (by decide) (by decide) rfl)).mpr ?_
  refine H.wR (by decide) (fun hr H => ?_)
  refine s10_11.mpr ?_
  refine s10_12.mpr ?_
  refine (s10_13 (H.kk (by decide) (by decide) rfl)).mpr ?_
  refine H.wV (by decide) (fun hi H => ?_)
  refine s10_16.mpr ?_
  refine s10_17.mpr ?_
  refine (s10_18 (H.kk (by decide) (by decide) rfl)).mpr ?_
  refine H.wV (by decide) (fun hi H => ?_)
  refine s10_21.mpr ?_
  refine s10_22.mpr ?_
  refine (s10_23 (H.kk (by decide) (by decide) rfl)).mpr ?_
  refine H.wV (by decide) (fun hi H => ?_)
  refine s10_26.mpr ?_
  refine s10_27.mpr ?_
  refine (s10_28 (H.kk (by decide) (by decide) rfl)).mpr ?_
  refine H.wV (by decide) (fun hi H => ?_)
  refine s10_31.mpr ?_
  refine s10_32.mpr ?_
  refine (s10_33 (H.kk (by decide) (by decide) rfl)).mpr ?_
  refine H.wV (by decide) (fun hi H => ?_)
  refine s10_36.mpr ?_
  simp only [kon, knt_some, knt_none, Option.toList_some, Option.toList_none, List.cons_append, List.nil_append]
  refine (s29_12 (H.kk (by decide) (by decide) rfl)).mpr ?_
  refine H.wR (by decide) (fun hr H => ?_)
  refine s29_15.mpr ?_
  refine s29_16.mpr ?_
  refine (s29_17 (H.kk (by decide) (by decide) rfl) (by decide)).mpr ?_
  refine H.wV (by decide) (fun hi H => ?_)
  refine s29_20.mpr ?_
  simp only [kon, knt_some, knt_none, Option.toList_some, Option.toList_none, List.cons_append, List.nil_append]
  refine (s185_45 (H.kk (by decide) (by decide) rfl)).mpr ?_
  refine H.wR (by decide) (fun hr H => ?_)
  refine s185_48.mpr ?_
  refine s185_49.mpr ?_
  refine H.nw (n' := 9) (z' := 2032) rfl rfl rfl (fun al hi hr H => ?_)
  refine s185_52.mpr ?_
  refine (s185_53 (by omega)).mpr ?_
  refine e158.mpr ?_
  refine s158_0.mpr ?_
  refine s158_1.mpr ?_
  refine s158_4.mpr ?_
  refine s158_5.mpr ?_
  refine H.nw (n' := 10) (z' := 2038) rfl rfl rfl (fun al hi hr H => ?_)
  refine s158_8.mpr ?_
  refine (s158_9 (by omega)).mpr ?_
  refine e10.mpr ?_
  refine s10_0.mpr ?_
  refine s10_1.mpr ?_
  refine s10_4.mpr ?_
  refine s10_5.mpr ?_
  refine (s10_6 (by decide) (by decide)).mpr ?_
  refine H.nw (n' := 11) (z' := 2038) rfl rfl rfl (fun al hi hr H => ?_)
  refine (s10_8 (H.kk (by decide) (by decide) rfl)).mpr ?_
  refine H.wR (by decide) (fun hr H => ?_)
  refine s10_11.mpr ?_
  refine s10_12.mpr ?_
  refine (s10_13 (H.kk (by decide) (by decide) rfl)).mpr ?_
  refine H.wV (by decide) (fun hi H => ?_)
  refine s10_16.mpr ?_
  refine s10_17.mpr ?_
  refine (s10_18 (H.kk (by decide) (by decide) rfl)).mpr ?_
  refine H.wV (by decide) (fun hi H => ?_)
  refine s10_21.mpr ?_
  refine s10_22.mpr ?_
  refine (s10_23 (H.kk (by decide) (by decide) rfl)).mpr ?_
  refine H.wV (by decide) (fun hi H => ?_)
  refine s10_26.mpr ?_
  refine s10_27.mpr ?_
  refine (s10_28 (H.kk (by decide) (by decide) rfl)).mpr ?_
  refine H.wV (by decide) (fun hi H => ?_)
  refine s10_31.mpr ?_
  refine s10_32.mpr ?_
  refine (s10_33 (H.kk (by decide) (by decide) rfl)).mpr ?_
  refine H.wV (by decide) (fun hi H => ?_)
  refine s10_36.mpr ?_
  simp only [kon, knt_some, knt_none, Option.toList_some, Option.toList_none, List.cons_append, List.nil_append]
  refine (s158_12 (H.kk (by decide) (by decide) rfl)).mpr ?_
  refine H.wR (by decide) (fun hr H => ?_)
  refine s158_15.mpr ?_
  refine s158_16.mpr ?_
  refine (s158_18 (by decide) (by decide)).mpr ?_
  refine H.nw (n' := 12) (z' := 2054) rfl rfl rfl (fun al hi hr H => ?_)
  refine (s158_20 (H.kk (by decide) (by decide) rfl)).mpr ?_
  refine H.wR (by decide) (fun hr H => ?_)
  refine s158_23.mpr ?_
  refine s158_24.mpr ?_
  refine (s158_26 (by decide) (by decide)).mpr ?_
  refine H.nw (n' := 13) (z' := 2064) rfl rfl rfl (fun al hi hr H => ?_)
  refine (s158_28 (H.kk (by decide) (by decide) rfl)).mpr ?_
  refine H.wR (by decide) (fun hr H => ?_)
  refine s158_31.mpr ?_
  refine s158_32.mpr ?_
  refine (s158_35 (by decide) (by decide)).mpr ?_
  refine H.nw (n' := 14) (z' := 2304) rfl rfl rfl (fun al hi hr H => ?_)
  refine (s158_37 (H.kk (by decide) (by decide) rfl)).mpr ?_
  refine H.wR (by decide) (fun hr H => ?_)
  refine s158_40.mpr ?_
  refine s158_41.mpr ?_
  refine (s158_42 (H.kk (by decide) (by decide) rfl)).mpr ?_
  refine H.wV (by decide) (fun hi H => ?_)
  refine s158_45.mpr ?_
  refine s158_46.mpr ?_
  refine (s158_47 (H.kk (by decide) (by decide) rfl) (by decide)).mpr ?_
  refine H.wV (by decide) (fun hi H => ?_)
  refine s158_50.mpr ?_
  refine s158_51.mpr ?_
  refine (s158_52 (H.kk (by decide) (by decide) rfl) (by decide)).mpr ?_
  refine H.wV (by decide) (fun hi H => ?_)
  refine s158_55.mpr ?_
  refine s158_56.mpr ?_
  refine (s158_57 (H.kk (by decide) (by decide) rfl)).mpr ?_
  refine H.wR (by decide) (fun hr H => ?_)
  refine s158_60.mpr ?_
  refine s158_61.mpr ?_
  refine (s158_62 (H.kk (by decide) (by decide) rfl)).mpr ?_
  refine H.wR (by decide) (fun hr H => ?_)
  refine s158_65.mpr ?_
  simp only [kon, knt_some, knt_none, Option.toList_some, Option.toList_none, List.cons_append, List.nil_append]
  refine (s185_56 (H.kk (by decide) (by decide) rfl)).mpr ?_
  refine H.wR (by decide) (fun hr H => ?_)
  refine s185_59.mpr ?_
  refine s185_60.mpr ?_
  refine H.nw (n' := 15) (z' := 2316) rfl rfl rfl (fun al hi hr H => ?_)
  refine s185_63.mpr ?_
  refine (s185_64 (by omega)).mpr ?_
  refine e97.mpr ?_
  refine s97_0.mpr ?_
  refine s97_1.mpr ?_
  refine s97_4.mpr ?_
  refine s97_5.mpr ?_
  refine H.nw (n' := 16) (z' := 2322) rfl rfl rfl (fun al hi hr H => ?_)
  refine s97_8.mpr ?_
  refine (s97_9 (by omega)).mpr ?_
  refine e10.mpr ?_
  refine s10_0.mpr ?_
  refine s10_1.mpr ?_
  refine s10_4.mpr ?_
  refine s10_5.mpr ?_
  refine (s10_6 (by decide) (by decide)).mpr ?_
  refine H.nw (n' := 17) (z' := 2322) rfl rfl rfl (fun al hi hr H => ?_)
  refine (s10_8 (H.kk (by decide) (by decide) rfl)).mpr ?_
  refine H.wR (by decide) (fun hr H => ?_)
  refine s10_11.mpr ?_
  refine s10_12.mpr ?_
  refine (s10_13 (H.kk (by decide) (by decide) rfl)).mpr ?_
  refine H.wV (by decide) (fun hi H => ?_)
  refine s10_16.mpr ?_
  refine s10_17.mpr ?_
  refine (s10_18 (H.kk (by decide) (by decide) rfl)).mpr ?_
  refine H.wV (by decide) (fun hi H => ?_)
  refine s10_21.mpr ?_
  refine s10_22.mpr ?_
  refine (s10_23 (H.kk (by decide) (by decide) rfl)).mpr ?_
  refine H.wV (by decide) (fun hi H => ?_)
  refine s10_26.mpr ?_
  refine s10_27.mpr ?_
  refine (s10_28 (H.kk (by decide) (by decide) rfl)).mpr ?_
  refine H.wV (by decide) (fun hi H => ?_)
  refine s10_31.mpr ?_
  refine s10_32.mpr ?_
  refine (s10_33 (H.kk (by decide) (by decide) rfl)).mpr ?_
  refine H.wV (by decide) (fun hi H => ?_)
  refine s10_36.mpr ?_
  simp only [kon, knt_some, knt_none, Option.toList_some, Option.toList_none, List.cons_append, List.nil_append]
  refine (s97_12 (H.kk (by decide) (by decide) rfl)).mpr ?_
  refine H.wR (by decide) (fun hr H => ?_)
  refine s97_15.mpr ?_
  refine s97_16.mpr ?_
  refine (s97_17 (H.kk (by decide) (by decide) rfl)).mpr ?_
  refine H.wV (by decide) (fun hi H => ?_)
  refine s97_20.mpr ?_
  refine s97_21.mpr ?_
  refine (s97_23 (by decide) (by decide)).mpr ?_
  refine H.nw (n' := 18) (z' := 2328) rfl rfl rfl (fun al hi hr H => ?_)
  refine (s97_26 (H.kk (by decide) (by decide) rfl)).mpr ?_
  refine H.wR (by decide) (fun hr H => ?_)
  refine s97_29.mpr ?_
  refine s97_30.mpr ?_
  refine (s97_32 (by decide) (by decide)).mpr ?_
  refine H.nw (n' := 19) (z' := 2334) rfl rfl rfl (fun al hi hr H => ?_)
  refine (s97_34 (H.kk (by decide) (by decide) rfl)).mpr ?_
  refine H.wR (by decide) (fun hr H => ?_)
  refine s97_37.mpr ?_
  refine s97_38.mpr ?_
  refine (s97_40 (by decide) (by decide)).mpr ?_
  refine H.nw (n' := 20) (z' := 2340) rfl rfl rfl (fun al hi hr H => ?_)
  refine (s97_42 (H.kk (by decide) (by decide) rfl)).mpr ?_
  refine H.wR (by decide) (fun hr H => ?_)
  refine s97_45.mpr ?_
  refine s97_46.mpr ?_
  refine (s97_48 (by decide) (by decide)).mpr ?_
  refine H.nw (n' := 21) (z' := 2346) rfl rfl rfl (fun al hi hr H => ?_)
  refine (s97_50 (H.kk (by decide) (by decide) rfl)).mpr ?_
  refine H.wR (by decide) (fun hr H => ?_)
  refine s97_53.mpr ?_
  refine s97_54.mpr ?_
  refine (s97_56 (by decide) (by decide)).mpr ?_
  refine H.nw (n' := 22) (z' := 2370) rfl rfl rfl (fun al hi hr H => ?_)
  refine (s97_58 (H.kk (by decide) (by decide) rfl)).mpr ?_
  refine H.wR (by decide) (fun hr H => ?_)
  refine s97_61.mpr ?_
  refine s97_62.mpr ?_
  refine (s97_64 (by decide) (by decide)).mpr ?_
  refine H.nw (n' := 23) (z' := 2378) rfl rfl rfl (fun al hi hr H => ?_)
  refine (s97_66 (H.kk (by decide) (by decide) rfl)).mpr ?_
  refine H.wR (by decide) (fun hr H => ?_)
  refine s97_69.mpr ?_
  refine s97_70.mpr ?_
  refine (s97_72 (by decide) (by decide)).mpr ?_
  refine H.nw (n' := 24) (z' := 2386) rfl rfl rfl (fun al hi hr H => ?_)
  refine (s97_75 (H.kk (by decide) (by decide) rfl)).mpr ?_
  refine H.wR (by decide) (fun hr H => ?_)
  refine s97_78.mpr ?_
  refine s97_79.mpr ?_
  refine (s97_81 (by decide) (by decide)).mpr ?_
  refine H.nw (n' := 25) (z' := 2394) rfl rfl rfl (fun al hi hr H => ?_)
  refine (s97_83 (H.kk (by decide) (by decide) rfl)).mpr ?_
  refine H.wR (by decide) (fun hr H => ?_)
  refine s97_86.mpr ?_
  refine s97_87.mpr ?_
  refine (s97_89 (by decide) (by decide)).mpr ?_
  refine H.nw (n' := 26) (z' := 2410) rfl rfl rfl (fun al hi hr H => ?_)
  refine (s97_91 (H.kk (by decide) (by decide) rfl)).mpr ?_
  refine H.wR (by decide) (fun hr H => ?_)
  refine s97_94.mpr ?_
  refine s97_95.mpr ?_
  refine (s97_96 (H.kk (by decide) (by decide) rfl)).mpr ?_
  refine H.wV (by decide) (fun hi H => ?_)
  refine s97_99.mpr ?_
  simp only [kon, knt_some, knt_none, Option.toList_some, Option.toList_none, List.cons_append, List.nil_append]
  refine (s185_67 (H.kk (by decide) (by decide) rfl)).mpr ?_
  refine H.wR (by decide) (fun hr H => ?_)
  refine s185_70.mpr ?_
  refine s185_71.mpr ?_
  refine H.nw (n' := 27) (z' := 2425) rfl rfl rfl (fun al hi hr H => ?_)
  refine s185_74.mpr ?_
  refine (s185_75 (by omega)).mpr ?_
  refine e62.mpr ?_
  refine s62_0.mpr ?_
  refine s62_1.mpr ?_
  refine s62_4.mpr ?_
  refine s62_5.mpr ?_
  refine (s62_6 (H.kk (by decide) (by decide) rfl) (by decide)).mpr ?_
  refine H.wV (by decide) (fun hi H => ?_)
  refine s62_9.mpr ?_
  refine s62_10.mpr ?_
  refine (s62_12 (by decide) (by decide)).mpr ?_
  refine H.nw (n' := 28) (z' := 2437) rfl rfl rfl (fun al hi hr H => ?_)
  refine (s62_15 (H.kk (by decide) (by decide) rfl)).mpr ?_
  refine H.wR (by decide) (fun hr H => ?_)
  refine s62_18.mpr ?_
  refine s62_19.mpr ?_
  refine (s62_21 (by decide) (by decide)).mpr ?_
  refine H.nw (n' := 29) (z' := 2449) rfl rfl rfl (fun al hi hr H => ?_)
  refine (s62_23 (H.kk (by decide) (by decide) rfl)).mpr ?_
  refine H.wR (by decide) (fun hr H => ?_)
  refine s62_26.mpr ?_
  refine s62_27.mpr ?_
  refine H.nw (n' := 30) (z' := 2454) rfl rfl rfl (fun al hi hr H => ?_)
  refine s62_30.mpr ?_
  refine (s62_31 (by omega)).mpr ?_
  refine e0.mpr ?_
  refine s0_0.mpr ?_
  refine s0_1.mpr ?_
  refine s0_4.mpr ?_
  refine s0_5.mpr ?_
  refine (s0_8 (by decide) (by decide)).mpr ?_
  refine H.nw (n' := 31) (z' := 2582) rfl rfl rfl (fun al hi hr H => ?_)
  refine (s0_10 (H.kk (by decide) (by decide) rfl)).mpr ?_
  refine H.wR (by decide) (fun hr H => ?_)
  refine s0_13.mpr ?_
  refine s0_14.mpr ?_
  refine (s0_17 (by decide) (by decide)).mpr ?_
  refine H.nw (n' := 32) (z' := 2710) rfl rfl rfl (fun al hi hr H => ?_)
  refine (s0_19 (H.kk (by decide) (by decide) rfl)).mpr ?_
  refine H.wR (by decide) (fun hr H => ?_)
  refine s0_22.mpr ?_
  refine s0_23.mpr ?_
  refine (s0_26 (by decide) (by decide)).mpr ?_
  refine H.nw (n' := 33) (z' := 3478) rfl rfl rfl (fun al hi hr H => ?_)
  refine (s0_28 (H.kk (by decide) (by decide) rfl)).mpr ?_
  refine H.wR (by decide) (fun hr H => ?_)
  refine s0_31.mpr ?_
  refine s0_32.mpr ?_
  refine (s0_33 (H.kk (by decide) (by decide) rfl)).mpr ?_
  refine H.wV (by decide) (fun hi H => ?_)
  refine s0_36.mpr ?_
  refine s0_37.mpr ?_
  refine (s0_38 (H.kk (by decide) (by decide) rfl)).mpr ?_
  refine H.wV (by decide) (fun hi H => ?_)
  refine s0_41.mpr ?_
  simp only [kon, knt_some, knt_none, Option.toList_some, Option.toList_none, List.cons_append, List.nil_append]
  refine (s62_34 (H.kk (by decide) (by decide) rfl)).mpr ?_
  refine H.wR (by decide) (fun hr H => ?_)
  refine s62_37.mpr ?_
  refine s62_38.mpr ?_
  refine H.nw (n' := 34) (z' := 3489) rfl rfl rfl (fun al hi hr H => ?_)
  refine s62_41.mpr ?_
  refine s62_42.mpr ?_
  refine (s62_43 (H.kk (by decide) (by decide) rfl)).mpr ?_
  rw [H.rr (show _ = some 29 by decide)]
  refine (s62_46 (by omega)).mpr ?_
  refine e39.mpr ?_
  refine s39_0.mpr ?_
  refine s39_1.mpr ?_
  refine s39_4.mpr ?_
  refine s39_5.mpr ?_
  refine (s39_7 (by decide) (by decide)).mpr ?_
  refine H.nw (n' := 35) (z' := 3513) rfl rfl rfl (fun al hi hr H => ?_)
  refine (s39_9 (H.kk (by decide) (by decide) rfl)).mpr ?_
  refine H.wR (by decide) (fun hr H => ?_)
  refine s39_12.mpr ?_
  refine s39_13.mpr ?_
  refine (s39_15 (by decide) (by decide)).mpr ?_
  refine H.nw (n' := 36) (z' := 3537) rfl rfl rfl (fun al hi hr H => ?_)
  refine (s39_17 (H.kk (by decide) (by decide) rfl)).mpr ?_
  refine H.wR (by decide) (fun hr H => ?_)
  refine s39_20.mpr ?_
  refine s39_21.mpr ?_
  refine (s39_23 (by decide) (by decide)).mpr ?_
  refine H.nw (n' := 37) (z' := 3561) rfl rfl rfl (fun al hi hr H => ?_)
  refine (s39_25 (H.kk (by decide) (by decide) rfl)).mpr ?_
  refine H.wR (by decide) (fun hr H => ?_)
  refine s39_28.mpr ?_
  refine s39_29.mpr ?_
  refine (s39_31 (by decide) (by decide)).mpr ?_
  refine H.nw (n' := 38) (z' := 3573) rfl rfl rfl (fun al hi hr H => ?_)
  refine (s39_34 (H.kk (by decide) (by decide) rfl)).mpr ?_
  refine H.wR (by decide) (fun hr H => ?_)
  refine s39_37.mpr ?_
  refine s39_38.mpr ?_
  refine (s39_40 (by decide) (by decide)).mpr ?_
  refine H.nw (n' := 39) (z' := 3597) rfl rfl rfl (fun al hi hr H => ?_)
  refine (s39_42 (H.kk (by decide) (by decide) rfl)).mpr ?_
  refine H.wR (by decide) (fun hr H => ?_)
  refine s39_45.mpr ?_
  refine s39_46.mpr ?_
  refine (s39_48 (by decide) (by decide)).mpr ?_
  refine H.nw (n' := 40) (z' := 3693) rfl rfl rfl (fun al hi hr H => ?_)
  refine (s39_50 (H.kk (by decide) (by decide) rfl)).mpr ?_
  refine H.wR (by decide) (fun hr H => ?_)
  refine s39_53.mpr ?_
  refine s39_54.mpr ?_
  refine (s39_56 (by decide) (by decide)).mpr ?_
  refine H.nw (n' := 41) (z' := 3789) rfl rfl rfl (fun al hi hr H => ?_)
  refine (s39_58 (H.kk (by decide) (by decide) rfl)).mpr ?_
  refine H.wR (by decide) (fun hr H => ?_)
  refine s39_61.mpr ?_
  refine s39_62.mpr ?_
  refine (s39_64 (by decide) (by decide)).mpr ?_
  refine H.nw (n' := 42) (z' := 3885) rfl rfl rfl (fun al hi hr H => ?_)
  refine (s39_66 (H.kk (by decide) (by decide) rfl)).mpr ?_
  refine H.wR (by decide) (fun hr H => ?_)
  refine s39_69.mpr ?_
  refine s39_70.mpr ?_
  refine (s39_72 (by decide) (by decide)).mpr ?_
  refine H.nw (n' := 43) (z' := 3910) rfl rfl rfl (fun al hi hr H => ?_)
  refine (s39_74 (H.kk (by decide) (by decide) rfl)).mpr ?_
  refine H.wR (by decide) (fun hr H => ?_)
  refine s39_77.mpr ?_
  refine s39_78.mpr ?_
  refine (s39_79 (H.kk (by decide) (by decide) rfl)).mpr ?_
  refine H.wV (by decide) (fun hi H => ?_)
  refine s39_82.mpr ?_
  refine s39_83.mpr ?_
  refine (s39_84 (H.kk (by decide) (by decide) rfl)).mpr ?_
  refine H.wR (by decide) (fun hr H => ?_)
  refine s39_87.mpr ?_
  simp only [kon, knt_some, knt_none, Option.toList_some, Option.toList_none, List.cons_append, List.nil_append]
  refine (s62_49 (H.kk (by decide) (by decide) rfl)).mpr ?_
  refine H.wR (by decide) (fun hr H => ?_)
  refine s62_52.mpr ?_
  refine s62_53.mpr ?_
  refine (s62_56 (by decide) (by decide)).mpr ?_
  refine H.nw (n' := 44) (z' := 4935) rfl rfl rfl (fun al hi hr H => ?_)
  refine (s62_58 (H.kk (by decide) (by decide) rfl)).mpr ?_
  refine H.wR (by decide) (fun hr H => ?_)
  refine s62_61.mpr ?_
  refine s62_62.mpr ?_
  refine (s62_65 (by decide) (by decide)).mpr ?_
  refine H.nw (n' := 45) (z' := 5435) rfl rfl rfl (fun al hi hr H => ?_)
  refine (s62_67 (H.kk (by decide) (by decide) rfl)).mpr ?_
  refine H.wR (by decide) (fun hr H => ?_)
  refine s62_70.mpr ?_
  refine s62_71.mpr ?_
  refine (s62_74 (by decide) (by decide)).mpr ?_
  refine H.nw (n' := 46) (z' := 5935) rfl rfl rfl (fun al hi hr H => ?_)
  refine (s62_76 (H.kk (by decide) (by decide) rfl)).mpr ?_
  refine H.wR (by decide) (fun hr H => ?_)
  refine s62_79.mpr ?_
  refine s62_80.mpr ?_
  refine (s62_81 (H.kk (by decide) (by decide) rfl)).mpr ?_
  refine H.wV (by decide) (fun hi H => ?_)
  refine s62_84.mpr ?_
  refine s62_85.mpr ?_
  refine (s62_86 (H.kk (by decide) (by decide) rfl)).mpr ?_
  refine H.wV (by decide) (fun hi H => ?_)
  refine s62_89.mpr ?_
  refine s62_90.mpr ?_
  refine (s62_91 (H.kk (by decide) (by decide) rfl)).mpr ?_
  refine H.wV (by decide) (fun hi H => ?_)
  refine s62_94.mpr ?_
  refine s62_95.mpr ?_
  refine (s62_96 (H.kk (by decide) (by decide) rfl)).mpr ?_
  refine H.wV (by decide) (fun hi H => ?_)
  refine s62_99.mpr ?_
  refine s62_100.mpr ?_
  refine (s62_102 (by decide) (by decide)).mpr ?_
  refine H.nw (n' := 47) (z' := 5943) rfl rfl rfl (fun al hi hr H => ?_)
  refine (s62_104 (H.kk (by decide) (by decide) rfl)).mpr ?_
  refine H.wR (by decide) (fun hr H => ?_)
  refine s62_107.mpr ?_
  refine s62_108.mpr ?_
  refine (s62_109 (by decide) (by decide)).mpr ?_
  refine H.nw (n' := 48) (z' := 5947) rfl rfl rfl (fun al hi hr H => ?_)
  refine (s62_111 (H.kk (by decide) (by decide) rfl)).mpr ?_
  refine H.wR (by decide) (fun hr H => ?_)
  refine s62_114.mpr ?_
  refine s62_115.mpr ?_
  refine (s62_116 (by decide) (by decide)).mpr ?_
  refine H.nw (n' := 49) (z' := 5951) rfl rfl rfl (fun al hi hr H => ?_)
  refine (s62_118 (H.kk (by decide) (by decide) rfl)).mpr ?_
  refine H.wR (by decide) (fun hr H => ?_)
  refine s62_121.mpr ?_
  simp only [kon, knt_some, knt_none, Option.toList_some, Option.toList_none, List.cons_append, List.nil_append]
  refine (s185_78 (H.kk (by decide) (by decide) rfl)).mpr ?_
  refine H.wR (by decide) (fun hr H => ?_)
  refine s185_81.mpr ?_
  simp only [kon, knt_some, knt_none, Option.toList_some, Option.toList_none, List.cons_append, List.nil_append]
  refine s328_7.mpr ?_
  refine s328_8.mpr ?_
  refine H.nw (n' := 50) (z' := 6041) rfl rfl rfl (fun al hi hr H => ?_)
  refine s328_11.mpr ?_
  refine (s328_12 (by omega)).mpr ?_
  refine e216.mpr ?_
  refine s216_0.mpr ?_
  refine s216_1.mpr ?_
  refine s216_4.mpr ?_
  refine s216_5.mpr ?_
  refine (s216_8 (by decide) (by decide)).mpr ?_
  refine H.nw (n' := 51) (z' := 8041) rfl rfl rfl (fun al hi hr H => ?_)
  refine (s216_10 (H.kk (by decide) (by decide) rfl)).mpr ?_
  refine H.wR (by decide) (fun hr H => ?_)
  refine s216_13.mpr ?_
  refine s216_14.mpr ?_
  refine (s216_17 (by decide) (by decide)).mpr ?_
  refine H.nw (n' := 52) (z' := 34041) rfl rfl rfl (fun al hi hr H => ?_)
  refine (s216_19 (H.kk (by decide) (by decide) rfl)).mpr ?_
  refine H.wR (by decide) (fun hr H => ?_)
  refine s216_22.mpr ?_
  refine s216_23.mpr ?_
  refine (s216_25 (by decide) (by decide)).mpr ?_
  refine H.nw (n' := 53) (z' := 34054) rfl rfl rfl (fun al hi hr H => ?_)
  refine (s216_27 (H.kk (by decide) (by decide) rfl)).mpr ?_
  refine H.wR (by decide) (fun hr H => ?_)
  refine s216_30.mpr ?_
  refine s216_31.mpr ?_
  refine (s216_33 (by decide) (by decide)).mpr ?_
  refine H.nw (n' := 54) (z' := 34067) rfl rfl rfl (fun al hi hr H => ?_)
  refine (s216_35 (H.kk (by decide) (by decide) rfl)).mpr ?_
  refine H.wR (by decide) (fun hr H => ?_)
  refine s216_38.mpr ?_
  refine s216_39.mpr ?_
  refine (s216_41 (by decide) (by decide)).mpr ?_
  refine H.nw (n' := 55) (z' := 34080) rfl rfl rfl (fun al hi hr H => ?_)
  refine (s216_43 (H.kk (by decide) (by decide) rfl)).mpr ?_
  refine H.wR (by decide) (fun hr H => ?_)
  refine s216_46.mpr ?_
  refine s216_47.mpr ?_
  refine (s216_49 (by decide) (by decide)).mpr ?_
  refine H.nw (n' := 56) (z' := 34093) rfl rfl rfl (fun al hi hr H => ?_)
  refine (s216_51 (H.kk (by decide) (by decide) rfl)).mpr ?_
  refine H.wR (by decide) (fun hr H => ?_)
  refine s216_54.mpr ?_
  refine s216_55.mpr ?_
  refine (s216_57 (by decide) (by decide)).mpr ?_
  refine H.nw (n' := 57) (z' := 34106) rfl rfl rfl (fun al hi hr H => ?_)
  refine (s216_59 (H.kk (by decide) (by decide) rfl)).mpr ?_
  refine H.wR (by decide) (fun hr H => ?_)
  refine s216_62.mpr ?_
  refine s216_63.mpr ?_
  refine (s216_65 (by decide) (by decide)).mpr ?_
  refine H.nw (n' := 58) (z' := 34210) rfl rfl rfl (fun al hi hr H => ?_)
  refine (s216_67 (H.kk (by decide) (by decide) rfl)).mpr ?_
  refine H.wR (by decide) (fun hr H => ?_)
  refine s216_70.mpr ?_
  refine s216_71.mpr ?_
  refine (s216_74 (by decide) (by decide)).mpr ?_
  refine H.nw (n' := 59) (z' := 34834) rfl rfl rfl (fun al hi hr H => ?_)
  refine (s216_76 (H.kk (by decide) (by decide) rfl)).mpr ?_
  refine H.wR (by decide) (fun hr H => ?_)
  refine s216_79.mpr ?_
  refine s216_80.mpr ?_
  refine (s216_82 (by decide) (by decide)).mpr ?_
  refine H.nw (n' := 60) (z' := 34886) rfl rfl rfl (fun al hi hr H => ?_)
  refine (s216_84 (H.kk (by decide) (by decide) rfl)).mpr ?_
  refine H.wR (by decide) (fun hr H => ?_)
  refine s216_87.mpr ?_
  refine s216_88.mpr ?_
  refine (s216_91 (by decide) (by decide)).mpr ?_
  refine H.nw (n' := 61) (z' := 35302) rfl rfl rfl (fun al hi hr H => ?_)
  refine (s216_93 (H.kk (by decide) (by decide) rfl)).mpr ?_
  refine H.wR (by decide) (fun hr H => ?_)
  refine s216_96.mpr ?_
  refine s216_97.mpr ?_
  refine (s216_100 (by decide) (by decide)).mpr ?_
  refine H.nw (n' := 62) (z' := 35718) rfl rfl rfl (fun al hi hr H => ?_)
  refine (s216_102 (H.kk (by decide) (by decide) rfl)).mpr ?_
  refine H.wR (by decide) (fun hr H => ?_)
  refine s216_105.mpr ?_
  refine s216_106.mpr ?_
  refine (s216_109 (by decide) (by decide)).mpr ?_
  refine H.nw (n' := 63) (z' := 37382) rfl rfl rfl (fun al hi hr H => ?_)
  refine (s216_111 (H.kk (by decide) (by decide) rfl)).mpr ?_
  refine H.wR (by decide) (fun hr H => ?_)
  refine s216_114.mpr ?_
  refine s216_115.mpr ?_
  refine (s216_118 (by decide) (by decide)).mpr ?_
  refine H.nw (n' := 64) (z' := 39046) rfl rfl rfl (fun al hi hr H => ?_)
  refine (s216_120 (H.kk (by decide) (by decide) rfl)).mpr ?_
  refine H.wR (by decide) (fun hr H => ?_)
  refine s216_123.mpr ?_
  refine s216_124.mpr ?_
  refine (s216_127 (by decide) (by decide)).mpr ?_
  refine H.nw (n' := 65) (z' := 39176) rfl rfl rfl (fun al hi hr H => ?_)
  refine (s216_129 (H.kk (by decide) (by decide) rfl)).mpr ?_
  refine H.wR (by decide) (fun hr H => ?_)
  refine s216_132.mpr ?_
  refine s216_133.mpr ?_
  refine (s216_136 (by decide) (by decide)).mpr ?_
  refine H.nw (n' := 66) (z' := 39696) rfl rfl rfl (fun al hi hr H => ?_)
  refine (s216_138 (H.kk (by decide) (by decide) rfl)).mpr ?_
  refine H.wR (by decide) (fun hr H => ?_)
  refine s216_141.mpr ?_
  refine s216_142.mpr ?_
  refine (s216_145 (by decide) (by decide)).mpr ?_
  refine H.nw (n' := 67) (z' := 39826) rfl rfl rfl (fun al hi hr H => ?_)
  refine (s216_147 (H.kk (by decide) (by decide) rfl)).mpr ?_
  refine H.wR (by decide) (fun hr H => ?_)
  refine s216_150.mpr ?_
  refine s216_151.mpr ?_
  refine (s216_154 (by decide) (by decide)).mpr ?_
  refine H.nw (n' := 68) (z' := 39956) rfl rfl rfl (fun al hi hr H => ?_)
  refine (s216_156 (H.kk (by decide) (by decide) rfl)).mpr ?_
  refine H.wR (by decide) (fun hr H => ?_)
  refine s216_159.mpr ?_
  refine s216_160.mpr ?_
  refine (s216_163 (by decide) (by decide)).mpr ?_
  refine H.nw (n' := 69) (z' := 40086) rfl rfl rfl (fun al hi hr H => ?_)
  refine (s216_165 (H.kk (by decide) (by decide) rfl)).mpr ?_
  refine H.wR (by decide) (fun hr H => ?_)
  refine s216_168.mpr ?_
  refine s216_169.mpr ?_
  refine (s216_172 (by decide) (by decide)).mpr ?_
  refine H.nw (n' := 70) (z' := 40216) rfl rfl rfl (fun al hi hr H => ?_)
  refine (s216_174 (H.kk (by decide) (by decide) rfl)).mpr ?_
  refine H.wR (by decide) (fun hr H => ?_)
  refine s216_177.mpr ?_
  refine s216_178.mpr ?_
  refine (s216_179 (H.kk (by decide) (by decide) rfl)).mpr ?_
  refine H.wV (by decide) (fun hi H => ?_)
  refine s216_182.mpr ?_
  refine s216_183.mpr ?_
  refine H.nw (n' := 71) (z' := 40222) rfl rfl rfl (fun al hi hr H => ?_)
  refine (s216_190 (H.kk (by decide) (by decide) rfl)).mpr ?_
  refine H.wR (by decide) (fun hr H => ?_)
  refine s216_193.mpr ?_
  refine s216_194.mpr ?_
  refine (s216_197 (by decide) (by decide)).mpr ?_
  refine H.nw (n' := 72) (z' := 40462) rfl rfl rfl (fun al hi hr H => ?_)
  refine (s216_199 (H.kk (by decide) (by decide) rfl)).mpr ?_
  refine H.wR (by decide) (fun hr H => ?_)
  refine s216_202.mpr ?_
  refine s216_203.mpr ?_
  refine (s216_206 (by decide) (by decide)).mpr ?_
  refine H.nw (n' := 73) (z' := 40702) rfl rfl rfl (fun al hi hr H => ?_)
  refine (s216_208 (H.kk (by decide) (by decide) rfl)).mpr ?_
  refine H.wR (by decide) (fun hr H => ?_)
  refine s216_211.mpr ?_
  refine s216_212.mpr ?_
  refine (s216_215 (by decide) (by decide)).mpr ?_
  refine H.nw (n' := 74) (z' := 44782) rfl rfl rfl (fun al hi hr H => ?_)
  refine (s216_217 (H.kk (by decide) (by decide) rfl)).mpr ?_
  refine H.wR (by decide) (fun hr H => ?_)
  refine s216_220.mpr ?_
  refine s216_221.mpr ?_
  refine (s216_224 (by decide) (by decide)).mpr ?_
  refine H.nw (n' := 75) (z' := 47182) rfl rfl rfl (fun al hi hr H => ?_)
  refine (s216_226 (H.kk (by decide) (by decide) rfl)).mpr ?_
  refine H.wR (by decide) (fun hr H => ?_)
  refine s216_229.mpr ?_
  refine s216_230.mpr ?_
  refine (s216_232 (by decide) (by decide)).mpr ?_
  refine H.nw (n' := 76) (z' := 47206) rfl rfl rfl (fun al hi hr H => ?_)
  refine (s216_234 (H.kk (by decide) (by decide) rfl)).mpr ?_
  refine H.wR (by decide) (fun hr H => ?_)
  refine s216_237.mpr ?_
  refine s216_238.mpr ?_
  refine (s216_240 (by decide) (by decide)).mpr ?_
  refine H.nw (n' := 77) (z' := 47216) rfl rfl rfl (fun al hi hr H => ?_)
  refine (s216_242 (H.kk (by decide) (by decide) rfl)).mpr ?_
  refine H.wR (by decide) (fun hr H => ?_)
  refine s216_245.mpr ?_
  refine s216_246.mpr ?_
  refine (s216_248 (by decide) (by decide)).mpr ?_
  refine H.nw (n' := 78) (z' := 47222) rfl rfl rfl (fun al hi hr H => ?_)
  refine (s216_250 (H.kk (by decide) (by decide) rfl)).mpr ?_
  refine H.wR (by decide) (fun hr H => ?_)
  refine s216_253.mpr ?_
  refine s216_254.mpr ?_
  refine (s216_256 (by decide) (by decide)).mpr ?_
  refine H.nw (n' := 79) (z' := 47228) rfl rfl rfl (fun al hi hr H => ?_)
  refine (s216_258 (H.kk (by decide) (by decide) rfl)).mpr ?_
  refine H.wR (by decide) (fun hr H => ?_)
  refine s216_261.mpr ?_
  refine s216_262.mpr ?_
  refine (s216_264 (by decide) (by decide)).mpr ?_
  refine H.nw (n' := 80) (z' := 47234) rfl rfl rfl (fun al hi hr H => ?_)
  refine (s216_266 (H.kk (by decide) (by decide) rfl)).mpr ?_
  refine H.wR (by decide) (fun hr H => ?_)
  refine s216_269.mpr ?_
  refine s216_270.mpr ?_
  refine (s216_272 (by decide) (by decide)).mpr ?_
  refine H.nw (n' := 81) (z' := 47258) rfl rfl rfl (fun al hi hr H => ?_)
  refine (s216_274 (H.kk (by decide) (by decide) rfl)).mpr ?_
  refine H.wR (by decide) (fun hr H => ?_)
  refine s216_277.mpr ?_
  refine s216_278.mpr ?_
  refine (s216_280 (by decide) (by decide)).mpr ?_
  refine H.nw (n' := 82) (z' := 47266) rfl rfl rfl (fun al hi hr H => ?_)
  refine (s216_282 (H.kk (by decide) (by decide) rfl)).mpr ?_
  refine H.wR (by decide) (fun hr H => ?_)
  refine s216_285.mpr ?_
  refine s216_286.mpr ?_
  refine (s216_288 (by decide) (by decide)).mpr ?_
  refine H.nw (n' := 83) (z' := 47282) rfl rfl rfl (fun al hi hr H => ?_)
  refine (s216_290 (H.kk (by decide) (by decide) rfl)).mpr ?_
  refine H.wR (by decide) (fun hr H => ?_)
  refine s216_293.mpr ?_
  refine s216_294.mpr ?_
  refine (s216_296 (by decide) (by decide)).mpr ?_
  refine H.nw (n' := 84) (z' := 47298) rfl rfl rfl (fun al hi hr H => ?_)
  refine (s216_298 (H.kk (by decide) (by decide) rfl)).mpr ?_
  refine H.wR (by decide) (fun hr H => ?_)
  refine s216_301.mpr ?_
  refine s216_302.mpr ?_
  refine (s216_304 (by decide) (by decide)).mpr ?_
  refine H.nw (n' := 85) (z' := 47314) rfl rfl rfl (fun al hi hr H => ?_)
  refine (s216_306 (H.kk (by decide) (by decide) rfl)).mpr ?_
  refine H.wR (by decide) (fun hr H => ?_)
  refine s216_309.mpr ?_
  refine s216_310.mpr ?_
  refine (s216_312 (by decide) (by decide)).mpr ?_
  refine H.nw (n' := 86) (z' := 47322) rfl rfl rfl (fun al hi hr H => ?_)
  refine (s216_314 (H.kk (by decide) (by decide) rfl)).mpr ?_
  refine H.wR (by decide) (fun hr H => ?_)
  refine s216_317.mpr ?_
  refine s216_318.mpr ?_
  refine (s216_321 (by decide) (by decide)).mpr ?_
  refine H.nw (n' := 87) (z' := 49626) rfl rfl rfl (fun al hi hr H => ?_)
  refine (s216_323 (H.kk (by decide) (by decide) rfl)).mpr ?_
  refine H.wR (by decide) (fun hr H => ?_)
  refine s216_326.mpr ?_
  refine s216_327.mpr ?_
  refine (s216_330 (by decide) (by decide)).mpr ?_
  refine H.nw (n' := 88) (z' := 50126) rfl rfl rfl (fun al hi hr H => ?_)
  refine (s216_332 (H.kk (by decide) (by decide) rfl)).mpr ?_
  refine H.wR (by decide) (fun hr H => ?_)
  refine s216_335.mpr ?_
  refine s216_336.mpr ?_
  refine (s216_339 (by decide) (by decide)).mpr ?_
  refine H.nw (n' := 89) (z' := 50626) rfl rfl rfl (fun al hi hr H => ?_)
  refine (s216_341 (H.kk (by decide) (by decide) rfl)).mpr ?_
  refine H.wR (by decide) (fun hr H => ?_)
  refine s216_344.mpr ?_
  refine s216_345.mpr ?_
  refine (s216_347 (by decide) (by decide)).mpr ?_
  refine H.nw (n' := 90) (z' := 50638) rfl rfl rfl (fun al hi hr H => ?_)
  refine (s216_349 (H.kk (by decide) (by decide) rfl)).mpr ?_
  refine H.wR (by decide) (fun hr H => ?_)
  refine s216_352.mpr ?_
  refine s216_353.mpr ?_
  refine (s216_355 (by decide) (by decide)).mpr ?_
  refine H.nw (n' := 91) (z' := 50650) rfl rfl rfl (fun al hi hr H => ?_)
  refine (s216_357 (H.kk (by decide) (by decide) rfl)).mpr ?_
  refine H.wR (by decide) (fun hr H => ?_)
  refine s216_360.mpr ?_
  refine s216_361.mpr ?_
  refine (s216_363 (by decide) (by decide)).mpr ?_
  refine H.nw (n' := 92) (z' := 50662) rfl rfl rfl (fun al hi hr H => ?_)
  refine (s216_365 (H.kk (by decide) (by decide) rfl)).mpr ?_
  refine H.wR (by decide) (fun hr H => ?_)
  refine s216_368.mpr ?_
  refine s216_369.mpr ?_
  refine (s216_371 (by decide) (by decide)).mpr ?_
  refine H.nw (n' := 93) (z' := 50674) rfl rfl rfl (fun al hi hr H => ?_)
  refine (s216_373 (H.kk (by decide) (by decide) rfl)).mpr ?_
  refine H.wR (by decide) (fun hr H => ?_)
  refine s216_376.mpr ?_
  refine s216_377.mpr ?_
  refine (s216_379 (by decide) (by decide)).mpr ?_
  refine H.nw (n' := 94) (z' := 50686) rfl rfl rfl (fun al hi hr H => ?_)
  refine (s216_381 (H.kk (by decide) (by decide) rfl)).mpr ?_
  refine H.wR (by decide) (fun hr H => ?_)
  refine s216_384.mpr ?_
  refine s216_385.mpr ?_
  refine (s216_387 (by decide) (by decide)).mpr ?_
  refine H.nw (n' := 95) (z' := 50698) rfl rfl rfl (fun al hi hr H => ?_)
  refine (s216_389 (H.kk (by decide) (by decide) rfl)).mpr ?_
  refine H.wR (by decide) (fun hr H => ?_)
  refine s216_392.mpr ?_
  refine s216_393.mpr ?_
  refine (s216_396 (by decide) (by decide)).mpr ?_
  refine H.nw (n' := 96) (z' := 50890) rfl rfl rfl (fun al hi hr H => ?_)
  refine (s216_398 (H.kk (by decide) (by decide) rfl)).mpr ?_
  refine H.wR (by decide) (fun hr H => ?_)
  refine s216_401.mpr ?_
  refine s216_402.mpr ?_
  refine (s216_405 (by decide) (by decide)).mpr ?_
  refine H.nw (n' := 97) (z' := 51082) rfl rfl rfl (fun al hi hr H => ?_)
  refine (s216_407 (H.kk (by decide) (by decide) rfl)).mpr ?_
  refine H.wR (by decide) (fun hr H => ?_)
  refine s216_410.mpr ?_
  refine s216_411.mpr ?_
  refine (s216_414 (by decide) (by decide)).mpr ?_
  refine H.nw (n' := 98) (z' := 51274) rfl rfl rfl (fun al hi hr H => ?_)
  refine (s216_416 (H.kk (by decide) (by decide) rfl)).mpr ?_
  refine H.wR (by decide) (fun hr H => ?_)
  refine s216_419.mpr ?_
  refine s216_420.mpr ?_
  refine (s216_423 (by decide) (by decide)).mpr ?_
  refine H.nw (n' := 99) (z' := 56266) rfl rfl rfl (fun al hi hr H => ?_)
  refine (s216_425 (H.kk (by decide) (by decide) rfl)).mpr ?_
  refine H.wR (by decide) (fun hr H => ?_)
  refine s216_428.mpr ?_
  refine s216_429.mpr ?_
  refine (s216_432 (by decide) (by decide)).mpr ?_
  refine H.nw (n' := 100) (z' := 61258) rfl rfl rfl (fun al hi hr H => ?_)
  refine (s216_434 (H.kk (by decide) (by decide) rfl)).mpr ?_
  refine H.wR (by decide) (fun hr H => ?_)
  refine s216_437.mpr ?_
  refine s216_438.mpr ?_
  refine (s216_441 (by decide) (by decide)).mpr ?_
  refine H.nw (n' := 101) (z' := 73558) rfl rfl rfl (fun al hi hr H => ?_)
  refine (s216_443 (H.kk (by decide) (by decide) rfl)).mpr ?_
  refine H.wR (by decide) (fun hr H => ?_)
  refine s216_446.mpr ?_
  refine s216_447.mpr ?_
  refine (s216_450 (by decide) (by decide)).mpr ?_
  refine H.nw (n' := 102) (z' := 85858) rfl rfl rfl (fun al hi hr H => ?_)
  refine (s216_452 (H.kk (by decide) (by decide) rfl)).mpr ?_
  refine H.wR (by decide) (fun hr H => ?_)
  refine s216_455.mpr ?_
  refine s216_456.mpr ?_
  refine (s216_459 (by decide) (by decide)).mpr ?_
  refine H.nw (n' := 103) (z' := 86883) rfl rfl rfl (fun al hi hr H => ?_)
  refine (s216_461 (H.kk (by decide) (by decide) rfl)).mpr ?_
  refine H.wR (by decide) (fun hr H => ?_)
  refine s216_464.mpr ?_
  refine s216_465.mpr ?_
  refine (s216_468 (by decide) (by decide)).mpr ?_
  refine H.nw (n' := 104) (z' := 99171) rfl rfl rfl (fun al hi hr H => ?_)
  refine (s216_470 (H.kk (by decide) (by decide) rfl)).mpr ?_
  refine H.wR (by decide) (fun hr H => ?_)
  refine s216_473.mpr ?_
  refine s216_474.mpr ?_
  refine (s216_477 (by decide) (by decide)).mpr ?_
  refine H.nw (n' := 105) (z' := 111459) rfl rfl rfl (fun al hi hr H => ?_)
  refine (s216_479 (H.kk (by decide) (by decide) rfl)).mpr ?_
  refine H.wR (by decide) (fun hr H => ?_)
  refine s216_482.mpr ?_
  refine s216_483.mpr ?_
  refine (s216_486 (by decide) (by decide)).mpr ?_
  refine H.nw (n' := 106) (z' := 112483) rfl rfl rfl (fun al hi hr H => ?_)
  refine (s216_488 (H.kk (by decide) (by decide) rfl)).mpr ?_
  refine H.wR (by decide) (fun hr H => ?_)
  refine s216_491.mpr ?_
  refine s216_492.mpr ?_
  refine (s216_495 (by decide) (by decide)).mpr ?_
  refine H.nw (n' := 107) (z' := 113507) rfl rfl rfl (fun al hi hr H => ?_)
  refine (s216_497 (H.kk (by decide) (by decide) rfl)).mpr ?_
  refine H.wR (by decide) (fun hr H => ?_)
  refine s216_500.mpr ?_
  refine s216_501.mpr ?_
  refine (s216_504 (by decide) (by decide)).mpr ?_
  refine H.nw (n' := 108) (z' := 114532) rfl rfl rfl (fun al hi hr H => ?_)
  refine (s216_506 (H.kk (by decide) (by decide) rfl)).mpr ?_
  refine H.wR (by decide) (fun hr H => ?_)
  refine s216_509.mpr ?_
  refine s216_510.mpr ?_
  refine (s216_512 (by decide) (by decide)).mpr ?_
  refine H.nw (n' := 109) (z' := 114544) rfl rfl rfl (fun al hi hr H => ?_)
  refine (s216_514 (H.kk (by decide) (by decide) rfl)).mpr ?_
  refine H.wR (by decide) (fun hr H => ?_)
  refine s216_517.mpr ?_
  refine s216_518.mpr ?_
  refine (s216_521 (by decide) (by decide)).mpr ?_
  refine H.nw (n' := 110) (z' := 114672) rfl rfl rfl (fun al hi hr H => ?_)
  refine (s216_523 (H.kk (by decide) (by decide) rfl)).mpr ?_
  refine H.wR (by decide) (fun hr H => ?_)
  refine s216_526.mpr ?_
  refine s216_527.mpr ?_
  refine (s216_530 (by decide) (by decide)).mpr ?_
  refine H.nw (n' := 111) (z' := 114800) rfl rfl rfl (fun al hi hr H => ?_)
  refine (s216_532 (H.kk (by decide) (by decide) rfl)).mpr ?_
  refine H.wR (by decide) (fun hr H => ?_)
  refine s216_535.mpr ?_
  refine s216_536.mpr ?_
  refine (s216_539 (by decide) (by decide)).mpr ?_
  refine H.nw (n' := 112) (z' := 115568) rfl rfl rfl (fun al hi hr H => ?_)
  refine (s216_541 (H.kk (by decide) (by decide) rfl)).mpr ?_
  refine H.wR (by decide) (fun hr H => ?_)
  refine s216_544.mpr ?_
  refine s216_545.mpr ?_
  refine (s216_547 (by decide) (by decide)).mpr ?_
  refine H.nw (n' := 113) (z' := 115592) rfl rfl rfl (fun al hi hr H => ?_)
  refine (s216_549 (H.kk (by decide) (by decide) rfl)).mpr ?_
  refine H.wR (by decide) (fun hr H => ?_)
  refine s216_552.mpr ?_
  refine s216_553.mpr ?_
  refine (s216_555 (by decide) (by decide)).mpr ?_
  refine H.nw (n' := 114) (z' := 115616) rfl rfl rfl (fun al hi hr H => ?_)
  refine (s216_557 (H.kk (by decide) (by decide) rfl)).mpr ?_
  refine H.wR (by decide) (fun hr H => ?_)
  refine s216_560.mpr ?_
  refine s216_561.mpr ?_
  refine (s216_563 (by decide) (by decide)).mpr ?_
  refine H.nw (n' := 115) (z' := 115640) rfl rfl rfl (fun al hi hr H => ?_)
  refine (s216_565 (H.kk (by decide) (by decide) rfl)).mpr ?_
  refine H.wR (by decide) (fun hr H => ?_)
  refine s216_568.mpr ?_
  refine s216_569.mpr ?_
  refine (s216_571 (by decide) (by decide)).mpr ?_
  refine H.nw (n' := 116) (z' := 115736) rfl rfl rfl (fun al hi hr H => ?_)
  refine (s216_573 (H.kk (by decide) (by decide) rfl)).mpr ?_
  refine H.wR (by decide) (fun hr H => ?_)
  refine s216_576.mpr ?_
  refine s216_577.mpr ?_
  refine (s216_579 (by decide) (by decide)).mpr ?_
  refine H.nw (n' := 117) (z' := 115832) rfl rfl rfl (fun al hi hr H => ?_)
  refine (s216_581 (H.kk (by decide) (by decide) rfl)).mpr ?_
  refine H.wR (by decide) (fun hr H => ?_)
  refine s216_584.mpr ?_
  refine s216_585.mpr ?_
  refine (s216_587 (by decide) (by decide)).mpr ?_
  refine H.nw (n' := 118) (z' := 115928) rfl rfl rfl (fun al hi hr H => ?_)
  refine (s216_589 (H.kk (by decide) (by decide) rfl)).mpr ?_
  refine H.wR (by decide) (fun hr H => ?_)
  refine s216_592.mpr ?_
  refine s216_593.mpr ?_
  refine (s216_595 (by decide) (by decide)).mpr ?_
  refine H.nw (n' := 119) (z' := 115952) rfl rfl rfl (fun al hi hr H => ?_)
  refine (s216_597 (H.kk (by decide) (by decide) rfl)).mpr ?_
  refine H.wR (by decide) (fun hr H => ?_)
  refine s216_600.mpr ?_
  simp only [kon, knt_some, knt_none, Option.toList_some, Option.toList_none, List.cons_append, List.nil_append]
  refine s328_15.mpr ?_
  exact q _ al hi hr H (by decide)
end LI0
