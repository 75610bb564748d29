/-! FACES: boot and run; the reference -/
section FD0
variable {d : Nat} {T : TXs} {al al' : AL} {hi hi' h h' : HI} {hr hr' : HR} {Q : QQ} {s s' sO : HI} {p q m f v w i c e n : Int} {B b : Int → Int} {S : Int → Option (Int → Int)} {G : HI}
def pgF (f : Nat → Nat) (x : Nat) (i : Nat) : Nat := if f i < x then f i else f i - 1
theorem pgF_b {f : Nat → Nat} {x i : Nat} : (f i < x ∧ pgF f x i = f i) ∨ (x ≤ f i ∧ pgF f x i = f i - 1) := by
  unfold pgF
  by_cases c : f i < x
  · exact Or.inl ⟨c, if_pos c⟩
  · exact Or.inr ⟨by omega, if_neg c⟩
theorem pig : ∀ (n : Nat) (f : Nat → Nat), (∀ i, i ≤ n → f i < n) → (∀ i j, i < j → j ≤ n → f i ≠ f j) → False := by
  intro n
  induction n with
  | zero => exact fun f h _ => absurd (h 0 (Nat.le_refl 0)) (Nat.not_lt_zero _)
  | succ n ih =>
    intro f h inj
    have h2 := h (n + 1) (by omega)
    refine ih (pgF f (f (n + 1))) (fun i hi => ?_) (fun i j hij hj => ?_)
    · have h1 := h i (by omega)
      have h3 := inj i (n + 1) (by omega) (Nat.le_refl _)
      have h4 := pgF_b (f := f) (x := f (n + 1)) (i := i)
      omega
    · have h1 := inj i (n + 1) (by omega) (Nat.le_refl _)
      have h2 := inj j (n + 1) (by omega) (Nat.le_refl _)
      have h3 := inj i j hij (by omega)
      have h4 := pgF_b (f := f) (x := f (n + 1)) (i := i)
      have h5 := pgF_b (f := f) (x := f (n + 1)) (i := j)
      omega
theorem GI.g8 {H P K : Int} (hG : GI S G H P K) : G 200 0 ≤ 8 := by
  obtain ⟨-, -, -, ⟨h4, h5, h6, h7⟩, h8⟩ := hG
  apply Classical.byContradiction
  intro z
  refine pig 8 (fun i => (G 85 i).toNat) (fun i hi => ?_) (fun i j hij hj => ?_)
  · have := (h5 i (by omega) (by omega)).1
    show (G 85 i).toNat < 8
    omega
  · have h1 := (h5 i (by omega) (by omega)).1
    have h2 := (h5 j (by omega) (by omega)).1
    have h3 := h7 i j (by omega) (by omega) (by omega)
    show (G 85 i).toNat ≠ (G 85 j).toNat
    intro y
    have e : G 85 (i : Int) = G 85 (j : Int) := by omega
    rw [e] at h3
    omega
theorem man_GF {q : Int} (hSh : ∀ m b, S m = some b → Sh b) (hm : manP S B n = .ok (q, G)) (hV : GV S G) : (1 ≤ B 2 ∧ B 2 ≤ 6) ∧ GF S G (B 2) := by
  obtain ⟨h1, h2, h3⟩ := man_GI hSh hm
  exact ⟨h1, ⟨h2, h3⟩, hSh, hV, h2.g8⟩
theorem MSh.sl (hSh : MSh hi S) (w : FW (fun a i => ∃ m', (6 ≤ m' ∧ m' < 13) ∧ wSl m' a i ∨ ¬ (51 ≤ a ∧ a ≤ 69)) hi hi') : MSh hi' S := fun m => by
  have hh := hSh m
  have d56 : hi' 56 m = hi 56 m := w 56 m (by
    rintro ⟨m', ⟨-, z⟩ | z⟩
    · have := wSl_c z; omega
    · exact z (by decide))
  have e : isM hi' m ↔ isM hi m := by unfold isM; rw [d56]
  cases hS : S m with
  | none => rw [hS] at hh; exact fun z => hh (e.mp z)
  | some b =>
    rw [hS] at hh
    obtain ⟨i1, hM, hs, hN, hC⟩ := hh
    have mb : 0 ≤ m ∧ m < 6 := by unfold isM at i1; omega
    refine ⟨e.mpr i1, ?_, hs, hN, hC⟩
    refine hM.mv hs ⟨mb.1, by omega⟩ (sEq_of w hM.2.2.1 (fun a i z => ?_))
    rintro ⟨m', ⟨y1, y2⟩ | y⟩
    · exact wSl_dj z (by omega) y2
    · have := wSl_c z; omega
def wBo (a : Nat) (i : Int) : Prop := wTk a i ∨ wMa a i ∨ (a = 49 ∧ (i = 0 ∨ i = 27))
def wBo2 (a : Nat) (i : Int) : Prop := wBo a i ∨ wBg a i
set_option maxRecDepth 8000 in
theorem r_boot (hA : SA al) (hR : MR hr) (hd : 44 ≤ d) (hE : RelR hi sO) (ht : 0 ≤ hi 49 2 ∧ hi 49 2 ≤ 2000) (hSh : MSh hi S) (hsh : ∀ m, 0 ≤ m → m < 6 → hi 56 m = 0 ∨ hi 56 m = 1) (h52 : ∀ m b, S m = some b → 0 ≤ hi 52 m)
    (r2 : ¬ (0 ≤ n ∧ n ≤ hi 49 2) → Q (some (some (vI (-2)))) al (upI hi 49 0 0) hr)
    (er : 0 ≤ n → n ≤ hi 49 2 → ∀ w q hi', manP S (tB hi n) n = .error (w, q) → FW wBo hi hi' → hi' 49 22 = w → hi' 49 23 = q → hi' 49 24 = 1 → hi' 49 2 = 0 → Q (some (some (vI (-1)))) al hi' hr)
    (ok : 0 ≤ n → n ≤ hi 49 2 → ∀ q G hi' s1 s', manP S (tB hi n) n = .ok (q, G) → GV S G → GF S G (tB hi n 2) → (1 ≤ tB hi n 2 ∧ tB hi n 2 ≤ 6) → RelR hi' s' → BP S G (tB hi n 2) (tB hi n 2) (4 * tB hi n 2) (G 200 0) s1 s' → (∀ a i, ¬ (51 ≤ a ∧ a ≤ 69) → s1 a i = sO a i) → (∀ a i, 51 ≤ a → a ≤ 69 → s1 a i = hi' a i) → (∀ m b, S m = some b → (0 ≤ m ∧ m < 6) ∧ MB hi' (6 + m) b) → FW wBo2 hi hi' → hi' 49 22 = 0 → hi' 49 23 = -1 → hi' 49 24 = 1 → hi' 49 2 = 0 → Q (some (some (vI (tB hi n 2)))) al hi' hr) : Ev d 278 [vR (some 49), vI n] al hi hr Q := by
  have kM : isK al 49 13 := hA.k (by decide) (by decide) rfl
  rw [e278]
  by_cases hn : 0 ≤ n ∧ n ≤ hi 49 2
  case neg =>
    have e2 : upI hi 49 0 0 49 2 = hi 49 2 := upI_i (by decide)
    have E0 := r2 hn
    refine s278_0.mpr (s278_1.mpr ?_)
    refine (s278_2 kM).mpr ?_
    refine s278_5.mpr ?_
    try simp (disch := first | decide | assumption | omega) only [e2]
    refine s278_6.mpr (wif (fun c6 => ?_) (fun c6 => ?_))
    · first
      | (exfalso; omega)
      | skip
        refine s278_17.mpr ?_
        refine (s278_19).mpr ?_
        exact E0
    · first
      | (exfalso; omega)
      | skip
        refine s278_9.mpr (s278_10.mpr ?_)
        refine (s278_11 kM).mpr ?_
        try simp (disch := first | decide | assumption | omega) only [e2]
        refine s278_14.mpr (wif (fun c14 => ?_) (fun c14 => ?_))
        · first
          | (exfalso; omega)
          | skip
            refine s278_17.mpr ?_
            refine (s278_19).mpr ?_
            exact E0
        · first
          | (exfalso; omega)
          | skip
            exfalso; omega
  obtain ⟨n0, n1⟩ := hn
  have er := er n0 n1
  have ok := ok n0 n1
  have etB : tB (upI hi 49 0 0) n = tB hi n := tB_eq (by funext k; exact upI_a (by decide))
  generalize hBd : tB hi n = B at *
  have hSd : ∀ m b, S m = some b → Sh b := fun m b e => (hSh.y e).2.2.1
  -- begin
  have T41 : ∀ q G h l2, manP S B n = .ok (q, G) → FW wBo hi h → h 49 48 = B 2 → GR S h G → GV S G → MnP S h G (B 2) → h 49 22 = 0 → h 49 23 = -1 → h 49 24 = 1 → h 49 2 = 0 → Wp d 278 41 [vR (some 49), vI n, l2] [] al h hr Q := by
    intro q G h l2 hm w e48 gr gv mn e22 e23 e24 e2
    obtain ⟨b6, gf⟩ := man_GF hSd hm gv
    have hE1 : RelR h (bs1 h sO) := hE.bs (fun a i z => w a i (by unfold wBo wTk wMa; omega))
    have w56 : ∀ m, h 56 m = hi 56 m := fun m => w 56 m (by unfold wBo wTk wMa; omega)
    have hSh1 : MSh h S := hSh.sl (fun a i z => w a i (fun y => z (by
      rcases y with y | y | y
      · rcases y with y | y | y
        · exact ⟨12, Or.inl ⟨by decide, Or.inl (by omega)⟩⟩
        · exact ⟨12, Or.inl ⟨by decide, Or.inr (Or.inl (by omega))⟩⟩
        · exact ⟨12, Or.inr (by omega)⟩
      · exact ⟨12, Or.inr (by unfold wMa at y; omega)⟩
      · exact ⟨12, Or.inr (by omega)⟩)))
    have h52' : ∀ m b, S m = some b → 0 ≤ h 52 m := fun m b e => by
      have := (hSh.y e).1
      unfold isM at this
      rw [w 52 m (by unfold wBo wTk wMa; omega)]; exact h52 m b e
    have RB : Ev (d - 1) 279 [vR (some 49)] al h hr (kon d 278 42 45 [vR (some 49), vI n, l2] [] Q) := by
      refine r_begin hA hR (by omega) hE1 hSh1 (fun m m0 m1 => by rw [w56]; exact hsh m m0 m1) h52' gf b6 mn gr e48 (fun h' s1 s' y1 y2 y3 y4 y5 y6 => ?_)
      have n49 : ∀ i, (i = 48 ∨ i = 22 ∨ i = 23 ∨ i = 24 ∨ i = 2) → h' 49 i = h 49 i := fun i z => y6 49 i (by
        unfold wBg w49
        rintro (⟨m', -, u⟩ | u | u)
        · have := wSl_c u; omega
        · omega
        · omega)
      have E0 := ok q G h' s1 s' hm gv gf b6 y1 y2 (fun a i z => (y3 a i z).trans (bs1_n z)) y4 y5 ((w.mn (fun a i z => Or.inl z)).tr (y6.mn (fun a i z => Or.inr z))) ((n49 22 (by omega)).trans e22) ((n49 23 (by omega)).trans e23) ((n49 24 (by omega)).trans e24) ((n49 2 (by omega)).trans e2)
      have e48' := (n49 48 (by omega)).trans e48
      simp only [kon, knt_some, knt_none, Option.toList_some, Option.toList_none, List.cons_append, List.nil_append]
      refine s278_45.mpr ?_
      refine (s278_46 kM).mpr ?_
      try simp (disch := first | decide | assumption | omega) only [e48']
      refine (s278_49).mpr ?_
      exact E0
    refine s278_41.mpr ?_
    refine (s278_42 (by omega) kM).mpr ?_
    exact RB
  have T32 : ∀ h, FW wBo hi h → bAt h 12 = B → h 52 12 = n → h 49 27 = 12 → h 49 26 = 0 → h 49 22 = 0 → h 49 23 = -1 → h 49 24 = 1 → h 49 2 = 0 → Wp d 278 31 [vR (some 49), vI n, none] [] al h hr Q := by
    intro h w eB e52 e27 e26 e22 e23 e24 e2
    have w56 : ∀ m, h 56 m = hi 56 m := fun m => w 56 m (by unfold wBo wTk wMa; omega)
    have hSh1 : MSh h S := hSh.sl (fun a i z => w a i (fun y => z (by
      rcases y with y | y | y
      · rcases y with y | y | y
        · exact ⟨12, Or.inl ⟨by decide, Or.inl (by omega)⟩⟩
        · exact ⟨12, Or.inl ⟨by decide, Or.inr (Or.inl (by omega))⟩⟩
        · exact ⟨12, Or.inr (by omega)⟩
      · exact ⟨12, Or.inr (by unfold wMa at y; omega)⟩
      · exact ⟨12, Or.inr (by omega)⟩)))
    have MA : Ev (d - 1) 273 [vR (some 49)] al h hr (kon d 278 32 35 [vR (some 49), vI n, none] [] Q) := by
      refine m_manifest (S := S) (B := B) (n := n) hA hR (by omega) ⟨e27, by omega, by omega, by omega⟩ eB e26 e52 hSh1 (fun m m0 m1 => by rw [w56]; exact hsh m m0 m1) (fun _ _ _ => trivial) (fun q G h' y1 y2 y3 y4 y5 y6 _ y7 y8 => ?_) (fun w9 q h' y1 y2 y3 y4 => ?_)
      · have n49 : ∀ i, (i = 24 ∨ i = 2) → h' 49 i = h 49 i := fun i z => y2 49 i (by unfold wMa; omega)
        have Z := T41 q G h' none y1 (w.tr (y2.mn (fun a i z => Or.inr (Or.inl z)))) y3 y4 y5 y6 (y7.trans e22) (y8.trans e23) ((n49 24 (by omega)).trans e24) ((n49 2 (by omega)).trans e2)
        simp only [kon, knt_some, knt_none, Option.toList_some, Option.toList_none, List.cons_append, List.nil_append]
        refine s278_35.mpr ?_
        exact Z
      · have n49 : ∀ i, (i = 24 ∨ i = 2) → h' 49 i = h 49 i := fun i z => y2 49 i (by unfold wMa; omega)
        have E0 := er w9 q h' y1 (w.tr (y2.mn (fun a i z => Or.inr (Or.inl z)))) y3 y4 ((n49 24 (by omega)).trans e24) ((n49 2 (by omega)).trans e2)
        have Z : Wp d 278 39 [vR (some 49), vI n, none] [] al h' hr Q := by
          refine s278_39.mpr ?_
          refine (s278_40).mpr ?_
          exact E0
        simp only [kon, knt_some, knt_none, Option.toList_some, Option.toList_none, List.cons_append, List.nil_append]
        unfold thn hdl
        rw [if_neg (by decide), if_pos rfl, if_pos ⟨by decide, by decide⟩]
        exact Z
    refine s278_31.mpr ?_
    refine (s278_32 (by omega) kM).mpr ?_
    exact MA
  have e2 : upI hi 49 0 0 49 2 = hi 49 2 := upI_i (by decide)
  refine s278_0.mpr (s278_1.mpr ?_)
  refine (s278_2 kM).mpr ?_
  refine s278_5.mpr ?_
  try simp (disch := first | decide | assumption | omega) only [e2]
  refine s278_6.mpr (wif (fun c6 => ?_) (fun c6 => ?_))
  · first
    | (exfalso; omega)
    | skip
      exfalso; omega
  · first
    | (exfalso; omega)
    | skip
      refine s278_9.mpr (s278_10.mpr ?_)
      refine (s278_11 kM).mpr ?_
      try simp (disch := first | decide | assumption | omega) only [e2]
      refine s278_14.mpr (wif (fun c14 => ?_) (fun c14 => ?_))
      · first
        | (exfalso; omega)
        | skip
          exfalso; omega
      · first
        | (exfalso; omega)
        | skip
          refine s278_20.mpr (s278_21.mpr ?_)
          refine (s278_22 (by omega) kM).mpr ?_
          refine m_take hA hR n0 (by omega) (fun h x1 x2 x3 x4 x5 x6 x7 x8 => ?_)
          simp only [kon, knt_some, knt_none, Option.toList_some, Option.toList_none, List.cons_append, List.nil_append]
          refine s278_25.mpr (s278_26.mpr ?_)
          refine (s278_28 kM).mpr ?_
          try simp (disch := first | decide | assumption | omega) only [e2]
          refine T32 _ ?_ ?_ ?_ ?_ ?_ ?_ ?_ ?_ ?_
          · exact FW.up ((FW.up FW.rf (Or.inr (Or.inr ⟨rfl, Or.inl rfl⟩))).tr (x1.mn (fun a i q => Or.inl q))) (Or.inr (Or.inr ⟨rfl, Or.inr rfl⟩))
          · rw [bAt_up (by decide) (by decide), x2]; exact etB
          · rw [upI_a (by decide)]; exact x3
          · exact upI_eq
          · rw [upI_i (by decide)]; exact x5
          · rw [upI_i (by decide)]; exact x6
          · rw [upI_i (by decide)]; exact x7
          · rw [upI_i (by decide)]; exact x8
          · rw [upI_i (by decide)]; exact x4
end FD0
