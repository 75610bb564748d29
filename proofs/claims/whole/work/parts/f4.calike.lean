/-! CONTRACTS THAT ARE ALIKE, as the class finds it -/
section CA0
variable {d : Nat} {al : AL} {hi : HI} {hr : HR} {Q : QQ} {B B' : Int → Int} {N N' : Nat} {n n' : Int} {M M' : Nat}
theorem smN_add1 {g g' : Nat → Nat} {w : Nat} : ∀ n, (∀ v, v ≠ w → g' v = g v) → g' w = g w + 1 → smN g' n = smN g n + (if w < n then 1 else 0)
  | 0, _, _ => by rw [if_neg (by omega)]; rfl
  | n + 1, h1, h2 => by
    show smN g' n + g' n = smN g n + g n + _
    rw [smN_add1 n h1 h2]
    by_cases c : n = w
    · subst c; rw [if_neg (by omega), if_pos (by omega), h2]; omega
    · rw [h1 n c]
      by_cases e : w < n
      · rw [if_pos e, if_pos (by omega)]; omega
      · rw [if_neg e, if_neg (by omega)]; omega
noncomputable def indN (f : Nat → Nat) (k v : Nat) : Nat := @ite _ (∃ i, i < k ∧ f i = v) (Classical.propDecidable _) 1 0
theorem ind_cnt {f : Nat → Nat} {n : Nat} : ∀ k, (∀ i, i < k → f i < n) → (∀ i j, i < j → j < k → f i ≠ f j) → smN (indN f k) n = k
  | 0, _, _ => by
    have : ∀ m, smN (indN f 0) m = 0 := fun m => by
      induction m with
      | zero => rfl
      | succ m ih =>
        show smN (indN f 0) m + indN f 0 m = 0
        rw [ih]; unfold indN; rw [if_neg (by rintro ⟨i, h, -⟩; omega)]
    exact this n
  | k + 1, h1, h2 => by
    have ih := ind_cnt k (fun i hi => h1 i (by omega)) (fun i j a b => h2 i j a (by omega))
    have h9 : smN (indN f (k + 1)) n = smN (indN f k) n + (if f k < n then 1 else 0) := by
      refine smN_add1 n (fun v hv => ?_) ?_
      · unfold indN
        by_cases c : ∃ i, i < k ∧ f i = v
        · obtain ⟨i, c1, c2⟩ := c
          rw [if_pos ⟨i, by omega, c2⟩, if_pos ⟨i, c1, c2⟩]
        · rw [if_neg c, if_neg]
          rintro ⟨i, c1, c2⟩
          by_cases e : i = k
          · subst e; exact hv c2.symm
          · exact c ⟨i, by omega, c2⟩
      · unfold indN
        rw [if_pos ⟨k, by omega, rfl⟩, if_neg]
        rintro ⟨i, c1, c2⟩
        exact h2 i k c1 (by omega) c2
    rw [h9, ih, if_pos (h1 k (by omega))]
/-- so many different ones below n: every one below n is there -/
theorem pigeon {f : Nat → Nat} {n : Nat} (h1 : ∀ i, i < n → f i < n) (h2 : ∀ i j, i < j → j < n → f i ≠ f j) (v : Nat) (hv : v < n) : ∃ i, i < n ∧ f i = v := by
  apply Classical.byContradiction
  intro c
  have e := ind_cnt n h1 h2
  have hl := smN_lt (g := indN f n) (g' := fun _ => 1) (j := v) n (fun k _ => by unfold indN; split <;> omega) hv (by unfold indN; rw [if_neg c]; decide)
  have : ∀ m, smN (fun _ => 1) m = m := fun m => by
    induction m with
    | zero => rfl
    | succ m ih => show smN _ m + 1 = m + 1; rw [ih]
  rw [e, this] at hl
  omega
def PL (h : HI) : Prop := (0 ≤ h 14 11 ∧ h 14 11 ≤ 16) ∧ ∀ i, 0 ≤ i → i < h 14 11 → (0 ≤ h 25 i ∧ h 25 i < 16) ∧ ∀ j, 0 ≤ j → j < i → h 25 j ≠ h 25 i
def pmem (h : HI) (v : Int) : Prop := ∃ i, 0 ≤ i ∧ i < h 14 11 ∧ h 25 i = v
def Rm (h : HI) (x y : Int) : Prop := (0 ≤ x ∧ x < 4) ∧ (0 ≤ y ∧ y < 4) ∧ pmem h (4 * x + y)
theorem PL.full {h : HI} (H : PL h) (e : h 14 11 = 16) {v : Int} (v0 : 0 ≤ v) (v1 : v < 16) : pmem h v := by
  obtain ⟨i, i1, i2⟩ := pigeon (f := fun i => (h 25 i).toNat) (n := 16) (fun i hi => by have := (H.2 i (by omega) (by omega)).1; omega) (fun i j a b => by
    have h1 := (H.2 i (by omega) (by omega)).1
    have h2 := H.2 j (by omega) (by omega)
    have := h2.2 i (by omega) (by omega)
    have := h2.1
    show (h 25 i).toNat ≠ (h 25 j).toNat
    omega) v.toNat (by omega)
  have h1 := (H.2 i (by omega) (by omega)).1
  exact ⟨i, by omega, by omega, by have i2 : (h 25 i).toNat = v.toNat := i2; omega⟩
def wPa (a : Nat) (i : Int) : Prop := a = 25 ∨ (a = 14 ∧ i = 11)
/-- what stands, with more pairs -/
def PM (h h' : HI) : Prop := FW wPa h h' ∧ PL h' ∧ h 14 11 ≤ h' 14 11 ∧ ∀ i, 0 ≤ i → i < h 14 11 → h' 25 i = h 25 i
theorem PM.rf {h : HI} (H : PL h) : PM h h := ⟨FW.rf, H, Int.le_refl _, fun _ _ _ => rfl⟩
theorem PM.tr {h h1 h2 : HI} (a : PM h h1) (b : PM h1 h2) : PM h h2 := ⟨a.1.tr b.1, b.2.1, Int.le_trans a.2.2.1 b.2.2.1, fun i i0 i1 => (b.2.2.2 i i0 (Int.lt_of_lt_of_le i1 a.2.2.1)).trans (a.2.2.2 i i0 i1)⟩
theorem PM.mem {h h' : HI} (a : PM h h') {v : Int} (m : pmem h v) : pmem h' v := by
  obtain ⟨i, i0, i1, e⟩ := m
  exact ⟨i, i0, Int.lt_of_lt_of_le i1 a.2.2.1, (a.2.2.2 i i0 i1).trans e⟩
theorem PM.Rm {h h' : HI} (a : PM h h') (x y : Int) (m : Rm h x y) : Rm h' x y := ⟨m.1, m.2.1, a.mem m.2.2⟩
theorem f_addPair {x y : Int} (hA : SA al) (hc : CR hr) (hp : PL hi) (x0 : 0 ≤ x ∧ x < 4) (y0 : 0 ≤ y ∧ y < 4) (q : ∀ hi', PM hi hi' → (∀ v, pmem hi' v ↔ pmem hi v ∨ v = 4 * x + y) → Q (some none) al hi' hr) : Ev d 103 [vR (some 14), vI x, vI y] al hi hr Q := by
  have k14 : isK al 14 7 := hA.k (by decide) (by decide) rfl
  have k25 : isK al 25 15 := hA.k (by decide) (by decide) rfl
  have r25 : isR al 25 = true := hA.r (by decide) (by decide) (by decide)
  have l25 : aln al 25 = 16 := hA.len (by decide) (by decide) rfl
  have e10 := cr_14_10 hc
  obtain ⟨v, hv⟩ : ∃ v, 4 * x + y = v := ⟨_, rfl⟩
  have ev : fAdd (fMul x 4) y = v := by rw [fMul_id (by omega) (by omega), fAdd_id (by omega) (by omega)]; omega
  rw [hv] at q
  obtain ⟨⟨p0, p1⟩, p2⟩ := id hp
  have T9 : ∀ (j : Nat) (i : Int), i + j = hi 14 11 → 0 ≤ i → (∀ i', 0 ≤ i' → i' < i → hi 25 i' ≠ v) → Wp d 103 9 [vR (some 14), vI x, vI y, vI v, vI i] [] al hi hr Q := by
    intro j
    induction j with
    | zero =>
      intro i hij i0 hall
      have hn : ¬ pmem hi v := fun ⟨i', z1, z2, z3⟩ => hall i' z1 (by omega) z3
      have h16 : hi 14 11 < 16 := by
        apply Classical.byContradiction
        intro c
        exact hn (hp.full (by omega) (by omega) (by omega))
      have u11 : (upI hi 25 (hi 14 11) v) 14 11 = hi 14 11 := upI_a (by decide)
      let h' := upI (upI hi 25 (hi 14 11) v) 14 11 (hi 14 11 + 1)
      have e11 : h' 14 11 = hi 14 11 + 1 := upI_eq
      have e25 : ∀ i, h' 25 i = if i = hi 14 11 then v else hi 25 i := fun i => by show upI _ _ _ _ _ _ = _; rw [upI_a (by decide), upI_self]
      have hPM : PM hi h' := by
        refine ⟨(FW.rf.up (Or.inl rfl)).up (Or.inr ⟨rfl, rfl⟩), ⟨⟨by omega, by omega⟩, fun i z0 z1 => ?_⟩, by omega, fun i z0 z1 => by rw [e25, if_neg (by omega)]⟩
        rw [e25]
        by_cases c : i = hi 14 11
        · rw [if_pos c]
          refine ⟨by omega, fun j z2 z3 => ?_⟩
          rw [e25, if_neg (by omega)]
          exact hall j z2 (by omega)
        · rw [if_neg c]
          refine ⟨(p2 i z0 (by omega)).1, fun j z2 z3 => ?_⟩
          rw [e25, if_neg (by omega)]
          exact (p2 i z0 (by omega)).2 j z2 z3
      have E := q h' hPM (fun w => by
        constructor
        · rintro ⟨i', z1, z2, z3⟩
          rw [e25] at z3
          by_cases c : i' = hi 14 11
          · rw [if_pos c] at z3; exact Or.inr z3.symm
          · rw [if_neg c] at z3; exact Or.inl ⟨i', z1, by omega, z3⟩
        · rintro (z | rfl)
          · exact hPM.mem z
          · exact ⟨hi 14 11, by omega, by omega, by rw [e25, if_pos rfl]⟩)
      refine s103_9.mpr (s103_11.mpr ?_)
      refine (s103_12 (by first | decide | assumption | omega)).mpr ?_
      try simp (disch := first | decide | assumption | omega) only [e10, u11, fAdd_id]
      refine s103_15.mpr (wif (fun c15 => ?_) (fun c15 => ?_))
      · first
        | (exfalso; omega)
        | skip
          exfalso; omega
      · first
        | (exfalso; omega)
        | skip
          refine s103_46.mpr ?_
          refine (s103_47 (by first | decide | assumption | omega)).mpr ?_
          refine s103_50.mpr ?_
          try simp (disch := first | decide | assumption | omega) only [e10, u11, fAdd_id]
          refine (s103_51 (by first | decide | assumption | omega)).mpr ?_
          try simp (disch := first | decide | assumption | omega) only [e10, u11, fAdd_id]
          refine (s103_54 (by first | decide | assumption | omega)).mpr ?_
          try simp (disch := first | decide | assumption | omega) only [e10, u11, fAdd_id]
          refine s103_55.mpr (wif (fun c55 => ?_) (fun c55 => ?_))
          · first
            | (exfalso; omega)
            | skip
              refine s103_58.mpr ?_
              refine (s103_59 (by first | decide | assumption | omega)).mpr ?_
              refine s103_62.mpr ?_
              try simp (disch := first | decide | assumption | omega) only [e10, u11, fAdd_id]
              refine (s103_63 (by first | decide | assumption | omega)).mpr ?_
              refine s103_66.mpr ?_
              try simp (disch := first | decide | assumption | omega) only [e10, u11, fAdd_id]
              refine (s103_67 (by first | decide | assumption | omega) (by first | decide | assumption | omega) (by first | decide | assumption | omega)).mpr ?_
              refine s103_68.mpr (s103_69.mpr ?_)
              try simp (disch := first | decide | assumption | omega) only [e10, u11, fAdd_id]
              refine (s103_70 (by first | decide | assumption | omega)).mpr ?_
              refine s103_73.mpr (s103_74.mpr ?_)
              try simp (disch := first | decide | assumption | omega) only [e10, u11, fAdd_id]
              refine (s103_75 (by first | decide | assumption | omega)).mpr ?_
              try simp (disch := first | decide | assumption | omega) only [e10, u11, fAdd_id]
              refine (s103_78).mpr ?_
              exact E
          · first
            | (exfalso; omega)
            | skip
              refine (s103_78).mpr ?_
              exact E
    | succ j ih =>
      intro i hij i0 hall
      by_cases c : hi 25 i = v
      · have E := q hi (PM.rf hp) (fun w => ⟨Or.inl, fun z => z.elim id (fun z => by subst z; exact ⟨i, i0, by omega, c⟩)⟩)
        refine s103_9.mpr (s103_11.mpr ?_)
        refine (s103_12 (by first | decide | assumption | omega)).mpr ?_
        try simp (disch := first | decide | assumption | omega) only [e10, c]
        refine s103_15.mpr (wif (fun c15 => ?_) (fun c15 => ?_))
        · first
          | (exfalso; omega)
          | skip
            refine s103_18.mpr (s103_20.mpr ?_)
            refine (s103_21 (by first | decide | assumption | omega)).mpr ?_
            try simp (disch := first | decide | assumption | omega) only [e10, c]
            refine (s103_24 (by first | decide | assumption | omega)).mpr ?_
            try simp (disch := first | decide | assumption | omega) only [e10, c]
            refine s103_25.mpr (wif (fun c25 => ?_) (fun c25 => ?_))
            · first
              | (exfalso; omega)
              | skip
                refine s103_28.mpr ?_
                refine (s103_29 (by first | decide | assumption | omega)).mpr ?_
                refine s103_32.mpr ?_
                try simp (disch := first | decide | assumption | omega) only [e10, c]
                refine (s103_34 (by first | decide | assumption | omega) (by first | decide | assumption | omega) (by first | decide | assumption | omega)).mpr ?_
                refine s103_35.mpr ?_
                try simp (disch := first | decide | assumption | omega) only [e10, c]
                refine s103_36.mpr (wif (fun c36 => ?_) (fun c36 => ?_))
                · first
                  | (exfalso; omega)
                  | skip
                    refine (s103_39).mpr ?_
                    exact E
                · first
                  | (exfalso; omega)
                  | skip
                    exfalso; omega
            · first
              | (exfalso; omega)
              | skip
                exfalso; omega
        · first
          | (exfalso; omega)
          | skip
            exfalso; omega
      · have NX := ih (i + 1) (by omega) (by omega) (fun i' z1 z2 => by
          by_cases z : i' = i
          · subst z; exact c
          · exact hall i' z1 (by omega))
        refine s103_9.mpr (s103_11.mpr ?_)
        refine (s103_12 (by first | decide | assumption | omega)).mpr ?_
        try simp (disch := first | decide | assumption | omega) only [e10, fAdd_id]
        refine s103_15.mpr (wif (fun c15 => ?_) (fun c15 => ?_))
        · first
          | (exfalso; omega)
          | skip
            refine s103_18.mpr (s103_20.mpr ?_)
            refine (s103_21 (by first | decide | assumption | omega)).mpr ?_
            try simp (disch := first | decide | assumption | omega) only [e10, fAdd_id]
            refine (s103_24 (by first | decide | assumption | omega)).mpr ?_
            try simp (disch := first | decide | assumption | omega) only [e10, fAdd_id]
            refine s103_25.mpr (wif (fun c25 => ?_) (fun c25 => ?_))
            · first
              | (exfalso; omega)
              | skip
                refine s103_28.mpr ?_
                refine (s103_29 (by first | decide | assumption | omega)).mpr ?_
                refine s103_32.mpr ?_
                try simp (disch := first | decide | assumption | omega) only [e10, fAdd_id]
                refine (s103_34 (by first | decide | assumption | omega) (by first | decide | assumption | omega) (by first | decide | assumption | omega)).mpr ?_
                refine s103_35.mpr ?_
                try simp (disch := first | decide | assumption | omega) only [e10, fAdd_id]
                refine s103_36.mpr (wif (fun c36 => ?_) (fun c36 => ?_))
                · first
                  | (exfalso; omega)
                  | skip
                    exfalso; omega
                · first
                  | (exfalso; omega)
                  | skip
                    refine s103_40.mpr (s103_43.mpr ?_)
                    try simp (disch := first | decide | assumption | omega) only [e10, fAdd_id]
                    exact NX
            · first
              | (exfalso; omega)
              | skip
                exfalso; omega
        · first
          | (exfalso; omega)
          | skip
            exfalso; omega
  rw [e103]
  refine s103_0.mpr (s103_1.mpr (s103_2.mpr (s103_3.mpr (s103_4.mpr (s103_5.mpr ?_)))))
  refine s103_6.mpr (s103_7.mpr ?_)
  try simp (disch := first | decide | assumption | omega) only [ev]
  exact T9 (hi 14 11).toNat 0 (by omega) (Int.le_refl _) (fun i' z1 z2 => absurd z2 (by omega))
theorem ModV.pm {h' : HI} (h : ModV al hi hr N n B M) (hf : FW wPa hi h') : ModV al h' hr N n B M := h.fr GA.rf (fun i => hf 0 i (by unfold wPa; omega)) (fun a i z1 _ _ => hf a i (by have := h.1.2.1; unfold wPa; omega)) (fun _ _ _ _ _ => rfl)
theorem ldO.r {x : Int} (h : ldO B x) : (x = -1 ∧ cv x = -1) ∨ (rT x ∧ x ≠ -1 ∧ rng (cv x)) := by
  rcases h with rfl | ⟨h, -⟩
  · exact Or.inl ⟨rfl, rfl⟩
  · exact Or.inr ⟨h.r, by have := h.1; omega, cv_r h.r⟩
theorem ldO.k {x : Int} (h : ldO B x) : cv x % 16 = (if kindM x = -1 then 15 else kindM x) := by
  rcases h with rfl | ⟨h, k⟩
  · decide
  · rw [cv_k h.r, if_neg (by omega)]
theorem f_isLoadAlike {x y : Int} (hA : SA al) (hc : CR hr) (hd : 2 ≤ d) (hM : ModV al hi hr N n B M) (hM' : ModV al hi hr N' n' B' M') (hT : TxV B n) (hT' : TxV B' n') (hx : ldO B x) (hy : ldO B' y) (hp : PL hi)
    (yes : ∀ hi', PM hi hi' → alL B B' (Rm hi') x y → (∀ v, pmem hi' v → pmem hi v ∨ (kindM x = 5 ∧ v = 4 * whichM x + whichM y)) → Q (some (some (vI 1))) al hi' hr)
    (no : ∀ hi', (∀ R, ¬ alL B B' R x y) → PM hi hi' → Q (some (some (vI 0))) al hi' hr) : Ev d 105 [vR (some 14), vR (some N), vI (cv x), vR (some N'), vI (cv y)] al hi hr Q := by
  have k14 : isK al 14 7 := hA.k (by decide) (by decide) rfl
  have kx := hx.k
  have ky := hy.k
  obtain ⟨gx1, gx2, gx3, gx4⟩ := hx.g
  obtain ⟨gy1, gy2, gy3, gy4⟩ := hy.g
  have kN := hM.1.1.1
  have kN' := hM'.1.1.1
  have k8 : ∀ z, kindM z < 8 := fun z => by unfold kindM; split <;> omega
  have kx8 := k8 x
  have ky8 := k8 y
  have kxe : cv x % 16 = cv y % 16 ↔ kindM x = kindM y := by
    rw [kx, ky]
    split <;> split <;> omega
  rw [e105]
  by_cases ck : kindM x = kindM y
  case neg =>
    have E := no hi (fun R z => ck z.1) (PM.rf hp)
    have cke : ¬ cv x % 16 = cv y % 16 := fun z => ck (kxe.mp z)
    refine s105_0.mpr ?_
    refine (s105_1 (by omega)).mpr ?_
    refine c_kindOf.mpr ?_
    refine s105_4.mpr ?_
    refine (s105_6 (by omega)).mpr ?_
    refine c_kindOf.mpr ?_
    refine s105_9.mpr (wif (fun c9 => ?_) (fun c9 => ?_))
    · skip
      exact absurd (by assumption) cke
    · skip
      refine s105_12.mpr ?_
      refine (s105_13 (by first | assumption | omega)).mpr ?_
      exact E
  have cke := kxe.mpr ck
  by_cases c4 : kindM x = 4
  · obtain ⟨w0, w1⟩ := hx.w.1 c4
    obtain ⟨v0, v1⟩ := hy.w.1 (ck ▸ c4)
    have rx : rT x ∧ rng (cv x) := by rcases hx.r with ⟨z, -⟩ | ⟨z, -, z2⟩; subst z; exact absurd c4 (by decide); exact ⟨z, z2⟩
    have ry : rT y ∧ rng (cv y) := by rcases hy.r with ⟨z, -⟩ | ⟨z, -, z2⟩; subst z; exact absurd (ck ▸ c4 : kindM (-1) = 4) (by decide); exact ⟨z, z2⟩
    have k4 : cv x % 16 = 4 := by rw [kx, if_neg (by omega)]; exact c4
    have ex := cv_w rx.1
    have ey := cv_w ry.1
    have sx := hM.sz hT w0 w1
    have sy := hM'.sz hT' v0 v1
    have hq : ∀ R, alL B B' R x y ↔ nFld B (whichM x) = nFld B' (whichM y) := fun R => ⟨fun z => z.2.1 c4, fun z => ⟨ck, fun _ => z, fun z5 => by omega⟩⟩
    refine s105_0.mpr ?_
    refine (s105_1 (by omega)).mpr ?_
    refine c_kindOf.mpr ?_
    refine s105_4.mpr ?_
    refine (s105_6 (by omega)).mpr ?_
    refine c_kindOf.mpr ?_
    refine s105_9.mpr (wif (fun c9 => ?_) (fun c9 => ?_))
    · first
      | (exfalso; omega)
      | skip
        refine s105_14.mpr ?_
        refine (s105_15 (by omega)).mpr ?_
        refine c_kindOf.mpr ?_
        refine s105_18.mpr ?_
        refine s105_19.mpr (wif (fun c19 => ?_) (fun c19 => ?_))
        · first
          | (exfalso; omega)
          | skip
            refine s105_22.mpr (s105_23.mpr ?_)
            refine (s105_24 (by omega)).mpr ?_
            refine (c_namedBy (by first | exact rx.2 | exact ry.2)).mpr ?_
            simp only [kon, knt_some, knt_none, Option.toList_some, Option.toList_none, List.cons_append, List.nil_append, ex, ey]
            refine (s105_27 (by first | decide | assumption | omega) (by first | decide | assumption | omega)).mpr ?_
            refine t_sizeOfRecord (by first | exact hM.1.1 | exact hM'.1.1) ?_
            simp only [kon, knt_some, knt_none, Option.toList_some, Option.toList_none, List.cons_append, List.nil_append, sx, sy]
            refine s105_30.mpr (s105_31.mpr ?_)
            refine (s105_33 (by omega)).mpr ?_
            refine (c_namedBy (by first | exact rx.2 | exact ry.2)).mpr ?_
            simp only [kon, knt_some, knt_none, Option.toList_some, Option.toList_none, List.cons_append, List.nil_append, ex, ey]
            refine (s105_36 (by first | decide | assumption | omega) (by first | decide | assumption | omega)).mpr ?_
            refine t_sizeOfRecord (by first | exact hM.1.1 | exact hM'.1.1) ?_
            simp only [kon, knt_some, knt_none, Option.toList_some, Option.toList_none, List.cons_append, List.nil_append, sx, sy]
            refine s105_39.mpr (wif (fun c39 => ?_) (fun c39 => ?_))
            · first
              | (exfalso; omega)
              | skip
                refine s105_42.mpr (s105_43.mpr ?_)
                refine (s105_47 (by first | assumption | omega)).mpr ?_
                first | exact yes hi (PM.rf hp) ((hq _).mpr (by assumption)) (fun v => Or.inl) | exact no hi (fun R z => absurd ((hq R).mp z) (by assumption)) (PM.rf hp)
            · first
              | (exfalso; omega)
              | skip
                refine s105_46.mpr ?_
                refine (s105_47 (by first | assumption | omega)).mpr ?_
                first | exact yes hi (PM.rf hp) ((hq _).mpr (by assumption)) (fun v => Or.inl) | exact no hi (fun R z => absurd ((hq R).mp z) (by assumption)) (PM.rf hp)
        · first
          | (exfalso; omega)
          | skip
            exfalso; omega
    · first
      | (exfalso; omega)
      | skip
        exact absurd cke (by assumption)
  by_cases c5 : kindM x = 5
  · obtain ⟨w0, w1⟩ := hx.w.2 c5
    obtain ⟨v0, v1⟩ := hy.w.2 (ck ▸ c5)
    have rx : rT x ∧ rng (cv x) := by rcases hx.r with ⟨z, -⟩ | ⟨z, -, z2⟩; subst z; exact absurd c5 (by decide); exact ⟨z, z2⟩
    have ry : rT y ∧ rng (cv y) := by rcases hy.r with ⟨z, -⟩ | ⟨z, -, z2⟩; subst z; exact absurd (ck ▸ c5 : kindM (-1) = 5) (by decide); exact ⟨z, z2⟩
    have k5 : cv x % 16 = 5 := by rw [kx, if_neg (by omega)]; exact c5
    have ex := cv_w rx.1
    have ey := cv_w ry.1
    have e1 := cv_s rx.1
    have e2 := cv_s ry.1
    have e3 := cv_e rx.1
    have e4 := cv_e ry.1
    have n4 : nCtr B ≤ 4 := hT.2.1.2.2.2.2.2.1
    have n4' : nCtr B' ≤ 4 := hT'.2.1.2.2.2.2.2.1
    have hno : ∀ {h'}, PM hi h' → ¬ (stateM x = stateM y ∧ sideM x = sideM y) → Q (some (some (vI 0))) al h' hr := fun g c => no _ (fun R z => c ⟨(z.2.2 c5).1, (z.2.2 c5).2.1⟩) g
    have hyes : ∀ {h'}, PM hi h' → (∀ v, pmem h' v ↔ pmem hi v ∨ v = 4 * whichM x + whichM y) → stateM x = stateM y → sideM x = sideM y → Q (some (some (vI 1))) al h' hr := fun g hm z1 z2 => yes _ g ⟨ck, fun z => absurd (z.symm.trans c5) (by decide), fun _ => ⟨z1, z2, ⟨w0, by omega⟩, ⟨v0, by omega⟩, (hm _).mpr (Or.inr rfl)⟩⟩ (fun v hv => ((hm v).mp hv).elim Or.inl (fun z => Or.inr ⟨c5, z⟩))
    refine s105_0.mpr ?_
    refine (s105_1 (by omega)).mpr ?_
    refine c_kindOf.mpr ?_
    refine s105_4.mpr ?_
    refine (s105_6 (by omega)).mpr ?_
    refine c_kindOf.mpr ?_
    refine s105_9.mpr (wif (fun c9 => ?_) (fun c9 => ?_))
    · first
      | (exfalso; omega)
      | skip
        refine s105_14.mpr ?_
        refine (s105_15 (by omega)).mpr ?_
        refine c_kindOf.mpr ?_
        refine s105_18.mpr ?_
        refine s105_19.mpr (wif (fun c19 => ?_) (fun c19 => ?_))
        · first
          | (exfalso; omega)
          | skip
            exfalso; omega
        · first
          | (exfalso; omega)
          | skip
            refine s105_48.mpr ?_
            refine (s105_49 (by omega)).mpr ?_
            refine c_kindOf.mpr ?_
            refine s105_52.mpr ?_
            refine s105_53.mpr (wif (fun c53 => ?_) (fun c53 => ?_))
            · first
              | (exfalso; omega)
              | skip
                refine s105_56.mpr (s105_57.mpr ?_)
                refine (s105_58 (by omega)).mpr ?_
                refine (c_namedBy (by first | exact rx.2 | exact ry.2)).mpr ?_
                simp only [kon, knt_some, knt_none, Option.toList_some, Option.toList_none, List.cons_append, List.nil_append, ex, ey]
                refine s105_61.mpr ?_
                refine (s105_63 (by omega)).mpr ?_
                refine (c_namedBy (by first | exact rx.2 | exact ry.2)).mpr ?_
                simp only [kon, knt_some, knt_none, Option.toList_some, Option.toList_none, List.cons_append, List.nil_append, ex, ey]
                refine (s105_66 (by first | decide | assumption | omega) (by first | decide | assumption | omega)).mpr ?_
                refine f_addPair hA hc hp ⟨w0, by omega⟩ ⟨v0, by omega⟩ (fun h1 g1 hm1 => ?_)
                refine s105_69.mpr ?_
                refine (s105_70 (by omega)).mpr ?_
                refine (c_stateOfEnd (by first | exact rx.2 | exact ry.2)).mpr ?_
                simp only [kon, knt_some, knt_none, Option.toList_some, Option.toList_none, List.cons_append, List.nil_append, e1, e2]
                refine s105_73.mpr ?_
                refine (s105_75 (by omega)).mpr ?_
                refine (c_stateOfEnd (by first | exact rx.2 | exact ry.2)).mpr ?_
                simp only [kon, knt_some, knt_none, Option.toList_some, Option.toList_none, List.cons_append, List.nil_append, e1, e2]
                refine s105_78.mpr (wif (fun c78 => ?_) (fun c78 => ?_))
                · first
                  | (exfalso; omega)
                  | skip
                    refine s105_81.mpr ?_
                    refine (s105_82 (by omega)).mpr ?_
                    refine (c_sideOfEnd (by first | exact rx.2 | exact ry.2)).mpr ?_
                    simp only [kon, knt_some, knt_none, Option.toList_some, Option.toList_none, List.cons_append, List.nil_append, e3, e4]
                    refine s105_85.mpr ?_
                    refine (s105_87 (by omega)).mpr ?_
                    refine (c_sideOfEnd (by first | exact rx.2 | exact ry.2)).mpr ?_
                    simp only [kon, knt_some, knt_none, Option.toList_some, Option.toList_none, List.cons_append, List.nil_append, e3, e4]
                    refine s105_90.mpr (wif (fun c90 => ?_) (fun c90 => ?_))
                    · first
                      | (exfalso; omega)
                      | skip
                        refine s105_93.mpr (s105_94.mpr ?_)
                        refine (s105_98 (by first | assumption | omega)).mpr ?_
                        first | exact hyes g1 hm1 (by assumption) (by assumption) | exact hno g1 (fun z => absurd z.1 (by assumption)) | exact hno g1 (fun z => absurd z.2 (by assumption))
                    · first
                      | (exfalso; omega)
                      | skip
                        refine s105_97.mpr ?_
                        refine (s105_98 (by first | assumption | omega)).mpr ?_
                        first | exact hyes g1 hm1 (by assumption) (by assumption) | exact hno g1 (fun z => absurd z.1 (by assumption)) | exact hno g1 (fun z => absurd z.2 (by assumption))
                · first
                  | (exfalso; omega)
                  | skip
                    refine s105_97.mpr ?_
                    refine (s105_98 (by first | assumption | omega)).mpr ?_
                    first | exact hyes g1 hm1 (by assumption) (by assumption) | exact hno g1 (fun z => absurd z.1 (by assumption)) | exact hno g1 (fun z => absurd z.2 (by assumption))
            · first
              | (exfalso; omega)
              | skip
                exfalso; omega
    · first
      | (exfalso; omega)
      | skip
        exact absurd cke (by assumption)
  have hq : ∀ R, alL B B' R x y := fun R => ⟨ck, fun z => absurd z c4, fun z => absurd z c5⟩
  have k4 : ¬ cv x % 16 = 4 := by rw [kx]; split <;> omega
  have k5 : ¬ cv x % 16 = 5 := by rw [kx]; split <;> omega
  have E := yes hi (PM.rf hp) (hq _) (fun v => Or.inl)
  refine s105_0.mpr ?_
  refine (s105_1 (by omega)).mpr ?_
  refine c_kindOf.mpr ?_
  refine s105_4.mpr ?_
  refine (s105_6 (by omega)).mpr ?_
  refine c_kindOf.mpr ?_
  refine s105_9.mpr (wif (fun c9 => ?_) (fun c9 => ?_))
  · skip
    refine s105_14.mpr ?_
    refine (s105_15 (by omega)).mpr ?_
    refine c_kindOf.mpr ?_
    refine s105_18.mpr ?_
    refine s105_19.mpr (wif (fun c19 => ?_) (fun c19 => ?_))
    · skip
      exact absurd (by assumption) k4
    · skip
      refine s105_48.mpr ?_
      refine (s105_49 (by omega)).mpr ?_
      refine c_kindOf.mpr ?_
      refine s105_52.mpr ?_
      refine s105_53.mpr (wif (fun c53 => ?_) (fun c53 => ?_))
      · skip
        exact absurd (by assumption) k5
      · skip
        refine s105_99.mpr ?_
        refine (s105_100 (by first | assumption | omega)).mpr ?_
        exact E
  · skip
    exact absurd cke (by assumption)
end CA0
