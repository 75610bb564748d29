/-! RUNNING, the reference: what is reached -/
section RE0
variable {d : Nat} {al : AL} {hi : HI} {hr : HR} {Q : QQ} {s : HI} {p : Int}
/-- the memory's columns are the state's -/
def CE (h s : HI) : Prop := ∀ a i, ((51 ≤ a ∧ a ≤ 69) ∨ (87 ≤ a ∧ a ≤ 100) ∨ (109 ≤ a ∧ a ≤ 118) ∨ (a = 49 ∧ 51 ≤ i ∧ i ≤ 56)) → h a i = s a i
/-- the boxes lie in the reference's heap -/
def LR (h s : HI) (p : Int) : Prop := (∀ b, 1 ≤ b → b ≤ 1024 → 0 < s 100 (1025 * p + b) → (0 ≤ h 101 (1025 * p + b) ∧ h 101 (1025 * p + b) + s 100 (1025 * p + b) - 1 ≤ 1024) ∧ ∀ i, 0 ≤ i → i < s 100 (1025 * p + b) - 1 → h 103 (1024 * p + h 101 (1025 * p + b) + i) = s 300 (hx p b i) ∧ h 104 (1024 * p + h 101 (1025 * p + b) + i) = s 301 (hx p b i)) ∧ ∀ b b', 1 ≤ b → b ≤ 1024 → 1 ≤ b' → b' ≤ 1024 → b ≠ b' → 0 < s 100 (1025 * p + b) → 0 < s 100 (1025 * p + b') → h 101 (1025 * p + b) + s 100 (1025 * p + b) - 1 ≤ h 101 (1025 * p + b') ∨ h 101 (1025 * p + b') + s 100 (1025 * p + b') - 1 ≤ h 101 (1025 * p + b)
/-- the heap's bounds -/
def HBd (s : HI) (p : Int) : Prop := (∀ b, 1 ≤ b → b ≤ 1024 → 0 ≤ s 100 (1025 * p + b) ∧ s 100 (1025 * p + b) ≤ 1024) ∧ (∀ b, rch s p b → (1 ≤ b ∧ b ≤ 1024) ∧ 0 < s 100 (1025 * p + b)) ∧ ∀ a, 0 ≤ a → a < s 94 p → 0 ≤ s 97 (16 * p + a) ∧ s 97 (16 * p + a) ≤ 16
/-- those that are noted -/
def TL (s : HI) (p : Int) (h : HI) (m : Int) : Prop := (0 ≤ m ∧ m ≤ 1024) ∧ (∀ i, 0 ≤ i → i < m → (1 ≤ h 107 i ∧ h 107 i ≤ 1024) ∧ rch s p (h 107 i) ∧ h 102 (h 107 i) = 1 ∧ ∀ j, 0 ≤ j → j < i → h 107 j ≠ h 107 i) ∧ (∀ b, 1 ≤ b → b ≤ 1024 → (h 102 b = 0 ∨ h 102 b = 1) ∧ (h 102 b = 1 → ∃ i, 0 ≤ i ∧ i < m ∧ h 107 i = b))
def wNt (a : Nat) (_ : Int) : Prop := a = 102 ∨ a = 107
theorem CE.nt {h h' : HI} (H : CE h s) (w : FW wNt h h') : CE h' s := fun a i z => (w a i (by unfold wNt; omega)).trans (H a i z)
theorem LR.nt {h h' : HI} (H : LR h s p) (w : FW wNt h h') : LR h' s p := by
  have e1 : ∀ i, h' 101 i = h 101 i := fun i => w 101 i (by unfold wNt; omega)
  have e2 : ∀ i, h' 103 i = h 103 i := fun i => w 103 i (by unfold wNt; omega)
  have e3 : ∀ i, h' 104 i = h 104 i := fun i => w 104 i (by unfold wNt; omega)
  unfold LR
  simp only [e1, e2, e3]
  exact H
theorem TL.lt {h : HI} {m : Int} (H : TL s p h m) {b : Int} (b1 : 1 ≤ b) (b2 : b ≤ 1024) (hb : h 102 b ≠ 1) : m < 1024 := by
  apply Classical.byContradiction
  intro c
  obtain ⟨⟨m0, m1⟩, h1, h2⟩ := H
  obtain ⟨i, i1, i2⟩ := pigeon (f := fun i => (h 107 i - 1).toNat) (n := 1024) (fun i hi => by have := (h1 i (by omega) (by omega)).1; omega) (fun i j a c => by
    have q1 := (h1 i (by omega) (by omega)).1
    have q2 := h1 j (by omega) (by omega)
    have := q2.2.2.2 i (by omega) (by omega)
    have := q2.1
    show (h 107 i - 1).toNat ≠ (h 107 j - 1).toNat
    omega) (b - 1).toNat (by omega)
  have q := h1 i (by omega) (by omega)
  have i2 : (h 107 i - 1).toNat = (b - 1).toNat := i2
  have : h 107 i = b := by have := q.1; omega
  rw [← this] at hb
  exact hb q.2.2.1
theorem r_note {b m : Int} (hA : SA al) (hR : MR hr) (hT : TL s p hi m) (b1 : 1 ≤ b ∧ b ≤ 1024) (hb : rch s p b)
    (q : ∀ m' hi', TL s p hi' m' → m ≤ m' → (∀ i, 0 ≤ i → i < m → hi' 107 i = hi 107 i) → hi' 102 b = 1 → (∀ x, hi 102 x = 1 → hi' 102 x = 1) → FW wNt hi hi' → Q (some (some (vI m'))) al hi' hr) : Ev d 290 [vR (some 49), vI b, vI m] al hi hr Q := by
  have kM : isK al 49 13 := hA.k (by decide) (by decide) rfl
  have l102 := SA.len (a := 102) (n := 1025) hA (by decide) (by decide) rfl
  have l107 := SA.len (a := 107) (n := 1025) hA (by decide) (by decide) rfl
  obtain ⟨⟨m0, m1⟩, h1, h2⟩ := id hT
  rw [e290]
  rcases (h2 b b1.1 b1.2).1 with c | c
  · have hlt := hT.lt b1.1 b1.2 (by rw [c]; decide)
    let h' := upI (upI hi 102 b 1) 107 m b
    have e102 : ∀ x, h' 102 x = if x = b then 1 else hi 102 x := fun x => by show upI _ _ _ _ _ _ = _; rw [upI_a (by decide), upI_self]
    have e107 : ∀ x, h' 107 x = if x = m then b else hi 107 x := fun x => by show upI _ _ _ _ _ _ = _; rw [upI_self, upI_a (by decide)]
    have E := q (m + 1) h' ⟨⟨by omega, by omega⟩, fun i i0 i1 => by
        rw [e107]
        by_cases z : i = m
        · rw [if_pos z]
          refine ⟨b1, hb, by rw [e102, if_pos rfl], fun j j0 j1 => ?_⟩
          rw [e107, if_neg (by omega)]
          intro y
          have := (h1 j j0 (by omega)).2.2.1
          rw [y, c] at this; cases this
        · rw [if_neg z]
          obtain ⟨q1, q2, q3, q4⟩ := h1 i i0 (by omega)
          refine ⟨q1, q2, ?_, fun j j0 j1 => by rw [e107, if_neg (by omega)]; exact q4 j j0 j1⟩
          rw [e102]; split
          · rfl
          · exact q3, fun x x0 x1 => by
        rw [e102]
        by_cases z : x = b
        · rw [if_pos z]
          exact ⟨Or.inr rfl, fun _ => ⟨m, m0, by omega, by rw [e107, if_pos rfl]; exact z.symm⟩⟩
        · rw [if_neg z]
          refine ⟨(h2 x x0 x1).1, fun y => ?_⟩
          obtain ⟨i, y1, y2, y3⟩ := (h2 x x0 x1).2 y
          exact ⟨i, y1, by omega, by rw [e107, if_neg (by omega)]; exact y3⟩⟩ (by omega) (fun i z0 z1 => by rw [e107, if_neg (by omega)]) (by rw [e102, if_pos rfl]) (fun x z => by rw [e102]; split; rfl; exact z) ((FW.rf.up (Or.inl rfl)).up (Or.inr rfl))
    refine s290_0.mpr ((s290_1 kM).mpr ?_)
    rw [mr_72 hR]
    refine s290_4.mpr ?_
    refine (s290_5Z (hA.k (by decide) (by decide) rfl) (by first | assumption | omega) (by first | assumption | omega)).mpr ?_
    try simp (disch := first | decide | assumption | omega) only [c, fAdd_id]
    refine s290_6.mpr (wif (fun c6 => ?_) (fun c6 => ?_))
    · skip
      refine s290_11.mpr ((s290_12 kM).mpr ?_)
      rw [mr_72 hR]
      refine s290_15.mpr (s290_16.mpr ?_)
      refine (s290_17Z (hA.k (by decide) (by decide) rfl) (by first | assumption | omega) (by first | assumption | omega)).mpr ?_
      refine s290_18.mpr ((s290_19 kM).mpr ?_)
      rw [mr_77 hR]
      refine s290_22.mpr (s290_23.mpr ?_)
      try simp (disch := first | decide | assumption | omega) only [c, fAdd_id]
      refine (s290_24 (hA.k (by decide) (by decide) rfl) (by first | assumption | omega) (by first | assumption | omega)).mpr ?_
      refine s290_25.mpr (s290_26.mpr (s290_27.mpr ?_))
      try simp (disch := first | decide | assumption | omega) only [c, fAdd_id]
      refine (s290_28).mpr ?_
      exact E
    · skip
      exact absurd rfl (by assumption)
  · have E := q m hi hT (Int.le_refl _) (fun _ _ _ => rfl) c (fun _ z => z) FW.rf
    refine s290_0.mpr ((s290_1 kM).mpr ?_)
    rw [mr_72 hR]
    refine s290_4.mpr ?_
    refine (s290_5Z (hA.k (by decide) (by decide) rfl) (by first | assumption | omega) (by first | assumption | omega)).mpr ?_
    try simp (disch := first | decide | assumption | omega) only [c]
    refine s290_6.mpr (wif (fun c6 => ?_) (fun c6 => ?_))
    · skip
      exact absurd ‹(1 : Int) = 0› (by decide)
    · skip
      refine s290_9.mpr ?_
      refine (s290_10).mpr ?_
      exact E
theorem smN_addW {g g' : Nat → Nat} {w x : Nat} : ∀ n, (∀ v, v ≠ w → g' v = g v) → g' w = g w + x → smN g' n = smN g n + (if w < n then x else 0)
  | 0, _, _ => by rw [if_neg (by omega)]; rfl
  | n + 1, h1, h2 => by
    show smN g' n + g' n = smN g n + g n + _
    rw [smN_addW n h1 h2]
    by_cases c : n = w
    · subst c; rw [if_neg (by omega), if_pos (by omega), h2]; omega
    · rw [h1 n c]
      by_cases e : w < n
      · rw [if_pos e, if_pos (by omega)]; omega
      · rw [if_neg e, if_neg (by omega)]; omega
theorem smN_cg {g g' : Nat → Nat} : ∀ n, (∀ v, v < n → g' v = g v) → smN g' n = smN g n
  | 0, _ => rfl
  | n + 1, h => by show smN g' n + g' n = _; rw [smN_cg n (fun v hv => h v (by omega)), h n (by omega)]; rfl
/-- the cells of the first k that are noted -/
noncomputable def smT (s : HI) (p : Int) (h : HI) (k : Int) : Nat := smN (fun v => cif (∃ i, 0 ≤ i ∧ i < k ∧ h 107 i = (v : Int) + 1) (s 100 (1025 * p + (v + 1))).toNat 0) 1024
theorem smT_0 {h : HI} : smT s p h 0 = 0 := by
  have : ∀ n, smN (fun v => cif (∃ i, 0 ≤ i ∧ i < (0 : Int) ∧ h 107 i = (v : Int) + 1) (s 100 (1025 * p + (v + 1))).toNat 0) n = 0 := fun n => by
    induction n with
    | zero => rfl
    | succ n ih =>
      show smN _ n + cif _ _ _ = 0
      rw [ih, cif_n]; rintro ⟨i, a, b, -⟩; omega
  exact this 1024
theorem smT_s {h : HI} {m k : Int} (H : TL s p h m) (k0 : 0 ≤ k) (k1 : k < m) : smT s p h (k + 1) = smT s p h k + (s 100 (1025 * p + h 107 k)).toNat := by
  obtain ⟨⟨m0, m1⟩, h1, h2⟩ := H
  obtain ⟨⟨q1, q1'⟩, q2, q3, q4⟩ := h1 k k0 k1
  have ev : (((h 107 k - 1).toNat : Nat) : Int) + 1 = h 107 k := by omega
  unfold smT
  have A := smN_addW (g := fun v => cif (∃ i, 0 ≤ i ∧ i < k ∧ h 107 i = (v : Int) + 1) (s 100 (1025 * p + (v + 1))).toNat 0) (g' := fun v => cif (∃ i, 0 ≤ i ∧ i < k + 1 ∧ h 107 i = (v : Int) + 1) (s 100 (1025 * p + (v + 1))).toNat 0) (w := (h 107 k - 1).toNat) (x := (s 100 (1025 * p + h 107 k)).toNat) 1024 (fun v hv => by
    show cif _ _ _ = cif _ _ _
    by_cases c : ∃ i, 0 ≤ i ∧ i < k ∧ h 107 i = (v : Int) + 1
    · obtain ⟨i, c1, c2, c3⟩ := c
      rw [cif_y ⟨i, c1, by omega, c3⟩, cif_y ⟨i, c1, c2, c3⟩]
    · rw [cif_n c, cif_n]
      rintro ⟨i, c1, c2, c3⟩
      by_cases e : i = k
      · subst e; omega
      · exact c ⟨i, c1, by omega, c3⟩) (by
    show cif _ _ _ = cif _ _ _ + _
    rw [ev, cif_y ⟨k, k0, by omega, rfl⟩, cif_n]
    · omega
    · rintro ⟨i, c1, c2, c3⟩
      exact q4 i c1 c2 c3)
  rw [A, if_pos (by omega)]
theorem smT_fr {h h' : HI} {k : Int} (e : ∀ i, 0 ≤ i → i < k → h' 107 i = h 107 i) : smT s p h' k = smT s p h k := by
  unfold smT
  refine smN_cg 1024 (fun v _ => ?_)
  by_cases c : ∃ i, 0 ≤ i ∧ i < k ∧ h 107 i = (v : Int) + 1
  · obtain ⟨i, c1, c2, c3⟩ := c
    rw [cif_y ⟨i, c1, c2, by rw [e i c1 c2]; exact c3⟩, cif_y ⟨i, c1, c2, c3⟩]
  · rw [cif_n (c := ∃ i, 0 ≤ i ∧ i < k ∧ h 107 i = (v : Int) + 1) c, cif_n]
    rintro ⟨i, c1, c2, c3⟩
    exact c ⟨i, c1, c2, by rw [← e i c1 c2]; exact c3⟩
theorem smT_ub {h : HI} {k : Int} (hb : ∀ b, 1 ≤ b → b ≤ 1024 → s 100 (1025 * p + b) ≤ 1024) : smT s p h k ≤ 1024 * 1024 := by
  refine smN_ub (c := 1024) 1024 (fun v hv => ?_)
  by_cases c : ∃ i, 0 ≤ i ∧ i < k ∧ h 107 i = (v : Int) + 1
  · rw [cif_y c]; have := hb (v + 1) (by omega) (by omega); omega
  · rw [cif_n c]; exact Nat.zero_le _
set_option maxRecDepth 8000 in
theorem r_reach (hA : SA al) (hR : MR hr) (hd : 2 ≤ d) (hE : CE hi s) (hL : LR hi s p) (hB : HBd s p) (hp : AP s p)
    (q : ∀ hi', FW wNt hi hi' → (∀ b, 1 ≤ b → b ≤ 1024 → (hi' 102 b = 0 ∨ hi' 102 b = 1) ∧ (hi' 102 b = 1 ↔ rch s p b)) → Q (some (some (vI (rsm s p)))) al hi' hr) : Ev d 289 [vR (some 49), vI p] al hi hr Q := by
  have kM : isK al 49 13 := hA.k (by decide) (by decide) rfl
  obtain ⟨⟨p0, p1⟩, a0, a1⟩ := id hp
  have l102 := SA.len (a := 102) (n := 1025) hA (by decide) (by decide) rfl
  have l94 := SA.len (a := 94) (n := 12) hA (by decide) (by decide) rfl
  have l97 := SA.len (a := 97) (n := 192) hA (by decide) (by decide) rfl
  have l99 := SA.len (a := 99) (n := 4992) hA (by decide) (by decide) rfl
  have l98 := SA.len (a := 98) (n := 4992) hA (by decide) (by decide) rfl
  have l107 := SA.len (a := 107) (n := 1025) hA (by decide) (by decide) rfl
  have l100 := SA.len (a := 100) (n := 12300) hA (by decide) (by decide) rfl
  have l101 := SA.len (a := 101) (n := 12300) hA (by decide) (by decide) rfl
  have l104 := SA.len (a := 104) (n := 12288) hA (by decide) (by decide) rfl
  have l103 := SA.len (a := 103) (n := 12288) hA (by decide) (by decide) rfl
  have k100 : isK al 100 15 := hA.k (by decide) (by decide) rfl
  have l100 : aln al 100 = 12300 := hA.len (by decide) (by decide) rfl
  have k103 : isK al 103 15 := hA.k (by decide) (by decide) rfl
  have l103 : aln al 103 = 12288 := hA.len (by decide) (by decide) rfl
  obtain ⟨hB1, hB2, hB3⟩ := id hB
  -- the boxes that are noted
  have T126 : ∀ (j : Nat) (k m : Int) h l5 l6 l7, k + j = 1024 → 0 ≤ k → k ≤ m → TL s p h m → FW wNt hi h → (∀ b, rot s p b → h 102 b = 1) → (∀ x i, x < k → 0 ≤ x → 0 ≤ i → i < s 100 (1025 * p + h 107 x) - 1 → s 301 (hx p (h 107 x) i) = 1 → 0 < s 300 (hx p (h 107 x) i) → h 102 (s 300 (hx p (h 107 x) i)) = 1) → Wp d 289 126 [vR (some 49), vI p, vI m, vI (smT s p h k), vI k, l5, l6, l7] [] al h hr Q := by
    have FIN : ∀ m h, TL s p h m → FW wNt hi h → (∀ b, rot s p b → h 102 b = 1) → (∀ x i, x < m → 0 ≤ x → 0 ≤ i → i < s 100 (1025 * p + h 107 x) - 1 → s 301 (hx p (h 107 x) i) = 1 → 0 < s 300 (hx p (h 107 x) i) → h 102 (s 300 (hx p (h 107 x) i)) = 1) → Q (some (some (vI (smT s p h m)))) al h hr := by
      intro m h hT w hr1 hcl
      have key : ∀ b, 1 ≤ b → b ≤ 1024 → (h 102 b = 1 ↔ rch s p b) := fun b b1 b2 => by
        constructor
        · intro z
          obtain ⟨i, y1, y2, y3⟩ := (hT.2.2 b b1 b2).2 z
          rw [← y3]; exact (hT.2.1 i y1 y2).2.1
        · intro z
          refine (z (fun x => rch s p x ∧ h 102 x = 1) (fun x hx => ⟨rch_r hx, hr1 x hx⟩) (fun x i hx i0 i1 z1 z2 => ⟨rch_i hx.1 i0 i1 z1 z2, ?_⟩)).2
          have hb := (hB2 x hx.1).1
          obtain ⟨y, y1, y2, y3⟩ := (hT.2.2 x hb.1 hb.2).2 hx.2
          rw [← y3] at i1 z1 z2 ⊢
          exact hcl y i y2 y1 i0 i1 z1 z2
      have e : smT s p h m = rsm s p := by
        unfold smT rsm
        refine smN_cg 1024 (fun v hv => ?_)
        have k1 := key (v + 1) (by omega) (by omega)
        by_cases c : rch s p ((v : Int) + 1)
        · rw [cif_y c, cif_y]
          obtain ⟨i, y1, y2, y3⟩ := (hT.2.2 (v + 1) (by omega) (by omega)).2 (k1.mpr c)
          exact ⟨i, y1, y2, y3⟩
        · rw [cif_n c, cif_n]
          rintro ⟨i, y1, y2, y3⟩
          refine c (k1.mp ?_)
          rw [← y3]; exact (hT.2.1 i y1 y2).2.2.1
      rw [e]
      exact q h w (fun b b1 b2 => ⟨(hT.2.2 b b1 b2).1, key b b1 b2⟩)
    intro j
    induction j with
    | zero =>
      intro k m h l5 l6 l7 hj k0 km hT w hr1 hcl
      have em : k = m := by have := hT.1.2; omega
      subst em
      have E := FIN k h hT w hr1 hcl
      refine s289_126.mpr (s289_128.mpr ?_)
      refine s289_129.mpr (wif (fun c129 => ?_) (fun c129 => ?_))
      · skip
        exfalso; omega
      · skip
        refine s289_238.mpr ?_
        refine (s289_239).mpr ?_
        exact E
    | succ j ih =>
      intro k m h l5 l6 l7 hj k0 km hT w hr1 hcl
      by_cases ck : k = m
      · subst ck
        have E := FIN k h hT w hr1 hcl
        refine s289_126.mpr (s289_128.mpr ?_)
        refine s289_129.mpr (wif (fun c129 => ?_) (fun c129 => ?_))
        · skip
          exfalso; omega
        · skip
          refine s289_238.mpr ?_
          refine (s289_239).mpr ?_
          exact E
      have km1 : k < m := by omega
      have m1024 := hT.1.2
      obtain ⟨⟨b1, b2⟩, hrb, hb1, -⟩ := hT.2.1 k k0 km1
      obtain ⟨b, hb⟩ : ∃ b, h 107 k = b := ⟨_, rfl⟩
      rw [hb] at b1 b2 hrb hb1
      have hsz := hB1 b b1 b2
      have hsz0 := (hB2 b hrb).2
      have e100 : ∀ {h'}, FW wNt hi h' → h' 100 (1025 * p + b) = s 100 (1025 * p + b) := fun w' => hE.nt w' 100 _ (by omega)
      obtain ⟨⟨f0, f1⟩, fc⟩ := hL.1 b b1 b2 hsz0
      obtain ⟨fr, hfr⟩ : ∃ fr, hi 101 (1025 * p + b) = fr := ⟨_, rfl⟩
      rw [hfr] at f0 f1 fc
      have e101 : ∀ {h'}, FW wNt hi h' → h' 101 (1025 * p + b) = fr := fun w' => (w' 101 _ (by unfold wNt; omega)).trans hfr
      have es : smT s p h (k + 1) = smT s p h k + (s 100 (1025 * p + b)).toNat := by rw [← hb]; exact smT_s hT k0 km1
      have hub := smT_ub (s := s) (p := p) (h := h) (k := k + 1) (fun b z1 z2 => (hB1 b z1 z2).2)
      have es2 : ((smT s p h k : Nat) : Int) + s 100 (1025 * p + b) = ((smT s p h (k + 1) : Nat) : Int) := by rw [es]; omega
      -- its items
      have T160 : ∀ (i9 : Nat) (i m' : Int) h' l7, i + i9 = s 100 (1025 * p + b) - 1 → 0 ≤ i → m ≤ m' → TL s p h' m' → FW wNt hi h' → (∀ i, 0 ≤ i → i < m → h' 107 i = h 107 i) → (∀ x, h 102 x = 1 → h' 102 x = 1) → (∀ i', 0 ≤ i' → i' < i → s 301 (hx p b i') = 1 → 0 < s 300 (hx p b i') → h' 102 (s 300 (hx p b i')) = 1) → Wp d 289 160 [vR (some 49), vI p, vI m', vI (smT s p h (k + 1)), vI k, vI (1025 * p + b), vI i, l7] [] al h' hr Q := by
        intro i9
        induction i9 with
        | zero =>
          intro i m' h' l7 hi9 i0 mm hT' w' e107 e102 hit
          have x100 := e100 w'
          have NX : ∀ l5 l6 l7, Wp d 289 126 [vR (some 49), vI p, vI m', vI (smT s p h' (k + 1)), vI (k + 1), l5, l6, l7] [] al h' hr Q := fun l5 l6 l7 => by
            refine ih (k + 1) m' h' l5 l6 l7 (by omega) (by omega) (by omega) hT' w' (fun b z => e102 b (hr1 b z)) (fun x i' x1 x0 y0 y1 y2 y3 => ?_)
            rw [e107 x x0 (by omega)] at y1 y2 y3 ⊢
            by_cases z : x = k
            · subst z; rw [hb] at y1 y2 y3 ⊢; exact hit i' y0 (by omega) y2 y3
            · exact e102 _ (hcl x i' (by omega) x0 y0 y1 y2 y3)
          rw [smT_fr (h := h) (h' := h') (fun i z0 z1 => e107 i z0 (by omega))] at NX
          refine s289_160.mpr (s289_162.mpr ((s289_163 kM).mpr ?_))
          rw [mr_70 hR]
          refine s289_166.mpr ?_
          refine (s289_168 (hA.k (by decide) (by decide) rfl) (by first | assumption | omega) (by first | assumption | omega)).mpr ?_
          refine s289_169.mpr (s289_170.mpr ?_)
          try simp (disch := first | decide | assumption | omega) only [x100, fSub_id, fAdd_id]
          refine s289_171.mpr (wif (fun c171 => ?_) (fun c171 => ?_))
          · skip
            exfalso; omega
          · skip
            refine s289_232.mpr (s289_235.mpr ?_)
            try simp (disch := first | decide | assumption | omega) only [x100, fSub_id, fAdd_id]
            exact NX _ _ _
        | succ i9 ihi =>
          intro i m' h' l7 hi9 i0 mm hT' w' e107 e102 hit
          have x100 := e100 w'
          have x101 := e101 w'
          obtain ⟨g1, g2⟩ := fc i i0 (by omega)
          have x103 : h' 103 (1024 * p + fr + i) = s 300 (hx p b i) := (w' 103 _ (by unfold wNt; omega)).trans g1
          have x104 : h' 104 (1024 * p + fr + i) = s 301 (hx p b i) := (w' 104 _ (by unfold wNt; omega)).trans g2
          obtain ⟨v, hv⟩ : ∃ v, s 300 (hx p b i) = v := ⟨_, rfl⟩
          obtain ⟨sv, hsv⟩ : ∃ sv, s 301 (hx p b i) = sv := ⟨_, rfl⟩
          rw [hv] at x103
          rw [hsv] at x104
          have NX : ∀ m2 h2 l7, m' ≤ m2 → TL s p h2 m2 → FW wNt h' h2 → (∀ i, 0 ≤ i → i < m' → h2 107 i = h' 107 i) → (∀ x, h' 102 x = 1 → h2 102 x = 1) → (sv = 1 → 0 < v → h2 102 v = 1) → Wp d 289 160 [vR (some 49), vI p, vI m2, vI (smT s p h (k + 1)), vI k, vI (1025 * p + b), vI (i + 1), l7] [] al h2 hr Q := by
            intro m2 h2 l7 z1 z2 z3 z4 z5 z6
            refine ihi (i + 1) m2 h2 l7 (by omega) (by omega) (by omega) z2 (w'.tr z3) (fun i y0 y1 => (z4 i y0 (by omega)).trans (e107 i y0 y1)) (fun x y => z5 x (e102 x y)) (fun i' y0 y1 y2 y3 => ?_)
            by_cases y : i' = i
            · subst y; rw [hv] at y3 ⊢; exact z6 (by rw [← hsv]; exact y2) y3
            · exact z5 _ (hit i' y0 (by omega) y2 y3)
          by_cases cn : sv = 1 ∧ 0 < v
          · have hrv : rch s p v := by rw [← hv]; exact rch_i hrb i0 (by omega) (by rw [hsv]; exact cn.1) (by rw [hv]; exact cn.2)
            have hvb := (hB2 v hrv).1
            have R222 : Ev (d - 1) 290 [vR (some 49), vI v, vI m'] al h' hr (kon d 289 222 225 [vR (some 49), vI p, vI m', vI (smT s p h (k + 1)), vI k, vI (1025 * p + b), vI i, vI (1024 * p + fr + i)] [] Q) := by
              refine r_note hA hR hT' hvb hrv (fun m2 h2 z1 z2 z3 z4 z5 z6 => ?_)
              simp only [kon, knt_some, knt_none, Option.toList_some, Option.toList_none, List.cons_append, List.nil_append]
              have R := NX m2 h2 (vI (1024 * p + fr + i)) z2 z1 z6 z3 z5 (fun _ _ => z4)
              refine s289_225.mpr (s289_226.mpr (s289_229.mpr ?_))
              try simp (disch := first | decide | assumption | omega) only [fAdd_id]
              exact R
            refine s289_160.mpr (s289_162.mpr ((s289_163 kM).mpr ?_))
            rw [mr_70 hR]
            refine s289_166.mpr ?_
            refine (s289_168 (hA.k (by decide) (by decide) rfl) (by first | assumption | omega) (by first | assumption | omega)).mpr ?_
            refine s289_169.mpr (s289_170.mpr ?_)
            try simp (disch := first | decide | assumption | omega) only [x100, x101, x103, x104, fSub_id, fAdd_id, fMul_id]
            refine s289_171.mpr (wif (fun c171 => ?_) (fun c171 => ?_))
            · first
              | (exfalso; omega)
              | skip
                refine s289_174.mpr (s289_177.mpr (s289_178.mpr (s289_179.mpr ((s289_180 kM).mpr ?_))))
                rw [mr_71 hR]
                refine s289_183.mpr ?_
                try simp (disch := first | decide | assumption | omega) only [x100, x101, x103, x104, fSub_id, fAdd_id, fMul_id]
                refine (s289_185 (hA.k (by decide) (by decide) rfl) (by first | assumption | omega) (by first | assumption | omega)).mpr ?_
                refine s289_186.mpr (s289_187.mpr (s289_189.mpr (s289_190.mpr (s289_192.mpr ((s289_193 kM).mpr ?_)))))
                rw [mr_74 hR]
                refine s289_196.mpr ?_
                try simp (disch := first | decide | assumption | omega) only [x100, x101, x103, x104, fSub_id, fAdd_id, fMul_id]
                refine (s289_198 (hA.k (by decide) (by decide) rfl) (by first | assumption | omega) (by first | assumption | omega)).mpr ?_
                refine s289_199.mpr ?_
                try simp (disch := first | decide | assumption | omega) only [x100, x101, x103, x104, fSub_id, fAdd_id, fMul_id]
                refine s289_200.mpr (wif (fun c200 => ?_) (fun c200 => ?_))
                · first
                  | (exfalso; omega)
                  | skip
                    refine s289_203.mpr ((s289_204 kM).mpr ?_)
                    rw [mr_73 hR]
                    refine s289_207.mpr ?_
                    refine (s289_209 (hA.k (by decide) (by decide) rfl) (by first | assumption | omega) (by first | assumption | omega)).mpr ?_
                    try simp (disch := first | decide | assumption | omega) only [x100, x101, x103, x104, fSub_id, fAdd_id, fMul_id]
                    refine s289_210.mpr (wif (fun c210 => ?_) (fun c210 => ?_))
                    · first
                      | (exfalso; omega)
                      | skip
                        refine s289_213.mpr (s289_214.mpr ((s289_215 kM).mpr ?_))
                        rw [mr_73 hR]
                        refine s289_218.mpr ?_
                        refine (s289_220 (hA.k (by decide) (by decide) rfl) (by first | assumption | omega) (by first | assumption | omega)).mpr ?_
                        refine s289_221.mpr ?_
                        try simp (disch := first | decide | assumption | omega) only [x100, x101, x103, x104, fSub_id, fAdd_id, fMul_id]
                        refine (s289_222 (by omega) kM).mpr ?_
                        exact R222
                    · first
                      | (exfalso; omega)
                      | skip
                        exfalso; omega
                · first
                  | (exfalso; omega)
                  | skip
                    exfalso; omega
            · first
              | (exfalso; omega)
              | skip
                exfalso; omega
          · have R := fun l7 => NX m' h' l7 (Int.le_refl _) hT' FW.rf (fun _ _ _ => rfl) (fun _ z => z) (fun z1 z2 => absurd ⟨z1, z2⟩ cn)
            refine s289_160.mpr (s289_162.mpr ((s289_163 kM).mpr ?_))
            rw [mr_70 hR]
            refine s289_166.mpr ?_
            refine (s289_168 (hA.k (by decide) (by decide) rfl) (by first | assumption | omega) (by first | assumption | omega)).mpr ?_
            refine s289_169.mpr (s289_170.mpr ?_)
            try simp (disch := first | decide | assumption | omega) only [x100, x101, x103, x104, fSub_id, fAdd_id, fMul_id]
            refine s289_171.mpr (wif (fun c171 => ?_) (fun c171 => ?_))
            · first
              | (exfalso; omega)
              | skip
                refine s289_174.mpr (s289_177.mpr (s289_178.mpr (s289_179.mpr ((s289_180 kM).mpr ?_))))
                rw [mr_71 hR]
                refine s289_183.mpr ?_
                try simp (disch := first | decide | assumption | omega) only [x100, x101, x103, x104, fSub_id, fAdd_id, fMul_id]
                refine (s289_185 (hA.k (by decide) (by decide) rfl) (by first | assumption | omega) (by first | assumption | omega)).mpr ?_
                refine s289_186.mpr (s289_187.mpr (s289_189.mpr (s289_190.mpr (s289_192.mpr ((s289_193 kM).mpr ?_)))))
                rw [mr_74 hR]
                refine s289_196.mpr ?_
                try simp (disch := first | decide | assumption | omega) only [x100, x101, x103, x104, fSub_id, fAdd_id, fMul_id]
                refine (s289_198 (hA.k (by decide) (by decide) rfl) (by first | assumption | omega) (by first | assumption | omega)).mpr ?_
                refine s289_199.mpr ?_
                try simp (disch := first | decide | assumption | omega) only [x100, x101, x103, x104, fSub_id, fAdd_id, fMul_id]
                refine s289_200.mpr (wif (fun c200 => ?_) (fun c200 => ?_))
                · first
                  | (exfalso; omega)
                  | skip
                    refine s289_203.mpr ((s289_204 kM).mpr ?_)
                    rw [mr_73 hR]
                    refine s289_207.mpr ?_
                    refine (s289_209 (hA.k (by decide) (by decide) rfl) (by first | assumption | omega) (by first | assumption | omega)).mpr ?_
                    try simp (disch := first | decide | assumption | omega) only [x100, x101, x103, x104, fSub_id, fAdd_id, fMul_id]
                    refine s289_210.mpr (wif (fun c210 => ?_) (fun c210 => ?_))
                    · first
                      | (exfalso; omega)
                      | skip
                        exfalso; omega
                    · first
                      | (exfalso; omega)
                      | skip
                        refine s289_226.mpr (s289_229.mpr ?_)
                        try simp (disch := first | decide | assumption | omega) only [x100, x101, x103, x104, fSub_id, fAdd_id, fMul_id]
                        exact R _
                · first
                  | (exfalso; omega)
                  | skip
                    refine s289_226.mpr (s289_229.mpr ?_)
                    try simp (disch := first | decide | assumption | omega) only [x100, x101, x103, x104, fSub_id, fAdd_id, fMul_id]
                    exact R _
            · first
              | (exfalso; omega)
              | skip
                exfalso; omega
      have NX := fun l7 => T160 (s 100 (1025 * p + b) - 1).toNat 0 m h l7 (by omega) (Int.le_refl _) (Int.le_refl _) hT w (fun _ _ _ => rfl) (fun _ z => z) (fun i' z0 z1 => absurd z1 (by omega))
      have x100 := e100 w
      refine s289_126.mpr (s289_128.mpr ?_)
      refine s289_129.mpr (wif (fun c129 => ?_) (fun c129 => ?_))
      · skip
        refine s289_132.mpr (s289_135.mpr (s289_136.mpr (s289_137.mpr ((s289_138 kM).mpr ?_))))
        rw [mr_77 hR]
        refine s289_141.mpr ?_
        try simp (disch := first | decide | assumption | omega) only [hb, x100, es2, fAdd_id, fMul_id]
        refine (s289_143 (hA.k (by decide) (by decide) rfl) (by first | assumption | omega) (by first | assumption | omega)).mpr ?_
        refine s289_144.mpr (s289_145.mpr (s289_147.mpr (s289_148.mpr ((s289_149 kM).mpr ?_))))
        rw [mr_70 hR]
        refine s289_152.mpr ?_
        try simp (disch := first | decide | assumption | omega) only [hb, x100, es2, fAdd_id, fMul_id]
        refine (s289_154 (hA.k (by decide) (by decide) rfl) (by first | assumption | omega) (by first | assumption | omega)).mpr ?_
        refine s289_155.mpr (s289_156.mpr (s289_157.mpr (s289_158.mpr ?_)))
        try simp (disch := first | decide | assumption | omega) only [hb, x100, es2, fAdd_id, fMul_id]
        exact NX _
      · skip
        exfalso; omega
  -- roots
  have T26 : ∀ (j : Nat) (a m : Int) h l4 l5 l6 l7, a + j = s 94 p → 0 ≤ a → TL s p h m → FW wNt hi h → (∀ a' k' b, 0 ≤ a' → a' < a → 0 ≤ k' → k' < 10 + s 97 (16 * p + a') → s 99 (26 * (16 * p + a') + k') = 1 → s 98 (26 * (16 * p + a') + k') = b → 0 < b → h 102 b = 1) → Wp d 289 26 [vR (some 49), vI p, vI m, vI a, l4, l5, l6, l7] [] al h hr Q := by
    intro j
    induction j with
    | zero =>
      intro a m h l4 l5 l6 l7 hj j0 hT w hr1
      have x94 := hE.nt w 94 p (by omega)
      have NX := fun l5 l6 l7 => T126 1024 0 m h l5 l6 l7 (by decide) (Int.le_refl _) hT.1.1 hT w (fun b hb => by
        obtain ⟨a', k', z1, z2, z3, z4, z5, z6, z7⟩ := hb
        exact hr1 a' k' b z1 (by omega) z3 z4 z5 z6 z7) (fun x i z0 z1 => absurd z1 (by omega))
      rw [smT_0, show ((0 : Nat) : Int) = 0 from rfl] at NX
      refine s289_26.mpr (s289_27.mpr ((s289_28 kM).mpr ?_))
      rw [mr_64 hR]
      refine s289_31.mpr ?_
      refine (s289_32 (hA.k (by decide) (by decide) rfl) (by first | assumption | omega) (by first | assumption | omega)).mpr ?_
      try simp (disch := first | decide | assumption | omega) only [x94]
      refine s289_33.mpr (wif (fun c33 => ?_) (fun c33 => ?_))
      · skip
        exfalso; omega
      · skip
        refine s289_121.mpr (s289_122.mpr (s289_123.mpr (s289_124.mpr ?_)))
        exact NX _ _ _
    | succ j ih =>
      intro a m h l4 l5 l6 l7 hj j0 hT w hr1
      have x94 := hE.nt w 94 p (by omega)
      have h97 := hB3 a j0 (by omega)
      obtain ⟨n9, hn9⟩ : ∃ n9, s 97 (16 * p + a) = n9 := ⟨_, rfl⟩
      rw [hn9] at h97
      have T47 : ∀ (j9 : Nat) (k m' : Int) h' l6 l7, k + j9 = 10 + n9 → 0 ≤ k → TL s p h' m' → FW wNt hi h' → (∀ x, h 102 x = 1 → h' 102 x = 1) → (∀ k' b, 0 ≤ k' → k' < k → s 99 (26 * (16 * p + a) + k') = 1 → s 98 (26 * (16 * p + a) + k') = b → 0 < b → h' 102 b = 1) → Wp d 289 47 [vR (some 49), vI p, vI m', vI a, vI (26 * (16 * p + a)), vI k, l6, l7] [] al h' hr Q := by
        intro j9
        induction j9 with
        | zero =>
          intro k m' h' l6 l7 hj9 k0 hT' w' e102 hk
          have x97 : h' 97 (16 * p + a) = n9 := (hE.nt w' 97 _ (by omega)).trans hn9
          have NX := fun l4 l5 => ih (a + 1) m' h' l4 l5 l6 l7 (by omega) (by omega) hT' w' (fun a' k' b z1 z2 z3 z4 z5 z6 z7 => by
            by_cases y : a' = a
            · subst y; exact hk k' b z3 (by omega) z5 z6 z7
            · exact e102 b (hr1 a' k' b z1 (by omega) z3 z4 z5 z6 z7))
          refine s289_47.mpr (s289_49.mpr (s289_51.mpr ((s289_52 kM).mpr ?_)))
          rw [mr_67 hR]
          refine s289_55.mpr (s289_57.mpr (s289_58.mpr (s289_59.mpr (s289_60.mpr ?_))))
          try simp (disch := first | decide | assumption | omega) only [x97, fAdd_id, fMul_id]
          refine (s289_61 (hA.k (by decide) (by decide) rfl) (by first | assumption | omega) (by first | assumption | omega)).mpr ?_
          refine s289_62.mpr ?_
          try simp (disch := first | decide | assumption | omega) only [x97, fAdd_id, fMul_id]
          refine s289_63.mpr (wif (fun c63 => ?_) (fun c63 => ?_))
          · skip
            exfalso; omega
          · skip
            refine s289_115.mpr (s289_118.mpr ?_)
            try simp (disch := first | decide | assumption | omega) only [x97, fAdd_id, fMul_id]
            exact NX _ _
        | succ j9 ihk =>
          intro k m' h' l6 l7 hj9 k0 hT' w' e102 hk
          have x97 : h' 97 (16 * p + a) = n9 := (hE.nt w' 97 _ (by omega)).trans hn9
          obtain ⟨v, hv⟩ : ∃ v, s 98 (26 * (16 * p + a) + k) = v := ⟨_, rfl⟩
          obtain ⟨sv, hsv⟩ : ∃ sv, s 99 (26 * (16 * p + a) + k) = sv := ⟨_, rfl⟩
          have x98 : h' 98 (26 * (16 * p + a) + k) = v := (hE.nt w' 98 _ (by omega)).trans hv
          have x99 : h' 99 (26 * (16 * p + a) + k) = sv := (hE.nt w' 99 _ (by omega)).trans hsv
          have NX : ∀ m2 h2, TL s p h2 m2 → FW wNt h' h2 → (∀ x, h' 102 x = 1 → h2 102 x = 1) → (sv = 1 → 0 < v → h2 102 v = 1) → Wp d 289 47 [vR (some 49), vI p, vI m2, vI a, vI (26 * (16 * p + a)), vI (k + 1), l6, l7] [] al h2 hr Q := by
            intro m2 h2 z2 z3 z5 z6
            refine ihk (k + 1) m2 h2 l6 l7 (by omega) (by omega) z2 (w'.tr z3) (fun x y => z5 x (e102 x y)) (fun k' b y0 y1 y2 y3 y4 => ?_)
            by_cases y : k' = k
            · subst y; rw [hsv] at y2; rw [hv] at y3; subst y3; exact z6 y2 y4
            · exact z5 _ (hk k' b y0 (by omega) y2 y3 y4)
          by_cases cn : sv = 1 ∧ 0 < v
          · have hrv : rch s p v := rch_r ⟨a, k, j0, by omega, k0, by omega, by rw [hsv]; exact cn.1, hv, cn.2⟩
            have hvb := (hB2 v hrv).1
            have R105 : Ev (d - 1) 290 [vR (some 49), vI v, vI m'] al h' hr (kon d 289 105 108 [vR (some 49), vI p, vI m', vI a, vI (26 * (16 * p + a)), vI k, l6, l7] [] Q) := by
              refine r_note hA hR hT' hvb hrv (fun m2 h2 z1 z2 z3 z4 z5 z6 => ?_)
              simp only [kon, knt_some, knt_none, Option.toList_some, Option.toList_none, List.cons_append, List.nil_append]
              have R := NX m2 h2 z1 z6 z5 (fun _ _ => z4)
              refine s289_108.mpr (s289_109.mpr (s289_112.mpr ?_))
              try simp (disch := first | decide | assumption | omega) only [fAdd_id]
              exact R
            refine s289_47.mpr (s289_49.mpr (s289_51.mpr ((s289_52 kM).mpr ?_)))
            rw [mr_67 hR]
            refine s289_55.mpr (s289_57.mpr (s289_58.mpr (s289_59.mpr (s289_60.mpr ?_))))
            try simp (disch := first | decide | assumption | omega) only [x97, x98, x99, fAdd_id, fMul_id]
            refine (s289_61 (hA.k (by decide) (by decide) rfl) (by first | assumption | omega) (by first | assumption | omega)).mpr ?_
            refine s289_62.mpr ?_
            try simp (disch := first | decide | assumption | omega) only [x97, x98, x99, fAdd_id, fMul_id]
            refine s289_63.mpr (wif (fun c63 => ?_) (fun c63 => ?_))
            · first
              | (exfalso; omega)
              | skip
                refine s289_66.mpr ((s289_67 kM).mpr ?_)
                rw [mr_69 hR]
                refine s289_70.mpr (s289_72.mpr (s289_74.mpr ?_))
                try simp (disch := first | decide | assumption | omega) only [x97, x98, x99, fAdd_id, fMul_id]
                refine (s289_75 (hA.k (by decide) (by decide) rfl) (by first | assumption | omega) (by first | assumption | omega)).mpr ?_
                refine s289_76.mpr ?_
                try simp (disch := first | decide | assumption | omega) only [x97, x98, x99, fAdd_id, fMul_id]
                refine s289_77.mpr (wif (fun c77 => ?_) (fun c77 => ?_))
                · first
                  | (exfalso; omega)
                  | skip
                    refine s289_80.mpr ((s289_81 kM).mpr ?_)
                    rw [mr_68 hR]
                    refine s289_84.mpr (s289_86.mpr (s289_88.mpr ?_))
                    try simp (disch := first | decide | assumption | omega) only [x97, x98, x99, fAdd_id, fMul_id]
                    refine (s289_89 (hA.k (by decide) (by decide) rfl) (by first | assumption | omega) (by first | assumption | omega)).mpr ?_
                    try simp (disch := first | decide | assumption | omega) only [x97, x98, x99, fAdd_id, fMul_id]
                    refine s289_90.mpr (wif (fun c90 => ?_) (fun c90 => ?_))
                    · first
                      | (exfalso; omega)
                      | skip
                        refine s289_93.mpr (s289_94.mpr ((s289_95 kM).mpr ?_))
                        rw [mr_68 hR]
                        refine s289_98.mpr (s289_100.mpr (s289_102.mpr ?_))
                        try simp (disch := first | decide | assumption | omega) only [x97, x98, x99, fAdd_id, fMul_id]
                        refine (s289_103 (hA.k (by decide) (by decide) rfl) (by first | assumption | omega) (by first | assumption | omega)).mpr ?_
                        refine s289_104.mpr ?_
                        try simp (disch := first | decide | assumption | omega) only [x97, x98, x99, fAdd_id, fMul_id]
                        refine (s289_105 (by omega) kM).mpr ?_
                        exact R105
                    · first
                      | (exfalso; omega)
                      | skip
                        exfalso; omega
                · first
                  | (exfalso; omega)
                  | skip
                    exfalso; omega
            · first
              | (exfalso; omega)
              | skip
                exfalso; omega
          · have R := NX m' h' hT' FW.rf (fun _ z => z) (fun z1 z2 => absurd ⟨z1, z2⟩ cn)
            refine s289_47.mpr (s289_49.mpr (s289_51.mpr ((s289_52 kM).mpr ?_)))
            rw [mr_67 hR]
            refine s289_55.mpr (s289_57.mpr (s289_58.mpr (s289_59.mpr (s289_60.mpr ?_))))
            try simp (disch := first | decide | assumption | omega) only [x97, x98, x99, fAdd_id, fMul_id]
            refine (s289_61 (hA.k (by decide) (by decide) rfl) (by first | assumption | omega) (by first | assumption | omega)).mpr ?_
            refine s289_62.mpr ?_
            try simp (disch := first | decide | assumption | omega) only [x97, x98, x99, fAdd_id, fMul_id]
            refine s289_63.mpr (wif (fun c63 => ?_) (fun c63 => ?_))
            · first
              | (exfalso; omega)
              | skip
                refine s289_66.mpr ((s289_67 kM).mpr ?_)
                rw [mr_69 hR]
                refine s289_70.mpr (s289_72.mpr (s289_74.mpr ?_))
                try simp (disch := first | decide | assumption | omega) only [x97, x98, x99, fAdd_id, fMul_id]
                refine (s289_75 (hA.k (by decide) (by decide) rfl) (by first | assumption | omega) (by first | assumption | omega)).mpr ?_
                refine s289_76.mpr ?_
                try simp (disch := first | decide | assumption | omega) only [x97, x98, x99, fAdd_id, fMul_id]
                refine s289_77.mpr (wif (fun c77 => ?_) (fun c77 => ?_))
                · first
                  | (exfalso; omega)
                  | skip
                    refine s289_80.mpr ((s289_81 kM).mpr ?_)
                    rw [mr_68 hR]
                    refine s289_84.mpr (s289_86.mpr (s289_88.mpr ?_))
                    try simp (disch := first | decide | assumption | omega) only [x97, x98, x99, fAdd_id, fMul_id]
                    refine (s289_89 (hA.k (by decide) (by decide) rfl) (by first | assumption | omega) (by first | assumption | omega)).mpr ?_
                    try simp (disch := first | decide | assumption | omega) only [x97, x98, x99, fAdd_id, fMul_id]
                    refine s289_90.mpr (wif (fun c90 => ?_) (fun c90 => ?_))
                    · first
                      | (exfalso; omega)
                      | skip
                        refine s289_93.mpr ?_
                        exfalso; omega
                    · first
                      | (exfalso; omega)
                      | skip
                        refine s289_109.mpr (s289_112.mpr ?_)
                        try simp (disch := first | decide | assumption | omega) only [x97, x98, x99, fAdd_id, fMul_id]
                        exact R
                · first
                  | (exfalso; omega)
                  | skip
                    refine s289_109.mpr (s289_112.mpr ?_)
                    try simp (disch := first | decide | assumption | omega) only [x97, x98, x99, fAdd_id, fMul_id]
                    exact R
            · first
              | (exfalso; omega)
              | skip
                exfalso; omega
      have NX := T47 (10 + n9).toNat 0 m h l6 l7 (by omega) (Int.le_refl _) hT w (fun _ z => z) (fun _ _ _ z => absurd z (by omega))
      have R39 : Ev (d - 1) 283 [vI p, vI a, vI 0] al h hr (kon d 289 39 42 [vR (some 49), vI p, vI m, vI a, l4, l5, l6, l7] [] Q) := by
        refine r_local ⟨p0, p1⟩ ⟨j0, by omega⟩ (by decide) ?_
        simp only [kon, knt_some, knt_none, Option.toList_some, Option.toList_none, List.cons_append, List.nil_append, Int.add_zero]
        refine s289_42.mpr (s289_44.mpr (s289_45.mpr ?_))
        exact NX
      refine s289_26.mpr (s289_27.mpr ((s289_28 kM).mpr ?_))
      rw [mr_64 hR]
      refine s289_31.mpr ?_
      refine (s289_32 (hA.k (by decide) (by decide) rfl) (by first | assumption | omega) (by first | assumption | omega)).mpr ?_
      try simp (disch := first | decide | assumption | omega) only [x94]
      refine s289_33.mpr (wif (fun c33 => ?_) (fun c33 => ?_))
      · skip
        refine s289_36.mpr (s289_37.mpr (s289_38.mpr ?_))
        refine (s289_39 (by omega)).mpr ?_
        exact R39
      · skip
        exfalso; omega
  -- nothing is noted
  have T2 : ∀ (j : Nat) (k : Int) h l3 l4 l5 l6 l7, k + j = 1025 → 1 ≤ k → FW wNt hi h → (∀ i, 1 ≤ i → i < k → h 102 i = 0) → Wp d 289 2 [vR (some 49), vI p, vI k, l3, l4, l5, l6, l7] [] al h hr Q := by
    intro j
    induction j with
    | zero =>
      intro k h l3 l4 l5 l6 l7 hj k0 w hz
      have NX := fun l4 l5 l6 l7 => T26 (s 94 p).toNat 0 0 h l4 l5 l6 l7 (by omega) (Int.le_refl _) ⟨⟨Int.le_refl _, by decide⟩, fun i z0 z1 => absurd z1 (by omega), fun b z0 z1 => ⟨Or.inl (hz b z0 (by omega)), fun z => by rw [hz b z0 (by omega)] at z; exact absurd z (by decide)⟩⟩ w (fun a' k' b z0 z1 => absurd z1 (by omega))
      refine s289_2.mpr (s289_3.mpr ?_)
      refine s289_6.mpr (wif (fun c6 => ?_) (fun c6 => ?_))
      · skip
        exfalso; omega
      · skip
        refine s289_22.mpr (s289_23.mpr (s289_24.mpr (s289_25.mpr ?_)))
        exact NX _ _ _ _
    | succ j ih =>
      intro k h l3 l4 l5 l6 l7 hj k0 w hz
      have NX := ih (k + 1) (upI h 102 k 0) l3 l4 l5 l6 l7 (by omega) (by omega) (w.up (Or.inl rfl)) (fun i z0 z1 => by
        by_cases y : i = k
        · subst y; exact upI_eq
        · rw [upI_i y]; exact hz i z0 (by omega))
      refine s289_2.mpr (s289_3.mpr ?_)
      refine s289_6.mpr (wif (fun c6 => ?_) (fun c6 => ?_))
      · skip
        refine s289_9.mpr ((s289_10 kM).mpr ?_)
        rw [mr_72 hR]
        refine s289_13.mpr (s289_14.mpr ?_)
        refine (s289_15Z (hA.k (by decide) (by decide) rfl) (by first | assumption | omega) (by first | assumption | omega)).mpr ?_
        refine s289_16.mpr (s289_19.mpr ?_)
        try simp (disch := first | decide | assumption | omega) only [fAdd_id]
        exact NX
      · skip
        exfalso; omega
  have NX := fun l3 l4 l5 l6 l7 => T2 1024 1 hi l3 l4 l5 l6 l7 (by decide) (Int.le_refl _) FW.rf (fun i z0 z1 => absurd z1 (by omega))
  rw [e289]
  refine s289_0.mpr (s289_1.mpr ?_)
  exact NX _ _ _ _ _
end RE0
