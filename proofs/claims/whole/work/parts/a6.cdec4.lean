section CD4
variable {d : Nat} {al : AL} {hi : HI} {hr : HR} {Q : QQ} {B : Int → Int} {N : Nat} {n nm : Int}
theorem prL_ok {lim lo hg p q : Int} (h : prL B lim lo hg p = .ok q) : q = p + 1 ∧ p < lim ∧ lo ≤ B p ∧ B p ≤ hg ∧ 0 ≤ B p := by
  unfold prL at h
  split at h
  · cases h; exact ⟨rfl, by assumption⟩
  · cases h
theorem prL_er {lim lo hg p q : Int} (h : prL B lim lo hg p = .error q) : q = p ∧ ¬ (p < lim ∧ lo ≤ B p ∧ B p ≤ hg ∧ 0 ≤ B p) := by
  unfold prL at h
  split at h
  · cases h
  · cases h; exact ⟨rfl, by assumption⟩
/-- reading n parts, or a fault on the way -/
def LJ (f : Int → Ex) (m : Nat) (q0 : Int) (hb : HI) (i : Nat) (hi' : HI) : Prop := (∃ p', lpE f i q0 = .ok p' ∧ hi' = upI hb 6 3 p' ∧ 0 ≤ p') ∨ (∃ q, lpE f m q0 = .error q ∧ EF hb hi' q)
theorem LJ.fw {f : Int → Ex} {m i : Nat} {q0 : Int} {hb hi' : HI} (h : LJ f m q0 hb i hi') : FW (wY 6) hb hi' := by
  rcases h with ⟨p', -, rfl, -⟩ | ⟨q, -, h⟩
  · exact FW.up FW.rf ⟨rfl, by omega⟩
  · exact h.1
theorem LJ.en {f : Int → Ex} {m : Nat} {q0 : Int} {hb hi' : HI} {P : HI → Prop} (h : LJ f m q0 hb m hi') (hq : kEx (lpE f m q0) (fun p' => P (upI hb 6 3 p')) (fun q => ∀ hi', EF hb hi' q → P hi')) : P hi' := by
  rcases h with ⟨p', e, rfl, -⟩ | ⟨q, e, h⟩
  · rw [e] at hq; exact hq
  · rw [e] at hq; exact hq hi' h
theorem b_takeWord {b : Nat} {p : Int} (h : BY al hi hr 6 b n B) (hd : 2 ≤ d) (hp : hi 6 3 = p) (h0 : 0 ≤ p)
    (fm : hi 6 4 ≠ 0 → ∀ x, Q (some (some (vI x))) al hi hr)
    (hq : hi 6 4 = 0 → kEx (lpE (prL B (hi 6 2) 0 255) 4 p) (fun p' => ∀ x, Q (some (some (vI x))) al (upI hi 6 3 p') hr) (fun q => ∀ hi', EF hi hi' q → ∀ x, Q (some (some (vI x))) al hi' hr)) : Ev d 17 [vR (some 6)] al hi hr Q := by
  have k6 := h.1
  rw [e17]
  by_cases c4 : hi 6 4 = 0
  · have hq := hq c4
    have T4 : Wp d 17 4 [vR (some 6), vI 0, vI 0] [] al hi hr Q := by
      refine wp_cnt (N := 4) (fun i ls hi' => (∃ x, ls = [vR (some 6), vI x, vI i]) ∧ LJ (prL B (hi 6 2) 0 255) 4 p hi i hi') ?_ ?_ _ _ ⟨⟨0, rfl⟩, Or.inl ⟨p, rfl, by rw [upI_same hp], h0⟩⟩
      · rintro i ls hi' hi4 ⟨⟨x, rfl⟩, hJ⟩ nx
        have hB := h.fw hJ.fw
        rcases hJ with ⟨p', e, rfl, p0⟩ | ⟨q, e, hE⟩
        · have r3 : (upI hi 6 3 p') 6 3 = p' := upI_eq
          have r2 : (upI hi 6 3 p') 6 2 = hi 6 2 := upI_i (by decide)
          have r4 : (upI hi 6 3 p') 6 4 = hi 6 4 := upI_i (by decide)
          have hx := h.tx p'
          refine s17_4.mpr (s17_5.mpr ?_)
          refine s17_6.mpr (wif (fun c6 => ?_) (fun c6 => ?_))
          · first
            | (exfalso; omega)
            | skip
              refine s17_9.mpr (s17_10.mpr (s17_12.mpr (s17_13.mpr ?_)))
              try simp (disch := first | decide | assumption | omega) only [kon, knt_some, knt_none, Option.toList_some, Option.toList_none, List.cons_append, List.nil_append, fAdd_id]
              refine (s17_14 (by first | decide | assumption | omega) (by first | decide | assumption | omega)).mpr ?_
              refine b_take hB (by omega) (by rw [r3]; exact p0) (fun q => absurd c4 (by rw [r4] at q; exact q)) (fun _ qE => ?_) (fun _ q1 q2 => ?_)
              all_goals (try rw [r3, r2] at qE)
              all_goals (try rw [r3] at q2)
              all_goals (try rw [r3, r2] at q1)
              · skip
                refine s17_17.mpr (s17_18.mpr (s17_19.mpr (s17_22.mpr ?_)))
                try simp (disch := first | decide | assumption | omega) only [kon, knt_some, knt_none, Option.toList_some, Option.toList_none, List.cons_append, List.nil_append, fAdd_id]
                first
                | (refine nx _ _ ⟨⟨_, rfl⟩, Or.inr ⟨p', lpE_err (by omega) e (if_neg (fun q => qE ⟨q.1, q.2.2.2⟩)), ?_⟩⟩
                   exact ⟨FW.up (FW.up (FW.up FW.rf ⟨rfl, by omega⟩) ⟨rfl, by omega⟩) ⟨rfl, by omega⟩, by (try simp (disch := decide) only [upI_eq, upI_a, upI_i, upR_eq, upR_a, upR_i]), by (try simp (disch := decide) only [upI_eq, upI_a, upI_i, upR_eq, upR_a, upR_i]), by (try simp (disch := decide) only [upI_eq, upI_a, upI_i, upR_eq, upR_a, upR_i]); exact p0⟩)
                | (refine nx _ _ ⟨⟨_, rfl⟩, Or.inl ⟨p' + 1, ?_, by rw [upI_up, r3], by omega⟩⟩
                   rw [lpE_s, e, bnd_ok]
                   exact if_pos ⟨q1, q2, by omega, q2⟩)
              · skip
                refine s17_17.mpr (s17_18.mpr (s17_19.mpr (s17_22.mpr ?_)))
                try simp (disch := first | decide | assumption | omega) only [kon, knt_some, knt_none, Option.toList_some, Option.toList_none, List.cons_append, List.nil_append, fAdd_id]
                first
                | (refine nx _ _ ⟨⟨_, rfl⟩, Or.inr ⟨p', lpE_err (by omega) e (if_neg (fun q => qE ⟨q.1, q.2.2.2⟩)), ?_⟩⟩
                   exact ⟨FW.up (FW.up (FW.up FW.rf ⟨rfl, by omega⟩) ⟨rfl, by omega⟩) ⟨rfl, by omega⟩, by (try simp (disch := decide) only [upI_eq, upI_a, upI_i, upR_eq, upR_a, upR_i]), by (try simp (disch := decide) only [upI_eq, upI_a, upI_i, upR_eq, upR_a, upR_i]), by (try simp (disch := decide) only [upI_eq, upI_a, upI_i, upR_eq, upR_a, upR_i]); exact p0⟩)
                | (refine nx _ _ ⟨⟨_, rfl⟩, Or.inl ⟨p' + 1, ?_, by rw [upI_up, r3], by omega⟩⟩
                   rw [lpE_s, e, bnd_ok]
                   exact if_pos ⟨q1, q2, by omega, q2⟩)
          · first
            | (exfalso; omega)
            | skip
              refine s17_25.mpr ?_
              refine (s17_26).mpr ?_
              exfalso; omega
        · have e4 : hi' 6 4 ≠ 0 := by rw [hE.2.1]; decide
          refine s17_4.mpr (s17_5.mpr ?_)
          refine s17_6.mpr (wif (fun c6 => ?_) (fun c6 => ?_))
          · first
            | (exfalso; omega)
            | skip
              refine s17_9.mpr (s17_10.mpr (s17_12.mpr (s17_13.mpr ?_)))
              try simp (disch := first | decide | assumption | omega) only [kon, knt_some, knt_none, Option.toList_some, Option.toList_none, List.cons_append, List.nil_append, fAdd_id]
              refine (s17_14 (by first | decide | assumption | omega) (by first | decide | assumption | omega)).mpr ?_
              refine b_take hB (by omega) hE.2.2.2 (fun _ => ?_) (fun q => absurd q e4) (fun q => absurd q e4)
              refine s17_17.mpr (s17_18.mpr (s17_19.mpr (s17_22.mpr ?_)))
              try simp (disch := first | decide | assumption | omega) only [kon, knt_some, knt_none, Option.toList_some, Option.toList_none, List.cons_append, List.nil_append, fAdd_id]
              exact nx _ _ ⟨⟨_, rfl⟩, Or.inr ⟨q, e, hE⟩⟩
          · first
            | (exfalso; omega)
            | skip
              refine s17_25.mpr ?_
              refine (s17_26).mpr ?_
              exfalso; omega
      · rintro ls hi' ⟨⟨x, rfl⟩, hJ⟩
        refine s17_4.mpr (s17_5.mpr ?_)
        refine s17_6.mpr (wif (fun c6 => ?_) (fun c6 => ?_))
        · first
          | (exfalso; omega)
          | skip
            exfalso; omega
        · first
          | (exfalso; omega)
          | skip
            refine s17_25.mpr ?_
            refine (s17_26).mpr ?_
            exact LJ.en (P := fun h => ∀ x, Q (some (some (vI x))) al h hr) hJ hq _
    refine s17_0.mpr (s17_1.mpr (s17_2.mpr (s17_3.mpr ?_)))
    exact T4
  · have fm := fm c4
    have T4 : Wp d 17 4 [vR (some 6), vI 0, vI 0] [] al hi hr Q := by
      refine wp_cnt (N := 4) (fun i ls hi' => (∃ x, ls = [vR (some 6), vI x, vI i]) ∧ hi' = hi) ?_ ?_ _ _ ⟨⟨0, rfl⟩, rfl⟩
      · rintro i ls hi' hi4 ⟨⟨x, rfl⟩, rfl⟩ nx
        refine s17_4.mpr (s17_5.mpr ?_)
        refine s17_6.mpr (wif (fun c6 => ?_) (fun c6 => ?_))
        · first
          | (exfalso; omega)
          | skip
            refine s17_9.mpr (s17_10.mpr (s17_12.mpr (s17_13.mpr ?_)))
            try simp (disch := first | decide | assumption | omega) only [kon, knt_some, knt_none, Option.toList_some, Option.toList_none, List.cons_append, List.nil_append, fAdd_id]
            refine (s17_14 (by first | decide | assumption | omega) (by first | decide | assumption | omega)).mpr ?_
            refine b_take h (by omega) (by omega) (fun _ => ?_) (fun q => absurd q c4) (fun q => absurd q c4)
            refine s17_17.mpr (s17_18.mpr (s17_19.mpr (s17_22.mpr ?_)))
            try simp (disch := first | decide | assumption | omega) only [kon, knt_some, knt_none, Option.toList_some, Option.toList_none, List.cons_append, List.nil_append, fAdd_id]
            exact nx _ _ ⟨⟨_, rfl⟩, rfl⟩
        · first
          | (exfalso; omega)
          | skip
            refine s17_25.mpr ?_
            refine (s17_26).mpr ?_
            exfalso; omega
      · rintro ls hi' ⟨⟨x, rfl⟩, rfl⟩
        refine s17_4.mpr (s17_5.mpr ?_)
        refine s17_6.mpr (wif (fun c6 => ?_) (fun c6 => ?_))
        · first
          | (exfalso; omega)
          | skip
            exfalso; omega
        · first
          | (exfalso; omega)
          | skip
            refine s17_25.mpr ?_
            refine (s17_26).mpr ?_
            exact fm _
    refine s17_0.mpr (s17_1.mpr (s17_2.mpr (s17_3.mpr ?_)))
    exact T4
/-- what stands behind an instruction's first byte, as the class numbers it -/
def oprC (x : Int) : Int := if x ∈ ([0] : List Int) then 1 else if x ∈ ([2, 3] : List Int) then 2 else if x ∈ ([20, 21] : List Int) then 3 else if x ∈ ([22, 26] : List Int) then 4 else if x ∈ ([23, 24, 33, 34] : List Int) then 5 else if x ∈ ([30, 40] : List Int) then 6 else if x ∈ ([32] : List Int) then 7 else if x ∈ ([36] : List Int) then 8 else if x ∈ ([37] : List Int) then 9 else if x ∈ ([38] : List Int) then 10 else 0
/-- the class's row of them -/
def OPS (al : AL) (hi : HI) : Prop := al.2.2 0 = (21, 44) ∧ ∀ k, 0 ≤ k → k < 44 → hi 0 k = oprC k
noncomputable def insC (nm : Int) (B : Int → Int) (e L c l p : Int) : Ex := (prL B e 0 43 p).bind fun q =>
  if oprC (B p) = 1 then lpE (prL B e 0 255) 4 q
  else if oprC (B p) = 2 then prL B e 0 (L - 1) q
  else if oprC (B p) = 3 then tgD B c l nm e q
  else if oprC (B p) = 4 then naD B nm e (nRec B) q
  else if oprC (B p) = 5 then prL B e 0 5 q
  else if oprC (B p) = 6 then naD B nm e (nFn B) q
  else if oprC (B p) = 7 then blD B nm e q
  else if oprC (B p) = 8 then naD B nm e (nCtr B) q
  else if oprC (B p) = 9 then prL B e 0 3 q
  else if oprC (B p) = 10 then (prL B e 1 4 q).bind (lpE (tgD B c l nm e) (B q).toNat)
  else .ok q
def oL : List Int := [20, 21, 22, 26, 32, 36, 30, 40, 38]
def oprF (x : Int) : Prop := (oprC x = 0 ∧ oprn x = 0 ∧ x ∉ oL) ∨ (oprC x = 1 ∧ oprn x = 1 ∧ x ∉ oL) ∨ (oprC x = 2 ∧ oprn x = 2 ∧ x ∉ oL) ∨ (oprC x = 5 ∧ oprn x = 5 ∧ x ∉ oL) ∨ (oprC x = 9 ∧ oprn x = 9 ∧ x ∉ oL) ∨ (oprC x = 3 ∧ oprn x = 3 ∧ (x = 20 ∨ x = 21)) ∨ (oprC x = 4 ∧ oprn x = 3 ∧ (x = 22 ∨ x = 26)) ∨ (oprC x = 6 ∧ oprn x = 3 ∧ (x = 30 ∨ x = 40)) ∨ (oprC x = 7 ∧ oprn x = 3 ∧ x = 32) ∨ (oprC x = 8 ∧ oprn x = 3 ∧ x = 36) ∨ (oprC x = 10 ∧ oprn x = 10 ∧ x = 38)
set_option maxRecDepth 20000 in
theorem opr_f (x : Int) (h0 : 0 ≤ x) (h1 : x ≤ 43) : oprF x := by
  have h : ∀ y : Fin 44, oprF ((y.val : Nat) : Int) := by unfold oprF; decide
  have := h ⟨x.toNat, by omega⟩
  rw [show (((⟨x.toNat, by omega⟩ : Fin 44).val : Nat) : Int) = x from by show ((x.toNat : Nat) : Int) = x; omega] at this
  exact this
theorem lpE_cg {f g : Int → Ex} (P : Nat → Int → Prop) (h1 : ∀ k r, P (k + 1) r → f r = g r) (h2 : ∀ k r r', P (k + 1) r → f r = .ok r' → P k r') : ∀ k q, P k q → lpE f k q = lpE g k q
  | 0, _, _ => rfl
  | k + 1, q, h => by
    show (f q).bind (lpE f k) = (g q).bind (lpE g k)
    rw [← h1 k q h]
    cases e : f q with
    | error _ => rfl
    | ok q' => exact lpE_cg P h1 h2 k q' (h2 k q q' h e)
theorem prL_t {e lo hg p : Int} (hp : p ≤ e) (h0 : 0 ≤ lo) : prL B e lo hg p = prt B e lo hg p := by
  unfold prL prt nmb
  by_cases c : p = e
  · rw [if_pos c, if_neg (by omega)]
  · rw [if_neg c]
    by_cases c2 : lo ≤ B p ∧ B p ≤ hg
    · rw [if_pos c2, if_pos (by omega)]
    · rw [if_neg c2, if_neg (by omega)]
theorem naD_t {e c p : Int} (hx : TX B n) (hp : p ≤ e) (h : nm = 0) : naD B nm e c p = prt B e 0 255 p := by
  have := (hx p).1
  unfold naD prt nmb
  by_cases c1 : p = e
  · rw [if_pos c1, if_neg (fun q => by omega)]
  · rw [if_neg c1]
    by_cases c2 : 0 ≤ B p
    · rw [if_pos ⟨by omega, c2, by omega⟩, if_pos (by omega)]
    · rw [if_neg (fun q => c2 q.2.1), if_neg (by omega)]
theorem tgD_t {c l e p : Int} (hx : TX B n) (hp : p ≤ e) (h : nm = 0) : tgD B c l nm e p = prt B e 0 255 p := by
  have := (hx p).1
  unfold tgD prt nmb
  by_cases c1 : p = e
  · rw [if_pos c1, if_neg (fun q => by have := q.1; omega)]
  · rw [if_neg c1]
    by_cases c2 : 0 ≤ B p
    · rw [if_pos ⟨by omega, c2, by omega⟩, if_pos (by omega)]
    · rw [if_neg (fun q => c2 q.2.1), if_neg (by omega)]
theorem blD_t {e p : Int} (hx : TX B n) (hp : p ≤ e) (h : nm = 0) : blD B nm e p = prt B e 0 255 p := by
  have := (hx p).1
  unfold blD prt nmb
  by_cases c1 : p = e
  · rw [if_pos c1, if_neg (fun q => by have := q.1; omega)]
  · rw [if_neg c1]
    by_cases c2 : 0 ≤ B p
    · rw [if_pos ⟨by omega, c2, by omega⟩, if_pos (by omega)]
    · rw [if_neg (fun q => c2 q.2.1), if_neg (by omega)]
theorem insC_0 {e L c l p : Int} (hx : TX B n) (hp : p ≤ e) (h : nm = 0) (hL : 0 ≤ L) : insC nm B e L c l p = insP B e L p := by
  unfold insC insP
  rw [prL_t hp (by decide)]
  cases hq : prt B e 0 43 p with
  | error q => rfl
  | ok q =>
    obtain ⟨rfl, h1, h2, h3⟩ := prt_ok hq
    rw [bnd_ok, bnd_ok]
    have hp1 : p + 1 ≤ e := by omega
    unfold insK
    rcases opr_f (B p) h2 h3 with ⟨q1, q2, -⟩ | ⟨q1, q2, -⟩ | ⟨q1, q2, -⟩ | ⟨q1, q2, -⟩ | ⟨q1, q2, -⟩ | ⟨q1, q2, -⟩ | ⟨q1, q2, -⟩ | ⟨q1, q2, -⟩ | ⟨q1, q2, -⟩ | ⟨q1, q2, -⟩ | ⟨q1, q2, -⟩ <;> rw [q1, q2] <;> simp (config := { decide := true }) only [if_true, if_false]
    · exact lpE_cg (fun _ r => r ≤ e) (fun _ r hr => prL_t hr (by decide)) (fun _ r r' hr e9 => by have := prL_ok e9; omega) _ _ hp1
    · by_cases c0 : L = 0
      · rw [if_pos c0]; unfold prL; rw [if_neg (by omega)]
      · rw [if_neg c0]; exact prL_t hp1 (by decide)
    · exact prL_t hp1 (by decide)
    · exact prL_t hp1 (by decide)
    · exact tgD_t hx hp1 h
    · exact naD_t hx hp1 h
    · exact naD_t hx hp1 h
    · exact blD_t hx hp1 h
    · exact naD_t hx hp1 h
    · rw [prL_t hp1 (by decide)]
      cases hq2 : prt B e 1 4 (p + 1) with
      | error q => rfl
      | ok q =>
        obtain ⟨rfl, h4, h5, h6⟩ := prt_ok hq2
        exact lpE_cg (fun _ r => r ≤ e) (fun _ r hr => tgD_t hx hr h) (fun _ r r' hr e9 => by rw [tgD_t hx hr h] at e9; have := prt_ok e9; omega) _ _ (by omega)
theorem insN_o {c l q : Int} (h : B q ∉ oL) : insN B c l q = .ok (q + ilen B q) := by
  unfold insN
  rw [if_neg (fun z => h (by simp only [oL, List.mem_cons, List.not_mem_nil, or_false] at z ⊢; omega)), if_neg (fun z => h (by simp only [oL, List.mem_cons, List.not_mem_nil, or_false] at z ⊢; omega)), if_neg (fun z => h (by simp only [oL, List.mem_cons, List.not_mem_nil, or_false] at z ⊢; omega)), if_neg (fun z => h (by simp only [oL, List.mem_cons, List.not_mem_nil, or_false] at z ⊢; omega)), if_neg (fun z => h (by simp only [oL, List.mem_cons, List.not_mem_nil, or_false] at z ⊢; omega)), if_neg (fun z => h (by simp only [oL, List.mem_cons, List.not_mem_nil, or_false] at z ⊢; omega))]
theorem insC_1 {e L c l p p' : Int} (hp : p ≤ e) (h : nm = 1) (hL : 0 ≤ L) (hI : insP B e L p = .ok p') : insC nm B e L c l p = insN B c l p := by
  unfold insP at hI
  cases hq : prt B e 0 43 p with
  | error q => rw [hq] at hI; cases hI
  | ok q =>
    obtain ⟨rfl, h1, h2, h3⟩ := prt_ok hq
    rw [hq, bnd_ok] at hI
    unfold insC
    rw [prL_t hp (by decide), hq, bnd_ok]
    have hp1 : p + 1 ≤ e := by omega
    unfold insK at hI
    have kx : ∀ lo hg, prt B e lo hg (p + 1) = .ok p' → 0 ≤ lo → p + 1 < e ∧ 0 ≤ B (p + 1) := fun lo hg hk hl => by have := prt_ok hk; omega
    rcases opr_f (B p) h2 h3 with ⟨q1, q2, q3⟩ | ⟨q1, q2, q3⟩ | ⟨q1, q2, q3⟩ | ⟨q1, q2, q3⟩ | ⟨q1, q2, q3⟩ | ⟨q1, q2, q3⟩ | ⟨q1, q2, q3⟩ | ⟨q1, q2, q3⟩ | ⟨q1, q2, q3⟩ | ⟨q1, q2, q3⟩ | ⟨q1, q2, q3⟩ <;> rw [q2] at hI <;> rw [q1] <;> simp (config := { decide := true }) only [if_true, if_false] at hI ⊢
    · rw [insN_o q3]; unfold ilen; rw [q2]; simp (config := { decide := true }) only [if_true, if_false]
    · rw [insN_o q3, lpE_cg (g := prt B e 0 255) (fun _ r => r ≤ e) (fun _ r hr => prL_t hr (by decide)) (fun _ r r' hr e9 => by have := prL_ok e9; omega) _ _ hp1, hI]
      unfold ilen; rw [q2]; simp (config := { decide := true }) only [if_true, if_false]
      have := lpE_itr (g := fun q => q + 1) (fun q q' h => (prt_ok h).1) _ _ _ hI
      rw [this]; show Except.ok (p + 1 + 1 + 1 + 1 + 1) = _; congr 1; omega
    · rw [insN_o q3]; unfold ilen; rw [q2]; simp (config := { decide := true }) only [if_true, if_false]
      by_cases c0 : L = 0
      · rw [if_pos c0] at hI; cases hI
      · rw [if_neg c0] at hI; rw [prL_t hp1 (by decide), hI, (prt_ok hI).1]; congr 1; omega
    · rw [insN_o q3]; unfold ilen; rw [q2]; simp (config := { decide := true }) only [if_true, if_false]
      rw [prL_t hp1 (by decide), hI, (prt_ok hI).1]; congr 1; omega
    · rw [insN_o q3]; unfold ilen; rw [q2]; simp (config := { decide := true }) only [if_true, if_false]
      rw [prL_t hp1 (by decide), hI, (prt_ok hI).1]; congr 1; omega
    · have u := kx _ _ hI (by decide)
      have il : ilen B p = 2 := by unfold ilen; rw [q2]; rfl
      unfold insN
      rw [if_pos (by simp only [List.mem_cons, List.not_mem_nil, or_false]; exact q3), il]
      unfold tgD
      by_cases cc : bgn B c l (B (p + 1))
      · rw [ckE_y cc, if_pos ⟨u.1, u.2, fun _ => cc⟩]; congr 1; omega
      · rw [ckE_n cc, if_neg (fun z => cc (z.2.2 h))]
    · have u := kx _ _ hI (by decide)
      have il : ilen B p = 2 := by unfold ilen; rw [q2]; rfl
      unfold insN
      rw [if_neg (by simp only [List.mem_cons, List.not_mem_nil, or_false]; omega), if_pos (by simp only [List.mem_cons, List.not_mem_nil, or_false]; exact q3), il]
      unfold naD
      by_cases cc : B (p + 1) < nRec B
      · rw [ckE_y cc, if_pos ⟨u.1, u.2, fun _ => cc⟩]; congr 1; omega
      · rw [ckE_n cc, if_neg (fun z => cc (z.2.2 h))]
    · have u := kx _ _ hI (by decide)
      have il : ilen B p = 2 := by unfold ilen; rw [q2]; rfl
      unfold insN
      rw [if_neg (by simp only [List.mem_cons, List.not_mem_nil, or_false]; omega), if_neg (by simp only [List.mem_cons, List.not_mem_nil, or_false]; omega), if_neg (by simp only [List.mem_cons, List.not_mem_nil, or_false]; omega), if_neg (by simp only [List.mem_cons, List.not_mem_nil, or_false]; omega), if_pos (by simp only [List.mem_cons, List.not_mem_nil, or_false]; exact q3), il]
      unfold naD
      by_cases cc : B (p + 1) < nFn B
      · rw [ckE_y cc, if_pos ⟨u.1, u.2, fun _ => cc⟩]; congr 1; omega
      · rw [ckE_n cc, if_neg (fun z => cc (z.2.2 h))]
    · have u := kx _ _ hI (by decide)
      have il : ilen B p = 2 := by unfold ilen; rw [q2]; rfl
      unfold insN
      rw [if_neg (by simp only [List.mem_cons, List.not_mem_nil, or_false]; omega), if_neg (by simp only [List.mem_cons, List.not_mem_nil, or_false]; omega), if_pos (by simp only [List.mem_cons, List.not_mem_nil, or_false]; exact q3), il]
      unfold blD
      by_cases cc : B (p + 1) < nRec B ∧ plainR B (B (p + 1))
      · rw [ckE_y cc, if_pos ⟨u.1, u.2, fun _ => cc⟩]; congr 1; omega
      · rw [ckE_n cc, if_neg (fun z => cc (z.2.2 h))]
    · have u := kx _ _ hI (by decide)
      have il : ilen B p = 2 := by unfold ilen; rw [q2]; rfl
      unfold insN
      rw [if_neg (by simp only [List.mem_cons, List.not_mem_nil, or_false]; omega), if_neg (by simp only [List.mem_cons, List.not_mem_nil, or_false]; omega), if_neg (by simp only [List.mem_cons, List.not_mem_nil, or_false]; omega), if_pos (by simp only [List.mem_cons, List.not_mem_nil, or_false]; exact q3), il]
      unfold naD
      by_cases cc : B (p + 1) < nCtr B
      · rw [ckE_y cc, if_pos ⟨u.1, u.2, fun _ => cc⟩]; congr 1; omega
      · rw [ckE_n cc, if_neg (fun z => cc (z.2.2 h))]
    · unfold insN
      rw [if_neg (by simp only [List.mem_cons, List.not_mem_nil, or_false]; omega), if_neg (by simp only [List.mem_cons, List.not_mem_nil, or_false]; omega), if_neg (by simp only [List.mem_cons, List.not_mem_nil, or_false]; omega), if_neg (by simp only [List.mem_cons, List.not_mem_nil, or_false]; omega), if_neg (by simp only [List.mem_cons, List.not_mem_nil, or_false]; omega), if_pos (by simp only [List.mem_cons, List.not_mem_nil, or_false]; exact q3)]
      cases hq2 : prt B e 1 4 (p + 1) with
      | error q => rw [hq2] at hI; cases hI
      | ok q =>
        obtain ⟨rfl, h4, h5, h6⟩ := prt_ok hq2
        rw [hq2, bnd_ok] at hI
        rw [prL_t hp1 (by decide), hq2, bnd_ok, show p + 1 + 1 = p + 2 by omega]
        rw [show p + 1 + 1 = p + 2 by omega] at hI
        have key : ∀ k r, (∃ r', r ≤ e ∧ lpE (prt B e 0 255) (k + 1) r = .ok r') → prt B e 0 255 r = .ok (r + 1) ∧ r < e ∧ 0 ≤ B r ∧ ∃ r', r + 1 ≤ e ∧ lpE (prt B e 0 255) k (r + 1) = .ok r' := by
          rintro k r ⟨r', hr, e9⟩
          have e9 : (prt B e 0 255 r).bind (lpE (prt B e 0 255) k) = .ok r' := e9
          cases hz : prt B e 0 255 r with
          | error z => rw [hz] at e9; cases e9
          | ok z =>
            obtain ⟨rfl, z1, z2, z3⟩ := prt_ok hz
            rw [hz, bnd_ok] at e9
            exact ⟨rfl, by omega, z2, r', by omega, e9⟩
        refine lpE_cg (fun k r => ∃ r', r ≤ e ∧ lpE (prt B e 0 255) k r = .ok r') (fun k r hr => ?_) (fun k r r' hr e9 => ?_) _ _ ⟨p', by omega, hI⟩
        · obtain ⟨z1, z2, z3, -⟩ := key k r hr
          unfold tgD tgN
          by_cases cc : bgn B c l (B r)
          · rw [ckE_y cc, if_pos ⟨z2, z3, fun _ => cc⟩]
          · rw [ckE_n cc, if_neg (fun z => cc (z.2.2 h))]
        · obtain ⟨z1, z2, z3, z4⟩ := key k r hr
          unfold tgD at e9
          split at e9
          · cases e9; exact z4
          · cases e9
end CD4
