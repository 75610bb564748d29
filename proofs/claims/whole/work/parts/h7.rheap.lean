/-! RUNNING, the reference: items of boxes -/
section RO0
variable {d : Nat} {al : AL} {hi : HI} {hr : HR} {Q : QQ} {s : HI} {p : Int}
/-- what running writes -/
def wRn (a : Nat) (i : Int) : Prop := (87 ≤ a ∧ a ≤ 118) ∨ (a = 49 ∧ 51 ≤ i ∧ i ≤ 56)
theorem RelR.go (hE : RelR hi s) {h' s' : HI} (H : Sm hi s h' s') (w : FW wRn hi h') : RelR h' s' ∧ FW wRn hi h' := ⟨hE.sm H, w⟩
theorem Sm.fw {h0 s0 h s : HI} (H : Sm h0 s0 h s) : FW wRn h0 h := fun a i z => by
  refine (H.2 a i ?_).1
  unfold wRn at z
  unfold hpC
  omega
/-- the place of an item -/
def plc (h : HI) (p b i : Int) : Int := 1024 * p + h 101 (1025 * p + b) + i
theorem LR.b (H : LR hi s p) {b i : Int} (b1 : 1 ≤ b ∧ b ≤ 1024) (h0 : 0 < s 100 (1025 * p + b)) (i0 : 0 ≤ i) (i1 : i < s 100 (1025 * p + b) - 1) : (1024 * p ≤ plc hi p b i ∧ plc hi p b i < 1024 * p + 1024) ∧ hi 103 (plc hi p b i) = s 300 (hx p b i) ∧ hi 104 (plc hi p b i) = s 301 (hx p b i) := by
  obtain ⟨⟨f0, f1⟩, f2⟩ := H.1 b b1.1 b1.2 h0
  have := f2 i i0 i1
  unfold plc
  refine ⟨by omega, this⟩
theorem r_cell {b i : Int} (hA : SA al) (hR : MR hr) (p0 : 0 ≤ p ∧ p < 12) (b1 : 1 ≤ b ∧ b ≤ 1024) (hb : 1024 * p ≤ plc hi p b i ∧ plc hi p b i < 1024 * p + 1024) (hf : 0 ≤ hi 101 (1025 * p + b) ∧ hi 101 (1025 * p + b) ≤ 1024) (q : Q (some (some (vI (plc hi p b i)))) al hi hr) : Ev d 292 [vR (some 49), vI p, vI b, vI i] al hi hr Q := by
  have kM : isK al 49 13 := hA.k (by decide) (by decide) rfl
  have l101 := SA.len (a := 101) (n := 12300) hA (by decide) (by decide) rfl
  rw [e292]
  unfold plc at hb q
  refine s292_0.mpr (s292_3.mpr (s292_4.mpr (s292_5.mpr ((s292_6 kM).mpr ?_))))
  rw [mr_71 hR]
  refine s292_9.mpr (s292_12.mpr (s292_13.mpr (s292_14.mpr (s292_15.mpr ?_))))
  try simp (disch := first | decide | assumption | omega) only [fAdd_id, fMul_id]
  refine (s292_16 (hA.k (by decide) (by decide) rfl) (by first | assumption | omega) (by first | assumption | omega)).mpr ?_
  refine s292_17.mpr (s292_18.mpr (s292_19.mpr ?_))
  try simp (disch := first | decide | assumption | omega) only [fAdd_id, fMul_id]
  refine (s292_20).mpr ?_
  exact q
/-- an item is written, here and there -/
theorem RelR.wr (hE : RelR hi s) (p0 : 0 ≤ p ∧ p < 12) {b i x : Int} (b1 : 1 ≤ b ∧ b ≤ 1024) (h0 : 0 < s 100 (1025 * p + b)) (i0 : 0 ≤ i) (i1 : i < s 100 (1025 * p + b) - 1) : RelR (upI hi 103 (plc hi p b i) x) (upI s 300 (hx p b i) x) ∧ FW wRn hi (upI hi 103 (plc hi p b i) x) := by
  refine ⟨⟨fun a j z => ?_, fun p' q0 q1 => ?_⟩, FW.rf.up (by unfold wRn; omega)⟩
  · rw [upI_a (by omega), upI_a (by omega)]; exact hE.1 a j z
  · obtain ⟨L1, L2⟩ := hE.2 p' q0 q1
    obtain ⟨⟨f0, f1⟩, f2⟩ := (hE.2 p p0.1 p0.2).1 b b1.1 b1.2 h0
    refine ⟨fun b' c1 c2 hb' => ?_, fun b' b'' c1 c2 c3 c4 c5 c6 c7 => ?_⟩
    · rw [upI_a (by decide)] at hb' ⊢
      rw [upI_a (by decide)]
      obtain ⟨⟨g0, g1⟩, g2⟩ := L1 b' c1 c2 hb'
      refine ⟨⟨g0, g1⟩, fun j j0 j1 => ?_⟩
      obtain ⟨g3, g4⟩ := g2 j j0 j1
      rw [upI_a (show (104 : Nat) ≠ 103 by decide), upI_a (show (301 : Nat) ≠ 300 by decide)]
      refine ⟨?_, g4⟩
      by_cases e : p' = p ∧ b' = b ∧ j = i
      · obtain ⟨rfl, rfl, rfl⟩ := e
        have : plc hi p' b' j = 1024 * p' + hi 101 (1025 * p' + b') + j := rfl
        rw [this, upI_eq, upI_eq]
      · have n1 : 1024 * p' + hi 101 (1025 * p' + b') + j ≠ plc hi p b i := by
          unfold plc
          by_cases ep : p' = p
          · subst ep
            by_cases eb : b' = b
            · subst eb; omega
            · have := L2 b' b c1 c2 b1.1 b1.2 eb hb' h0
              omega
          · omega
        have n2 : hx p' b' j ≠ hx p b i := by unfold hx; omega
        rw [upI_i n1, upI_i n2]; exact g3
    · rw [upI_a (by decide)] at c6 c7 ⊢
      rw [upI_a (by decide), upI_a (by decide), upI_a (by decide)]
      exact L2 b' b'' c1 c2 c3 c4 c5 c6 c7
/-- is an index within a list or text -/
theorem r_isAt {b i n : Int} (hA : SA al) (hR : MR hr) (hd : 54 ≤ d) (p0 : 0 ≤ p ∧ p < 12) (hq : QB hi) (hb : b = 0 ∨ (1 ≤ b ∧ b ≤ 1024)) (hn : b ≠ 0 → hi 100 (1025 * p + b) = n) (n0 : 1 ≤ n ∧ n ≤ 1025)
    (z1 : b = 0 → Q (some (some (vI 0))) al (trpS hi p 1) hr) (z2 : b ≠ 0 → ¬ (0 ≤ i ∧ i < n - 1) → Q (some (some (vI 0))) al (trpS hi p 2) hr) (z3 : b ≠ 0 → (0 ≤ i ∧ i < n - 1) → Q (some (some (vI 1))) al hi hr) : Ev d 313 [vR (some 49), vI p, vI b, vI i] al hi hr Q := by
  have kM : isK al 49 13 := hA.k (by decide) (by decide) rfl
  have l100 := SA.len (a := 100) (n := 12300) hA (by decide) (by decide) rfl
  rw [e313]
  by_cases c : b = 0
  · subst c
    have E := z1 rfl
    refine s313_0.mpr ?_
    refine s313_1.mpr (wif (fun c1 => ?_) (fun c1 => ?_))
    · first
      | (exfalso; omega)
      | skip
        refine s313_28.mpr (s313_29.mpr (s313_30.mpr ?_))
        refine s313_31.mpr (wif (fun c31 => ?_) (fun c31 => ?_))
        · first
          | (exfalso; omega)
          | skip
            refine s313_34.mpr (s313_35.mpr ?_)
            refine (s313_39 (by omega) kM).mpr ?_
            refine r_trap hA hR (by omega) hq p0 ?_
            refine s313_42.mpr ?_
            refine (s313_43 (by first | assumption | omega)).mpr ?_
            first | exact E | (exfalso; omega) | exact absurd rfl (by assumption)
        · first
          | (exfalso; omega)
          | skip
            refine s313_38.mpr ?_
            refine (s313_39 (by omega) kM).mpr ?_
            refine r_trap hA hR (by omega) hq p0 ?_
            refine s313_42.mpr ?_
            refine (s313_43 (by first | assumption | omega)).mpr ?_
            first | exact E | (exfalso; omega) | exact absurd rfl (by assumption)
    · first
      | (exfalso; omega)
      | skip
        refine s313_4.mpr ?_
        refine s313_5.mpr (wif (fun c5 => ?_) (fun c5 => ?_))
        · first
          | (exfalso; omega)
          | skip
            refine s313_28.mpr (s313_29.mpr (s313_30.mpr ?_))
            refine s313_31.mpr (wif (fun c31 => ?_) (fun c31 => ?_))
            · first
              | (exfalso; omega)
              | skip
                refine s313_34.mpr (s313_35.mpr ?_)
                refine (s313_39 (by omega) kM).mpr ?_
                refine r_trap hA hR (by omega) hq p0 ?_
                refine s313_42.mpr ?_
                refine (s313_43 (by first | assumption | omega)).mpr ?_
                first | exact E | (exfalso; omega) | exact absurd rfl (by assumption)
            · first
              | (exfalso; omega)
              | skip
                refine s313_38.mpr ?_
                refine (s313_39 (by omega) kM).mpr ?_
                refine r_trap hA hR (by omega) hq p0 ?_
                refine s313_42.mpr ?_
                refine (s313_43 (by first | assumption | omega)).mpr ?_
                first | exact E | (exfalso; omega) | exact absurd rfl (by assumption)
        · first
          | (exfalso; omega)
          | skip
            refine s313_8.mpr (s313_9.mpr ((s313_10 kM).mpr ?_))
            rw [mr_70 hR]
            refine s313_13.mpr (s313_16.mpr (s313_17.mpr (s313_18.mpr (s313_19.mpr ?_))))
            try simp (disch := first | decide | assumption | omega) only [kon, knt_some, knt_none, Option.toList_some, Option.toList_none, List.cons_append, List.nil_append]
            refine (s313_20 (hA.k (by decide) (by decide) rfl) (by first | assumption | omega) (by first | assumption | omega)).mpr ?_
            refine s313_21.mpr (s313_22.mpr ?_)
            try simp (disch := first | decide | assumption | omega) only [kon, knt_some, knt_none, Option.toList_some, Option.toList_none, List.cons_append, List.nil_append]
            refine s313_23.mpr (wif (fun c23 => ?_) (fun c23 => ?_))
            · first
              | (exfalso; omega)
              | skip
                refine s313_26.mpr ?_
                refine (s313_27 (by first | assumption | omega)).mpr ?_
                first | exact E | (exfalso; omega) | exact absurd rfl (by assumption)
            · first
              | (exfalso; omega)
              | skip
                refine s313_28.mpr (s313_29.mpr (s313_30.mpr ?_))
                refine s313_31.mpr (wif (fun c31 => ?_) (fun c31 => ?_))
                · first
                  | (exfalso; omega)
                  | skip
                    refine s313_34.mpr (s313_35.mpr ?_)
                    refine (s313_39 (by omega) kM).mpr ?_
                    refine r_trap hA hR (by omega) hq p0 ?_
                    refine s313_42.mpr ?_
                    refine (s313_43 (by first | assumption | omega)).mpr ?_
                    first | exact E | (exfalso; omega) | exact absurd rfl (by assumption)
                · first
                  | (exfalso; omega)
                  | skip
                    refine s313_38.mpr ?_
                    refine (s313_39 (by omega) kM).mpr ?_
                    refine r_trap hA hR (by omega) hq p0 ?_
                    refine s313_42.mpr ?_
                    refine (s313_43 (by first | assumption | omega)).mpr ?_
                    first | exact E | (exfalso; omega) | exact absurd rfl (by assumption)
  · have hb1 : 1 ≤ b ∧ b ≤ 1024 := by omega
    have hn1 := hn c
    by_cases ci : 0 ≤ i ∧ i < n - 1
    · have E := z3 c ci
      refine s313_0.mpr ?_
      refine s313_1.mpr (wif (fun c1 => ?_) (fun c1 => ?_))
      · first
        | (exfalso; omega)
        | skip
          refine s313_28.mpr (s313_29.mpr (s313_30.mpr ?_))
          refine s313_31.mpr (wif (fun c31 => ?_) (fun c31 => ?_))
          · first
            | (exfalso; omega)
            | skip
              refine s313_34.mpr (s313_35.mpr ?_)
              refine (s313_39 (by omega) kM).mpr ?_
              exfalso; first | omega | exact absurd (by assumption) c
              refine s313_42.mpr ?_
              refine (s313_43 (by first | assumption | omega)).mpr ?_
              first | exact E | (exfalso; omega) | exact absurd (by assumption) c
          · first
            | (exfalso; omega)
            | skip
              refine s313_38.mpr ?_
              refine (s313_39 (by omega) kM).mpr ?_
              exfalso; first | omega | exact absurd (by assumption) c
              refine s313_42.mpr ?_
              refine (s313_43 (by first | assumption | omega)).mpr ?_
              first | exact E | (exfalso; omega) | exact absurd (by assumption) c
      · first
        | (exfalso; omega)
        | skip
          refine s313_4.mpr ?_
          refine s313_5.mpr (wif (fun c5 => ?_) (fun c5 => ?_))
          · first
            | (exfalso; omega)
            | skip
              refine s313_28.mpr (s313_29.mpr (s313_30.mpr ?_))
              refine s313_31.mpr (wif (fun c31 => ?_) (fun c31 => ?_))
              · first
                | (exfalso; omega)
                | skip
                  refine s313_34.mpr (s313_35.mpr ?_)
                  refine (s313_39 (by omega) kM).mpr ?_
                  exfalso; first | omega | exact absurd (by assumption) c
                  refine s313_42.mpr ?_
                  refine (s313_43 (by first | assumption | omega)).mpr ?_
                  first | exact E | (exfalso; omega) | exact absurd (by assumption) c
              · first
                | (exfalso; omega)
                | skip
                  refine s313_38.mpr ?_
                  refine (s313_39 (by omega) kM).mpr ?_
                  exfalso; first | omega | exact absurd (by assumption) c
                  refine s313_42.mpr ?_
                  refine (s313_43 (by first | assumption | omega)).mpr ?_
                  first | exact E | (exfalso; omega) | exact absurd (by assumption) c
          · first
            | (exfalso; omega)
            | skip
              refine s313_8.mpr (s313_9.mpr ((s313_10 kM).mpr ?_))
              rw [mr_70 hR]
              refine s313_13.mpr (s313_16.mpr (s313_17.mpr (s313_18.mpr (s313_19.mpr ?_))))
              try simp (disch := first | decide | assumption | omega) only [kon, knt_some, knt_none, Option.toList_some, Option.toList_none, List.cons_append, List.nil_append, hn1, fAdd_id, fMul_id, fSub_id]
              refine (s313_20 (hA.k (by decide) (by decide) rfl) (by first | assumption | omega) (by first | assumption | omega)).mpr ?_
              refine s313_21.mpr (s313_22.mpr ?_)
              try simp (disch := first | decide | assumption | omega) only [kon, knt_some, knt_none, Option.toList_some, Option.toList_none, List.cons_append, List.nil_append, hn1, fAdd_id, fMul_id, fSub_id]
              refine s313_23.mpr (wif (fun c23 => ?_) (fun c23 => ?_))
              · first
                | (exfalso; omega)
                | skip
                  refine s313_26.mpr ?_
                  refine (s313_27 (by first | assumption | omega)).mpr ?_
                  first | exact E | (exfalso; omega) | exact absurd (by assumption) c
              · first
                | (exfalso; omega)
                | skip
                  refine s313_28.mpr (s313_29.mpr (s313_30.mpr ?_))
                  refine s313_31.mpr (wif (fun c31 => ?_) (fun c31 => ?_))
                  · first
                    | (exfalso; omega)
                    | skip
                      refine s313_34.mpr (s313_35.mpr ?_)
                      refine (s313_39 (by omega) kM).mpr ?_
                      exfalso; first | omega | exact absurd (by assumption) c
                      refine s313_42.mpr ?_
                      refine (s313_43 (by first | assumption | omega)).mpr ?_
                      first | exact E | (exfalso; omega) | exact absurd (by assumption) c
                  · first
                    | (exfalso; omega)
                    | skip
                      refine s313_38.mpr ?_
                      refine (s313_39 (by omega) kM).mpr ?_
                      exfalso; first | omega | exact absurd (by assumption) c
                      refine s313_42.mpr ?_
                      refine (s313_43 (by first | assumption | omega)).mpr ?_
                      first | exact E | (exfalso; omega) | exact absurd (by assumption) c
    · have E := z2 c ci
      refine s313_0.mpr ?_
      refine s313_1.mpr (wif (fun c1 => ?_) (fun c1 => ?_))
      · first
        | (exfalso; omega)
        | skip
          refine s313_28.mpr (s313_29.mpr (s313_30.mpr ?_))
          refine s313_31.mpr (wif (fun c31 => ?_) (fun c31 => ?_))
          · first
            | (exfalso; omega)
            | skip
              refine s313_34.mpr (s313_35.mpr ?_)
              refine (s313_39 (by omega) kM).mpr ?_
              first | exact absurd (by assumption) c | refine r_trap hA hR (by omega) hq p0 ?_
              refine s313_42.mpr ?_
              refine (s313_43 (by first | assumption | omega)).mpr ?_
              first | exact E | (exfalso; omega) | exact absurd (by assumption) c
          · first
            | (exfalso; omega)
            | skip
              refine s313_38.mpr ?_
              refine (s313_39 (by omega) kM).mpr ?_
              first | exact absurd (by assumption) c | refine r_trap hA hR (by omega) hq p0 ?_
              refine s313_42.mpr ?_
              refine (s313_43 (by first | assumption | omega)).mpr ?_
              first | exact E | (exfalso; omega) | exact absurd (by assumption) c
      · first
        | (exfalso; omega)
        | skip
          refine s313_4.mpr ?_
          refine s313_5.mpr (wif (fun c5 => ?_) (fun c5 => ?_))
          · first
            | (exfalso; omega)
            | skip
              refine s313_28.mpr (s313_29.mpr (s313_30.mpr ?_))
              refine s313_31.mpr (wif (fun c31 => ?_) (fun c31 => ?_))
              · first
                | (exfalso; omega)
                | skip
                  refine s313_34.mpr (s313_35.mpr ?_)
                  refine (s313_39 (by omega) kM).mpr ?_
                  first | exact absurd (by assumption) c | refine r_trap hA hR (by omega) hq p0 ?_
                  refine s313_42.mpr ?_
                  refine (s313_43 (by first | assumption | omega)).mpr ?_
                  first | exact E | (exfalso; omega) | exact absurd (by assumption) c
              · first
                | (exfalso; omega)
                | skip
                  refine s313_38.mpr ?_
                  refine (s313_39 (by omega) kM).mpr ?_
                  first | exact absurd (by assumption) c | refine r_trap hA hR (by omega) hq p0 ?_
                  refine s313_42.mpr ?_
                  refine (s313_43 (by first | assumption | omega)).mpr ?_
                  first | exact E | (exfalso; omega) | exact absurd (by assumption) c
          · first
            | (exfalso; omega)
            | skip
              refine s313_8.mpr (s313_9.mpr ((s313_10 kM).mpr ?_))
              rw [mr_70 hR]
              refine s313_13.mpr (s313_16.mpr (s313_17.mpr (s313_18.mpr (s313_19.mpr ?_))))
              try simp (disch := first | decide | assumption | omega) only [kon, knt_some, knt_none, Option.toList_some, Option.toList_none, List.cons_append, List.nil_append, hn1, fAdd_id, fMul_id, fSub_id]
              refine (s313_20 (hA.k (by decide) (by decide) rfl) (by first | assumption | omega) (by first | assumption | omega)).mpr ?_
              refine s313_21.mpr (s313_22.mpr ?_)
              try simp (disch := first | decide | assumption | omega) only [kon, knt_some, knt_none, Option.toList_some, Option.toList_none, List.cons_append, List.nil_append, hn1, fAdd_id, fMul_id, fSub_id]
              refine s313_23.mpr (wif (fun c23 => ?_) (fun c23 => ?_))
              · first
                | (exfalso; omega)
                | skip
                  refine s313_26.mpr ?_
                  refine (s313_27 (by first | assumption | omega)).mpr ?_
                  first | exact E | (exfalso; omega) | exact absurd (by assumption) c
              · first
                | (exfalso; omega)
                | skip
                  refine s313_28.mpr (s313_29.mpr (s313_30.mpr ?_))
                  refine s313_31.mpr (wif (fun c31 => ?_) (fun c31 => ?_))
                  · first
                    | (exfalso; omega)
                    | skip
                      refine s313_34.mpr (s313_35.mpr ?_)
                      refine (s313_39 (by omega) kM).mpr ?_
                      first | exact absurd (by assumption) c | refine r_trap hA hR (by omega) hq p0 ?_
                      refine s313_42.mpr ?_
                      refine (s313_43 (by first | assumption | omega)).mpr ?_
                      first | exact E | (exfalso; omega) | exact absurd (by assumption) c
                  · first
                    | (exfalso; omega)
                    | skip
                      refine s313_38.mpr ?_
                      refine (s313_39 (by omega) kM).mpr ?_
                      first | exact absurd (by assumption) c | refine r_trap hA hR (by omega) hq p0 ?_
                      refine s313_42.mpr ?_
                      refine (s313_43 (by first | assumption | omega)).mpr ?_
                      first | exact E | (exfalso; omega) | exact absurd (by assumption) c
end RO0
