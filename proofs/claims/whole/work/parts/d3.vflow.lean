section DV3
variable {d : Nat} {al : AL} {hi : HI} {hr : HR} {Q : QQ} {B : Int → Int} {N : Nat} {n : Int} {f : Int}
/-- j parameters have gone, from the last on -/
def parC (B : Int → Int) (g : Int) (X : Tst) (j : Int) : Prop := j ≤ X.1 ∧ ∀ k, nPar B g - j ≤ k → k < nPar B g → leT (X.2.1 (X.1 - nPar B g + k)) (pTy B g k)
theorem RoutOK.par {t : Nat} {g k : Int} (h : RoutOK al hi hr B g t) (hT : TxV B n) (g0 : 0 ≤ g) (g1 : g < nFn B) (k0 : 0 ≤ k) (k1 : k < nPar B g) : (if k < 0 ∨ aln al t ≤ k then -1 else hi t k) = cv (pTy B g k) := by
  rw [if_neg (by have := h.2.1; omega), h.2.2.1 k k0 k1]
  exact tyC_cv hT.rg ((hT.2.1.2.2.2.2.2.2.2.2.2.2 g g0 g1).2.2.2.1 k k0 k1).1
theorem RoutOK.res {t : Nat} {g : Int} (h : RoutOK al hi hr B g t) (hT : TxV B n) (g0 : 0 ≤ g) (g1 : g < nFn B) : hi (t + 1) 2 = cv (rTy B g) := by
  rw [h.2.2.2.2.1]
  exact tyC_cv hT.rg (hT.2.1.2.2.2.2.2.2.2.2.2.2 g g0 g1).2.2.2.2.2.2.1
theorem RoutOK.wv {t : Nat} {g : Int} {hi' : HI} (h : RoutOK al hi hr B g t) (ht : 119 ≤ t) (hf : FW wV hi hi') : RoutOK al hi' hr B g t := h.fr GA.rf (fun a i z1 z2 _ => hf a i (wV_a (by omega))) (fun _ _ => rfl)
theorem v_popParameters {t : Nat} {g : Int} {X : Tst} (h : VR al hr) (hd : 2 ≤ d) (hR : RoutOK al hi hr B g t) (ht : 119 ≤ t) (hT : TxV B n) (g0 : 0 ≤ g) (g1 : g < nFn B) (hs : VS (some X) hi) (hv : vX B X)
    (q : ∀ hi', VS (wnt (parT B g X) (some (X.1 - nPar B g, X.2.1, X.2.2))) hi' → FW wV hi hi' → Q (some none) al hi' hr) : Ev d 177 [vR (some 8), vR (some (t + 1))] al hi hr Q := by
  have k8 := h.k8; have k11 := h.k11; have k12 := h.k12; have l11 := h.l11; have l12 := h.l12; have r1 := h.2.2.1; have r2 := h.2.2.2.1
  have kT := hR.1.1
  have hS := hT.2.1.2.2.2.2.2.2.2.2.2.2 g g0 g1
  have m0 := hS.1
  have m4 := hS.2.1
  have c16 := hs.2.2.2.1
  have e0 : hi (t + 1) 0 = nPar B g := hR.2.2.2.1
  have T24 : Wp d 177 24 [vR (some 8), vR (some (t + 1)), vI (nPar B g - 1)] [] al hi hr Q := by
    refine wp_cnt (N := (nPar B g).toNat) (fun j ls h2 => ls = [vR (some 8), vR (some (t + 1)), vI (nPar B g - 1 - j)] ∧ FW wV hi h2 ∧ VS (wnt (parC B g X j) (some (X.1 - j, X.2.1, X.2.2))) h2) ?_ ?_ _ _ ⟨by simp, FW.rf, by rw [wnt_y ⟨by show (0 : Int) ≤ X.1; exact hs.2.2.1, fun k k0 k1 => absurd k0 (by omega)⟩]; simpa using hs⟩
    · rintro j ls h2 hj ⟨rfl, f2, s2⟩ nx
      have hR2 := hR.wv ht f2
      have ep := hR2.par (k := nPar B g - 1 - j) hT g0 g1 (by omega) (by omega)
      have hrp : rT (pTy B g (nPar B g - 1 - j)) := by
        have := (hT.2.2.2.2 g g0 g1).1 (nPar B g - 1 - j) (by omega) (by omega)
        exact this.1.r
      have W : ∀ v1 hi1 hi2 (c : Prop), VS (popO (wnt (parC B g X j) (some (X.1 - j, X.2.1, X.2.2)))) hi1 → topV (wnt (parC B g X j) (some (X.1 - j, X.2.1, X.2.2))) v1 → (c ↔ fitC v1 (cv (pTy B g (nPar B g - 1 - j)))) → FW wV h2 hi2 → VS (wnt c (popO (wnt (parC B g X j) (some (X.1 - j, X.2.1, X.2.2))))) hi2 → Wp d 177 24 [vR (some 8), vR (some (t + 1)), vI (nPar B g - 1 - j - 1)] [] al hi2 hr Q := by
        intro v1 hi1 hi2 c s1 t1 hc f3 s3
        rw [show nPar B g - 1 - j - 1 = nPar B g - 1 - ((j + 1 : Nat) : Int) by omega]
        refine nx _ _ ⟨rfl, f2.tr f3, ?_⟩
        have e : wnt c (popO (wnt (parC B g X j) (some (X.1 - j, X.2.1, X.2.2)))) = wnt (parC B g X ((j + 1 : Nat) : Int)) (some (X.1 - ((j + 1 : Nat) : Int), X.2.1, X.2.2)) := by
          by_cases c1 : parC B g X j
          · rw [wnt_y c1] at t1 ⊢
            by_cases c2 : 0 < X.1 - j
            · rw [pop_y (by show 0 < X.1 - j; exact c2)]
              have e1 : v1 = cv (X.2.1 (X.1 - j - 1)) := t1 _ rfl (by show 0 < X.1 - j; exact c2)
              have hrx := (hv.2.1 (X.1 - j - 1) (by omega) (by omega)).r
              rw [e1, fitC_v hrx hrp] at hc
              have hc2 : c ↔ parC B g X ((j + 1 : Nat) : Int) := by
                rw [hc]
                constructor
                · intro z
                  refine ⟨by omega, fun k k0 k1 => ?_⟩
                  by_cases y : k = nPar B g - 1 - j
                  · subst y; rw [show X.1 - nPar B g + (nPar B g - 1 - (j : Int)) = X.1 - j - 1 by omega]; exact z
                  · exact c1.2 k (by omega) k1
                · intro z
                  have := z.2 (nPar B g - 1 - j) (by omega) (by omega)
                  rw [show X.1 - nPar B g + (nPar B g - 1 - (j : Int)) = X.1 - j - 1 by omega] at this
                  exact this
              by_cases c3 : c
              · rw [wnt_y c3, wnt_y (hc2.mp c3)]
                show some (X.1 - j - 1, X.2.1, X.2.2) = _
                rw [show X.1 - (j : Int) - 1 = X.1 - ((j + 1 : Nat) : Int) by omega]
              · rw [wnt_n c3, wnt_n (fun z => c3 (hc2.mpr z))]
            · rw [pop_n (by show ¬ 0 < X.1 - j; exact c2), wnt_o, wnt_n (fun z => c2 (by have := z.1; omega))]
          · rw [wnt_n c1, show popO none = none from rfl, wnt_o, wnt_n (fun z => c1 ⟨by have := z.1; omega, fun k k0 k1 => z.2 k (by omega) k1⟩)]
        rw [← e]; exact s3
      refine s177_24.mpr ?_
      refine s177_25.mpr (wif (fun c25 => ?_) (fun c25 => ?_))
      · first
        | (exfalso; omega)
        | skip
          refine (s177_50).mpr ?_
          exfalso; omega
      · first
        | (exfalso; omega)
        | skip
          refine s177_28.mpr (s177_29.mpr ?_)
          refine (s177_30 (by first | decide | assumption | omega) (by first | decide | assumption | omega)).mpr ?_
          refine v_pop h s2 (fun v1 hi1 s1 f1 t1 => ?_)
          refine s177_33.mpr (s177_34.mpr ?_)
          refine (s177_35 (by first | decide | assumption | omega) (by first | decide | assumption | omega)).mpr ?_
          refine r_typeOfParameter (hR2.wv ht f1).1 ?_
          simp only [kon, knt_some, knt_none, Option.toList_some, Option.toList_none, List.cons_append, List.nil_append, (hR2.wv ht f1).par (k := nPar B g - 1 - j) hT g0 g1 (by omega) (by omega)]
          refine (s177_38 (by omega)).mpr ?_
          refine c_fits (by omega) (fun y38 => ?_) (fun y38 => ?_)
          · skip
            refine (s177_41 (by first | decide | assumption | omega) (by first | decide | assumption | omega)).mpr ?_
            refine v_want h s1 (fun hi2 s3 f3 => ?_)
            refine s177_44.mpr (s177_47.mpr ?_)
            try simp (disch := first | decide | assumption | omega) only [kon, knt_some, knt_none, Option.toList_some, Option.toList_none, List.cons_append, List.nil_append, fAdd_id, ep]
            skip
            first
            | exact W v1 hi1 hi2 ((1 : Int) ≠ 0) s1 t1 ⟨fun _ => y38, fun _ => by decide⟩ (f1.tr f3) s3
            | exact W v1 hi1 hi2 ((0 : Int) ≠ 0) s1 t1 ⟨fun z => absurd rfl z, fun z => absurd z y38⟩ (f1.tr f3) s3
          · skip
            refine (s177_41 (by first | decide | assumption | omega) (by first | decide | assumption | omega)).mpr ?_
            refine v_want h s1 (fun hi2 s3 f3 => ?_)
            refine s177_44.mpr (s177_47.mpr ?_)
            try simp (disch := first | decide | assumption | omega) only [kon, knt_some, knt_none, Option.toList_some, Option.toList_none, List.cons_append, List.nil_append, fAdd_id, ep]
            skip
            first
            | exact W v1 hi1 hi2 ((1 : Int) ≠ 0) s1 t1 ⟨fun _ => y38, fun _ => by decide⟩ (f1.tr f3) s3
            | exact W v1 hi1 hi2 ((0 : Int) ≠ 0) s1 t1 ⟨fun z => absurd rfl z, fun z => absurd z y38⟩ (f1.tr f3) s3
    · rintro ls h2 ⟨rfl, f2, s2⟩
      have E := q h2 (by
        have e : parC B g X ((nPar B g).toNat : Int) ↔ parT B g X := by
          rw [show (((nPar B g).toNat : Nat) : Int) = nPar B g by omega]
          unfold parC parT
          constructor
          · rintro ⟨z1, z2⟩; exact ⟨z1, fun k k0 k1 => z2 k (by omega) k1⟩
          · rintro ⟨z1, z2⟩; exact ⟨z1, fun k k0 k1 => z2 k (by omega) k1⟩
        rw [show X.1 - nPar B g = X.1 - (((nPar B g).toNat : Nat) : Int) by omega]
        by_cases c : parT B g X
        · rw [wnt_y c]; rw [wnt_y (e.mpr c)] at s2; exact s2
        · rw [wnt_n c]; rw [wnt_n (fun z => c (e.mp z))] at s2; exact s2) f2
      refine s177_24.mpr ?_
      refine s177_25.mpr (wif (fun c25 => ?_) (fun c25 => ?_))
      · skip
        refine (s177_50).mpr ?_
        exact E
      · skip
        exfalso; omega
  rw [e177]
  refine s177_0.mpr (s177_1.mpr ?_)
  refine s177_2.mpr (wif (fun c2 => ?_) (fun c2 => ?_))
  · skip
    first | (cases c2) | (exfalso; omega)
  · skip
    refine s177_5.mpr (s177_6.mpr ?_)
    refine (s177_10 (by first | decide | assumption | omega) (by first | decide | assumption | omega)).mpr ?_
    refine v_want1 h ?_
    refine s177_13.mpr ?_
    refine s177_14.mpr (wif (fun c14 => ?_) (fun c14 => ?_))
    · skip
      first | (cases c14) | (exfalso; omega)
    · skip
      refine s177_17.mpr ?_
      refine (s177_18 (by first | decide | assumption | omega)).mpr ?_
      refine s177_21.mpr (s177_22.mpr (s177_23.mpr ?_))
      try simp (disch := first | decide | assumption | omega) only [kon, knt_some, knt_none, Option.toList_some, Option.toList_none, List.cons_append, List.nil_append, e0, fSub_id]
      exact T24
theorem v_takesPointers {t : Nat} {g : Int} (hd : 1 ≤ d) (hR : RoutOK al hi hr B g t) (hT : TxV B n) (g0 : 0 ≤ g) (g1 : g < nFn B)
    (q1 : (∀ k, 0 ≤ k → k < nPar B g → ¬ heapT (pTy B g k)) → Q (some (some (vI 0))) al hi hr) (q2 : ¬ (∀ k, 0 ≤ k → k < nPar B g → ¬ heapT (pTy B g k)) → Q (some (some (vI 1))) al hi hr) : Ev d 178 [vR (some (t + 1))] al hi hr Q := by
  have kT := hR.1.1
  have hS := hT.2.1.2.2.2.2.2.2.2.2.2.2 g g0 g1
  have m0 := hS.1
  have m4 := hS.2.1
  have e0 : hi (t + 1) 0 = nPar B g := hR.2.2.2.1
  have T2 : Wp d 178 2 [vR (some (t + 1)), vI 0] [] al hi hr Q := by
    refine wp_cnt (N := (nPar B g).toNat) (fun i ls h2 => ls = [vR (some (t + 1)), vI i] ∧ h2 = hi ∧ ∀ k : Int, 0 ≤ k → k < i → ¬ heapT (pTy B g k)) ?_ ?_ _ _ ⟨rfl, rfl, fun k k0 k1 => absurd k1 (by omega)⟩
    · rintro i ls _ hi4 ⟨rfl, rfl, hh⟩ nx
      have ep := hR.par (k := i) hT g0 g1 (by omega) (by omega)
      have hp := ptrC_v ((hT.2.2.2.2 g g0 g1).1 i (by omega) (by omega)).1.r
      refine s178_2.mpr (s178_3.mpr ?_)
      refine (s178_4 (by first | decide | assumption | omega)).mpr ?_
      try simp (disch := first | decide | assumption | omega) only [kon, knt_some, knt_none, Option.toList_some, Option.toList_none, List.cons_append, List.nil_append, e0, fAdd_id]
      refine s178_7.mpr (wif (fun c7 => ?_) (fun c7 => ?_))
      · first
        | (exfalso; omega)
        | skip
          refine s178_10.mpr (s178_11.mpr ?_)
          refine (s178_12 (by first | decide | assumption | omega) (by first | decide | assumption | omega)).mpr ?_
          refine r_typeOfParameter hR.1 ?_
          simp only [kon, knt_some, knt_none, Option.toList_some, Option.toList_none, List.cons_append, List.nil_append, ep]
          refine (s178_15 (by omega)).mpr ?_
          refine c_isPointer (fun y15 => ?_) (fun y15 => ?_)
          · skip
            refine s178_18.mpr (wif (fun c18 => ?_) (fun c18 => ?_))
            · first
              | (exfalso; omega)
              | skip
                refine s178_23.mpr (s178_26.mpr ?_)
                try simp (disch := first | decide | assumption | omega) only [kon, knt_some, knt_none, Option.toList_some, Option.toList_none, List.cons_append, List.nil_append, e0, fAdd_id]
                refine nx _ _ ⟨rfl, rfl, fun k k0 k1 => ?_⟩
                by_cases e : k = i
                · subst e; exact fun z => y15 (hp.mpr z)
                · exact hh k k0 (by omega)
            · first
              | (exfalso; omega)
              | skip
                refine s178_21.mpr ?_
                refine (s178_22 (by first | assumption | omega)).mpr ?_
                exact q2 (fun z => z i (by omega) (by omega) (hp.mp y15))
          · skip
            refine s178_18.mpr (wif (fun c18 => ?_) (fun c18 => ?_))
            · first
              | (exfalso; omega)
              | skip
                refine s178_23.mpr (s178_26.mpr ?_)
                try simp (disch := first | decide | assumption | omega) only [kon, knt_some, knt_none, Option.toList_some, Option.toList_none, List.cons_append, List.nil_append, e0, fAdd_id]
                refine nx _ _ ⟨rfl, rfl, fun k k0 k1 => ?_⟩
                by_cases e : k = i
                · subst e; exact fun z => y15 (hp.mpr z)
                · exact hh k k0 (by omega)
            · first
              | (exfalso; omega)
              | skip
                refine s178_21.mpr ?_
                refine (s178_22 (by first | assumption | omega)).mpr ?_
                exact q2 (fun z => z i (by omega) (by omega) (hp.mp y15))
      · first
        | (exfalso; omega)
        | skip
          refine s178_29.mpr ?_
          refine (s178_30 (by first | assumption | omega)).mpr ?_
          exact q2 (fun z => z i (by omega) (by omega) (hp.mp y15))
    · rintro ls _ ⟨rfl, rfl, hh⟩
      refine s178_2.mpr (s178_3.mpr ?_)
      refine (s178_4 (by first | decide | assumption | omega)).mpr ?_
      try simp (disch := first | decide | assumption | omega) only [kon, knt_some, knt_none, Option.toList_some, Option.toList_none, List.cons_append, List.nil_append, e0]
      refine s178_7.mpr (wif (fun c7 => ?_) (fun c7 => ?_))
      · skip
        exfalso; omega
      · skip
        refine s178_29.mpr ?_
        refine (s178_30 (by first | assumption | omega)).mpr ?_
        exact q1 (fun k k0 k1 => hh k k0 (by omega))
  rw [e178]
  refine s178_0.mpr (s178_1.mpr ?_)
  exact T2
end DV3
