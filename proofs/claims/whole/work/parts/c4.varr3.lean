section CV4
variable {d : Nat} {al : AL} {hi : HI} {hr : HR} {Q : QQ} {B : Int → Int} {N t H C : Nat} {l : Int}
/-- what stands in a slot after a join, and before it -/
def jnV (Y X : Tst) (k : Int) : Int := if k < 16 then both (Y.2.1 k) (X.2.1 k) else bothL (Y.2.2 (k - 16)) (X.2.2 (k - 16))
def olV (Y : Tst) (k : Int) : Int := if k < 16 then Y.2.1 k else Y.2.2 (k - 16)
def relK (X : Tst) (k : Int) : Prop := k < X.1 ∨ 16 ≤ k
/-- the slot k joins well -/
def jOk (Y X : Tst) (k : Int) : Prop := (k < X.1 → both (Y.2.1 k) (X.2.1 k) ≠ -1) ∧ (16 ≤ k → both (Y.2.2 (k - 16)) (X.2.2 (k - 16)) = -1 → ¬ linT (Y.2.2 (k - 16)) ∧ ¬ linT (X.2.2 (k - 16)))
/-- joining with what had come -/
theorem v_arr2 {q : Int} {X Y : Tst} {l5 l6 l7 : AV} (h : VR al hr) (hV : RV al hr t H C l) (hk : hr 8 8 = some (t + 1)) (hd : 2 ≤ d) (q0 : 0 ≤ q) (q1 : q < l) (hs : VS (some X) hi) (hvX : vX B X) (hvY : vX B Y) (hXY : Y.1 = X.1) (hY1 : ∀ k, 0 ≤ k → k < Y.1 → hi C (26 * q + k) = cv (Y.2.1 k)) (hY2 : ∀ k, 0 ≤ k → k < 10 → hi C (26 * q + 16 + k) = cv (Y.2.2 k))
    (ok : ∀ hi' (dv : Int), jOK Y X → FW (wCr C q) hi hi' → (∀ k, 0 ≤ k → k < 26 → relK X k → hi' C (26 * q + k) = cv (jnV Y X k)) → ((dv = 0 ∧ ∀ k, 0 ≤ k → k < 26 → relK X k → jnV Y X k = olV Y k) ∨ (dv = 1 ∧ ∃ k, 0 ≤ k ∧ k < 26 ∧ relK X k ∧ jnV Y X k ≠ olV Y k)) → Q (some none) al (if dv = 0 then hi' else upI (upI hi' 13 q 1) 8 6 1) hr)
    (no : ∀ hi', ¬ jOK Y X → VS none hi' → FW (wA t H C) hi hi' → Q (some none) al hi' hr) : Wp d 162 90 [vR (some 8), vI q, vI 0, vI 0, vI 0, l5, l6, l7] [] al hi hr Q := by
  have k8 := h.k8; have k11 := h.k11; have k12 := h.k12; have l11 := h.l11; have l12 := h.l12; have r1 := h.2.2.1; have r2 := h.2.2.2.1
  have k13 := h.k13
  have l13 := h.l13
  have r3 := h.2.2.2.2
  obtain ⟨kt, ⟨h1, kH, lH⟩, ⟨c1, kC, lC⟩, hHC, t119, H119, C119, l0, l240⟩ := id hV; have rH : isR al H = true := isR_of kH (by decide) (by decide); have rC : isR al C = true := isR_of kC (by decide) (by decide); have nH : t + 1 ≠ H := isK_ne kt kH (by decide); have nC : t + 1 ≠ C := isK_ne kt kC (by decide)
  have hs' := hs
  obtain ⟨s1, s2, s3, s4, s5, s6⟩ := hs
  have e1 : fZ 1 = 1 := rfl
  refine wp_cnt (N := 26) (fun i ls h2 => ∃ dv : Int, (∃ l5 l6 l7, ls = [vR (some 8), vI q, vI 0, vI dv, vI i, l5, l6, l7]) ∧ FW (wCr C q) hi h2 ∧ (∀ k : Int, 0 ≤ k → k < i → relK X k → h2 C (26 * q + k) = cv (jnV Y X k) ∧ jOk Y X k) ∧ (∀ k : Int, i ≤ k → h2 C (26 * q + k) = hi C (26 * q + k)) ∧ ((dv = 0 ∧ ∀ k : Int, 0 ≤ k → k < i → relK X k → jnV Y X k = olV Y k) ∨ (dv = 1 ∧ ∃ k : Int, 0 ≤ k ∧ k < i ∧ relK X k ∧ jnV Y X k ≠ olV Y k))) ?_ ?_ _ _ ⟨0, ⟨_, _, _, rfl⟩, FW.rf, fun k k0 k1 => absurd k1 (by omega), fun _ _ => rfl, Or.inl ⟨rfl, fun k k0 k1 => absurd k1 (by omega)⟩⟩
  · rintro i ls h2 hi26 ⟨dv, ⟨l5, l6, l7, rfl⟩, hf, hc, hu, hdv⟩ nx
    have d01 : dv = 0 ∨ dv = 1 := by rcases hdv with z | z; exact Or.inl z.1; exact Or.inr z.1
    have e84 : h2 8 4 = X.1 := (hf 8 4 (fun z => by unfold wCr at z; omega)).trans s2
    have e11 : ∀ k, h2 11 k = hi 11 k := fun k => hf 11 k (fun z => by unfold wCr at z; omega)
    have e12 : ∀ k, h2 12 k = hi 12 k := fun k => hf 12 k (fun z => by unfold wCr at z; omega)
    have hs2 : VS (some X) h2 := hs'.fw hf (fun i z => by unfold wCr at z; omega) (fun i z => by unfold wCr at z; omega) (fun z => by unfold wCr at z; omega) (fun z => by unfold wCr at z; omega)
    have hfA : FW (wA t H C) hi h2 := hf.mn (fun a i z => Or.inr (Or.inr (Or.inr (Or.inl z.1))))
    -- a slot that joins well
    have W : ∀ τ (dv2 : Int) l5 l6 l7, relK X i → τ = jnV Y X i → jOk Y X i → (dv2 = 0 ∧ dv = 0 ∧ cv τ = hi C (26 * q + i) ∨ dv2 = 1 ∧ (dv = 1 ∨ cv τ ≠ hi C (26 * q + i))) → hi C (26 * q + i) = cv (olV Y i) → rT (olV Y i) → rT τ → Wp d 162 90 [vR (some 8), vI q, vI 0, vI dv2, vI ((i : Int) + 1), l5, l6, l7] [] al (upI h2 C (26 * q + i) (cv τ)) hr Q := by
      intro τ dv2 l5 l6 l7 hr1 hτ hj hd2 ho hro hrt
      rw [ho, cv_inj hrt hro, ne_eq, cv_inj hrt hro] at hd2
      refine nx _ _ ⟨dv2, ⟨_, _, _, rfl⟩, hf.up ⟨rfl, by omega, by omega⟩, fun k k0 k1 kr => ?_, fun k k1 => ?_, ?_⟩
      · by_cases e : k = i
        · subst e; rw [upI_eq, hτ]; exact ⟨rfl, hj⟩
        · rw [upI_i (by omega)]; exact hc k k0 (by omega) kr
      · rw [upI_i (by omega)]; exact hu k (by omega)
      · rcases hd2 with ⟨z1, z2, z3⟩ | ⟨z1, z2⟩
        · refine Or.inl ⟨z1, fun k k0 k1 kr => ?_⟩
          rcases hdv with y | y
          · by_cases e : k = i
            · subst e; rw [← hτ]; exact z3
            · exact y.2 k k0 (by omega) kr
          · omega
        · refine Or.inr ⟨z1, ?_⟩
          rcases z2 with z2 | z2
          · rcases hdv with y | y
            · omega
            · obtain ⟨k, y0, y1, y2, y3⟩ := y.2; exact ⟨k, y0, by omega, y2, y3⟩
          · exact ⟨i, by omega, by omega, hr1, by rw [← hτ]; exact z2⟩
    -- a slot that doesn't
    have T215F : ∀ hi2 x5 x6 x7, ¬ jOK Y X → VS none hi2 → FW wV h2 hi2 → (hi2 = h2 ∨ hi2 = upI h2 8 5 1) → Wp d 162 215 [vR (some 8), vI q, vI 0, vI dv, vI i, vI x5, vI x6, vI x7] [] al hi2 hr Q := by
      intro hi2 x5 x6 x7 hj hs3 _ he
      have hf2 : FW (wA t H C) hi hi2 := by
        rcases he with rfl | rfl
        · exact hfA
        · exact hfA.up (Or.inl ⟨rfl, Or.inl rfl⟩)
      have E : ∀ (dv : Int) l5 l6 l7 y, (dv = 0 ∨ dv = 1) → Wp d 162 90 [vR (some 8), vI q, vI 0, vI dv, vI ((i : Int) + 1), l5, l6, l7] [] al (upI hi2 C (26 * q + i) y) hr Q := by
        intro dv l5 l6 l7 y hd
        refine v_arrF h hV hk hd q0 q1 hd (Or.inl rfl) (i + 1) (by omega) (hs3.up (by omega) (by omega) (by omega)) (fun hi3 z1 z2 => no hi3 hj z1 ((hf2.up (Or.inr (Or.inr (Or.inr (Or.inl rfl))))).tr z2))
      refine s162_215.mpr ?_
      refine (s162_216 (by first | decide | assumption | omega)).mpr ?_
      refine s162_219.mpr (s162_220.mpr (s162_222.mpr ?_))
      try simp (disch := first | decide | assumption | omega) only [kon, knt_some, knt_none, Option.toList_some, Option.toList_none, List.cons_append, List.nil_append, hk, fAdd_id]
      refine (s162_224 (by first | decide | assumption | omega) (by first | decide | assumption | omega)).mpr ?_
      refine r_setComing hV q0 q1 (by omega) (by omega) ?_
      refine s162_227.mpr ?_
      refine s162_228.mpr (wif (fun c228 => ?_) (fun c228 => ?_))
      · skip
        refine s162_231.mpr (s162_233.mpr ?_)
        refine s162_235.mpr (wif (fun c235 => ?_) (fun c235 => ?_))
        · skip
          refine s162_242.mpr (s162_243.mpr (s162_244.mpr (s162_247.mpr ?_)))
          try simp (disch := first | decide | assumption | omega) only [kon, knt_some, knt_none, Option.toList_some, Option.toList_none, List.cons_append, List.nil_append, hk, fAdd_id]
          exact E _ _ _ _ _ (by omega)
        · skip
          refine s162_238.mpr (s162_239.mpr (s162_243.mpr (s162_244.mpr (s162_247.mpr ?_))))
          try simp (disch := first | decide | assumption | omega) only [kon, knt_some, knt_none, Option.toList_some, Option.toList_none, List.cons_append, List.nil_append, hk, fAdd_id]
          exact E _ _ _ _ _ (by omega)
      · skip
        refine s162_238.mpr (s162_239.mpr (s162_243.mpr (s162_244.mpr (s162_247.mpr ?_))))
        try simp (disch := first | decide | assumption | omega) only [kon, knt_some, knt_none, Option.toList_some, Option.toList_none, List.cons_append, List.nil_append, hk, fAdd_id]
        exact E _ _ _ _ _ (by omega)
    sorry
  · rintro ls h2 ⟨dv, ⟨l5, l6, l7, rfl⟩, hf, hc, hu, hdv⟩
    have hJ : jOK Y X := ⟨hXY, fun k k0 k1 => (hc k k0 (by omega) (Or.inl (by omega))).2.1 (by omega), fun k k0 k1 e => by
      have := (hc (16 + k) (by omega) (by omega) (Or.inr (by omega))).2.2 (by omega)
      rw [show 16 + k - 16 = k by omega] at this
      exact this e⟩
    have E := ok h2 dv hJ hf (fun k k0 k1 kr => (hc k k0 (by omega) kr).1) hdv
    rcases hdv with ⟨rfl, -⟩ | ⟨rfl, -⟩
    · rw [if_pos rfl] at E
      refine s162_90.mpr (s162_92.mpr ?_)
      refine s162_94.mpr (wif (fun c94 => ?_) (fun c94 => ?_))
      · first
        | (exfalso; omega)
        | skip
          exfalso; omega
      · first
        | (exfalso; omega)
        | skip
          refine s162_250.mpr ?_
          refine s162_251.mpr (wif (fun c251 => ?_) (fun c251 => ?_))
          · first
            | (exfalso; omega)
            | skip
              refine (s162_266).mpr ?_
              first | exact E | (exfalso; omega)
          · first
            | (exfalso; omega)
            | skip
              refine s162_254.mpr ?_
              refine (s162_255 (by first | decide | assumption | omega)).mpr ?_
              refine s162_258.mpr (s162_259.mpr ?_)
              try simp (disch := first | decide | assumption | omega) only [r3, e1]
              refine (s162_260Z (by first | decide | assumption | omega) (by first | decide | assumption | omega) (by first | decide | assumption | omega)).mpr ?_
              refine s162_261.mpr (s162_262.mpr ?_)
              try simp (disch := first | decide | assumption | omega) only [r3, e1]
              refine (s162_263 (by first | decide | assumption | omega) (by first | decide | assumption | omega)).mpr ?_
              refine (s162_266).mpr ?_
              first | exact E | (exfalso; omega)
    · rw [if_neg (by decide)] at E
      refine s162_90.mpr (s162_92.mpr ?_)
      refine s162_94.mpr (wif (fun c94 => ?_) (fun c94 => ?_))
      · first
        | (exfalso; omega)
        | skip
          exfalso; omega
      · first
        | (exfalso; omega)
        | skip
          refine s162_250.mpr ?_
          refine s162_251.mpr (wif (fun c251 => ?_) (fun c251 => ?_))
          · first
            | (exfalso; omega)
            | skip
              refine (s162_266).mpr ?_
              first | exact E | (exfalso; omega)
          · first
            | (exfalso; omega)
            | skip
              refine s162_254.mpr ?_
              refine (s162_255 (by first | decide | assumption | omega)).mpr ?_
              refine s162_258.mpr (s162_259.mpr ?_)
              try simp (disch := first | decide | assumption | omega) only [r3, e1]
              refine (s162_260Z (by first | decide | assumption | omega) (by first | decide | assumption | omega) (by first | decide | assumption | omega)).mpr ?_
              refine s162_261.mpr (s162_262.mpr ?_)
              try simp (disch := first | decide | assumption | omega) only [r3, e1]
              refine (s162_263 (by first | decide | assumption | omega) (by first | decide | assumption | omega)).mpr ?_
              refine (s162_266).mpr ?_
              first | exact E | (exfalso; omega)
end CV4
