section MP4
variable {d : Nat} {al : AL} {hi : HI} {hr : HR} {Q : QQ}
theorem FW.bt {w : Nat → Int → Prop} {hi' : HI} (h : FW w hi hi') (h27 : hi 49 27 = 12) (h52 : hi 52 12 ≤ 2000) (q1 : ¬ w 49 27) (q2 : ¬ w 52 12) : hi' 49 27 = 12 ∧ hi' 52 12 ≤ 2000 := ⟨(h 49 27 q1).trans h27, by rw [h 52 12 q2]; exact h52⟩
theorem m_functionText {f p : Int} {B : Int → Int} (hA : SA al) (hR : MR hr) (hd : 5 ≤ d) (hf : 0 ≤ f ∧ f < 130) (h27 : hi 49 27 = 12) (h52 : hi 52 12 ≤ 2000) (hB : bAt hi 12 = B) (h26 : hi 49 26 = p) (h0 : 0 ≤ p) (h1 : p ≤ 2000)
    (fin : ∀ p' hi', fnP B p = .ok p' → FW (wF f) hi hi' → hi' 49 26 = p' → FD hi' f B p → Q (some none) al hi' hr)
    (err : ∀ q hi', fnP B p = .error q → FW (wE (wF f)) hi hi' → hi' 49 22 = 1 → hi' 49 23 = q → Q none al hi' hr) : Ev d 232 [vR (some 49), vI f] al hi hr Q := by
  have kM : isK al 49 13 := hA.k (by decide) (by decide) rfl
  have l64 := SA.len (a := 64) (n := 130) hA (by decide) (by decide) rfl
  have l65 := SA.len (a := 65) (n := 520) hA (by decide) (by decide) rfl
  have l66 := SA.len (a := 66) (n := 130) hA (by decide) (by decide) rfl
  have l67 := SA.len (a := 67) (n := 130) hA (by decide) (by decide) rfl
  have l68 := SA.len (a := 68) (n := 130) hA (by decide) (by decide) rfl
  have l69 := SA.len (a := 69) (n := 130) hA (by decide) (by decide) rfl
  have hBr : ∀ k, -1 ≤ B k ∧ B k ≤ 255 := fun k => by rw [← hB]; exact bAt_rng 12 k
  have hrd : ∀ q, 0 ≤ B (q - 1) → q ≤ 2000 := fun q h => rd_le h52 (by rw [hB]; exact h)
  have T47 : ∀ p1 hi' l2, nmb B 0 4 p = .ok (p + 1) → lpE (tyP B 63 0) (B p).toNat (p + 1) = .ok p1 → FW (wF f) hi hi' → hi' 49 26 = p1 → 0 ≤ p1 ∧ p1 ≤ 2000 → hi' 64 f = B p → (∀ k, 0 ≤ k → k < B p → hi' 65 (4 * f + k) = tyV B (itr (skT B) k.toNat (p + 1))) → Wp d 232 47 [vR (some 49), vI f, l2] [] al hi' hr Q := by
    intro p1 hi' l2 e1 e2 hw h26 hp1 h64 h65
    have hB' : bAt hi' 12 = B := (hw.B (by unfold wF; omega) (by unfold wF; omega)).trans hB
    obtain ⟨h27', h52'⟩ := hw.bt h27 h52 (by unfold wF; omega) (by unfold wF; omega)
    obtain ⟨-, b1, b2⟩ := nmb_ok e1
    have hp1r : p1 = fR_ B p := lpE_itr (fun q q' h => tyP_sk h) _ _ _ e2
    refine s232_47.mpr ((s232_48 kM).mpr ?_)
    rw [mr_18 hR]
    refine s232_51.mpr (s232_52.mpr (s232_53.mpr (s232_55.mpr ?_)))
    refine (s232_56 (by omega) kM).mpr ?_
    refine m_type hA hR ⟨by (try simp (disch := decide) only [upI_eq, upI_a, upI_i, upR_eq, upR_a, upR_i]); assumption, by (try simp (disch := decide) only [upI_eq, upI_a, upI_i, upR_eq, upR_a, upR_i]); assumption, by (try simp (disch := decide) only [upI_eq, upI_a, upI_i, upR_eq, upR_a, upR_i]); omega, by (try simp (disch := decide) only [upI_eq, upI_a, upI_i, upR_eq, upR_a, upR_i]); omega⟩ (by omega) (by decide) (Or.inr rfl) ?_
    simp (disch := decide) only [upI_eq, upI_a, upI_i, upR_eq, upR_a, upR_i, at1, fl1, bAt_up, hB', h26]
    refine kEx_of (fun q56 e56 => ?_) (fun q56 e56 => ?_)
    · skip
      have g56 := hrd _ (tyP_b e56)
      have u56 := tyP_ge e56
      refine (s232_59 (hA.k (by decide) (by decide) rfl) (by first | assumption | omega) (by first | assumption | omega)).mpr ?_
      refine s232_60.mpr ((s232_61 kM).mpr ?_)
      rw [mr_19 hR]
      refine s232_64.mpr (s232_65.mpr (s232_66.mpr ((s232_67 kM).mpr ?_)))
      rw [mr_16 hR]
      refine s232_70.mpr ?_
      try simp (disch := first | decide | assumption | omega) only [kon, knt_some, knt_none, Option.toList_some, Option.toList_none, List.cons_append, List.nil_append, upI_eq, upI_a, upI_i, upR_eq, upR_a, upR_i, h64, h26, fAdd_id]
      refine (s232_71 (hA.k (by decide) (by decide) rfl) (by first | assumption | omega) (by first | assumption | omega)).mpr ?_
      refine s232_72.mpr ?_
      try simp (disch := first | decide | assumption | omega) only [kon, knt_some, knt_none, Option.toList_some, Option.toList_none, List.cons_append, List.nil_append, upI_eq, upI_a, upI_i, upR_eq, upR_a, upR_i, h64, h26, fAdd_id]
      refine (s232_74 (by omega) kM).mpr ?_
      refine m_numberE hA hR ⟨by (try simp (disch := decide) only [upI_eq, upI_a, upI_i, upR_eq, upR_a, upR_i]); assumption, by (try simp (disch := decide) only [upI_eq, upI_a, upI_i, upR_eq, upR_a, upR_i]); assumption, by (try simp (disch := decide) only [upI_eq, upI_a, upI_i, upR_eq, upR_a, upR_i]); omega, by (try simp (disch := decide) only [upI_eq, upI_a, upI_i, upR_eq, upR_a, upR_i]); omega⟩ (by omega) ?_
      simp (disch := decide) only [upI_eq, upI_a, upI_i, upR_eq, upR_a, upR_i, at1, fl1, bAt_up, hB', h26]
      refine kEx_of (fun q74 e74 => ?_) (fun q74 e74 => ?_)
      · skip
        obtain ⟨rfl, v74, w74⟩ := nmb_ok e74
        have g74 := hrd _ (nmb_b e74 (by omega))
        refine (s232_77 (hA.k (by decide) (by decide) rfl) (by first | assumption | omega) (by first | assumption | omega)).mpr ?_
        refine s232_78.mpr ((s232_79 kM).mpr ?_)
        rw [mr_20 hR]
        refine s232_82.mpr (s232_83.mpr (s232_84.mpr (s232_85.mpr ?_)))
        try simp (disch := first | decide | assumption | omega) only [kon, knt_some, knt_none, Option.toList_some, Option.toList_none, List.cons_append, List.nil_append, upI_eq, upI_a, upI_i, upR_eq, upR_a, upR_i, h64, h26, fAdd_id]
        refine (s232_88 (by omega) kM).mpr ?_
        refine m_numberE hA hR ⟨by (try simp (disch := decide) only [upI_eq, upI_a, upI_i, upR_eq, upR_a, upR_i]); assumption, by (try simp (disch := decide) only [upI_eq, upI_a, upI_i, upR_eq, upR_a, upR_i]); assumption, by (try simp (disch := decide) only [upI_eq, upI_a, upI_i, upR_eq, upR_a, upR_i]); omega, by (try simp (disch := decide) only [upI_eq, upI_a, upI_i, upR_eq, upR_a, upR_i]); omega⟩ (by omega) ?_
        simp (disch := decide) only [upI_eq, upI_a, upI_i, upR_eq, upR_a, upR_i, at1, fl1, bAt_up, hB', h26]
        refine kEx_of (fun q88 e88 => ?_) (fun q88 e88 => ?_)
        · skip
          obtain ⟨rfl, v88, w88⟩ := nmb_ok e88
          have g88 := hrd _ (nmb_b e88 (by omega))
          refine (s232_91 (hA.k (by decide) (by decide) rfl) (by first | assumption | omega) (by first | assumption | omega)).mpr ?_
          refine s232_92.mpr ((s232_93 kM).mpr ?_)
          rw [mr_21 hR]
          refine s232_96.mpr (s232_97.mpr ?_)
          try simp (disch := first | decide | assumption | omega) only [kon, knt_some, knt_none, Option.toList_some, Option.toList_none, List.cons_append, List.nil_append, upI_eq, upI_a, upI_i, upR_eq, upR_a, upR_i, h64, h26, fAdd_id]
          refine (s232_98 kM).mpr ?_
          try simp (disch := first | decide | assumption | omega) only [kon, knt_some, knt_none, Option.toList_some, Option.toList_none, List.cons_append, List.nil_append, upI_eq, upI_a, upI_i, upR_eq, upR_a, upR_i, h64, h26, fAdd_id]
          refine (s232_101 (hA.k (by decide) (by decide) rfl) (by first | assumption | omega) (by first | assumption | omega)).mpr ?_
          refine s232_102.mpr ?_
          try simp (disch := first | decide | assumption | omega) only [kon, knt_some, knt_none, Option.toList_some, Option.toList_none, List.cons_append, List.nil_append, upI_eq, upI_a, upI_i, upR_eq, upR_a, upR_i, h64, h26, fAdd_id]
          refine (s232_103 kM).mpr ?_
          refine s232_106.mpr ((s232_107 kM).mpr ?_)
          rw [mr_20 hR]
          refine s232_110.mpr ?_
          try simp (disch := first | decide | assumption | omega) only [kon, knt_some, knt_none, Option.toList_some, Option.toList_none, List.cons_append, List.nil_append, upI_eq, upI_a, upI_i, upR_eq, upR_a, upR_i, h64, h26, fAdd_id]
          refine (s232_111 (hA.k (by decide) (by decide) rfl) (by first | assumption | omega) (by first | assumption | omega)).mpr ?_
          refine s232_112.mpr (s232_113.mpr ?_)
          try simp (disch := first | decide | assumption | omega) only [kon, knt_some, knt_none, Option.toList_some, Option.toList_none, List.cons_append, List.nil_append, upI_eq, upI_a, upI_i, upR_eq, upR_a, upR_i, h64, h26, fAdd_id]
          have hE := (tyP_sk e56).trans (by rw [hp1r]; rfl : skT B p1 = fL_ B p)
          have eq9 : fnP B p = cdP B (q56 + 1 + 1 + B (q56 + 1)) (B q56) (B (q56 + 1)).toNat (q56 + 1 + 1) := by unfold fnP; rw [e1, bnd_ok, e2, bnd_ok, e56, bnd_ok, e74, bnd_ok, e88, bnd_ok]
          refine m_code (B := B) (L := B q56) hA hR (by omega) hf (by omega) (B (q56 + 1)).toNat (q56 + 1 + 1) _ (by simp (disch := decide) only [upI_eq, upI_a, upI_i, upR_eq, upR_a, upR_i]; exact h27') (by simp (disch := decide) only [upI_eq, upI_a, upI_i, upR_eq, upR_a, upR_i]; exact h52') (by simp (disch := decide) only [upI_eq, upI_a, upI_i, upR_eq, upR_a, upR_i, at1, fl1, bAt_up, hB', h26]) (by simp (disch := decide) only [upI_eq, upI_a, upI_i, upR_eq, upR_a, upR_i]) (by omega) (by omega) (by simp (disch := decide) only [upI_eq, upI_a, upI_i, upR_eq, upR_a, upR_i]) (by omega) (fun p' h' => ?_) (fun q' h' => ?_)
          · refine fin p' _ (by rw [eq9]; exact h') (by repeat' (first | assumption | exact FW.rf | refine FW.up ?_ (by unfold wF; omega) | refine FW.up ?_ (Or.inr ⟨rfl, by omega⟩) | refine FW.up ?_ (Or.inl (by unfold wF; omega)) | exact FW.mn (by assumption) (fun _ _ h => Or.inl h))) (by simp (disch := decide) only [upI_eq, upI_a, upI_i, upR_eq, upR_a, upR_i]) ⟨?_, fun k k0 k1 => ?_, ?_, ?_, ?_, ?_⟩
            · simp (disch := decide) only [upI_eq, upI_a, upI_i, upR_eq, upR_a, upR_i]; exact h64
            · simp (disch := decide) only [upI_eq, upI_a, upI_i, upR_eq, upR_a, upR_i]; exact h65 k k0 k1
            · simp (disch := decide) only [upI_eq, upI_a, upI_i, upR_eq, upR_a, upR_i]; rw [hp1r]
            · simp (disch := decide) only [upI_eq, upI_a, upI_i, upR_eq, upR_a, upR_i]; rw [hE]
            · simp (disch := decide) only [upI_eq, upI_a, upI_i, upR_eq, upR_a, upR_i]; rw [hE]
            · simp (disch := decide) only [upI_eq, upI_a, upI_i, upR_eq, upR_a, upR_i]; rw [hE]; omega
          · exact err q' _ (by rw [eq9]; exact h') (by repeat' (first | assumption | exact FW.rf | refine FW.up ?_ (by unfold wF; omega) | refine FW.up ?_ (Or.inr ⟨rfl, by omega⟩) | refine FW.up ?_ (Or.inl (by unfold wF; omega)) | exact FW.mn (by assumption) (fun _ _ h => Or.inl h))) (by simp (disch := decide) only [upI_eq, upI_a, upI_i, upR_eq, upR_a, upR_i]) (by simp (disch := decide) only [upI_eq, upI_a, upI_i, upR_eq, upR_a, upR_i])
        · skip
          show tho 232 = true ∧ Q none _ _ _
          refine ⟨rfl, ?_⟩
          exact err _ _ (by unfold fnP; rw [e1, bnd_ok, e2, bnd_ok]; first | (rw [e56]; rfl) | (rw [e56, bnd_ok, e74]; rfl) | (rw [e56, bnd_ok, e74, bnd_ok, e88]; rfl)) (by repeat' (first | assumption | exact FW.rf | refine FW.up ?_ (by unfold wF; omega) | refine FW.up ?_ (Or.inr ⟨rfl, by omega⟩) | refine FW.up ?_ (Or.inl (by unfold wF; omega)) | exact FW.mn (by assumption) (fun _ _ h => Or.inl h))) (by simp (disch := decide) only [upI_eq, upI_a, upI_i, upR_eq, upR_a, upR_i]) (by simp (disch := decide) only [upI_eq, upI_a, upI_i, upR_eq, upR_a, upR_i])
      · skip
        show tho 232 = true ∧ Q none _ _ _
        refine ⟨rfl, ?_⟩
        exact err _ _ (by unfold fnP; rw [e1, bnd_ok, e2, bnd_ok]; first | (rw [e56]; rfl) | (rw [e56, bnd_ok, e74]; rfl) | (rw [e56, bnd_ok, e74, bnd_ok, e88]; rfl)) (by repeat' (first | assumption | exact FW.rf | refine FW.up ?_ (by unfold wF; omega) | refine FW.up ?_ (Or.inr ⟨rfl, by omega⟩) | refine FW.up ?_ (Or.inl (by unfold wF; omega)) | exact FW.mn (by assumption) (fun _ _ h => Or.inl h))) (by simp (disch := decide) only [upI_eq, upI_a, upI_i, upR_eq, upR_a, upR_i]) (by simp (disch := decide) only [upI_eq, upI_a, upI_i, upR_eq, upR_a, upR_i])
    · skip
      show tho 232 = true ∧ Q none _ _ _
      refine ⟨rfl, ?_⟩
      exact err _ _ (by unfold fnP; rw [e1, bnd_ok, e2, bnd_ok]; first | (rw [e56]; rfl) | (rw [e56, bnd_ok, e74]; rfl) | (rw [e56, bnd_ok, e74, bnd_ok, e88]; rfl)) (by repeat' (first | assumption | exact FW.rf | refine FW.up ?_ (by unfold wF; omega) | refine FW.up ?_ (Or.inr ⟨rfl, by omega⟩) | refine FW.up ?_ (Or.inl (by unfold wF; omega)) | exact FW.mn (by assumption) (fun _ _ h => Or.inl h))) (by simp (disch := decide) only [upI_eq, upI_a, upI_i, upR_eq, upR_a, upR_i]) (by simp (disch := decide) only [upI_eq, upI_a, upI_i, upR_eq, upR_a, upR_i])
  have T14 : ∀ hi', nmb B 0 4 p = .ok (p + 1) → FW (wF f) hi hi' → hi' 49 26 = p + 1 → p + 1 ≤ 2000 → hi' 64 f = B p → Wp d 232 14 [vR (some 49), vI f, vI 0] [] al hi' hr Q := by
    intro hi' e1 hw h26 hp1 h64
    obtain ⟨-, b0, b1⟩ := nmb_ok e1
    refine wp_lpE (N := (B p).toNat) (f := tyP B 63 0) (p0 := p + 1) (fun i p' ls hi' => ls = [vR (some 49), vI f, vI i] ∧ FW (wF f) hi hi' ∧ hi' 49 26 = p' ∧ (0 ≤ p' ∧ p' ≤ 2000) ∧ hi' 64 f = B p ∧ ∀ k : Int, 0 ≤ k → k < i → hi' 65 (4 * f + k) = tyV B (itr (skT B) k.toNat (p + 1))) ?_ ?_ _ _ ⟨rfl, hw, h26, by omega, h64, fun k a b => absurd b (by omega)⟩
    · rintro i p' ls hi' hi4 hok ⟨rfl, hw, h26, hp', h64, h65⟩ nx er
      have hB' : bAt hi' 12 = B := (hw.B (by unfold wF; omega) (by unfold wF; omega)).trans hB
      obtain ⟨h27', h52'⟩ := hw.bt h27 h52 (by unfold wF; omega) (by unfold wF; omega)
      refine s232_14.mpr (s232_15.mpr ((s232_16 kM).mpr ?_))
      rw [mr_16 hR]
      refine s232_19.mpr ?_
      refine (s232_20 (hA.k (by decide) (by decide) rfl) (by first | assumption | omega) (by first | assumption | omega)).mpr ?_
      try simp (disch := first | decide | assumption | omega) only [kon, knt_some, knt_none, Option.toList_some, Option.toList_none, List.cons_append, List.nil_append, upI_eq, upI_a, upI_i, upR_eq, upR_a, upR_i, h64, h26, fAdd_id, fMul_id]
      refine s232_21.mpr (wif (fun c21 => ?_) (fun c21 => ?_))
      · skip
        refine s232_24.mpr ((s232_25 kM).mpr ?_)
        rw [mr_17 hR]
        refine s232_28.mpr (s232_29.mpr (s232_30.mpr (s232_31.mpr (s232_32.mpr (s232_33.mpr ?_)))))
        refine s232_34.mpr (s232_36.mpr ?_)
        try simp (disch := first | decide | assumption | omega) only [kon, knt_some, knt_none, Option.toList_some, Option.toList_none, List.cons_append, List.nil_append, upI_eq, upI_a, upI_i, upR_eq, upR_a, upR_i, h64, h26, fAdd_id, fMul_id]
        refine (s232_37 (by omega) kM).mpr ?_
        refine m_type hA hR ⟨by (try simp (disch := decide) only [upI_eq, upI_a, upI_i, upR_eq, upR_a, upR_i]); assumption, by (try simp (disch := decide) only [upI_eq, upI_a, upI_i, upR_eq, upR_a, upR_i]); assumption, by (try simp (disch := decide) only [upI_eq, upI_a, upI_i, upR_eq, upR_a, upR_i]); omega, by (try simp (disch := decide) only [upI_eq, upI_a, upI_i, upR_eq, upR_a, upR_i]); omega⟩ (by omega) (by decide) (Or.inl rfl) ?_
        simp (disch := decide) only [upI_eq, upI_a, upI_i, upR_eq, upR_a, upR_i, at1, fl1, bAt_up, hB', h26]
        refine kEx_of (fun q37 e37 => ?_) (fun q37 e37 => ?_)
        · skip
          have g37 := hrd _ (tyP_b e37)
          have u37 := tyP_ge e37
          refine (s232_40 (hA.k (by decide) (by decide) rfl) (by first | assumption | omega) (by first | assumption | omega)).mpr ?_
          refine s232_41.mpr (s232_44.mpr ?_)
          try simp (disch := first | decide | assumption | omega) only [kon, knt_some, knt_none, Option.toList_some, Option.toList_none, List.cons_append, List.nil_append, upI_eq, upI_a, upI_i, upR_eq, upR_a, upR_i, h64, h26, fAdd_id, fMul_id]
          refine nx _ _ _ e37 ⟨rfl, (by repeat' (first | assumption | exact FW.rf | refine FW.up ?_ (by unfold wF; omega) | refine FW.up ?_ (Or.inr ⟨rfl, by omega⟩) | refine FW.up ?_ (Or.inl (by unfold wF; omega)) | exact FW.mn (by assumption) (fun _ _ h => Or.inl h))), by simp (disch := decide) only [upI_eq, upI_a, upI_i, upR_eq, upR_a, upR_i], by omega, by simp (disch := decide) only [upI_eq, upI_a, upI_i, upR_eq, upR_a, upR_i]; exact h64, fun k k0 k1 => ?_⟩
          by_cases hk : k = i
          · subst hk; rw [upI_eq, lpE_itr (fun q q' h => tyP_sk h) _ _ _ hok]; rfl
          · rw [upI_i (by omega)]; simp (disch := decide) only [upI_eq, upI_a, upI_i, upR_eq, upR_a, upR_i]; exact h65 k k0 (by omega)
        · skip
          show tho 232 = true ∧ Q none _ _ _
          refine ⟨rfl, ?_⟩
          exact err _ _ (by unfold fnP; rw [e1, bnd_ok, er _ e37]; rfl) (by repeat' (first | assumption | exact FW.rf | refine FW.up ?_ (by unfold wF; omega) | refine FW.up ?_ (Or.inr ⟨rfl, by omega⟩) | refine FW.up ?_ (Or.inl (by unfold wF; omega)) | exact FW.mn (by assumption) (fun _ _ h => Or.inl h))) (by simp (disch := decide) only [upI_eq, upI_a, upI_i, upR_eq, upR_a, upR_i]) (by simp (disch := decide) only [upI_eq, upI_a, upI_i, upR_eq, upR_a, upR_i])
      · skip
        exfalso; omega
    · rintro p' ls hi' hok ⟨rfl, hw, h26, hp', h64, h65⟩
      refine s232_14.mpr (s232_15.mpr ((s232_16 kM).mpr ?_))
      rw [mr_16 hR]
      refine s232_19.mpr ?_
      refine (s232_20 (hA.k (by decide) (by decide) rfl) (by first | assumption | omega) (by first | assumption | omega)).mpr ?_
      try simp (disch := first | decide | assumption | omega) only [h64]
      refine s232_21.mpr (wif (fun c21 => ?_) (fun c21 => ?_))
      · skip
        exfalso; omega
      · skip
        exact T47 p' hi' _ e1 hok hw h26 hp' h64 (fun k a b => h65 k a (by omega))
  have hB' := hB
  rw [e232]
  refine s232_0.mpr ((s232_1 kM).mpr ?_)
  rw [mr_16 hR]
  refine s232_4.mpr (s232_5.mpr (s232_6.mpr (s232_7.mpr ?_)))
  refine (s232_8 (by omega) kM).mpr ?_
  refine m_numberE hA hR ⟨h27, h52, by omega, by omega⟩ (by omega) ?_
  simp (disch := decide) only [upI_eq, upI_a, upI_i, upR_eq, upR_a, upR_i, at1, fl1, bAt_up, hB', h26]
  refine kEx_of (fun q8 e8 => ?_) (fun q8 e8 => ?_)
  · skip
    obtain ⟨rfl, v8, w8⟩ := nmb_ok e8
    have g8 := hrd _ (nmb_b e8 (by omega))
    refine (s232_11 (hA.k (by decide) (by decide) rfl) (by first | assumption | omega) (by first | assumption | omega)).mpr ?_
    refine s232_12.mpr (s232_13.mpr ?_)
    try simp (disch := first | decide | assumption | omega) only [kon, knt_some, knt_none, Option.toList_some, Option.toList_none, List.cons_append, List.nil_append, upI_eq, upI_a, upI_i, upR_eq, upR_a, upR_i]
    exact T14 _ e8 (by repeat' (first | assumption | exact FW.rf | refine FW.up ?_ (by unfold wF; omega) | refine FW.up ?_ (Or.inr ⟨rfl, by omega⟩) | refine FW.up ?_ (Or.inl (by unfold wF; omega)) | exact FW.mn (by assumption) (fun _ _ h => Or.inl h))) (by simp (disch := decide) only [upI_eq, upI_a, upI_i, upR_eq, upR_a, upR_i]) g8 (by simp (disch := decide) only [upI_eq, upI_a, upI_i, upR_eq, upR_a, upR_i])
  · skip
    show tho 232 = true ∧ Q none _ _ _
    refine ⟨rfl, ?_⟩
    exact err _ _ (by unfold fnP; rw [e8]; rfl) (by repeat' (first | assumption | exact FW.rf | refine FW.up ?_ (by unfold wF; omega) | refine FW.up ?_ (Or.inr ⟨rfl, by omega⟩) | refine FW.up ?_ (Or.inl (by unfold wF; omega)) | exact FW.mn (by assumption) (fun _ _ h => Or.inl h))) (by simp (disch := decide) only [upI_eq, upI_a, upI_i, upR_eq, upR_a, upR_i]) (by simp (disch := decide) only [upI_eq, upI_a, upI_i, upR_eq, upR_a, upR_i])
end MP4
