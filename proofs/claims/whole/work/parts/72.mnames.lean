/-! THE REFERENCE looks for names -/
section MN
variable {d : Nat} {al : AL} {hi : HI} {hr : HR} {Q : QQ} {B : Int → Int}
theorem m_missing {q : Int} (hA : SA al) (hq : Q (some none) al (upI hi 49 28 (if hi 49 28 = -1 ∨ q < hi 49 28 then q else hi 49 28)) hr) : Ev d 236 [vR (some 49), vI q] al hi hr Q := by
  rw [e236]
  have kM : isK al 49 13 := hA.k (by decide) (by decide) rfl
  refine s236_0.mpr (s236_1.mpr ?_)
  refine (s236_2 kM).mpr ?_
  refine s236_5.mpr ?_
  refine s236_6.mpr (wif (fun c6 => ?_) (fun c6 => ?_))
  · skip
    refine s236_17.mpr (s236_18.mpr ?_)
    refine (s236_25 kM).mpr ?_
    refine (s236_28).mpr ?_
    first | (rw [if_pos (by omega)] at hq; exact hq) | (rw [if_neg (by omega)] at hq; exact hq)
  · skip
    refine s236_9.mpr (s236_10.mpr ?_)
    refine (s236_11 kM).mpr ?_
    refine s236_14.mpr (wif (fun c14 => ?_) (fun c14 => ?_))
    · skip
      refine s236_17.mpr (s236_18.mpr ?_)
      refine (s236_25 kM).mpr ?_
      refine (s236_28).mpr ?_
      first | (rw [if_pos (by omega)] at hq; exact hq) | (rw [if_neg (by omega)] at hq; exact hq)
    · skip
      refine s236_21.mpr ?_
      refine (s236_22 kM).mpr ?_
      refine (s236_25 kM).mpr ?_
      refine (s236_28).mpr ?_
      first | (rw [if_pos (by omega)] at hq; exact hq) | (rw [if_neg (by omega)] at hq; exact hq)
/-- what the reference holds of the module m -/
def MB (hi : HI) (m : Int) (B : Int → Int) : Prop := 0 ≤ m ∧ m < 13 ∧ hi 52 m ≤ 2000 ∧ bAt hi m = B ∧ MD hi m B
theorem m_isPlain {m r : Int} (hA : SA al) (hR : MR hr) (hm : 0 ≤ m ∧ m < 13) (hr0 : 0 ≤ r) (hr1 : r < 8) (h1 : hi 57 (8 * m + r) = nFld B r) (h2 : ∀ k, 0 ≤ k → k < nFld B r → hi 58 (48 * m + 6 * r + k) = fTy B r k) (hb : 0 ≤ nFld B r ∧ nFld B r ≤ 6)
    (hy : plainR B r → Q (some (some (vI 1))) al hi hr) (hn : ¬ plainR B r → Q (some (some (vI 0))) al hi hr) : Ev d 238 [vR (some 49), vI m, vI r] al hi hr Q := by
  rw [e238]
  have kM : isK al 49 13 := hA.k (by decide) (by decide) rfl
  have l57 := SA.len (a := 57) (n := 104) hA (by decide) (by decide) rfl
  have l58 := SA.len (a := 58) (n := 624) hA (by decide) (by decide) rfl
  have T2 : ∀ (n : Nat) (k : Int), 0 ≤ k → k + n = nFld B r → (∀ j, 0 ≤ j → j < k → fTy B r j = 0) → Wp d 238 2 [vR (some 49), vI m, vI r, vI k] [] al hi hr Q := by
    intro n
    induction n with
    | zero =>
      intro k k0 k1 hk
      refine s238_2.mpr (s238_3.mpr ((s238_4 kM).mpr ?_))
      rw [mr_9 hR]
      refine s238_7.mpr (s238_9.mpr (s238_10.mpr (s238_11.mpr (s238_12.mpr ?_))))
      try simp (disch := first | decide | assumption | omega) only [fAdd_id, fMul_id, h1]
      refine (s238_13 (hA.k (by decide) (by decide) rfl) (by first | assumption | omega) (by first | assumption | omega)).mpr ?_
      try simp (disch := first | decide | assumption | omega) only [fAdd_id, fMul_id, h1]
      refine s238_14.mpr (wif (fun c14 => ?_) (fun c14 => ?_))
      · skip
        exfalso; omega
      · skip
        refine s238_44.mpr ?_
        refine (s238_45 (by first | assumption | omega)).mpr ?_
        exact hy (fun j j0 j1 => hk j j0 (by omega))
    | succ n ih =>
      intro k k0 k1 hk
      have hf := h2 k k0 (by omega)
      refine s238_2.mpr (s238_3.mpr ((s238_4 kM).mpr ?_))
      rw [mr_9 hR]
      refine s238_7.mpr (s238_9.mpr (s238_10.mpr (s238_11.mpr (s238_12.mpr ?_))))
      try simp (disch := first | decide | assumption | omega) only [fAdd_id, fMul_id, h1, hf]
      refine (s238_13 (hA.k (by decide) (by decide) rfl) (by first | assumption | omega) (by first | assumption | omega)).mpr ?_
      try simp (disch := first | decide | assumption | omega) only [fAdd_id, fMul_id, h1, hf]
      refine s238_14.mpr (wif (fun c14 => ?_) (fun c14 => ?_))
      · skip
        refine s238_17.mpr ((s238_18 kM).mpr ?_)
        rw [mr_10 hR]
        refine s238_21.mpr (s238_23.mpr (s238_24.mpr (s238_25.mpr (s238_27.mpr (s238_28.mpr ?_)))))
        refine s238_29.mpr (s238_30.mpr (s238_31.mpr ?_))
        try simp (disch := first | decide | assumption | omega) only [fAdd_id, fMul_id, h1, hf]
        refine (s238_32 (hA.k (by decide) (by decide) rfl) (by first | assumption | omega) (by first | assumption | omega)).mpr ?_
        try simp (disch := first | decide | assumption | omega) only [fAdd_id, fMul_id, h1, hf]
        refine s238_33.mpr (wif (fun c33 => ?_) (fun c33 => ?_))
        · skip
          refine s238_38.mpr (s238_41.mpr ?_)
          try simp (disch := first | decide | assumption | omega) only [fAdd_id, fMul_id, h1, hf]
          exact ih (k + 1) (by omega) (by omega) (fun j j0 j1 => by by_cases hj : j = k; subst hj; exact c33; exact hk j j0 (by omega))
        · skip
          refine s238_36.mpr ?_
          refine (s238_37 (by first | assumption | omega)).mpr ?_
          exact hn (fun hp => c33 (hp k k0 (by omega)))
      · skip
        exfalso; omega
  refine s238_0.mpr (s238_1.mpr ?_)
  exact T2 (nFld B r).toNat 0 (by omega) (by omega) (fun j _ _ => absurd ‹j < 0› (by omega))
theorem m_length {m q : Int} (hA : SA al) (hR : MR hr) (hd : 1 ≤ d) (hm : 0 ≤ m ∧ m < 13) (h52 : hi 52 m ≤ 2000) (hB : bAt hi m = B) (hq0 : -2000 ≤ q ∧ q ≤ 4000) (hq : Q (some (some (vI (ilen B q)))) al hi hr) : Ev d 240 [vR (some 49), vI m, vI q] al hi hr Q := by
  rw [e240]
  have kM : isK al 49 13 := hA.k (by decide) (by decide) rfl
  have b1 := bAt_rng (hi := hi) m (q + 1)
  rw [hB] at b1
  refine s240_0.mpr (s240_1.mpr (s240_2.mpr ?_))
  refine (s240_3 (by omega) kM).mpr ?_
  refine (m_byteAt hA hR hm.1 hm.2 h52).mpr ?_
  rw [hB]
  refine s240_6.mpr (s240_7.mpr ?_)
  refine g240_8 (fun c8 => ?_) (fun c8 => ?_) (fun c8 => ?_) (fun c8 => ?_)
  · skip
    have c8 := List.mem_singleton.mp c8
    refine s240_188.mpr ?_
    refine (s240_189).mpr ?_
    have h9 : ilen B q = _ := by first | exact if_pos (oprn_1 (List.mem_singleton.mpr c8)) | (unfold ilen; rw [oprn_0 (fun h => c8 (by simp only [List.mem_cons, List.not_mem_nil, or_false] at h ⊢; omega))]; rfl) | (unfold ilen; rw [oprn_10 c8]; rfl) | (have := oprn_x c8; unfold ilen; rw [if_neg (by omega), if_neg (by omega), if_neg (by omega)])
    rw [h9] at hq; exact hq
  · skip
    refine s240_190.mpr ?_
    refine (s240_191).mpr ?_
    have h9 : ilen B q = _ := by first | exact if_pos (oprn_1 (List.mem_singleton.mpr c8)) | (unfold ilen; rw [oprn_0 (fun h => c8 (by simp only [List.mem_cons, List.not_mem_nil, or_false] at h ⊢; omega))]; rfl) | (unfold ilen; rw [oprn_10 c8]; rfl) | (have := oprn_x c8; unfold ilen; rw [if_neg (by omega), if_neg (by omega), if_neg (by omega)])
    rw [h9] at hq; exact hq
  · skip
    have c8 := List.mem_singleton.mp c8
    refine s240_192.mpr (s240_193.mpr (s240_194.mpr (s240_195.mpr (s240_196.mpr (s240_197.mpr ?_)))))
    try simp (disch := first | decide | assumption | omega) only [kon, knt_some, knt_none, Option.toList_some, Option.toList_none, List.cons_append, List.nil_append, fAdd_id, hB]
    refine (s240_198 (by omega) kM).mpr ?_
    refine (m_byteAt hA hR hm.1 hm.2 h52).mpr ?_
    rw [hB]
    refine s240_201.mpr ?_
    try simp (disch := first | decide | assumption | omega) only [kon, knt_some, knt_none, Option.toList_some, Option.toList_none, List.cons_append, List.nil_append, fAdd_id, hB]
    refine (s240_202).mpr ?_
    have h9 : ilen B q = _ := by first | exact if_pos (oprn_1 (List.mem_singleton.mpr c8)) | (unfold ilen; rw [oprn_0 (fun h => c8 (by simp only [List.mem_cons, List.not_mem_nil, or_false] at h ⊢; omega))]; rfl) | (unfold ilen; rw [oprn_10 c8]; rfl) | (have := oprn_x c8; unfold ilen; rw [if_neg (by omega), if_neg (by omega), if_neg (by omega)])
    rw [h9] at hq; exact hq
  · skip
    refine s240_203.mpr ?_
    refine (s240_204).mpr ?_
    have h9 : ilen B q = _ := by first | exact if_pos (oprn_1 (List.mem_singleton.mpr c8)) | (unfold ilen; rw [oprn_0 (fun h => c8 (by simp only [List.mem_cons, List.not_mem_nil, or_false] at h ⊢; omega))]; rfl) | (unfold ilen; rw [oprn_10 c8]; rfl) | (have := oprn_x c8; unfold ilen; rw [if_neg (by omega), if_neg (by omega), if_neg (by omega)])
    rw [h9] at hq; exact hq
end MN
