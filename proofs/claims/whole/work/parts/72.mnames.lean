/-! THE REFERENCE looks for names -/
section MN
variable {d : Nat} {al : AL} {hi : HI} {hr : HR} {Q : QQ} {B : Int → Int}
theorem m_missing {q : Int} (hA : SA al) (hq : Q (some none) al (upI hi 49 28 (if hi 49 28 = -1 ∨ q < hi 49 28 then q else hi 49 28)) hr) : Ev d 236 [vR (some 49), vI q] al hi hr Q := by
  rw [e236]
  have kM : isK al 49 13 := hA.k (by decide) (by decide) rfl
  refine s236_0.mpr (s236_1.mpr ?_)
  refine (s236_2 kM).mpr ?_
  refine s236_5.mpr ?_
  refine s236_6.mpr (wif (fun c6 => ?_) (fun c6 => ?_))
  · skip
    refine s236_17.mpr (s236_18.mpr ?_)
    refine (s236_25 kM).mpr ?_
    refine (s236_28).mpr ?_
    first | (rw [if_pos (by omega)] at hq; exact hq) | (rw [if_neg (by omega)] at hq; exact hq)
  · skip
    refine s236_9.mpr (s236_10.mpr ?_)
    refine (s236_11 kM).mpr ?_
    refine s236_14.mpr (wif (fun c14 => ?_) (fun c14 => ?_))
    · skip
      refine s236_17.mpr (s236_18.mpr ?_)
      refine (s236_25 kM).mpr ?_
      refine (s236_28).mpr ?_
      first | (rw [if_pos (by omega)] at hq; exact hq) | (rw [if_neg (by omega)] at hq; exact hq)
    · skip
      refine s236_21.mpr ?_
      refine (s236_22 kM).mpr ?_
      refine (s236_25 kM).mpr ?_
      refine (s236_28).mpr ?_
      first | (rw [if_pos (by omega)] at hq; exact hq) | (rw [if_neg (by omega)] at hq; exact hq)
/-- what the reference holds of the module m -/
def MB (hi : HI) (m : Int) (B : Int → Int) : Prop := 0 ≤ m ∧ m < 13 ∧ hi 52 m ≤ 2000 ∧ bAt hi m = B ∧ MD hi m B
theorem m_isPlain {m r : Int} (hA : SA al) (hR : MR hr) (hm : 0 ≤ m ∧ m < 13) (hr0 : 0 ≤ r) (hr1 : r < 8) (h1 : hi 57 (8 * m + r) = nFld B r) (h2 : ∀ k, 0 ≤ k → k < nFld B r → hi 58 (48 * m + 6 * r + k) = fTy B r k) (hb : 0 ≤ nFld B r ∧ nFld B r ≤ 6)
    (hy : plainR B r → Q (some (some (vI 1))) al hi hr) (hn : ¬ plainR B r → Q (some (some (vI 0))) al hi hr) : Ev d 238 [vR (some 49), vI m, vI r] al hi hr Q := by
  rw [e238]
  have kM : isK al 49 13 := hA.k (by decide) (by decide) rfl
  have l57 := SA.len (a := 57) (n := 104) hA (by decide) (by decide) rfl
  have l58 := SA.len (a := 58) (n := 624) hA (by decide) (by decide) rfl
  have T2 : ∀ (n : Nat) (k : Int), 0 ≤ k → k + n = nFld B r → (∀ j, 0 ≤ j → j < k → fTy B r j = 0) → Wp d 238 2 [vR (some 49), vI m, vI r, vI k] [] al hi hr Q := by
    intro n
    induction n with
    | zero =>
      intro k k0 k1 hk
      refine s238_2.mpr (s238_3.mpr ((s238_4 kM).mpr ?_))
      rw [mr_9 hR]
      refine s238_7.mpr (s238_9.mpr (s238_10.mpr (s238_11.mpr (s238_12.mpr ?_))))
      try simp (disch := first | decide | assumption | omega) only [fAdd_id, fMul_id, h1]
      refine (s238_13 (hA.k (by decide) (by decide) rfl) (by first | assumption | omega) (by first | assumption | omega)).mpr ?_
      try simp (disch := first | decide | assumption | omega) only [fAdd_id, fMul_id, h1]
      refine s238_14.mpr (wif (fun c14 => ?_) (fun c14 => ?_))
      · skip
        exfalso; omega
      · skip
        refine s238_44.mpr ?_
        refine (s238_45 (by first | assumption | omega)).mpr ?_
        exact hy (fun j j0 j1 => hk j j0 (by omega))
    | succ n ih =>
      intro k k0 k1 hk
      have hf := h2 k k0 (by omega)
      refine s238_2.mpr (s238_3.mpr ((s238_4 kM).mpr ?_))
      rw [mr_9 hR]
      refine s238_7.mpr (s238_9.mpr (s238_10.mpr (s238_11.mpr (s238_12.mpr ?_))))
      try simp (disch := first | decide | assumption | omega) only [fAdd_id, fMul_id, h1, hf]
      refine (s238_13 (hA.k (by decide) (by decide) rfl) (by first | assumption | omega) (by first | assumption | omega)).mpr ?_
      try simp (disch := first | decide | assumption | omega) only [fAdd_id, fMul_id, h1, hf]
      refine s238_14.mpr (wif (fun c14 => ?_) (fun c14 => ?_))
      · skip
        refine s238_17.mpr ((s238_18 kM).mpr ?_)
        rw [mr_10 hR]
        refine s238_21.mpr (s238_23.mpr (s238_24.mpr (s238_25.mpr (s238_27.mpr (s238_28.mpr ?_)))))
        refine s238_29.mpr (s238_30.mpr (s238_31.mpr ?_))
        try simp (disch := first | decide | assumption | omega) only [fAdd_id, fMul_id, h1, hf]
        refine (s238_32 (hA.k (by decide) (by decide) rfl) (by first | assumption | omega) (by first | assumption | omega)).mpr ?_
        try simp (disch := first | decide | assumption | omega) only [fAdd_id, fMul_id, h1, hf]
        refine s238_33.mpr (wif (fun c33 => ?_) (fun c33 => ?_))
        · skip
          refine s238_38.mpr (s238_41.mpr ?_)
          try simp (disch := first | decide | assumption | omega) only [fAdd_id, fMul_id, h1, hf]
          exact ih (k + 1) (by omega) (by omega) (fun j j0 j1 => by by_cases hj : j = k; subst hj; exact c33; exact hk j j0 (by omega))
        · skip
          refine s238_36.mpr ?_
          refine (s238_37 (by first | assumption | omega)).mpr ?_
          exact hn (fun hp => c33 (hp k k0 (by omega)))
      · skip
        exfalso; omega
  refine s238_0.mpr (s238_1.mpr ?_)
  exact T2 (nFld B r).toNat 0 (by omega) (by omega) (fun j _ _ => absurd ‹j < 0› (by omega))
theorem m_length {m q : Int} (hA : SA al) (hR : MR hr) (hd : 1 ≤ d) (hm : 0 ≤ m ∧ m < 13) (h52 : hi 52 m ≤ 2000) (hB : bAt hi m = B) (hq0 : -2000 ≤ q ∧ q ≤ 4000) (hq : Q (some (some (vI (ilen B q)))) al hi hr) : Ev d 240 [vR (some 49), vI m, vI q] al hi hr Q := by
  rw [e240]
  have kM : isK al 49 13 := hA.k (by decide) (by decide) rfl
  have b1 := bAt_rng (hi := hi) m (q + 1)
  rw [hB] at b1
  refine s240_0.mpr (s240_1.mpr (s240_2.mpr ?_))
  refine (s240_3 (by omega) kM).mpr ?_
  refine (m_byteAt hA hR hm.1 hm.2 h52).mpr ?_
  rw [hB]
  refine s240_6.mpr (s240_7.mpr ?_)
  refine g240_8 (fun c8 => ?_) (fun c8 => ?_) (fun c8 => ?_) (fun c8 => ?_)
  · skip
    have c8 := List.mem_singleton.mp c8
    refine s240_188.mpr ?_
    refine (s240_189).mpr ?_
    first | (rw [il_1 c8] at hq; exact hq) | (rw [il_0 c8] at hq; exact hq) | (rw [il_10 c8] at hq; exact hq) | (rw [il_2 c8] at hq; exact hq)
  · skip
    refine s240_190.mpr ?_
    refine (s240_191).mpr ?_
    first | (rw [il_1 c8] at hq; exact hq) | (rw [il_0 c8] at hq; exact hq) | (rw [il_10 c8] at hq; exact hq) | (rw [il_2 c8] at hq; exact hq)
  · skip
    have c8 := List.mem_singleton.mp c8
    refine s240_192.mpr (s240_193.mpr (s240_194.mpr (s240_195.mpr (s240_196.mpr (s240_197.mpr ?_)))))
    try simp (disch := first | decide | assumption | omega) only [kon, knt_some, knt_none, Option.toList_some, Option.toList_none, List.cons_append, List.nil_append, fAdd_id, hB]
    refine (s240_198 (by omega) kM).mpr ?_
    refine (m_byteAt hA hR hm.1 hm.2 h52).mpr ?_
    rw [hB]
    refine s240_201.mpr ?_
    try simp (disch := first | decide | assumption | omega) only [kon, knt_some, knt_none, Option.toList_some, Option.toList_none, List.cons_append, List.nil_append, fAdd_id, hB]
    refine (s240_202).mpr ?_
    first | (rw [il_1 c8] at hq; exact hq) | (rw [il_0 c8] at hq; exact hq) | (rw [il_10 c8] at hq; exact hq) | (rw [il_2 c8] at hq; exact hq)
  · skip
    refine s240_203.mpr ?_
    refine (s240_204).mpr ?_
    first | (rw [il_1 c8] at hq; exact hq) | (rw [il_0 c8] at hq; exact hq) | (rw [il_10 c8] at hq; exact hq) | (rw [il_2 c8] at hq; exact hq)
theorem itr_inc {g : Int → Int} (hg : ∀ q, q < g q) : ∀ (k : Nat) (p : Int), p + k ≤ itr g k p
  | 0, p => by show p + 0 ≤ p; omega
  | k + 1, p => by
    have h1 := itr_inc hg k (g p)
    have h2 := hg p
    show p + ((k + 1 : Nat) : Int) ≤ itr g k (g p)
    omega
theorem itr_add (g : Int → Int) : ∀ (j k : Nat) (p : Int), itr g (j + k) p = itr g k (itr g j p)
  | 0, k, p => by rw [Nat.zero_add]; rfl
  | j + 1, k, p => by rw [show j + 1 + k = (j + k) + 1 by omega]; exact itr_add g j k (g p)
theorem ilen_b (hB : ∀ k, -1 ≤ B k ∧ B k ≤ 255) (q : Int) : 1 ≤ ilen B q ∧ ilen B q ≤ 257 := by
  have := hB (q + 1)
  unfold ilen
  split
  · omega
  · split
    · omega
    · split <;> omega
theorem m_begins {m f c n pl : Int} (hA : SA al) (hR : MR hr) (hd : 2 ≤ d) (hm : 0 ≤ m ∧ m < 13) (hf : 0 ≤ f ∧ f < 130) (h52 : hi 52 m ≤ 2000) (hB : bAt hi m = B) (hc : hi 69 f = c) (hn : hi 68 f = n) (hc0 : 0 ≤ c ∧ c ≤ 2000) (hn0 : 0 ≤ n ∧ n ≤ 240)
    (hp : 0 ≤ pl) (hy : bgn B c n pl → Q (some (some (vI 1))) al hi hr) (hnn : ¬ bgn B c n pl → Q (some (some (vI 0))) al hi hr) : Ev d 241 [vR (some 49), vI m, vI f, vI pl] al hi hr Q := by
  rw [e241]
  have kM : isK al 49 13 := hA.k (by decide) (by decide) rfl
  have l68 := SA.len (a := 68) (n := 130) hA (by decide) (by decide) rfl
  have l69 := SA.len (a := 69) (n := 130) hA (by decide) (by decide) rfl
  have hrg : ∀ k, -1 ≤ B k ∧ B k ≤ 255 := fun k => by rw [← hB]; exact bAt_rng m k
  have hlen := fun q => ilen_b hrg (c + q)
  have T3 : ∀ (j k : Nat) (p : Int), 0 ≤ p → n - p ≤ j → itr (fun q => q + ilen B (c + q)) k 0 = p → (∀ i, i < k → itr (fun q => q + ilen B (c + q)) i 0 ≠ pl) → (∀ i, i < k → itr (fun q => q + ilen B (c + q)) i 0 < n) → Wp d 241 3 [vR (some 49), vI m, vI f, vI pl, vI p] [] al hi hr Q := by
    have fin : ∀ (k : Nat) (p : Int), n ≤ p → itr (fun q => q + ilen B (c + q)) k 0 = p → (∀ i, i < k → itr (fun q => q + ilen B (c + q)) i 0 ≠ pl) → ¬ bgn B c n pl := by
      rintro k p hnp hk hno ⟨b0, b1, i, hi⟩
      by_cases hik : i < k
      · exact hno i hik hi
      · have h9 := itr_inc (g := fun q => q + ilen B (c + q)) (fun q => by have := hlen q; show q < q + ilen B (c + q); omega) (i - k) p
        rw [← hk, ← itr_add, show k + (i - k) = i by omega, hi] at h9
        omega
    intro j
    induction j with
    | zero =>
      intro k p p0 hj hk hno hlt
      refine s241_3.mpr (s241_5.mpr ((s241_6 kM).mpr ?_))
      rw [mr_20 hR]
      refine s241_9.mpr ?_
      refine (s241_10 (hA.k (by decide) (by decide) rfl) (by first | assumption | omega) (by first | assumption | omega)).mpr ?_
      try simp (disch := first | decide | assumption | omega) only [hn]
      refine s241_11.mpr (wif (fun c11 => ?_) (fun c11 => ?_))
      · skip
        exfalso; omega
      · skip
        refine s241_44.mpr ?_
        refine (s241_45 (by first | assumption | omega)).mpr ?_
        exact hnn (fin k p (by omega) hk hno)
    | succ j ih =>
      intro k p p0 hj hk hno hlt
      have hl9 := hlen p
      refine s241_3.mpr (s241_5.mpr ((s241_6 kM).mpr ?_))
      rw [mr_20 hR]
      refine s241_9.mpr ?_
      refine (s241_10 (hA.k (by decide) (by decide) rfl) (by first | assumption | omega) (by first | assumption | omega)).mpr ?_
      try simp (disch := first | decide | assumption | omega) only [kon, knt_some, knt_none, Option.toList_some, Option.toList_none, List.cons_append, List.nil_append, hn, hc, fAdd_id]
      refine s241_11.mpr (wif (fun c11 => ?_) (fun c11 => ?_))
      · skip
        refine s241_14.mpr (s241_16.mpr ?_)
        refine s241_17.mpr (wif (fun c17 => ?_) (fun c17 => ?_))
        · skip
          refine s241_20.mpr ?_
          refine (s241_21 (by first | assumption | omega)).mpr ?_
          first | exact hy ⟨hp, by omega, k, by omega⟩ | exact hnn (fin k p (by omega) hk hno)
        · skip
          refine s241_22.mpr (s241_24.mpr (s241_25.mpr (s241_26.mpr ((s241_27 kM).mpr ?_))))
          rw [mr_21 hR]
          refine s241_30.mpr ?_
          refine (s241_31 (hA.k (by decide) (by decide) rfl) (by first | assumption | omega) (by first | assumption | omega)).mpr ?_
          refine s241_32.mpr (s241_34.mpr ?_)
          try simp (disch := first | decide | assumption | omega) only [kon, knt_some, knt_none, Option.toList_some, Option.toList_none, List.cons_append, List.nil_append, hn, hc, fAdd_id]
          refine (s241_35 (by omega) kM).mpr ?_
          refine m_length hA hR (by omega) hm h52 hB (by omega) ?_
          refine s241_38.mpr (s241_39.mpr (s241_41.mpr ?_))
          try simp (disch := first | decide | assumption | omega) only [kon, knt_some, knt_none, Option.toList_some, Option.toList_none, List.cons_append, List.nil_append, hn, hc, fAdd_id]
          refine ih (k + 1) _ (by omega) (by omega) (by rw [itr_s, hk]) (fun i hi => ?_) (fun i hi => ?_)
          · by_cases e : i = k
            · subst e; rw [hk]; exact c17
            · exact hno i (by omega)
          · by_cases e : i = k
            · subst e; rw [hk]; exact c11
            · exact hlt i (by omega)
      · skip
        refine s241_44.mpr ?_
        refine (s241_45 (by first | assumption | omega)).mpr ?_
        first | exact hy ⟨hp, by omega, k, by omega⟩ | exact hnn (fin k p (by omega) hk hno)
  refine s241_0.mpr (s241_1.mpr ?_)
  exact T3 n.toNat 0 0 (by omega) (by omega) rfl (fun i hi => absurd hi (by omega)) (fun i hi => absurd hi (by omega))
theorem m_names {m p ks no q : Int} (hA : SA al) (hR : MR hr) (hd : 3 ≤ d) (hM : MB hi m B) (hw : 0 ≤ nRec B ∧ nRec B ≤ 8 ∧ 0 ≤ nCtr B ∧ nCtr B ≤ 4 ∧ (∀ r, 0 ≤ r → r < nRec B → 0 ≤ nFld B r ∧ nFld B r ≤ 6)) (ht : tyP B ks no p = .ok q) (hp : 0 ≤ p ∧ p ≤ 2000)
    (hq : Q (some (some (vI q))) al (upI hi 49 28 (lst (nmT B p) (hi 49 28))) hr) : Ev d 237 [vR (some 49), vI m, vI p] al hi hr Q := by
  obtain ⟨hm0, hm1, h52, hB, hMD⟩ := hM
  obtain ⟨w1, w2, w3, w4, w5⟩ := hw
  rw [e237]
  have kM : isK al 49 13 := hA.k (by decide) (by decide) rfl
  have l53 := SA.len (a := 53) (n := 13) hA (by decide) (by decide) rfl
  have l54 := SA.len (a := 54) (n := 13) hA (by decide) (by decide) rfl
  have l59 := SA.len (a := 59) (n := 52) hA (by decide) (by decide) rfl
  obtain ⟨v1, v2, v3⟩ := tyP_v ht
  have hs := tyP_sk ht
  obtain ⟨m1, m2, m3, m4, m5, m6⟩ := hMD
  unfold skT at hs
  unfold nmT at hq
  have sm : upI hi 49 28 (hi 49 28) = hi := upI_same rfl
  refine s237_0.mpr (s237_1.mpr (s237_2.mpr ?_))
  refine (s237_3 (by omega) kM).mpr ?_
  refine (m_byteAt hA hR hm0 hm1 h52).mpr ?_
  try rw [hB]
  refine s237_6.mpr (s237_7.mpr (s237_8.mpr ?_))
  refine s237_11.mpr (wif (fun c11 => ?_) (fun c11 => ?_))
  · skip
    refine s237_23.mpr (s237_24.mpr (s237_25.mpr ?_))
    try simp (disch := first | decide | assumption | omega) only [kon, knt_some, knt_none, Option.toList_some, Option.toList_none, List.cons_append, List.nil_append, upI_eq, upI_a, upI_i, upR_eq, upR_a, upR_i, bAt_up, hB, m1, m3, fAdd_id, fMul_id]
    refine (s237_26).mpr ?_
    first | (rw [if_pos (by omega)] at hs hq; rw [lst_ok, sm, hs] at hq; exact hq) | (rw [if_neg (by omega), if_pos (by omega)] at hs hq; first | (rw [ckE_y (by refine ⟨by omega, fun _ => ?_⟩; first | assumption | omega), lst_ok, sm, hs] at hq; exact hq) | (rw [ckE_n (by intro h; first | omega | exact absurd (h.2 (by assumption)) (by assumption)), lst_er, hs] at hq; exact hq)) | (rw [if_neg (by omega), if_neg (by omega)] at hs hq; first | (rw [if_pos (by omega), lst_er, hs] at hq; exact hq) | (have h59 : hi 59 (4 * m + B (p + 1)) = nSt B (B (p + 1)) := (m4 _ (by omega) (by omega)).1; rw [if_neg (by omega)] at hq; first | (rw [ckE_y (by omega), lst_ok, sm, hs] at hq; exact hq) | (rw [ckE_n (by omega), lst_er, hs] at hq; exact hq)))
  · skip
    refine s237_14.mpr ?_
    refine s237_15.mpr (wif (fun c15 => ?_) (fun c15 => ?_))
    · skip
      refine s237_23.mpr (s237_24.mpr (s237_25.mpr ?_))
      try simp (disch := first | decide | assumption | omega) only [kon, knt_some, knt_none, Option.toList_some, Option.toList_none, List.cons_append, List.nil_append, upI_eq, upI_a, upI_i, upR_eq, upR_a, upR_i, bAt_up, hB, m1, m3, fAdd_id, fMul_id]
      refine (s237_26).mpr ?_
      first | (rw [if_pos (by omega)] at hs hq; rw [lst_ok, sm, hs] at hq; exact hq) | (rw [if_neg (by omega), if_pos (by omega)] at hs hq; first | (rw [ckE_y (by refine ⟨by omega, fun _ => ?_⟩; first | assumption | omega), lst_ok, sm, hs] at hq; exact hq) | (rw [ckE_n (by intro h; first | omega | exact absurd (h.2 (by assumption)) (by assumption)), lst_er, hs] at hq; exact hq)) | (rw [if_neg (by omega), if_neg (by omega)] at hs hq; first | (rw [if_pos (by omega), lst_er, hs] at hq; exact hq) | (have h59 : hi 59 (4 * m + B (p + 1)) = nSt B (B (p + 1)) := (m4 _ (by omega) (by omega)).1; rw [if_neg (by omega)] at hq; first | (rw [ckE_y (by omega), lst_ok, sm, hs] at hq; exact hq) | (rw [ckE_n (by omega), lst_er, hs] at hq; exact hq)))
    · skip
      refine s237_18.mpr (s237_19.mpr ?_)
      refine s237_20.mpr (wif (fun c20 => ?_) (fun c20 => ?_))
      · skip
        refine s237_23.mpr (s237_24.mpr (s237_25.mpr ?_))
        try simp (disch := first | decide | assumption | omega) only [kon, knt_some, knt_none, Option.toList_some, Option.toList_none, List.cons_append, List.nil_append, upI_eq, upI_a, upI_i, upR_eq, upR_a, upR_i, bAt_up, hB, m1, m3, fAdd_id, fMul_id]
        refine (s237_26).mpr ?_
        first | (rw [if_pos (by omega)] at hs hq; rw [lst_ok, sm, hs] at hq; exact hq) | (rw [if_neg (by omega), if_pos (by omega)] at hs hq; first | (rw [ckE_y (by refine ⟨by omega, fun _ => ?_⟩; first | assumption | omega), lst_ok, sm, hs] at hq; exact hq) | (rw [ckE_n (by intro h; first | omega | exact absurd (h.2 (by assumption)) (by assumption)), lst_er, hs] at hq; exact hq)) | (rw [if_neg (by omega), if_neg (by omega)] at hs hq; first | (rw [if_pos (by omega), lst_er, hs] at hq; exact hq) | (have h59 : hi 59 (4 * m + B (p + 1)) = nSt B (B (p + 1)) := (m4 _ (by omega) (by omega)).1; rw [if_neg (by omega)] at hq; first | (rw [ckE_y (by omega), lst_ok, sm, hs] at hq; exact hq) | (rw [ckE_n (by omega), lst_er, hs] at hq; exact hq)))
      · skip
        refine s237_27.mpr (s237_28.mpr (s237_29.mpr (s237_30.mpr (s237_31.mpr ?_))))
        try simp (disch := first | decide | assumption | omega) only [kon, knt_some, knt_none, Option.toList_some, Option.toList_none, List.cons_append, List.nil_append, upI_eq, upI_a, upI_i, upR_eq, upR_a, upR_i, bAt_up, hB, m1, m3, fAdd_id, fMul_id]
        refine (s237_32 (by omega) kM).mpr ?_
        refine (m_byteAt hA hR hm0 hm1 h52).mpr ?_
        try rw [hB]
        refine s237_35.mpr (s237_37.mpr (s237_38.mpr ?_))
        refine s237_39.mpr (wif (fun c39 => ?_) (fun c39 => ?_))
        · skip
          refine s237_79.mpr (s237_81.mpr ((s237_82 kM).mpr ?_))
          rw [mr_6 hR]
          refine s237_85.mpr ?_
          refine (s237_86 (hA.k (by decide) (by decide) rfl) (by first | assumption | omega) (by first | assumption | omega)).mpr ?_
          try simp (disch := first | decide | assumption | omega) only [kon, knt_some, knt_none, Option.toList_some, Option.toList_none, List.cons_append, List.nil_append, upI_eq, upI_a, upI_i, upR_eq, upR_a, upR_i, bAt_up, hB, m1, m3, fAdd_id, fMul_id]
          refine s237_87.mpr (wif (fun c87 => ?_) (fun c87 => ?_))
          · skip
            refine s237_100.mpr (s237_101.mpr (s237_102.mpr (s237_103.mpr (s237_104.mpr ?_))))
            try simp (disch := first | decide | assumption | omega) only [kon, knt_some, knt_none, Option.toList_some, Option.toList_none, List.cons_append, List.nil_append, upI_eq, upI_a, upI_i, upR_eq, upR_a, upR_i, bAt_up, hB, m1, m3, fAdd_id, fMul_id]
            refine (s237_105 (by omega) kM).mpr ?_
            refine (m_byteAt hA hR hm0 hm1 h52).mpr ?_
            try rw [hB]
            refine s237_108.mpr ((s237_109 kM).mpr ?_)
            rw [mr_11 hR]
            refine s237_112.mpr (s237_113.mpr (s237_114.mpr (s237_115.mpr (s237_117.mpr ?_))))
            try simp (disch := first | decide | assumption | omega) only [kon, knt_some, knt_none, Option.toList_some, Option.toList_none, List.cons_append, List.nil_append, upI_eq, upI_a, upI_i, upR_eq, upR_a, upR_i, bAt_up, hB, m1, m3, fAdd_id, fMul_id]
            refine (s237_118 (hA.k (by decide) (by decide) rfl) (by first | assumption | omega) (by first | assumption | omega)).mpr ?_
            try simp (disch := first | decide | assumption | omega) only [kon, knt_some, knt_none, Option.toList_some, Option.toList_none, List.cons_append, List.nil_append, upI_eq, upI_a, upI_i, upR_eq, upR_a, upR_i, bAt_up, hB, m1, m3, fAdd_id, fMul_id]
            refine s237_119.mpr (wif (fun c119 => ?_) (fun c119 => ?_))
            · skip
              refine s237_129.mpr (s237_130.mpr (s237_131.mpr ?_))
              try simp (disch := first | decide | assumption | omega) only [kon, knt_some, knt_none, Option.toList_some, Option.toList_none, List.cons_append, List.nil_append, upI_eq, upI_a, upI_i, upR_eq, upR_a, upR_i, bAt_up, hB, m1, m3, fAdd_id, fMul_id]
              refine (s237_132).mpr ?_
              first | (rw [if_pos (by omega)] at hs hq; rw [lst_ok, sm, hs] at hq; exact hq) | (rw [if_neg (by omega), if_pos (by omega)] at hs hq; first | (rw [ckE_y (by refine ⟨by omega, fun _ => ?_⟩; first | assumption | omega), lst_ok, sm, hs] at hq; exact hq) | (rw [ckE_n (by intro h; first | omega | exact absurd (h.2 (by assumption)) (by assumption)), lst_er, hs] at hq; exact hq)) | (rw [if_neg (by omega), if_neg (by omega)] at hs hq; first | (rw [if_pos (by omega), lst_er, hs] at hq; exact hq) | (have h59 : hi 59 (4 * m + B (p + 1)) = nSt B (B (p + 1)) := (m4 _ (by omega) (by omega)).1; rw [if_neg (by omega)] at hq; first | (rw [ckE_y (by omega), lst_ok, sm, hs] at hq; exact hq) | (rw [ckE_n (by omega), lst_er, hs] at hq; exact hq)))
            · skip
              refine s237_122.mpr (s237_123.mpr (s237_124.mpr (s237_125.mpr ?_)))
              try simp (disch := first | decide | assumption | omega) only [kon, knt_some, knt_none, Option.toList_some, Option.toList_none, List.cons_append, List.nil_append, upI_eq, upI_a, upI_i, upR_eq, upR_a, upR_i, bAt_up, hB, m1, m3, fAdd_id, fMul_id]
              refine (s237_126 (by omega) kM).mpr ?_
              refine m_missing hA ?_
              refine s237_129.mpr (s237_130.mpr (s237_131.mpr ?_))
              try simp (disch := first | decide | assumption | omega) only [kon, knt_some, knt_none, Option.toList_some, Option.toList_none, List.cons_append, List.nil_append, upI_eq, upI_a, upI_i, upR_eq, upR_a, upR_i, bAt_up, hB, m1, m3, fAdd_id, fMul_id]
              refine (s237_132).mpr ?_
              first | (rw [if_pos (by omega)] at hs hq; rw [lst_ok, sm, hs] at hq; exact hq) | (rw [if_neg (by omega), if_pos (by omega)] at hs hq; first | (rw [ckE_y (by refine ⟨by omega, fun _ => ?_⟩; first | assumption | omega), lst_ok, sm, hs] at hq; exact hq) | (rw [ckE_n (by intro h; first | omega | exact absurd (h.2 (by assumption)) (by assumption)), lst_er, hs] at hq; exact hq)) | (rw [if_neg (by omega), if_neg (by omega)] at hs hq; first | (rw [if_pos (by omega), lst_er, hs] at hq; exact hq) | (have h59 : hi 59 (4 * m + B (p + 1)) = nSt B (B (p + 1)) := (m4 _ (by omega) (by omega)).1; rw [if_neg (by omega)] at hq; first | (rw [ckE_y (by omega), lst_ok, sm, hs] at hq; exact hq) | (rw [ckE_n (by omega), lst_er, hs] at hq; exact hq)))
          · skip
            refine s237_90.mpr (s237_91.mpr (s237_92.mpr (s237_93.mpr ?_)))
            try simp (disch := first | decide | assumption | omega) only [kon, knt_some, knt_none, Option.toList_some, Option.toList_none, List.cons_append, List.nil_append, upI_eq, upI_a, upI_i, upR_eq, upR_a, upR_i, bAt_up, hB, m1, m3, fAdd_id, fMul_id]
            refine (s237_94 (by omega) kM).mpr ?_
            refine m_missing hA ?_
            refine s237_97.mpr (s237_129.mpr (s237_130.mpr (s237_131.mpr ?_)))
            try simp (disch := first | decide | assumption | omega) only [kon, knt_some, knt_none, Option.toList_some, Option.toList_none, List.cons_append, List.nil_append, upI_eq, upI_a, upI_i, upR_eq, upR_a, upR_i, bAt_up, hB, m1, m3, fAdd_id, fMul_id]
            refine (s237_132).mpr ?_
            first | (rw [if_pos (by omega)] at hs hq; rw [lst_ok, sm, hs] at hq; exact hq) | (rw [if_neg (by omega), if_pos (by omega)] at hs hq; first | (rw [ckE_y (by refine ⟨by omega, fun _ => ?_⟩; first | assumption | omega), lst_ok, sm, hs] at hq; exact hq) | (rw [ckE_n (by intro h; first | omega | exact absurd (h.2 (by assumption)) (by assumption)), lst_er, hs] at hq; exact hq)) | (rw [if_neg (by omega), if_neg (by omega)] at hs hq; first | (rw [if_pos (by omega), lst_er, hs] at hq; exact hq) | (have h59 : hi 59 (4 * m + B (p + 1)) = nSt B (B (p + 1)) := (m4 _ (by omega) (by omega)).1; rw [if_neg (by omega)] at hq; first | (rw [ckE_y (by omega), lst_ok, sm, hs] at hq; exact hq) | (rw [ckE_n (by omega), lst_er, hs] at hq; exact hq)))
        · skip
          refine s237_42.mpr (s237_44.mpr ((s237_45 kM).mpr ?_))
          rw [mr_5 hR]
          refine s237_48.mpr ?_
          refine (s237_49 (hA.k (by decide) (by decide) rfl) (by first | assumption | omega) (by first | assumption | omega)).mpr ?_
          try simp (disch := first | decide | assumption | omega) only [kon, knt_some, knt_none, Option.toList_some, Option.toList_none, List.cons_append, List.nil_append, upI_eq, upI_a, upI_i, upR_eq, upR_a, upR_i, bAt_up, hB, m1, m3, fAdd_id, fMul_id]
          refine s237_50.mpr (wif (fun c50 => ?_) (fun c50 => ?_))
          · skip
            refine s237_53.mpr (s237_54.mpr ?_)
            refine s237_55.mpr (wif (fun c55 => ?_) (fun c55 => ?_))
            · skip
              refine s237_58.mpr (s237_59.mpr (s237_60.mpr ?_))
              refine (s237_62 (by omega) kM).mpr ?_
              refine m_isPlain (B := B) hA hR ⟨hm0, hm1⟩ (by omega) (by omega) (m2 _ (by omega) (by omega)).1 (m2 _ (by omega) (by omega)).2 (w5 _ (by omega) (by omega)) (fun y62 => ?_) (fun y62 => ?_)
              · skip
                refine s237_65.mpr (wif (fun c65 => ?_) (fun c65 => ?_))
                · skip
                  refine s237_68.mpr (s237_69.mpr (s237_70.mpr (s237_71.mpr ?_)))
                  try simp (disch := first | decide | assumption | omega) only [kon, knt_some, knt_none, Option.toList_some, Option.toList_none, List.cons_append, List.nil_append, upI_eq, upI_a, upI_i, upR_eq, upR_a, upR_i, bAt_up, hB, m1, m3, fAdd_id, fMul_id]
                  refine (s237_72 (by omega) kM).mpr ?_
                  refine m_missing hA ?_
                  refine s237_75.mpr (s237_76.mpr (s237_77.mpr ?_))
                  try simp (disch := first | decide | assumption | omega) only [kon, knt_some, knt_none, Option.toList_some, Option.toList_none, List.cons_append, List.nil_append, upI_eq, upI_a, upI_i, upR_eq, upR_a, upR_i, bAt_up, hB, m1, m3, fAdd_id, fMul_id]
                  refine (s237_78).mpr ?_
                  first | (rw [if_pos (by omega)] at hs hq; rw [lst_ok, sm, hs] at hq; exact hq) | (rw [if_neg (by omega), if_pos (by omega)] at hs hq; first | (rw [ckE_y (by refine ⟨by omega, fun _ => ?_⟩; first | assumption | omega), lst_ok, sm, hs] at hq; exact hq) | (rw [ckE_n (by intro h; first | omega | exact absurd (h.2 (by assumption)) (by assumption)), lst_er, hs] at hq; exact hq)) | (rw [if_neg (by omega), if_neg (by omega)] at hs hq; first | (rw [if_pos (by omega), lst_er, hs] at hq; exact hq) | (have h59 : hi 59 (4 * m + B (p + 1)) = nSt B (B (p + 1)) := (m4 _ (by omega) (by omega)).1; rw [if_neg (by omega)] at hq; first | (rw [ckE_y (by omega), lst_ok, sm, hs] at hq; exact hq) | (rw [ckE_n (by omega), lst_er, hs] at hq; exact hq)))
                · skip
                  refine s237_75.mpr (s237_76.mpr (s237_77.mpr ?_))
                  try simp (disch := first | decide | assumption | omega) only [kon, knt_some, knt_none, Option.toList_some, Option.toList_none, List.cons_append, List.nil_append, upI_eq, upI_a, upI_i, upR_eq, upR_a, upR_i, bAt_up, hB, m1, m3, fAdd_id, fMul_id]
                  refine (s237_78).mpr ?_
                  first | (rw [if_pos (by omega)] at hs hq; rw [lst_ok, sm, hs] at hq; exact hq) | (rw [if_neg (by omega), if_pos (by omega)] at hs hq; first | (rw [ckE_y (by refine ⟨by omega, fun _ => ?_⟩; first | assumption | omega), lst_ok, sm, hs] at hq; exact hq) | (rw [ckE_n (by intro h; first | omega | exact absurd (h.2 (by assumption)) (by assumption)), lst_er, hs] at hq; exact hq)) | (rw [if_neg (by omega), if_neg (by omega)] at hs hq; first | (rw [if_pos (by omega), lst_er, hs] at hq; exact hq) | (have h59 : hi 59 (4 * m + B (p + 1)) = nSt B (B (p + 1)) := (m4 _ (by omega) (by omega)).1; rw [if_neg (by omega)] at hq; first | (rw [ckE_y (by omega), lst_ok, sm, hs] at hq; exact hq) | (rw [ckE_n (by omega), lst_er, hs] at hq; exact hq)))
              · skip
                refine s237_65.mpr (wif (fun c65 => ?_) (fun c65 => ?_))
                · skip
                  refine s237_68.mpr (s237_69.mpr (s237_70.mpr (s237_71.mpr ?_)))
                  try simp (disch := first | decide | assumption | omega) only [kon, knt_some, knt_none, Option.toList_some, Option.toList_none, List.cons_append, List.nil_append, upI_eq, upI_a, upI_i, upR_eq, upR_a, upR_i, bAt_up, hB, m1, m3, fAdd_id, fMul_id]
                  refine (s237_72 (by omega) kM).mpr ?_
                  refine m_missing hA ?_
                  refine s237_75.mpr (s237_76.mpr (s237_77.mpr ?_))
                  try simp (disch := first | decide | assumption | omega) only [kon, knt_some, knt_none, Option.toList_some, Option.toList_none, List.cons_append, List.nil_append, upI_eq, upI_a, upI_i, upR_eq, upR_a, upR_i, bAt_up, hB, m1, m3, fAdd_id, fMul_id]
                  refine (s237_78).mpr ?_
                  first | (rw [if_pos (by omega)] at hs hq; rw [lst_ok, sm, hs] at hq; exact hq) | (rw [if_neg (by omega), if_pos (by omega)] at hs hq; first | (rw [ckE_y (by refine ⟨by omega, fun _ => ?_⟩; first | assumption | omega), lst_ok, sm, hs] at hq; exact hq) | (rw [ckE_n (by intro h; first | omega | exact absurd (h.2 (by assumption)) (by assumption)), lst_er, hs] at hq; exact hq)) | (rw [if_neg (by omega), if_neg (by omega)] at hs hq; first | (rw [if_pos (by omega), lst_er, hs] at hq; exact hq) | (have h59 : hi 59 (4 * m + B (p + 1)) = nSt B (B (p + 1)) := (m4 _ (by omega) (by omega)).1; rw [if_neg (by omega)] at hq; first | (rw [ckE_y (by omega), lst_ok, sm, hs] at hq; exact hq) | (rw [ckE_n (by omega), lst_er, hs] at hq; exact hq)))
                · skip
                  refine s237_75.mpr (s237_76.mpr (s237_77.mpr ?_))
                  try simp (disch := first | decide | assumption | omega) only [kon, knt_some, knt_none, Option.toList_some, Option.toList_none, List.cons_append, List.nil_append, upI_eq, upI_a, upI_i, upR_eq, upR_a, upR_i, bAt_up, hB, m1, m3, fAdd_id, fMul_id]
                  refine (s237_78).mpr ?_
                  first | (rw [if_pos (by omega)] at hs hq; rw [lst_ok, sm, hs] at hq; exact hq) | (rw [if_neg (by omega), if_pos (by omega)] at hs hq; first | (rw [ckE_y (by refine ⟨by omega, fun _ => ?_⟩; first | assumption | omega), lst_ok, sm, hs] at hq; exact hq) | (rw [ckE_n (by intro h; first | omega | exact absurd (h.2 (by assumption)) (by assumption)), lst_er, hs] at hq; exact hq)) | (rw [if_neg (by omega), if_neg (by omega)] at hs hq; first | (rw [if_pos (by omega), lst_er, hs] at hq; exact hq) | (have h59 : hi 59 (4 * m + B (p + 1)) = nSt B (B (p + 1)) := (m4 _ (by omega) (by omega)).1; rw [if_neg (by omega)] at hq; first | (rw [ckE_y (by omega), lst_ok, sm, hs] at hq; exact hq) | (rw [ckE_n (by omega), lst_er, hs] at hq; exact hq)))
            · skip
              refine s237_75.mpr (s237_76.mpr (s237_77.mpr ?_))
              try simp (disch := first | decide | assumption | omega) only [kon, knt_some, knt_none, Option.toList_some, Option.toList_none, List.cons_append, List.nil_append, upI_eq, upI_a, upI_i, upR_eq, upR_a, upR_i, bAt_up, hB, m1, m3, fAdd_id, fMul_id]
              refine (s237_78).mpr ?_
              first | (rw [if_pos (by omega)] at hs hq; rw [lst_ok, sm, hs] at hq; exact hq) | (rw [if_neg (by omega), if_pos (by omega)] at hs hq; first | (rw [ckE_y (by refine ⟨by omega, fun _ => ?_⟩; first | assumption | omega), lst_ok, sm, hs] at hq; exact hq) | (rw [ckE_n (by intro h; first | omega | exact absurd (h.2 (by assumption)) (by assumption)), lst_er, hs] at hq; exact hq)) | (rw [if_neg (by omega), if_neg (by omega)] at hs hq; first | (rw [if_pos (by omega), lst_er, hs] at hq; exact hq) | (have h59 : hi 59 (4 * m + B (p + 1)) = nSt B (B (p + 1)) := (m4 _ (by omega) (by omega)).1; rw [if_neg (by omega)] at hq; first | (rw [ckE_y (by omega), lst_ok, sm, hs] at hq; exact hq) | (rw [ckE_n (by omega), lst_er, hs] at hq; exact hq)))
          · skip
            refine s237_68.mpr (s237_69.mpr (s237_70.mpr (s237_71.mpr ?_)))
            try simp (disch := first | decide | assumption | omega) only [kon, knt_some, knt_none, Option.toList_some, Option.toList_none, List.cons_append, List.nil_append, upI_eq, upI_a, upI_i, upR_eq, upR_a, upR_i, bAt_up, hB, m1, m3, fAdd_id, fMul_id]
            refine (s237_72 (by omega) kM).mpr ?_
            refine m_missing hA ?_
            refine s237_75.mpr (s237_76.mpr (s237_77.mpr ?_))
            try simp (disch := first | decide | assumption | omega) only [kon, knt_some, knt_none, Option.toList_some, Option.toList_none, List.cons_append, List.nil_append, upI_eq, upI_a, upI_i, upR_eq, upR_a, upR_i, bAt_up, hB, m1, m3, fAdd_id, fMul_id]
            refine (s237_78).mpr ?_
            first | (rw [if_pos (by omega)] at hs hq; rw [lst_ok, sm, hs] at hq; exact hq) | (rw [if_neg (by omega), if_pos (by omega)] at hs hq; first | (rw [ckE_y (by refine ⟨by omega, fun _ => ?_⟩; first | assumption | omega), lst_ok, sm, hs] at hq; exact hq) | (rw [ckE_n (by intro h; first | omega | exact absurd (h.2 (by assumption)) (by assumption)), lst_er, hs] at hq; exact hq)) | (rw [if_neg (by omega), if_neg (by omega)] at hs hq; first | (rw [if_pos (by omega), lst_er, hs] at hq; exact hq) | (have h59 : hi 59 (4 * m + B (p + 1)) = nSt B (B (p + 1)) := (m4 _ (by omega) (by omega)).1; rw [if_neg (by omega)] at hq; first | (rw [ckE_y (by omega), lst_ok, sm, hs] at hq; exact hq) | (rw [ckE_n (by omega), lst_er, hs] at hq; exact hq)))
end MN
