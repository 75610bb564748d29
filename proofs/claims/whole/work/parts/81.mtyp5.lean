/-! bits -/
section BITS
theorem nbit_and {k y z a c : Nat} (ha : a < 2 ^ k) (hc : c < 2 ^ k) : (2 ^ k * y + a) &&& (2 ^ k * z + c) = 2 ^ k * (y &&& z) + (a &&& c) := by
  have hac : a &&& c < 2 ^ k := Nat.lt_of_le_of_lt Nat.and_le_left ha
  apply Nat.eq_of_testBit_eq
  intro i
  rw [Nat.testBit_and, Nat.testBit_two_pow_mul_add _ ha, Nat.testBit_two_pow_mul_add _ hc, Nat.testBit_two_pow_mul_add _ hac]
  split
  · rw [Nat.testBit_and]
  · rw [Nat.testBit_and]
theorem nbit_or {k y z a c : Nat} (ha : a < 2 ^ k) (hc : c < 2 ^ k) : (2 ^ k * y + a) ||| (2 ^ k * z + c) = 2 ^ k * (y ||| z) + (a ||| c) := by
  have hac : a ||| c < 2 ^ k := Nat.or_lt_two_pow ha hc
  apply Nat.eq_of_testBit_eq
  intro i
  rw [Nat.testBit_or, Nat.testBit_two_pow_mul_add _ ha, Nat.testBit_two_pow_mul_add _ hc, Nat.testBit_two_pow_mul_add _ hac]
  split
  · rw [Nat.testBit_or]
  · rw [Nat.testBit_or]
theorem nst {a s e q : Nat} (ha : a < 2048) (hs : s < 256) (he : e < 2) (hq : q < 256) : ((2048 * (256 * e + s) + a) &&& 4294445055) ||| (2048 * q) = 2048 * (256 * e + q) + a := by
  have h1 : (2 ^ 11 * (256 * e + s) + a) &&& (2 ^ 11 * 2096896 + 2047) = 2 ^ 11 * ((256 * e + s) &&& 2096896) + (a &&& 2047) := nbit_and (by omega) (by decide)
  have h2 : (2 ^ 8 * e + s) &&& (2 ^ 8 * 8191 + 0) = 2 ^ 8 * (e &&& 8191) + (s &&& 0) := nbit_and (by omega) (by decide)
  have h3 : a &&& 2047 = a := by
    rw [show (2047 : Nat) = 2 ^ 11 - 1 from rfl, Nat.and_two_pow_sub_one_eq_mod]; omega
  have h4 : e &&& 8191 = e := by
    rcases (show e = 0 ∨ e = 1 by omega) with rfl | rfl <;> rfl
  have h5 : (2 ^ 8 * e + 0) ||| (2 ^ 8 * 0 + q) = 2 ^ 8 * (e ||| 0) + (0 ||| q) := nbit_or (by decide) (by omega)
  have h6 : (2 ^ 11 * (256 * e) + a) ||| (2 ^ 11 * q + 0) = 2 ^ 11 * ((256 * e) ||| q) + (a ||| 0) := nbit_or (by omega) (by decide)
  rw [show (4294445055 : Nat) = 2 ^ 11 * 2096896 + 2047 from rfl, show (2048 : Nat) = 2 ^ 11 from rfl, h1, h3]
  rw [show (2096896 : Nat) = 2 ^ 8 * 8191 + 0 from rfl, show (256 : Nat) = 2 ^ 8 from rfl, h2, h4, Nat.and_zero, Nat.add_zero]
  have h7 : 2 ^ 8 * e ||| q = 2 ^ 8 * e + q := by
    rw [Nat.add_zero, Nat.mul_zero, Nat.zero_add, Nat.or_zero, Nat.zero_or] at h5; exact h5
  rw [Nat.add_zero, Nat.or_zero] at h6
  rw [h6, h7]
theorem inSt {x q : Int} (hx : 0 ≤ x ∧ x < 1048576) (hq : 0 ≤ q ∧ q < 256) : fOr (fAnd x (-522241)) (fShl q 11) = x - 2048 * stateM x + 2048 * q := by
  obtain ⟨X, rfl⟩ := Int.eq_ofNat_of_zero_le hx.1
  obtain ⟨P, rfl⟩ := Int.eq_ofNat_of_zero_le hq.1
  have e1 : fShl (P : Int) 11 = ((2048 * P : Nat) : Int) := by
    have h := fShl_k (x := (P : Int)) 11 (by decide)
    rw [show ((11 : Nat) : Int) = 11 from rfl] at h
    rw [h, wr_id ⟨by omega, by omega⟩]
    omega
  rw [e1]
  unfold fOr fAnd
  have hn : (Int32.ofInt (X : Int) &&& Int32.ofInt (-522241)).toBitVec.toNat = X &&& 4294445055 := by
    show ((Int32.ofInt (X : Int)).toBitVec &&& (Int32.ofInt (-522241)).toBitVec).toNat = _
    rw [BitVec.toNat_and, i32_ofNat _ (by omega)]
    rfl
  have hn2 : X &&& 4294445055 < 1048576 := Nat.lt_of_le_of_lt Nat.and_le_left (by omega)
  have e2 : (Int32.ofInt (X : Int) &&& Int32.ofInt (-522241)).toInt = ((X &&& 4294445055 : Nat) : Int) := by
    rw [i32_toInt_small _ (by omega), hn]
  rw [e2]
  have h3 : (Int32.ofInt ((X &&& 4294445055 : Nat) : Int) ||| Int32.ofInt ((2048 * P : Nat) : Int)).toBitVec.toNat = (X &&& 4294445055) ||| (2048 * P) := by
    show ((Int32.ofInt ((X &&& 4294445055 : Nat) : Int)).toBitVec ||| (Int32.ofInt ((2048 * P : Nat) : Int)).toBitVec).toNat = _
    rw [BitVec.toNat_or, i32_ofNat _ (by omega), i32_ofNat _ (by omega)]
  have h4 := nst (a := X % 2048) (s := X / 2048 % 256) (e := X / 524288) (q := P) (by omega) (by omega) (by omega) (by omega)
  rw [show 2048 * (256 * (X / 524288) + X / 2048 % 256) + X % 2048 = X by omega] at h4
  rw [i32_toInt_small _ (by rw [h3, h4]; omega), h3, h4]
  unfold stateM
  omega
end BITS
section MT5
variable {d : Nat} {al : AL} {hi : HI} {hr : HR} {Q : QQ} {B : Int → Int}
theorem st_b (x : Int) : 0 ≤ stateM x ∧ stateM x < 256 := by unfold stateM; omega
theorem sd_b (x : Int) : 0 ≤ sideM x ∧ sideM x < 2 := by unfold sideM; omega
theorem vE {s : Int → Int} {t : Int} (hv : ∀ k, 0 ≤ k → k < t → vT B (s k)) (k : Int) : k < 0 ∨ t ≤ k ∨ ¬ kindM (s k) = 5 ∨ (0 ≤ whichM (s k) ∧ whichM (s k) < nCtr B ∧ 0 ≤ stateM (s k) ∧ stateM (s k) < nSt B (whichM (s k))) := by
  by_cases h1 : k < 0
  · omega
  · by_cases h2 : t ≤ k
    · omega
    · have h3 := (hv k (by omega) (by omega)).2.2.2.2.2.2.2
      have h4 := wh_b (s k)
      have h6 := st_b (s k)
      by_cases h5 : kindM (s k) = 5
      · have := h3 h5; omega
      · omega
/-- the contracts' rows of the module m -/
theorem MB.ct {m c s : Int} (hM : MB hi m B) (hS : Sh B) (c0 : 0 ≤ c) (c1 : c < nCtr B) (s0 : 0 ≤ s) (s1 : s < nSt B c) : hi 60 (8 * (4 * m + c) + s) = tnS B c s ∧ hi 61 (8 * (4 * m + c) + s) = nMs B c s ∧ (∀ t, 0 ≤ t → t < nMs B c s → hi 62 (4 * (8 * (4 * m + c) + s) + t) = ldM B c s t ∧ hi 63 (4 * (8 * (4 * m + c) + s) + t) = thM B c s t) := by
  obtain ⟨-, -, -, -, m1, m2, m3, m4, m5, m6⟩ := hM
  obtain ⟨q1, q2⟩ := m4 c c0 c1
  obtain ⟨a, b, e⟩ := q2 s s0 s1
  exact ⟨a, b, fun t t0 t1 => e t t0 t1⟩
theorem m_stateOf {m e : Int} (hd : 1 ≤ d) (hm : 0 ≤ m ∧ m < 13) (he : rng e) (hq : Q (some (some (vI (8 * (4 * m + whichM e) + stateM e)))) al hi hr) : Ev d 261 [vI m, vI e] al hi hr Q := by
  have := wh_b e
  have := st_b e
  rw [e261]
  refine s261_0.mpr (s261_2.mpr (s261_3.mpr (s261_4.mpr (s261_5.mpr ?_))))
  try simp (disch := first | decide | assumption | omega) only [kon, knt_some, knt_none, Option.toList_some, Option.toList_none, List.cons_append, List.nil_append, fAdd_id, fMul_id]
  refine (s261_6 (by omega)).mpr ?_
  refine (m_which he).mpr ?_
  refine s261_9.mpr (s261_10.mpr (s261_11.mpr ?_))
  try simp (disch := first | decide | assumption | omega) only [kon, knt_some, knt_none, Option.toList_some, Option.toList_none, List.cons_append, List.nil_append, fAdd_id, fMul_id]
  refine (s261_12 (by omega)).mpr ?_
  refine (m_state he).mpr ?_
  refine s261_15.mpr ?_
  try simp (disch := first | decide | assumption | omega) only [kon, knt_some, knt_none, Option.toList_some, Option.toList_none, List.cons_append, List.nil_append, fAdd_id, fMul_id]
  refine (s261_16).mpr ?_
  exact hq
theorem m_inState {e q : Int} (he : 0 ≤ e ∧ e < 1048576) (hq0 : 0 ≤ q ∧ q < 256) (hq : Q (some (some (vI (e - 2048 * stateM e + 2048 * q)))) al hi hr) : Ev d 259 [vI e, vI q] al hi hr Q := by
  rw [e259]
  refine s259_0.mpr (s259_1.mpr (s259_4.mpr (s259_5.mpr (s259_6.mpr (s259_8.mpr ?_)))))
  refine s259_9.mpr ?_
  refine (s259_10).mpr ?_
  rw [inSt he hq0]; exact hq
/-- what is known of the end's type at a place -/
def EndV (B : Int → Int) (e : Int) : Prop := 0 ≤ e ∧ e < 1048576 ∧ whichM e < nCtr B ∧ stateM e < nSt B (whichM e)
theorem endV_of {e : Int} (h : vT B e) (hk : kindM e = 5) : EndV B e := ⟨h.1, h.2.1, (h.2.2.2.2.2.2.2 hk).1, (h.2.2.2.2.2.2.2 hk).2⟩
theorem m_isTurn {m e t : Int} (hA : SA al) (hR : MR hr) (hd : 3 ≤ d) (hM : MB hi m B) (hS : Sh B) (hE : EndV B e)
    (hy : tnS B (whichM e) (stateM e) = 1 + sideM e → t < nMs B (whichM e) (stateM e) → Q (some (some (vI 1))) al hi hr) (hn : ¬ (tnS B (whichM e) (stateM e) = 1 + sideM e ∧ t < nMs B (whichM e) (stateM e)) → Q (some (some (vI 0))) al hi hr) : Ev d 262 [vR (some 49), vI m, vI e, vI t] al hi hr Q := by
  have a1 := wh_b e
  have a2 := st_b e
  have a3 := sd_b e
  obtain ⟨hm0, hm1, -⟩ := id hM
  have he : rng e := ⟨by have := hE.1; omega, by have := hE.2.1; omega⟩
  obtain ⟨q1, q2, -⟩ := hM.ct hS a1.1 hE.2.2.1 a2.1 hE.2.2.2
  have c8 : nCtr B ≤ 4 := hS.2.2.2.2.2.1
  have s8 : nSt B (whichM e) ≤ 8 := (hS.2.2.2.2.2.2.1 _ a1.1 hE.2.2.1).2.1
  have b1 := hE.2.2.1
  have b2 := hE.2.2.2
  have kM : isK al 49 13 := hA.k (by decide) (by decide) rfl
  have l60 := SA.len (a := 60) (n := 416) hA (by decide) (by decide) rfl
  have l61 := SA.len (a := 61) (n := 416) hA (by decide) (by decide) rfl
  rw [e262]
  refine s262_0.mpr ((s262_1 kM).mpr ?_)
  rw [mr_12 hR]
  refine s262_4.mpr (s262_5.mpr ?_)
  refine (s262_6 (by omega)).mpr ?_
  refine m_stateOf (by omega) ⟨hm0, hm1⟩ he ?_
  refine (s262_9 (hA.k (by decide) (by decide) rfl) (by first | assumption | omega) (by first | assumption | omega)).mpr ?_
  refine s262_10.mpr (s262_11.mpr ?_)
  try simp (disch := first | decide | assumption | omega) only [kon, knt_some, knt_none, Option.toList_some, Option.toList_none, List.cons_append, List.nil_append, fAdd_id, q1, q2]
  refine (s262_12 (by omega)).mpr ?_
  refine (m_side he).mpr ?_
  refine s262_15.mpr ?_
  try simp (disch := first | decide | assumption | omega) only [kon, knt_some, knt_none, Option.toList_some, Option.toList_none, List.cons_append, List.nil_append, fAdd_id, q1, q2]
  refine s262_16.mpr (wif (fun c16 => ?_) (fun c16 => ?_))
  · skip
    refine s262_19.mpr (s262_20.mpr ((s262_21 kM).mpr ?_))
    rw [mr_13 hR]
    refine s262_24.mpr (s262_25.mpr ?_)
    refine (s262_26 (by omega)).mpr ?_
    refine m_stateOf (by omega) ⟨hm0, hm1⟩ he ?_
    refine (s262_29 (hA.k (by decide) (by decide) rfl) (by first | assumption | omega) (by first | assumption | omega)).mpr ?_
    try simp (disch := first | decide | assumption | omega) only [kon, knt_some, knt_none, Option.toList_some, Option.toList_none, List.cons_append, List.nil_append, fAdd_id, q1, q2]
    refine s262_30.mpr (wif (fun c30 => ?_) (fun c30 => ?_))
    · skip
      refine s262_33.mpr (s262_34.mpr ?_)
      refine (s262_38 (by first | assumption | omega)).mpr ?_
      first | exact hy (by omega) (by omega) | exact hn (by omega)
    · skip
      refine s262_37.mpr ?_
      refine (s262_38 (by first | assumption | omega)).mpr ?_
      first | exact hy (by omega) (by omega) | exact hn (by omega)
  · skip
    refine s262_37.mpr ?_
    refine (s262_38 (by first | assumption | omega)).mpr ?_
    first | exact hy (by omega) (by omega) | exact hn (by omega)
theorem m_l32 {m g op v p t : Int} (hA : SA al) (hR : MR hr) (hd : 5 ≤ d) (hM : MB hi m B) (hS : Sh B) (h36 : hi 49 36 = 1) (h38 : hi 49 38 = 0) (ht : hi 49 35 = t) (ht0 : 0 ≤ t ∧ t ≤ 16) (hvX : vX B (t, hi 75, hi 76)) (c1 : op = 32) (hv0 : 0 ≤ v ∧ v ≤ 255)
    (ok : ∀ L Y hi', tsL B g op v p (t, hi 75, hi 76) = some L → FLW op v p Y L → FW wS hi hi' → hi' 49 36 = 1 → hi' 49 38 = 0 → scX hi' = Y → Q (some none) al hi' hr)
    (no : ∀ hi', tsL B g op v p (t, hi 75, hi 76) = none → FW wS hi hi' → hi' 49 36 = 0 → Q (some none) al hi' hr) : Wp d 258 64 [vR (some 49), vI m, vI (10 * m + g), vI op, vI v, none, none, none] [] al hi hr Q := by
  have kM : isK al 49 13 := hA.k (by decide) (by decide) rfl
  have E1 : t - 1 - 1 = t - 2 := by omega
  have E2 : t - 2 + 1 = t - 1 := by omega
  have E3 : t - 1 + 1 = t := by omega
  have E4 : t - 2 - 1 = t - 3 := by omega
  have E5 : t - 3 + 1 = t - 2 := by omega
  have E6 : t + 1 + 1 = t + 2 := by omega
  have E7 : t + 1 - 1 = t := by omega
  refine s258_64.mpr (s258_65.mpr (s258_66.mpr (s258_68.mpr (s258_70.mpr (s258_71.mpr ?_)))))
  try simp (disch := first | decide | assumption | omega) only [kon, knt_some, knt_none, Option.toList_some, Option.toList_none, List.cons_append, List.nil_append, upI_eq, upI_a, upI_i, upR_eq, upR_a, upR_i, h36, ht, E1, E2, E3, E4, E5, E6, E7, fAdd_id, fSub_id, fMul_id]
  refine (s258_72 (by omega) kM).mpr ?_
  refine m_push hA hR (by (try simp (disch := decide) only [upI_eq, upI_a, upI_i, upR_eq, upR_a, upR_i]); first | assumption | rfl) (by omega) ?_
  refine s258_75.mpr ?_
  refine (s258_401).mpr ?_
  first | (exfalso; omega) | (exact ok _ _ _ ((tsL_32 c1).trans (onw_p (trivial))) (flw1 (by rw [c1]; decide)) (by repeat' (first | assumption | exact FW.rf | refine FW.up ?_ (by unfold wS; omega) | (refine FW.tr ?_ (by assumption)))) (by (try simp (disch := decide) only [upI_eq, upI_a, upI_i, upR_eq, upR_a, upR_i]); try assumption) (by (try simp (disch := decide) only [upI_eq, upI_a, upI_i, upR_eq, upR_a, upR_i]); try assumption) (by simp (disch := decide) only [scX, upI_eq, upI_a, upI_i, upR_eq, upR_a, upR_i, upI_ro, upI_rw, up1_same, up1_eq, ht, E1, E2, E3, E4, E5, E6, E7]))
theorem m_l33 {m g op v p t : Int} (hA : SA al) (hR : MR hr) (hd : 5 ≤ d) (hM : MB hi m B) (hS : Sh B) (h36 : hi 49 36 = 1) (h38 : hi 49 38 = 0) (ht : hi 49 35 = t) (ht0 : 0 ≤ t ∧ t ≤ 16) (hvX : vX B (t, hi 75, hi 76)) (c1 : op = 33) (hv0 : 0 ≤ v ∧ v ≤ 5)
    (ok : ∀ L Y hi', tsL B g op v p (t, hi 75, hi 76) = some L → FLW op v p Y L → FW wS hi hi' → hi' 49 36 = 1 → hi' 49 38 = 0 → scX hi' = Y → Q (some none) al hi' hr)
    (no : ∀ hi', tsL B g op v p (t, hi 75, hi 76) = none → FW wS hi hi' → hi' 49 36 = 0 → Q (some none) al hi' hr) : Wp d 258 78 [vR (some 49), vI m, vI (10 * m + g), vI op, vI v, none, none, none] [] al hi hr Q := by
  have kM : isK al 49 13 := hA.k (by decide) (by decide) rfl
  have E1 : t - 1 - 1 = t - 2 := by omega
  have E2 : t - 2 + 1 = t - 1 := by omega
  have E3 : t - 1 + 1 = t := by omega
  have E4 : t - 2 - 1 = t - 3 := by omega
  have E5 : t - 3 + 1 = t - 2 := by omega
  have E6 : t + 1 + 1 = t + 2 := by omega
  have E7 : t + 1 - 1 = t := by omega
  obtain ⟨hm0, hm1, h52, hB, m1, m2, m3, m4, m5, m6⟩ := id hM
  have hv75 : ∀ k, 0 ≤ k → k < t → vT B (hi 75 k) := hvX.2.1
  clear m3 m4 m5 m6 hB h52
  have r1 : nRec B ≤ 8 := hS.2.1
  have l57 := SA.len (a := 57) (n := 104) hA (by decide) (by decide) rfl
  have m2a : ∀ r, 0 ≤ r → r < nRec B → hi 57 (8 * m + r) = nFld B r := fun r a b => (m2 r a b).1
  have W1 := vW hv75 (t - 1)
  refine s258_78.mpr (s258_79.mpr ?_)
  refine (s258_80 (by omega) kM).mpr ?_
  refine m_popKind hA hR (by omega) (by (try simp (disch := decide) only [upI_eq, upI_a, upI_i, upR_eq, upR_a, upR_i]); first | assumption | rfl) (by omega) (by (try simp (disch := decide) only [upI_eq, upI_a, upI_i, upR_eq, upR_a, upR_i]); first | assumption | rfl) (by omega) (fun y80 => ?_) (fun q80 hi80 t80 w80 z80 u80 v80 x80 => ?_)
  · skip
    try simp (disch := decide) only [upI_eq, upI_a, upI_i, upR_eq, upR_a, upR_i, E1, E4] at y80
    try simp (disch := decide) only [upI_eq, upI_a, upI_i, upR_eq, upR_a, upR_i, E1, E4] at x80
    refine s258_83.mpr (s258_85.mpr (s258_86.mpr ?_))
    refine (s258_87 kM).mpr ?_
    try simp (disch := first | decide | assumption | omega) only [kon, knt_some, knt_none, Option.toList_some, Option.toList_none, List.cons_append, List.nil_append, upI_eq, upI_a, upI_i, upR_eq, upR_a, upR_i, h36, ht, E1, E2, E3, E4, E5, E6, E7, fAdd_id, fSub_id, fMul_id, m2a]
    refine s258_90.mpr (wif (fun c90 => ?_) (fun c90 => ?_))
    · first
      | (exfalso; omega)
      | skip
        refine s258_117.mpr ?_
        refine (s258_118 (by omega) kM).mpr ?_
        refine m_wants hA (by omega) (by (try simp (disch := decide) only [upI_eq, upI_a, upI_i, upR_eq, upR_a, upR_i]); first | assumption | rfl) (by omega) (fun y118 => ?_) (fun y118 => ?_)
        · skip
          refine s258_121.mpr ?_
          refine (s258_122 kM).mpr ?_
          try simp (disch := first | decide | assumption | omega) only [kon, knt_some, knt_none, Option.toList_some, Option.toList_none, List.cons_append, List.nil_append, upI_eq, upI_a, upI_i, upR_eq, upR_a, upR_i, h36, ht, E1, E2, E3, E4, E5, E6, E7, fAdd_id, fSub_id, fMul_id, m2a]
          refine s258_125.mpr (wif (fun c125 => ?_) (fun c125 => ?_))
          · first
            | (exfalso; omega)
            | skip
              refine (s258_401).mpr ?_
              first | (exfalso; omega) | (exact ok _ _ _ ((tsL_33 c1).trans (onw_p (by dsimp only; omega))) (flw1 (by rw [c1]; decide)) (by repeat' (first | assumption | exact FW.rf | refine FW.up ?_ (by unfold wS; omega) | (refine FW.tr ?_ (by assumption)))) (by (try simp (disch := decide) only [upI_eq, upI_a, upI_i, upR_eq, upR_a, upR_i]); try assumption) (by (try simp (disch := decide) only [upI_eq, upI_a, upI_i, upR_eq, upR_a, upR_i]); try assumption) (by simp (disch := decide) only [scX, upI_eq, upI_a, upI_i, upR_eq, upR_a, upR_i, upI_ro, upI_rw, up1_same, up1_eq, ht, E1, E2, E3, E4, E5, E6, E7])) | (exact no _ ((tsL_33 c1).trans (onw_n (by intro h; dsimp only at h; omega))) (by repeat' (first | assumption | exact FW.rf | refine FW.up ?_ (by unfold wS; omega) | (refine FW.tr ?_ (by assumption)))) (by (try simp (disch := decide) only [upI_eq, upI_a, upI_i, upR_eq, upR_a, upR_i]); try assumption))
          · first
            | (exfalso; omega)
            | skip
              refine s258_128.mpr (s258_129.mpr ?_)
              refine (s258_131 (by omega) kM).mpr ?_
              refine m_push hA hR (by (try simp (disch := decide) only [upI_eq, upI_a, upI_i, upR_eq, upR_a, upR_i]); first | assumption | rfl) (by omega) ?_
              refine s258_134.mpr (s258_135.mpr ?_)
              refine (s258_136 (by omega) kM).mpr ?_
              refine m_push hA hR (by (try simp (disch := decide) only [upI_eq, upI_a, upI_i, upR_eq, upR_a, upR_i]); first | assumption | rfl) (by omega) ?_
              refine s258_139.mpr ?_
              refine (s258_401).mpr ?_
              first | (exfalso; omega) | (exact ok _ _ _ ((tsL_33 c1).trans (onw_p (by dsimp only; omega))) (flw1 (by rw [c1]; decide)) (by repeat' (first | assumption | exact FW.rf | refine FW.up ?_ (by unfold wS; omega) | (refine FW.tr ?_ (by assumption)))) (by (try simp (disch := decide) only [upI_eq, upI_a, upI_i, upR_eq, upR_a, upR_i]); try assumption) (by (try simp (disch := decide) only [upI_eq, upI_a, upI_i, upR_eq, upR_a, upR_i]); try assumption) (by simp (disch := decide) only [scX, upI_eq, upI_a, upI_i, upR_eq, upR_a, upR_i, upI_ro, upI_rw, up1_same, up1_eq, ht, E1, E2, E3, E4, E5, E6, E7])) | (exact no _ ((tsL_33 c1).trans (onw_n (by intro h; dsimp only at h; omega))) (by repeat' (first | assumption | exact FW.rf | refine FW.up ?_ (by unfold wS; omega) | (refine FW.tr ?_ (by assumption)))) (by (try simp (disch := decide) only [upI_eq, upI_a, upI_i, upR_eq, upR_a, upR_i]); try assumption))
        · skip
          refine s258_121.mpr ?_
          refine (s258_122 kM).mpr ?_
          try simp (disch := first | decide | assumption | omega) only [kon, knt_some, knt_none, Option.toList_some, Option.toList_none, List.cons_append, List.nil_append, upI_eq, upI_a, upI_i, upR_eq, upR_a, upR_i, h36, ht, E1, E2, E3, E4, E5, E6, E7, fAdd_id, fSub_id, fMul_id, m2a]
          refine s258_125.mpr (wif (fun c125 => ?_) (fun c125 => ?_))
          · first
            | (exfalso; omega)
            | skip
              refine (s258_401).mpr ?_
              first | (exfalso; omega) | (exact ok _ _ _ ((tsL_33 c1).trans (onw_p (by dsimp only; omega))) (flw1 (by rw [c1]; decide)) (by repeat' (first | assumption | exact FW.rf | refine FW.up ?_ (by unfold wS; omega) | (refine FW.tr ?_ (by assumption)))) (by (try simp (disch := decide) only [upI_eq, upI_a, upI_i, upR_eq, upR_a, upR_i]); try assumption) (by (try simp (disch := decide) only [upI_eq, upI_a, upI_i, upR_eq, upR_a, upR_i]); try assumption) (by simp (disch := decide) only [scX, upI_eq, upI_a, upI_i, upR_eq, upR_a, upR_i, upI_ro, upI_rw, up1_same, up1_eq, ht, E1, E2, E3, E4, E5, E6, E7])) | (exact no _ ((tsL_33 c1).trans (onw_n (by intro h; dsimp only at h; omega))) (by repeat' (first | assumption | exact FW.rf | refine FW.up ?_ (by unfold wS; omega) | (refine FW.tr ?_ (by assumption)))) (by (try simp (disch := decide) only [upI_eq, upI_a, upI_i, upR_eq, upR_a, upR_i]); try assumption))
          · first
            | (exfalso; omega)
            | skip
              refine s258_128.mpr (s258_129.mpr ?_)
              refine (s258_131 (by omega) kM).mpr ?_
              refine m_push hA hR (by (try simp (disch := decide) only [upI_eq, upI_a, upI_i, upR_eq, upR_a, upR_i]); first | assumption | rfl) (by omega) ?_
              refine s258_134.mpr (s258_135.mpr ?_)
              refine (s258_136 (by omega) kM).mpr ?_
              refine m_push hA hR (by (try simp (disch := decide) only [upI_eq, upI_a, upI_i, upR_eq, upR_a, upR_i]); first | assumption | rfl) (by omega) ?_
              refine s258_139.mpr ?_
              refine (s258_401).mpr ?_
              first | (exfalso; omega) | (exact ok _ _ _ ((tsL_33 c1).trans (onw_p (by dsimp only; omega))) (flw1 (by rw [c1]; decide)) (by repeat' (first | assumption | exact FW.rf | refine FW.up ?_ (by unfold wS; omega) | (refine FW.tr ?_ (by assumption)))) (by (try simp (disch := decide) only [upI_eq, upI_a, upI_i, upR_eq, upR_a, upR_i]); try assumption) (by (try simp (disch := decide) only [upI_eq, upI_a, upI_i, upR_eq, upR_a, upR_i]); try assumption) (by simp (disch := decide) only [scX, upI_eq, upI_a, upI_i, upR_eq, upR_a, upR_i, upI_ro, upI_rw, up1_same, up1_eq, ht, E1, E2, E3, E4, E5, E6, E7])) | (exact no _ ((tsL_33 c1).trans (onw_n (by intro h; dsimp only at h; omega))) (by repeat' (first | assumption | exact FW.rf | refine FW.up ?_ (by unfold wS; omega) | (refine FW.tr ?_ (by assumption)))) (by (try simp (disch := decide) only [upI_eq, upI_a, upI_i, upR_eq, upR_a, upR_i]); try assumption))
    · first
      | (exfalso; omega)
      | skip
        refine s258_93.mpr (s258_95.mpr ((s258_96 kM).mpr ?_))
        rw [mr_9 hR]
        refine s258_99.mpr (s258_101.mpr (s258_102.mpr (s258_103.mpr ?_)))
        try simp (disch := first | decide | assumption | omega) only [kon, knt_some, knt_none, Option.toList_some, Option.toList_none, List.cons_append, List.nil_append, upI_eq, upI_a, upI_i, upR_eq, upR_a, upR_i, h36, ht, E1, E2, E3, E4, E5, E6, E7, fAdd_id, fSub_id, fMul_id, m2a]
        refine (s258_105 (by omega)).mpr ?_
        refine (m_which (vT_rng (hv75 _ (by omega) (by omega)))).mpr ?_
        refine s258_108.mpr ?_
        try simp (disch := first | decide | assumption | omega) only [kon, knt_some, knt_none, Option.toList_some, Option.toList_none, List.cons_append, List.nil_append, upI_eq, upI_a, upI_i, upR_eq, upR_a, upR_i, h36, ht, E1, E2, E3, E4, E5, E6, E7, fAdd_id, fSub_id, fMul_id, m2a]
        refine (s258_109 (hA.k (by decide) (by decide) rfl) (by first | assumption | omega) (by first | assumption | omega)).mpr ?_
        try simp (disch := first | decide | assumption | omega) only [kon, knt_some, knt_none, Option.toList_some, Option.toList_none, List.cons_append, List.nil_append, upI_eq, upI_a, upI_i, upR_eq, upR_a, upR_i, h36, ht, E1, E2, E3, E4, E5, E6, E7, fAdd_id, fSub_id, fMul_id, m2a]
        refine s258_110.mpr (wif (fun c110 => ?_) (fun c110 => ?_))
        · first
          | (exfalso; omega)
          | skip
            refine s258_113.mpr (s258_114.mpr ?_)
            refine (s258_118 (by omega) kM).mpr ?_
            refine m_wants hA (by omega) (by (try simp (disch := decide) only [upI_eq, upI_a, upI_i, upR_eq, upR_a, upR_i]); first | assumption | rfl) (by omega) (fun y118 => ?_) (fun y118 => ?_)
            · skip
              refine s258_121.mpr ?_
              refine (s258_122 kM).mpr ?_
              try simp (disch := first | decide | assumption | omega) only [kon, knt_some, knt_none, Option.toList_some, Option.toList_none, List.cons_append, List.nil_append, upI_eq, upI_a, upI_i, upR_eq, upR_a, upR_i, h36, ht, E1, E2, E3, E4, E5, E6, E7, fAdd_id, fSub_id, fMul_id, m2a]
              refine s258_125.mpr (wif (fun c125 => ?_) (fun c125 => ?_))
              · first
                | (exfalso; omega)
                | skip
                  refine (s258_401).mpr ?_
                  first | (exfalso; omega) | (exact ok _ _ _ ((tsL_33 c1).trans (onw_p (by dsimp only; omega))) (flw1 (by rw [c1]; decide)) (by repeat' (first | assumption | exact FW.rf | refine FW.up ?_ (by unfold wS; omega) | (refine FW.tr ?_ (by assumption)))) (by (try simp (disch := decide) only [upI_eq, upI_a, upI_i, upR_eq, upR_a, upR_i]); try assumption) (by (try simp (disch := decide) only [upI_eq, upI_a, upI_i, upR_eq, upR_a, upR_i]); try assumption) (by simp (disch := decide) only [scX, upI_eq, upI_a, upI_i, upR_eq, upR_a, upR_i, upI_ro, upI_rw, up1_same, up1_eq, ht, E1, E2, E3, E4, E5, E6, E7])) | (exact no _ ((tsL_33 c1).trans (onw_n (by intro h; dsimp only at h; omega))) (by repeat' (first | assumption | exact FW.rf | refine FW.up ?_ (by unfold wS; omega) | (refine FW.tr ?_ (by assumption)))) (by (try simp (disch := decide) only [upI_eq, upI_a, upI_i, upR_eq, upR_a, upR_i]); try assumption))
              · first
                | (exfalso; omega)
                | skip
                  refine s258_128.mpr (s258_129.mpr ?_)
                  refine (s258_131 (by omega) kM).mpr ?_
                  refine m_push hA hR (by (try simp (disch := decide) only [upI_eq, upI_a, upI_i, upR_eq, upR_a, upR_i]); first | assumption | rfl) (by omega) ?_
                  refine s258_134.mpr (s258_135.mpr ?_)
                  refine (s258_136 (by omega) kM).mpr ?_
                  refine m_push hA hR (by (try simp (disch := decide) only [upI_eq, upI_a, upI_i, upR_eq, upR_a, upR_i]); first | assumption | rfl) (by omega) ?_
                  refine s258_139.mpr ?_
                  refine (s258_401).mpr ?_
                  first | (exfalso; omega) | (exact ok _ _ _ ((tsL_33 c1).trans (onw_p (by dsimp only; omega))) (flw1 (by rw [c1]; decide)) (by repeat' (first | assumption | exact FW.rf | refine FW.up ?_ (by unfold wS; omega) | (refine FW.tr ?_ (by assumption)))) (by (try simp (disch := decide) only [upI_eq, upI_a, upI_i, upR_eq, upR_a, upR_i]); try assumption) (by (try simp (disch := decide) only [upI_eq, upI_a, upI_i, upR_eq, upR_a, upR_i]); try assumption) (by simp (disch := decide) only [scX, upI_eq, upI_a, upI_i, upR_eq, upR_a, upR_i, upI_ro, upI_rw, up1_same, up1_eq, ht, E1, E2, E3, E4, E5, E6, E7])) | (exact no _ ((tsL_33 c1).trans (onw_n (by intro h; dsimp only at h; omega))) (by repeat' (first | assumption | exact FW.rf | refine FW.up ?_ (by unfold wS; omega) | (refine FW.tr ?_ (by assumption)))) (by (try simp (disch := decide) only [upI_eq, upI_a, upI_i, upR_eq, upR_a, upR_i]); try assumption))
            · skip
              refine s258_121.mpr ?_
              refine (s258_122 kM).mpr ?_
              try simp (disch := first | decide | assumption | omega) only [kon, knt_some, knt_none, Option.toList_some, Option.toList_none, List.cons_append, List.nil_append, upI_eq, upI_a, upI_i, upR_eq, upR_a, upR_i, h36, ht, E1, E2, E3, E4, E5, E6, E7, fAdd_id, fSub_id, fMul_id, m2a]
              refine s258_125.mpr (wif (fun c125 => ?_) (fun c125 => ?_))
              · first
                | (exfalso; omega)
                | skip
                  refine (s258_401).mpr ?_
                  first | (exfalso; omega) | (exact ok _ _ _ ((tsL_33 c1).trans (onw_p (by dsimp only; omega))) (flw1 (by rw [c1]; decide)) (by repeat' (first | assumption | exact FW.rf | refine FW.up ?_ (by unfold wS; omega) | (refine FW.tr ?_ (by assumption)))) (by (try simp (disch := decide) only [upI_eq, upI_a, upI_i, upR_eq, upR_a, upR_i]); try assumption) (by (try simp (disch := decide) only [upI_eq, upI_a, upI_i, upR_eq, upR_a, upR_i]); try assumption) (by simp (disch := decide) only [scX, upI_eq, upI_a, upI_i, upR_eq, upR_a, upR_i, upI_ro, upI_rw, up1_same, up1_eq, ht, E1, E2, E3, E4, E5, E6, E7])) | (exact no _ ((tsL_33 c1).trans (onw_n (by intro h; dsimp only at h; omega))) (by repeat' (first | assumption | exact FW.rf | refine FW.up ?_ (by unfold wS; omega) | (refine FW.tr ?_ (by assumption)))) (by (try simp (disch := decide) only [upI_eq, upI_a, upI_i, upR_eq, upR_a, upR_i]); try assumption))
              · first
                | (exfalso; omega)
                | skip
                  refine s258_128.mpr (s258_129.mpr ?_)
                  refine (s258_131 (by omega) kM).mpr ?_
                  refine m_push hA hR (by (try simp (disch := decide) only [upI_eq, upI_a, upI_i, upR_eq, upR_a, upR_i]); first | assumption | rfl) (by omega) ?_
                  refine s258_134.mpr (s258_135.mpr ?_)
                  refine (s258_136 (by omega) kM).mpr ?_
                  refine m_push hA hR (by (try simp (disch := decide) only [upI_eq, upI_a, upI_i, upR_eq, upR_a, upR_i]); first | assumption | rfl) (by omega) ?_
                  refine s258_139.mpr ?_
                  refine (s258_401).mpr ?_
                  first | (exfalso; omega) | (exact ok _ _ _ ((tsL_33 c1).trans (onw_p (by dsimp only; omega))) (flw1 (by rw [c1]; decide)) (by repeat' (first | assumption | exact FW.rf | refine FW.up ?_ (by unfold wS; omega) | (refine FW.tr ?_ (by assumption)))) (by (try simp (disch := decide) only [upI_eq, upI_a, upI_i, upR_eq, upR_a, upR_i]); try assumption) (by (try simp (disch := decide) only [upI_eq, upI_a, upI_i, upR_eq, upR_a, upR_i]); try assumption) (by simp (disch := decide) only [scX, upI_eq, upI_a, upI_i, upR_eq, upR_a, upR_i, upI_ro, upI_rw, up1_same, up1_eq, ht, E1, E2, E3, E4, E5, E6, E7])) | (exact no _ ((tsL_33 c1).trans (onw_n (by intro h; dsimp only at h; omega))) (by repeat' (first | assumption | exact FW.rf | refine FW.up ?_ (by unfold wS; omega) | (refine FW.tr ?_ (by assumption)))) (by (try simp (disch := decide) only [upI_eq, upI_a, upI_i, upR_eq, upR_a, upR_i]); try assumption))
        · first
          | (exfalso; omega)
          | skip
            refine s258_117.mpr ?_
            refine (s258_118 (by omega) kM).mpr ?_
            refine m_wants hA (by omega) (by (try simp (disch := decide) only [upI_eq, upI_a, upI_i, upR_eq, upR_a, upR_i]); first | assumption | rfl) (by omega) (fun y118 => ?_) (fun y118 => ?_)
            · skip
              refine s258_121.mpr ?_
              refine (s258_122 kM).mpr ?_
              try simp (disch := first | decide | assumption | omega) only [kon, knt_some, knt_none, Option.toList_some, Option.toList_none, List.cons_append, List.nil_append, upI_eq, upI_a, upI_i, upR_eq, upR_a, upR_i, h36, ht, E1, E2, E3, E4, E5, E6, E7, fAdd_id, fSub_id, fMul_id, m2a]
              refine s258_125.mpr (wif (fun c125 => ?_) (fun c125 => ?_))
              · first
                | (exfalso; omega)
                | skip
                  refine (s258_401).mpr ?_
                  first | (exfalso; omega) | (exact ok _ _ _ ((tsL_33 c1).trans (onw_p (by dsimp only; omega))) (flw1 (by rw [c1]; decide)) (by repeat' (first | assumption | exact FW.rf | refine FW.up ?_ (by unfold wS; omega) | (refine FW.tr ?_ (by assumption)))) (by (try simp (disch := decide) only [upI_eq, upI_a, upI_i, upR_eq, upR_a, upR_i]); try assumption) (by (try simp (disch := decide) only [upI_eq, upI_a, upI_i, upR_eq, upR_a, upR_i]); try assumption) (by simp (disch := decide) only [scX, upI_eq, upI_a, upI_i, upR_eq, upR_a, upR_i, upI_ro, upI_rw, up1_same, up1_eq, ht, E1, E2, E3, E4, E5, E6, E7])) | (exact no _ ((tsL_33 c1).trans (onw_n (by intro h; dsimp only at h; omega))) (by repeat' (first | assumption | exact FW.rf | refine FW.up ?_ (by unfold wS; omega) | (refine FW.tr ?_ (by assumption)))) (by (try simp (disch := decide) only [upI_eq, upI_a, upI_i, upR_eq, upR_a, upR_i]); try assumption))
              · first
                | (exfalso; omega)
                | skip
                  refine s258_128.mpr (s258_129.mpr ?_)
                  refine (s258_131 (by omega) kM).mpr ?_
                  refine m_push hA hR (by (try simp (disch := decide) only [upI_eq, upI_a, upI_i, upR_eq, upR_a, upR_i]); first | assumption | rfl) (by omega) ?_
                  refine s258_134.mpr (s258_135.mpr ?_)
                  refine (s258_136 (by omega) kM).mpr ?_
                  refine m_push hA hR (by (try simp (disch := decide) only [upI_eq, upI_a, upI_i, upR_eq, upR_a, upR_i]); first | assumption | rfl) (by omega) ?_
                  refine s258_139.mpr ?_
                  refine (s258_401).mpr ?_
                  first | (exfalso; omega) | (exact ok _ _ _ ((tsL_33 c1).trans (onw_p (by dsimp only; omega))) (flw1 (by rw [c1]; decide)) (by repeat' (first | assumption | exact FW.rf | refine FW.up ?_ (by unfold wS; omega) | (refine FW.tr ?_ (by assumption)))) (by (try simp (disch := decide) only [upI_eq, upI_a, upI_i, upR_eq, upR_a, upR_i]); try assumption) (by (try simp (disch := decide) only [upI_eq, upI_a, upI_i, upR_eq, upR_a, upR_i]); try assumption) (by simp (disch := decide) only [scX, upI_eq, upI_a, upI_i, upR_eq, upR_a, upR_i, upI_ro, upI_rw, up1_same, up1_eq, ht, E1, E2, E3, E4, E5, E6, E7])) | (exact no _ ((tsL_33 c1).trans (onw_n (by intro h; dsimp only at h; omega))) (by repeat' (first | assumption | exact FW.rf | refine FW.up ?_ (by unfold wS; omega) | (refine FW.tr ?_ (by assumption)))) (by (try simp (disch := decide) only [upI_eq, upI_a, upI_i, upR_eq, upR_a, upR_i]); try assumption))
            · skip
              refine s258_121.mpr ?_
              refine (s258_122 kM).mpr ?_
              try simp (disch := first | decide | assumption | omega) only [kon, knt_some, knt_none, Option.toList_some, Option.toList_none, List.cons_append, List.nil_append, upI_eq, upI_a, upI_i, upR_eq, upR_a, upR_i, h36, ht, E1, E2, E3, E4, E5, E6, E7, fAdd_id, fSub_id, fMul_id, m2a]
              refine s258_125.mpr (wif (fun c125 => ?_) (fun c125 => ?_))
              · first
                | (exfalso; omega)
                | skip
                  refine (s258_401).mpr ?_
                  first | (exfalso; omega) | (exact ok _ _ _ ((tsL_33 c1).trans (onw_p (by dsimp only; omega))) (flw1 (by rw [c1]; decide)) (by repeat' (first | assumption | exact FW.rf | refine FW.up ?_ (by unfold wS; omega) | (refine FW.tr ?_ (by assumption)))) (by (try simp (disch := decide) only [upI_eq, upI_a, upI_i, upR_eq, upR_a, upR_i]); try assumption) (by (try simp (disch := decide) only [upI_eq, upI_a, upI_i, upR_eq, upR_a, upR_i]); try assumption) (by simp (disch := decide) only [scX, upI_eq, upI_a, upI_i, upR_eq, upR_a, upR_i, upI_ro, upI_rw, up1_same, up1_eq, ht, E1, E2, E3, E4, E5, E6, E7])) | (exact no _ ((tsL_33 c1).trans (onw_n (by intro h; dsimp only at h; omega))) (by repeat' (first | assumption | exact FW.rf | refine FW.up ?_ (by unfold wS; omega) | (refine FW.tr ?_ (by assumption)))) (by (try simp (disch := decide) only [upI_eq, upI_a, upI_i, upR_eq, upR_a, upR_i]); try assumption))
              · first
                | (exfalso; omega)
                | skip
                  refine s258_128.mpr (s258_129.mpr ?_)
                  refine (s258_131 (by omega) kM).mpr ?_
                  refine m_push hA hR (by (try simp (disch := decide) only [upI_eq, upI_a, upI_i, upR_eq, upR_a, upR_i]); first | assumption | rfl) (by omega) ?_
                  refine s258_134.mpr (s258_135.mpr ?_)
                  refine (s258_136 (by omega) kM).mpr ?_
                  refine m_push hA hR (by (try simp (disch := decide) only [upI_eq, upI_a, upI_i, upR_eq, upR_a, upR_i]); first | assumption | rfl) (by omega) ?_
                  refine s258_139.mpr ?_
                  refine (s258_401).mpr ?_
                  first | (exfalso; omega) | (exact ok _ _ _ ((tsL_33 c1).trans (onw_p (by dsimp only; omega))) (flw1 (by rw [c1]; decide)) (by repeat' (first | assumption | exact FW.rf | refine FW.up ?_ (by unfold wS; omega) | (refine FW.tr ?_ (by assumption)))) (by (try simp (disch := decide) only [upI_eq, upI_a, upI_i, upR_eq, upR_a, upR_i]); try assumption) (by (try simp (disch := decide) only [upI_eq, upI_a, upI_i, upR_eq, upR_a, upR_i]); try assumption) (by simp (disch := decide) only [scX, upI_eq, upI_a, upI_i, upR_eq, upR_a, upR_i, upI_ro, upI_rw, up1_same, up1_eq, ht, E1, E2, E3, E4, E5, E6, E7])) | (exact no _ ((tsL_33 c1).trans (onw_n (by intro h; dsimp only at h; omega))) (by repeat' (first | assumption | exact FW.rf | refine FW.up ?_ (by unfold wS; omega) | (refine FW.tr ?_ (by assumption)))) (by (try simp (disch := decide) only [upI_eq, upI_a, upI_i, upR_eq, upR_a, upR_i]); try assumption))
  · skip
    try simp (disch := decide) only [upI_eq, upI_a, upI_i, upR_eq, upR_a, upR_i, E1, E4] at y80
    try simp (disch := decide) only [upI_eq, upI_a, upI_i, upR_eq, upR_a, upR_i, E1, E4] at x80
    refine s258_83.mpr (s258_85.mpr (s258_86.mpr ?_))
    refine (s258_87 kM).mpr ?_
    try simp (disch := first | decide | assumption | omega) only [kon, knt_some, knt_none, Option.toList_some, Option.toList_none, List.cons_append, List.nil_append, upI_eq, upI_a, upI_i, upR_eq, upR_a, upR_i, h36, ht, E1, E2, E3, E4, E5, E6, E7, fAdd_id, fSub_id, fMul_id, m2a]
    refine s258_90.mpr (wif (fun c90 => ?_) (fun c90 => ?_))
    · first
      | (exfalso; omega)
      | skip
        refine s258_117.mpr ?_
        refine (s258_118 (by omega) kM).mpr ?_
        refine m_wants hA (by omega) (by (try simp (disch := decide) only [upI_eq, upI_a, upI_i, upR_eq, upR_a, upR_i]); first | assumption | rfl) (by omega) (fun y118 => ?_) (fun y118 => ?_)
        · skip
          refine s258_121.mpr ?_
          refine (s258_122 kM).mpr ?_
          try simp (disch := first | decide | assumption | omega) only [kon, knt_some, knt_none, Option.toList_some, Option.toList_none, List.cons_append, List.nil_append, upI_eq, upI_a, upI_i, upR_eq, upR_a, upR_i, h36, ht, E1, E2, E3, E4, E5, E6, E7, fAdd_id, fSub_id, fMul_id, m2a]
          refine s258_125.mpr (wif (fun c125 => ?_) (fun c125 => ?_))
          · first
            | (exfalso; omega)
            | skip
              refine (s258_401).mpr ?_
              first | (exfalso; omega) | (exact ok _ _ _ ((tsL_33 c1).trans (onw_p (by dsimp only; omega))) (flw1 (by rw [c1]; decide)) (by repeat' (first | assumption | exact FW.rf | refine FW.up ?_ (by unfold wS; omega) | (refine FW.tr ?_ (by assumption)))) (by (try simp (disch := decide) only [upI_eq, upI_a, upI_i, upR_eq, upR_a, upR_i]); try assumption) (by (try simp (disch := decide) only [upI_eq, upI_a, upI_i, upR_eq, upR_a, upR_i]); try assumption) (by simp (disch := decide) only [scX, upI_eq, upI_a, upI_i, upR_eq, upR_a, upR_i, upI_ro, upI_rw, up1_same, up1_eq, ht, E1, E2, E3, E4, E5, E6, E7])) | (exact no _ ((tsL_33 c1).trans (onw_n (by intro h; dsimp only at h; omega))) (by repeat' (first | assumption | exact FW.rf | refine FW.up ?_ (by unfold wS; omega) | (refine FW.tr ?_ (by assumption)))) (by (try simp (disch := decide) only [upI_eq, upI_a, upI_i, upR_eq, upR_a, upR_i]); try assumption))
          · first
            | (exfalso; omega)
            | skip
              refine s258_128.mpr (s258_129.mpr ?_)
              refine (s258_131 (by omega) kM).mpr ?_
              refine m_push hA hR (by (try simp (disch := decide) only [upI_eq, upI_a, upI_i, upR_eq, upR_a, upR_i]); first | assumption | rfl) (by omega) ?_
              refine s258_134.mpr (s258_135.mpr ?_)
              refine (s258_136 (by omega) kM).mpr ?_
              refine m_push hA hR (by (try simp (disch := decide) only [upI_eq, upI_a, upI_i, upR_eq, upR_a, upR_i]); first | assumption | rfl) (by omega) ?_
              refine s258_139.mpr ?_
              refine (s258_401).mpr ?_
              first | (exfalso; omega) | (exact ok _ _ _ ((tsL_33 c1).trans (onw_p (by dsimp only; omega))) (flw1 (by rw [c1]; decide)) (by repeat' (first | assumption | exact FW.rf | refine FW.up ?_ (by unfold wS; omega) | (refine FW.tr ?_ (by assumption)))) (by (try simp (disch := decide) only [upI_eq, upI_a, upI_i, upR_eq, upR_a, upR_i]); try assumption) (by (try simp (disch := decide) only [upI_eq, upI_a, upI_i, upR_eq, upR_a, upR_i]); try assumption) (by simp (disch := decide) only [scX, upI_eq, upI_a, upI_i, upR_eq, upR_a, upR_i, upI_ro, upI_rw, up1_same, up1_eq, ht, E1, E2, E3, E4, E5, E6, E7])) | (exact no _ ((tsL_33 c1).trans (onw_n (by intro h; dsimp only at h; omega))) (by repeat' (first | assumption | exact FW.rf | refine FW.up ?_ (by unfold wS; omega) | (refine FW.tr ?_ (by assumption)))) (by (try simp (disch := decide) only [upI_eq, upI_a, upI_i, upR_eq, upR_a, upR_i]); try assumption))
        · skip
          refine s258_121.mpr ?_
          refine (s258_122 kM).mpr ?_
          try simp (disch := first | decide | assumption | omega) only [kon, knt_some, knt_none, Option.toList_some, Option.toList_none, List.cons_append, List.nil_append, upI_eq, upI_a, upI_i, upR_eq, upR_a, upR_i, h36, ht, E1, E2, E3, E4, E5, E6, E7, fAdd_id, fSub_id, fMul_id, m2a]
          refine s258_125.mpr (wif (fun c125 => ?_) (fun c125 => ?_))
          · first
            | (exfalso; omega)
            | skip
              refine (s258_401).mpr ?_
              first | (exfalso; omega) | (exact ok _ _ _ ((tsL_33 c1).trans (onw_p (by dsimp only; omega))) (flw1 (by rw [c1]; decide)) (by repeat' (first | assumption | exact FW.rf | refine FW.up ?_ (by unfold wS; omega) | (refine FW.tr ?_ (by assumption)))) (by (try simp (disch := decide) only [upI_eq, upI_a, upI_i, upR_eq, upR_a, upR_i]); try assumption) (by (try simp (disch := decide) only [upI_eq, upI_a, upI_i, upR_eq, upR_a, upR_i]); try assumption) (by simp (disch := decide) only [scX, upI_eq, upI_a, upI_i, upR_eq, upR_a, upR_i, upI_ro, upI_rw, up1_same, up1_eq, ht, E1, E2, E3, E4, E5, E6, E7])) | (exact no _ ((tsL_33 c1).trans (onw_n (by intro h; dsimp only at h; omega))) (by repeat' (first | assumption | exact FW.rf | refine FW.up ?_ (by unfold wS; omega) | (refine FW.tr ?_ (by assumption)))) (by (try simp (disch := decide) only [upI_eq, upI_a, upI_i, upR_eq, upR_a, upR_i]); try assumption))
          · first
            | (exfalso; omega)
            | skip
              refine s258_128.mpr (s258_129.mpr ?_)
              refine (s258_131 (by omega) kM).mpr ?_
              refine m_push hA hR (by (try simp (disch := decide) only [upI_eq, upI_a, upI_i, upR_eq, upR_a, upR_i]); first | assumption | rfl) (by omega) ?_
              refine s258_134.mpr (s258_135.mpr ?_)
              refine (s258_136 (by omega) kM).mpr ?_
              refine m_push hA hR (by (try simp (disch := decide) only [upI_eq, upI_a, upI_i, upR_eq, upR_a, upR_i]); first | assumption | rfl) (by omega) ?_
              refine s258_139.mpr ?_
              refine (s258_401).mpr ?_
              first | (exfalso; omega) | (exact ok _ _ _ ((tsL_33 c1).trans (onw_p (by dsimp only; omega))) (flw1 (by rw [c1]; decide)) (by repeat' (first | assumption | exact FW.rf | refine FW.up ?_ (by unfold wS; omega) | (refine FW.tr ?_ (by assumption)))) (by (try simp (disch := decide) only [upI_eq, upI_a, upI_i, upR_eq, upR_a, upR_i]); try assumption) (by (try simp (disch := decide) only [upI_eq, upI_a, upI_i, upR_eq, upR_a, upR_i]); try assumption) (by simp (disch := decide) only [scX, upI_eq, upI_a, upI_i, upR_eq, upR_a, upR_i, upI_ro, upI_rw, up1_same, up1_eq, ht, E1, E2, E3, E4, E5, E6, E7])) | (exact no _ ((tsL_33 c1).trans (onw_n (by intro h; dsimp only at h; omega))) (by repeat' (first | assumption | exact FW.rf | refine FW.up ?_ (by unfold wS; omega) | (refine FW.tr ?_ (by assumption)))) (by (try simp (disch := decide) only [upI_eq, upI_a, upI_i, upR_eq, upR_a, upR_i]); try assumption))
    · first
      | (exfalso; omega)
      | skip
        refine s258_93.mpr (s258_95.mpr ((s258_96 kM).mpr ?_))
        rw [mr_9 hR]
        refine s258_99.mpr (s258_101.mpr (s258_102.mpr (s258_103.mpr ?_)))
        try simp (disch := first | decide | assumption | omega) only [kon, knt_some, knt_none, Option.toList_some, Option.toList_none, List.cons_append, List.nil_append, upI_eq, upI_a, upI_i, upR_eq, upR_a, upR_i, h36, ht, E1, E2, E3, E4, E5, E6, E7, fAdd_id, fSub_id, fMul_id, m2a]
        refine (s258_105 (by omega)).mpr ?_
        refine (m_which (vT_rng (hv75 _ (by omega) (by omega)))).mpr ?_
        refine s258_108.mpr ?_
        try simp (disch := first | decide | assumption | omega) only [kon, knt_some, knt_none, Option.toList_some, Option.toList_none, List.cons_append, List.nil_append, upI_eq, upI_a, upI_i, upR_eq, upR_a, upR_i, h36, ht, E1, E2, E3, E4, E5, E6, E7, fAdd_id, fSub_id, fMul_id, m2a]
        refine (s258_109 (hA.k (by decide) (by decide) rfl) (by first | assumption | omega) (by first | assumption | omega)).mpr ?_
        try simp (disch := first | decide | assumption | omega) only [kon, knt_some, knt_none, Option.toList_some, Option.toList_none, List.cons_append, List.nil_append, upI_eq, upI_a, upI_i, upR_eq, upR_a, upR_i, h36, ht, E1, E2, E3, E4, E5, E6, E7, fAdd_id, fSub_id, fMul_id, m2a]
        refine s258_110.mpr (wif (fun c110 => ?_) (fun c110 => ?_))
        · first
          | (exfalso; omega)
          | skip
            refine s258_113.mpr (s258_114.mpr ?_)
            refine (s258_118 (by omega) kM).mpr ?_
            refine m_wants hA (by omega) (by (try simp (disch := decide) only [upI_eq, upI_a, upI_i, upR_eq, upR_a, upR_i]); first | assumption | rfl) (by omega) (fun y118 => ?_) (fun y118 => ?_)
            · skip
              refine s258_121.mpr ?_
              refine (s258_122 kM).mpr ?_
              try simp (disch := first | decide | assumption | omega) only [kon, knt_some, knt_none, Option.toList_some, Option.toList_none, List.cons_append, List.nil_append, upI_eq, upI_a, upI_i, upR_eq, upR_a, upR_i, h36, ht, E1, E2, E3, E4, E5, E6, E7, fAdd_id, fSub_id, fMul_id, m2a]
              refine s258_125.mpr (wif (fun c125 => ?_) (fun c125 => ?_))
              · first
                | (exfalso; omega)
                | skip
                  refine (s258_401).mpr ?_
                  first | (exfalso; omega) | (exact ok _ _ _ ((tsL_33 c1).trans (onw_p (by dsimp only; omega))) (flw1 (by rw [c1]; decide)) (by repeat' (first | assumption | exact FW.rf | refine FW.up ?_ (by unfold wS; omega) | (refine FW.tr ?_ (by assumption)))) (by (try simp (disch := decide) only [upI_eq, upI_a, upI_i, upR_eq, upR_a, upR_i]); try assumption) (by (try simp (disch := decide) only [upI_eq, upI_a, upI_i, upR_eq, upR_a, upR_i]); try assumption) (by simp (disch := decide) only [scX, upI_eq, upI_a, upI_i, upR_eq, upR_a, upR_i, upI_ro, upI_rw, up1_same, up1_eq, ht, E1, E2, E3, E4, E5, E6, E7])) | (exact no _ ((tsL_33 c1).trans (onw_n (by intro h; dsimp only at h; omega))) (by repeat' (first | assumption | exact FW.rf | refine FW.up ?_ (by unfold wS; omega) | (refine FW.tr ?_ (by assumption)))) (by (try simp (disch := decide) only [upI_eq, upI_a, upI_i, upR_eq, upR_a, upR_i]); try assumption))
              · first
                | (exfalso; omega)
                | skip
                  refine s258_128.mpr (s258_129.mpr ?_)
                  refine (s258_131 (by omega) kM).mpr ?_
                  refine m_push hA hR (by (try simp (disch := decide) only [upI_eq, upI_a, upI_i, upR_eq, upR_a, upR_i]); first | assumption | rfl) (by omega) ?_
                  refine s258_134.mpr (s258_135.mpr ?_)
                  refine (s258_136 (by omega) kM).mpr ?_
                  refine m_push hA hR (by (try simp (disch := decide) only [upI_eq, upI_a, upI_i, upR_eq, upR_a, upR_i]); first | assumption | rfl) (by omega) ?_
                  refine s258_139.mpr ?_
                  refine (s258_401).mpr ?_
                  first | (exfalso; omega) | (exact ok _ _ _ ((tsL_33 c1).trans (onw_p (by dsimp only; omega))) (flw1 (by rw [c1]; decide)) (by repeat' (first | assumption | exact FW.rf | refine FW.up ?_ (by unfold wS; omega) | (refine FW.tr ?_ (by assumption)))) (by (try simp (disch := decide) only [upI_eq, upI_a, upI_i, upR_eq, upR_a, upR_i]); try assumption) (by (try simp (disch := decide) only [upI_eq, upI_a, upI_i, upR_eq, upR_a, upR_i]); try assumption) (by simp (disch := decide) only [scX, upI_eq, upI_a, upI_i, upR_eq, upR_a, upR_i, upI_ro, upI_rw, up1_same, up1_eq, ht, E1, E2, E3, E4, E5, E6, E7])) | (exact no _ ((tsL_33 c1).trans (onw_n (by intro h; dsimp only at h; omega))) (by repeat' (first | assumption | exact FW.rf | refine FW.up ?_ (by unfold wS; omega) | (refine FW.tr ?_ (by assumption)))) (by (try simp (disch := decide) only [upI_eq, upI_a, upI_i, upR_eq, upR_a, upR_i]); try assumption))
            · skip
              refine s258_121.mpr ?_
              refine (s258_122 kM).mpr ?_
              try simp (disch := first | decide | assumption | omega) only [kon, knt_some, knt_none, Option.toList_some, Option.toList_none, List.cons_append, List.nil_append, upI_eq, upI_a, upI_i, upR_eq, upR_a, upR_i, h36, ht, E1, E2, E3, E4, E5, E6, E7, fAdd_id, fSub_id, fMul_id, m2a]
              refine s258_125.mpr (wif (fun c125 => ?_) (fun c125 => ?_))
              · first
                | (exfalso; omega)
                | skip
                  refine (s258_401).mpr ?_
                  first | (exfalso; omega) | (exact ok _ _ _ ((tsL_33 c1).trans (onw_p (by dsimp only; omega))) (flw1 (by rw [c1]; decide)) (by repeat' (first | assumption | exact FW.rf | refine FW.up ?_ (by unfold wS; omega) | (refine FW.tr ?_ (by assumption)))) (by (try simp (disch := decide) only [upI_eq, upI_a, upI_i, upR_eq, upR_a, upR_i]); try assumption) (by (try simp (disch := decide) only [upI_eq, upI_a, upI_i, upR_eq, upR_a, upR_i]); try assumption) (by simp (disch := decide) only [scX, upI_eq, upI_a, upI_i, upR_eq, upR_a, upR_i, upI_ro, upI_rw, up1_same, up1_eq, ht, E1, E2, E3, E4, E5, E6, E7])) | (exact no _ ((tsL_33 c1).trans (onw_n (by intro h; dsimp only at h; omega))) (by repeat' (first | assumption | exact FW.rf | refine FW.up ?_ (by unfold wS; omega) | (refine FW.tr ?_ (by assumption)))) (by (try simp (disch := decide) only [upI_eq, upI_a, upI_i, upR_eq, upR_a, upR_i]); try assumption))
              · first
                | (exfalso; omega)
                | skip
                  refine s258_128.mpr (s258_129.mpr ?_)
                  refine (s258_131 (by omega) kM).mpr ?_
                  refine m_push hA hR (by (try simp (disch := decide) only [upI_eq, upI_a, upI_i, upR_eq, upR_a, upR_i]); first | assumption | rfl) (by omega) ?_
                  refine s258_134.mpr (s258_135.mpr ?_)
                  refine (s258_136 (by omega) kM).mpr ?_
                  refine m_push hA hR (by (try simp (disch := decide) only [upI_eq, upI_a, upI_i, upR_eq, upR_a, upR_i]); first | assumption | rfl) (by omega) ?_
                  refine s258_139.mpr ?_
                  refine (s258_401).mpr ?_
                  first | (exfalso; omega) | (exact ok _ _ _ ((tsL_33 c1).trans (onw_p (by dsimp only; omega))) (flw1 (by rw [c1]; decide)) (by repeat' (first | assumption | exact FW.rf | refine FW.up ?_ (by unfold wS; omega) | (refine FW.tr ?_ (by assumption)))) (by (try simp (disch := decide) only [upI_eq, upI_a, upI_i, upR_eq, upR_a, upR_i]); try assumption) (by (try simp (disch := decide) only [upI_eq, upI_a, upI_i, upR_eq, upR_a, upR_i]); try assumption) (by simp (disch := decide) only [scX, upI_eq, upI_a, upI_i, upR_eq, upR_a, upR_i, upI_ro, upI_rw, up1_same, up1_eq, ht, E1, E2, E3, E4, E5, E6, E7])) | (exact no _ ((tsL_33 c1).trans (onw_n (by intro h; dsimp only at h; omega))) (by repeat' (first | assumption | exact FW.rf | refine FW.up ?_ (by unfold wS; omega) | (refine FW.tr ?_ (by assumption)))) (by (try simp (disch := decide) only [upI_eq, upI_a, upI_i, upR_eq, upR_a, upR_i]); try assumption))
        · first
          | (exfalso; omega)
          | skip
            refine s258_117.mpr ?_
            refine (s258_118 (by omega) kM).mpr ?_
            refine m_wants hA (by omega) (by (try simp (disch := decide) only [upI_eq, upI_a, upI_i, upR_eq, upR_a, upR_i]); first | assumption | rfl) (by omega) (fun y118 => ?_) (fun y118 => ?_)
            · skip
              refine s258_121.mpr ?_
              refine (s258_122 kM).mpr ?_
              try simp (disch := first | decide | assumption | omega) only [kon, knt_some, knt_none, Option.toList_some, Option.toList_none, List.cons_append, List.nil_append, upI_eq, upI_a, upI_i, upR_eq, upR_a, upR_i, h36, ht, E1, E2, E3, E4, E5, E6, E7, fAdd_id, fSub_id, fMul_id, m2a]
              refine s258_125.mpr (wif (fun c125 => ?_) (fun c125 => ?_))
              · first
                | (exfalso; omega)
                | skip
                  refine (s258_401).mpr ?_
                  first | (exfalso; omega) | (exact ok _ _ _ ((tsL_33 c1).trans (onw_p (by dsimp only; omega))) (flw1 (by rw [c1]; decide)) (by repeat' (first | assumption | exact FW.rf | refine FW.up ?_ (by unfold wS; omega) | (refine FW.tr ?_ (by assumption)))) (by (try simp (disch := decide) only [upI_eq, upI_a, upI_i, upR_eq, upR_a, upR_i]); try assumption) (by (try simp (disch := decide) only [upI_eq, upI_a, upI_i, upR_eq, upR_a, upR_i]); try assumption) (by simp (disch := decide) only [scX, upI_eq, upI_a, upI_i, upR_eq, upR_a, upR_i, upI_ro, upI_rw, up1_same, up1_eq, ht, E1, E2, E3, E4, E5, E6, E7])) | (exact no _ ((tsL_33 c1).trans (onw_n (by intro h; dsimp only at h; omega))) (by repeat' (first | assumption | exact FW.rf | refine FW.up ?_ (by unfold wS; omega) | (refine FW.tr ?_ (by assumption)))) (by (try simp (disch := decide) only [upI_eq, upI_a, upI_i, upR_eq, upR_a, upR_i]); try assumption))
              · first
                | (exfalso; omega)
                | skip
                  refine s258_128.mpr (s258_129.mpr ?_)
                  refine (s258_131 (by omega) kM).mpr ?_
                  refine m_push hA hR (by (try simp (disch := decide) only [upI_eq, upI_a, upI_i, upR_eq, upR_a, upR_i]); first | assumption | rfl) (by omega) ?_
                  refine s258_134.mpr (s258_135.mpr ?_)
                  refine (s258_136 (by omega) kM).mpr ?_
                  refine m_push hA hR (by (try simp (disch := decide) only [upI_eq, upI_a, upI_i, upR_eq, upR_a, upR_i]); first | assumption | rfl) (by omega) ?_
                  refine s258_139.mpr ?_
                  refine (s258_401).mpr ?_
                  first | (exfalso; omega) | (exact ok _ _ _ ((tsL_33 c1).trans (onw_p (by dsimp only; omega))) (flw1 (by rw [c1]; decide)) (by repeat' (first | assumption | exact FW.rf | refine FW.up ?_ (by unfold wS; omega) | (refine FW.tr ?_ (by assumption)))) (by (try simp (disch := decide) only [upI_eq, upI_a, upI_i, upR_eq, upR_a, upR_i]); try assumption) (by (try simp (disch := decide) only [upI_eq, upI_a, upI_i, upR_eq, upR_a, upR_i]); try assumption) (by simp (disch := decide) only [scX, upI_eq, upI_a, upI_i, upR_eq, upR_a, upR_i, upI_ro, upI_rw, up1_same, up1_eq, ht, E1, E2, E3, E4, E5, E6, E7])) | (exact no _ ((tsL_33 c1).trans (onw_n (by intro h; dsimp only at h; omega))) (by repeat' (first | assumption | exact FW.rf | refine FW.up ?_ (by unfold wS; omega) | (refine FW.tr ?_ (by assumption)))) (by (try simp (disch := decide) only [upI_eq, upI_a, upI_i, upR_eq, upR_a, upR_i]); try assumption))
            · skip
              refine s258_121.mpr ?_
              refine (s258_122 kM).mpr ?_
              try simp (disch := first | decide | assumption | omega) only [kon, knt_some, knt_none, Option.toList_some, Option.toList_none, List.cons_append, List.nil_append, upI_eq, upI_a, upI_i, upR_eq, upR_a, upR_i, h36, ht, E1, E2, E3, E4, E5, E6, E7, fAdd_id, fSub_id, fMul_id, m2a]
              refine s258_125.mpr (wif (fun c125 => ?_) (fun c125 => ?_))
              · first
                | (exfalso; omega)
                | skip
                  refine (s258_401).mpr ?_
                  first | (exfalso; omega) | (exact ok _ _ _ ((tsL_33 c1).trans (onw_p (by dsimp only; omega))) (flw1 (by rw [c1]; decide)) (by repeat' (first | assumption | exact FW.rf | refine FW.up ?_ (by unfold wS; omega) | (refine FW.tr ?_ (by assumption)))) (by (try simp (disch := decide) only [upI_eq, upI_a, upI_i, upR_eq, upR_a, upR_i]); try assumption) (by (try simp (disch := decide) only [upI_eq, upI_a, upI_i, upR_eq, upR_a, upR_i]); try assumption) (by simp (disch := decide) only [scX, upI_eq, upI_a, upI_i, upR_eq, upR_a, upR_i, upI_ro, upI_rw, up1_same, up1_eq, ht, E1, E2, E3, E4, E5, E6, E7])) | (exact no _ ((tsL_33 c1).trans (onw_n (by intro h; dsimp only at h; omega))) (by repeat' (first | assumption | exact FW.rf | refine FW.up ?_ (by unfold wS; omega) | (refine FW.tr ?_ (by assumption)))) (by (try simp (disch := decide) only [upI_eq, upI_a, upI_i, upR_eq, upR_a, upR_i]); try assumption))
              · first
                | (exfalso; omega)
                | skip
                  refine s258_128.mpr (s258_129.mpr ?_)
                  refine (s258_131 (by omega) kM).mpr ?_
                  refine m_push hA hR (by (try simp (disch := decide) only [upI_eq, upI_a, upI_i, upR_eq, upR_a, upR_i]); first | assumption | rfl) (by omega) ?_
                  refine s258_134.mpr (s258_135.mpr ?_)
                  refine (s258_136 (by omega) kM).mpr ?_
                  refine m_push hA hR (by (try simp (disch := decide) only [upI_eq, upI_a, upI_i, upR_eq, upR_a, upR_i]); first | assumption | rfl) (by omega) ?_
                  refine s258_139.mpr ?_
                  refine (s258_401).mpr ?_
                  first | (exfalso; omega) | (exact ok _ _ _ ((tsL_33 c1).trans (onw_p (by dsimp only; omega))) (flw1 (by rw [c1]; decide)) (by repeat' (first | assumption | exact FW.rf | refine FW.up ?_ (by unfold wS; omega) | (refine FW.tr ?_ (by assumption)))) (by (try simp (disch := decide) only [upI_eq, upI_a, upI_i, upR_eq, upR_a, upR_i]); try assumption) (by (try simp (disch := decide) only [upI_eq, upI_a, upI_i, upR_eq, upR_a, upR_i]); try assumption) (by simp (disch := decide) only [scX, upI_eq, upI_a, upI_i, upR_eq, upR_a, upR_i, upI_ro, upI_rw, up1_same, up1_eq, ht, E1, E2, E3, E4, E5, E6, E7])) | (exact no _ ((tsL_33 c1).trans (onw_n (by intro h; dsimp only at h; omega))) (by repeat' (first | assumption | exact FW.rf | refine FW.up ?_ (by unfold wS; omega) | (refine FW.tr ?_ (by assumption)))) (by (try simp (disch := decide) only [upI_eq, upI_a, upI_i, upR_eq, upR_a, upR_i]); try assumption))
theorem m_l34 {m g op v p t : Int} (hA : SA al) (hR : MR hr) (hd : 5 ≤ d) (hM : MB hi m B) (hS : Sh B) (h36 : hi 49 36 = 1) (h38 : hi 49 38 = 0) (ht : hi 49 35 = t) (ht0 : 0 ≤ t ∧ t ≤ 16) (hvX : vX B (t, hi 75, hi 76)) (c1 : op = 34) (hv0 : 0 ≤ v ∧ v ≤ 5)
    (ok : ∀ L Y hi', tsL B g op v p (t, hi 75, hi 76) = some L → FLW op v p Y L → FW wS hi hi' → hi' 49 36 = 1 → hi' 49 38 = 0 → scX hi' = Y → Q (some none) al hi' hr)
    (no : ∀ hi', tsL B g op v p (t, hi 75, hi 76) = none → FW wS hi hi' → hi' 49 36 = 0 → Q (some none) al hi' hr) : Wp d 258 142 [vR (some 49), vI m, vI (10 * m + g), vI op, vI v, none, none, none] [] al hi hr Q := by
  have kM : isK al 49 13 := hA.k (by decide) (by decide) rfl
  have E1 : t - 1 - 1 = t - 2 := by omega
  have E2 : t - 2 + 1 = t - 1 := by omega
  have E3 : t - 1 + 1 = t := by omega
  have E4 : t - 2 - 1 = t - 3 := by omega
  have E5 : t - 3 + 1 = t - 2 := by omega
  have E6 : t + 1 + 1 = t + 2 := by omega
  have E7 : t + 1 - 1 = t := by omega
  obtain ⟨hm0, hm1, h52, hB, m1, m2, m3, m4, m5, m6⟩ := id hM
  have hv75 : ∀ k, 0 ≤ k → k < t → vT B (hi 75 k) := hvX.2.1
  clear m3 m4 m5 m6 hB h52
  have r1 : nRec B ≤ 8 := hS.2.1
  have l57 := SA.len (a := 57) (n := 104) hA (by decide) (by decide) rfl
  have m2a : ∀ r, 0 ≤ r → r < nRec B → hi 57 (8 * m + r) = nFld B r := fun r a b => (m2 r a b).1
  have W1 := vW hv75 (t - 2)
  refine s258_142.mpr (s258_143.mpr ?_)
  refine (s258_144 (by omega) kM).mpr ?_
  refine m_popFor hA hR (by omega) (by (try simp (disch := decide) only [upI_eq, upI_a, upI_i, upR_eq, upR_a, upR_i]); first | assumption | rfl) (by omega) (by (try simp (disch := decide) only [upI_eq, upI_a, upI_i, upR_eq, upR_a, upR_i]); first | assumption | rfl) (by omega) (fun y144 => ?_) (fun hi144 t144 w144 z144 u144 v144 x144 => ?_)
  · skip
    try simp (disch := decide) only [upI_eq, upI_a, upI_i, upR_eq, upR_a, upR_i, E1, E4] at y144
    try simp (disch := decide) only [upI_eq, upI_a, upI_i, upR_eq, upR_a, upR_i, E1, E4] at x144
    refine s258_147.mpr (s258_148.mpr ?_)
    refine (s258_149 (by omega) kM).mpr ?_
    refine m_popKind hA hR (by omega) (by (try simp (disch := decide) only [upI_eq, upI_a, upI_i, upR_eq, upR_a, upR_i]); first | assumption | rfl) (by omega) (by (try simp (disch := decide) only [upI_eq, upI_a, upI_i, upR_eq, upR_a, upR_i]); first | assumption | rfl) (by omega) (fun y149 => ?_) (fun q149 hi149 t149 w149 z149 u149 v149 x149 => ?_)
    · skip
      try simp (disch := decide) only [upI_eq, upI_a, upI_i, upR_eq, upR_a, upR_i, E1, E4] at y149
      try simp (disch := decide) only [upI_eq, upI_a, upI_i, upR_eq, upR_a, upR_i, E1, E4] at x149
      refine s258_152.mpr (s258_154.mpr (s258_155.mpr ?_))
      refine (s258_156 kM).mpr ?_
      try simp (disch := first | decide | assumption | omega) only [kon, knt_some, knt_none, Option.toList_some, Option.toList_none, List.cons_append, List.nil_append, upI_eq, upI_a, upI_i, upR_eq, upR_a, upR_i, h36, ht, E1, E2, E3, E4, E5, E6, E7, fAdd_id, fSub_id, fMul_id, m2a]
      refine s258_159.mpr (wif (fun c159 => ?_) (fun c159 => ?_))
      · first
        | (exfalso; omega)
        | skip
          refine s258_186.mpr ?_
          refine (s258_187 (by omega) kM).mpr ?_
          refine m_wants hA (by omega) (by (try simp (disch := decide) only [upI_eq, upI_a, upI_i, upR_eq, upR_a, upR_i]); first | assumption | rfl) (by omega) (fun y187 => ?_) (fun y187 => ?_)
          · skip
            refine s258_190.mpr ?_
            refine (s258_191 kM).mpr ?_
            try simp (disch := first | decide | assumption | omega) only [kon, knt_some, knt_none, Option.toList_some, Option.toList_none, List.cons_append, List.nil_append, upI_eq, upI_a, upI_i, upR_eq, upR_a, upR_i, h36, ht, E1, E2, E3, E4, E5, E6, E7, fAdd_id, fSub_id, fMul_id, m2a]
            refine s258_194.mpr (wif (fun c194 => ?_) (fun c194 => ?_))
            · first
              | (exfalso; omega)
              | skip
                refine (s258_401).mpr ?_
                first | (exfalso; omega) | (exact ok _ _ _ ((tsL_34 c1).trans (onw_p (by dsimp only; exact ⟨by omega, le0 y144.2.2 rfl, by omega, by omega⟩))) (flw1 (by rw [c1]; decide)) (by repeat' (first | assumption | exact FW.rf | refine FW.up ?_ (by unfold wS; omega) | (refine FW.tr ?_ (by assumption)))) (by (try simp (disch := decide) only [upI_eq, upI_a, upI_i, upR_eq, upR_a, upR_i]); try assumption) (by (try simp (disch := decide) only [upI_eq, upI_a, upI_i, upR_eq, upR_a, upR_i]); try assumption) (by simp (disch := decide) only [scX, upI_eq, upI_a, upI_i, upR_eq, upR_a, upR_i, upI_ro, upI_rw, up1_same, up1_eq, ht, E1, E2, E3, E4, E5, E6, E7])) | (exact no _ ((tsL_34 c1).trans (onw_n (by intro h; dsimp only at h; omega))) (by repeat' (first | assumption | exact FW.rf | refine FW.up ?_ (by unfold wS; omega) | (refine FW.tr ?_ (by assumption)))) (by (try simp (disch := decide) only [upI_eq, upI_a, upI_i, upR_eq, upR_a, upR_i]); try assumption))
            · first
              | (exfalso; omega)
              | skip
                refine s258_197.mpr (s258_198.mpr ?_)
                refine (s258_200 (by omega) kM).mpr ?_
                refine m_push hA hR (by (try simp (disch := decide) only [upI_eq, upI_a, upI_i, upR_eq, upR_a, upR_i]); first | assumption | rfl) (by omega) ?_
                refine s258_203.mpr ?_
                refine (s258_401).mpr ?_
                first | (exfalso; omega) | (exact ok _ _ _ ((tsL_34 c1).trans (onw_p (by dsimp only; exact ⟨by omega, le0 y144.2.2 rfl, by omega, by omega⟩))) (flw1 (by rw [c1]; decide)) (by repeat' (first | assumption | exact FW.rf | refine FW.up ?_ (by unfold wS; omega) | (refine FW.tr ?_ (by assumption)))) (by (try simp (disch := decide) only [upI_eq, upI_a, upI_i, upR_eq, upR_a, upR_i]); try assumption) (by (try simp (disch := decide) only [upI_eq, upI_a, upI_i, upR_eq, upR_a, upR_i]); try assumption) (by simp (disch := decide) only [scX, upI_eq, upI_a, upI_i, upR_eq, upR_a, upR_i, upI_ro, upI_rw, up1_same, up1_eq, ht, E1, E2, E3, E4, E5, E6, E7])) | (exact no _ ((tsL_34 c1).trans (onw_n (by intro h; dsimp only at h; omega))) (by repeat' (first | assumption | exact FW.rf | refine FW.up ?_ (by unfold wS; omega) | (refine FW.tr ?_ (by assumption)))) (by (try simp (disch := decide) only [upI_eq, upI_a, upI_i, upR_eq, upR_a, upR_i]); try assumption))
          · skip
            refine s258_190.mpr ?_
            refine (s258_191 kM).mpr ?_
            try simp (disch := first | decide | assumption | omega) only [kon, knt_some, knt_none, Option.toList_some, Option.toList_none, List.cons_append, List.nil_append, upI_eq, upI_a, upI_i, upR_eq, upR_a, upR_i, h36, ht, E1, E2, E3, E4, E5, E6, E7, fAdd_id, fSub_id, fMul_id, m2a]
            refine s258_194.mpr (wif (fun c194 => ?_) (fun c194 => ?_))
            · first
              | (exfalso; omega)
              | skip
                refine (s258_401).mpr ?_
                first | (exfalso; omega) | (exact ok _ _ _ ((tsL_34 c1).trans (onw_p (by dsimp only; exact ⟨by omega, le0 y144.2.2 rfl, by omega, by omega⟩))) (flw1 (by rw [c1]; decide)) (by repeat' (first | assumption | exact FW.rf | refine FW.up ?_ (by unfold wS; omega) | (refine FW.tr ?_ (by assumption)))) (by (try simp (disch := decide) only [upI_eq, upI_a, upI_i, upR_eq, upR_a, upR_i]); try assumption) (by (try simp (disch := decide) only [upI_eq, upI_a, upI_i, upR_eq, upR_a, upR_i]); try assumption) (by simp (disch := decide) only [scX, upI_eq, upI_a, upI_i, upR_eq, upR_a, upR_i, upI_ro, upI_rw, up1_same, up1_eq, ht, E1, E2, E3, E4, E5, E6, E7])) | (exact no _ ((tsL_34 c1).trans (onw_n (by intro h; dsimp only at h; omega))) (by repeat' (first | assumption | exact FW.rf | refine FW.up ?_ (by unfold wS; omega) | (refine FW.tr ?_ (by assumption)))) (by (try simp (disch := decide) only [upI_eq, upI_a, upI_i, upR_eq, upR_a, upR_i]); try assumption))
            · first
              | (exfalso; omega)
              | skip
                refine s258_197.mpr (s258_198.mpr ?_)
                refine (s258_200 (by omega) kM).mpr ?_
                refine m_push hA hR (by (try simp (disch := decide) only [upI_eq, upI_a, upI_i, upR_eq, upR_a, upR_i]); first | assumption | rfl) (by omega) ?_
                refine s258_203.mpr ?_
                refine (s258_401).mpr ?_
                first | (exfalso; omega) | (exact ok _ _ _ ((tsL_34 c1).trans (onw_p (by dsimp only; exact ⟨by omega, le0 y144.2.2 rfl, by omega, by omega⟩))) (flw1 (by rw [c1]; decide)) (by repeat' (first | assumption | exact FW.rf | refine FW.up ?_ (by unfold wS; omega) | (refine FW.tr ?_ (by assumption)))) (by (try simp (disch := decide) only [upI_eq, upI_a, upI_i, upR_eq, upR_a, upR_i]); try assumption) (by (try simp (disch := decide) only [upI_eq, upI_a, upI_i, upR_eq, upR_a, upR_i]); try assumption) (by simp (disch := decide) only [scX, upI_eq, upI_a, upI_i, upR_eq, upR_a, upR_i, upI_ro, upI_rw, up1_same, up1_eq, ht, E1, E2, E3, E4, E5, E6, E7])) | (exact no _ ((tsL_34 c1).trans (onw_n (by intro h; dsimp only at h; omega))) (by repeat' (first | assumption | exact FW.rf | refine FW.up ?_ (by unfold wS; omega) | (refine FW.tr ?_ (by assumption)))) (by (try simp (disch := decide) only [upI_eq, upI_a, upI_i, upR_eq, upR_a, upR_i]); try assumption))
      · first
        | (exfalso; omega)
        | skip
          refine s258_162.mpr (s258_164.mpr ((s258_165 kM).mpr ?_))
          rw [mr_9 hR]
          refine s258_168.mpr (s258_170.mpr (s258_171.mpr (s258_172.mpr ?_)))
          try simp (disch := first | decide | assumption | omega) only [kon, knt_some, knt_none, Option.toList_some, Option.toList_none, List.cons_append, List.nil_append, upI_eq, upI_a, upI_i, upR_eq, upR_a, upR_i, h36, ht, E1, E2, E3, E4, E5, E6, E7, fAdd_id, fSub_id, fMul_id, m2a]
          refine (s258_174 (by omega)).mpr ?_
          refine (m_which (vT_rng (hv75 _ (by omega) (by omega)))).mpr ?_
          refine s258_177.mpr ?_
          try simp (disch := first | decide | assumption | omega) only [kon, knt_some, knt_none, Option.toList_some, Option.toList_none, List.cons_append, List.nil_append, upI_eq, upI_a, upI_i, upR_eq, upR_a, upR_i, h36, ht, E1, E2, E3, E4, E5, E6, E7, fAdd_id, fSub_id, fMul_id, m2a]
          refine (s258_178 (hA.k (by decide) (by decide) rfl) (by first | assumption | omega) (by first | assumption | omega)).mpr ?_
          try simp (disch := first | decide | assumption | omega) only [kon, knt_some, knt_none, Option.toList_some, Option.toList_none, List.cons_append, List.nil_append, upI_eq, upI_a, upI_i, upR_eq, upR_a, upR_i, h36, ht, E1, E2, E3, E4, E5, E6, E7, fAdd_id, fSub_id, fMul_id, m2a]
          refine s258_179.mpr (wif (fun c179 => ?_) (fun c179 => ?_))
          · first
            | (exfalso; omega)
            | skip
              refine s258_182.mpr (s258_183.mpr ?_)
              refine (s258_187 (by omega) kM).mpr ?_
              refine m_wants hA (by omega) (by (try simp (disch := decide) only [upI_eq, upI_a, upI_i, upR_eq, upR_a, upR_i]); first | assumption | rfl) (by omega) (fun y187 => ?_) (fun y187 => ?_)
              · skip
                refine s258_190.mpr ?_
                refine (s258_191 kM).mpr ?_
                try simp (disch := first | decide | assumption | omega) only [kon, knt_some, knt_none, Option.toList_some, Option.toList_none, List.cons_append, List.nil_append, upI_eq, upI_a, upI_i, upR_eq, upR_a, upR_i, h36, ht, E1, E2, E3, E4, E5, E6, E7, fAdd_id, fSub_id, fMul_id, m2a]
                refine s258_194.mpr (wif (fun c194 => ?_) (fun c194 => ?_))
                · first
                  | (exfalso; omega)
                  | skip
                    refine (s258_401).mpr ?_
                    first | (exfalso; omega) | (exact ok _ _ _ ((tsL_34 c1).trans (onw_p (by dsimp only; exact ⟨by omega, le0 y144.2.2 rfl, by omega, by omega⟩))) (flw1 (by rw [c1]; decide)) (by repeat' (first | assumption | exact FW.rf | refine FW.up ?_ (by unfold wS; omega) | (refine FW.tr ?_ (by assumption)))) (by (try simp (disch := decide) only [upI_eq, upI_a, upI_i, upR_eq, upR_a, upR_i]); try assumption) (by (try simp (disch := decide) only [upI_eq, upI_a, upI_i, upR_eq, upR_a, upR_i]); try assumption) (by simp (disch := decide) only [scX, upI_eq, upI_a, upI_i, upR_eq, upR_a, upR_i, upI_ro, upI_rw, up1_same, up1_eq, ht, E1, E2, E3, E4, E5, E6, E7])) | (exact no _ ((tsL_34 c1).trans (onw_n (by intro h; dsimp only at h; omega))) (by repeat' (first | assumption | exact FW.rf | refine FW.up ?_ (by unfold wS; omega) | (refine FW.tr ?_ (by assumption)))) (by (try simp (disch := decide) only [upI_eq, upI_a, upI_i, upR_eq, upR_a, upR_i]); try assumption))
                · first
                  | (exfalso; omega)
                  | skip
                    refine s258_197.mpr (s258_198.mpr ?_)
                    refine (s258_200 (by omega) kM).mpr ?_
                    refine m_push hA hR (by (try simp (disch := decide) only [upI_eq, upI_a, upI_i, upR_eq, upR_a, upR_i]); first | assumption | rfl) (by omega) ?_
                    refine s258_203.mpr ?_
                    refine (s258_401).mpr ?_
                    first | (exfalso; omega) | (exact ok _ _ _ ((tsL_34 c1).trans (onw_p (by dsimp only; exact ⟨by omega, le0 y144.2.2 rfl, by omega, by omega⟩))) (flw1 (by rw [c1]; decide)) (by repeat' (first | assumption | exact FW.rf | refine FW.up ?_ (by unfold wS; omega) | (refine FW.tr ?_ (by assumption)))) (by (try simp (disch := decide) only [upI_eq, upI_a, upI_i, upR_eq, upR_a, upR_i]); try assumption) (by (try simp (disch := decide) only [upI_eq, upI_a, upI_i, upR_eq, upR_a, upR_i]); try assumption) (by simp (disch := decide) only [scX, upI_eq, upI_a, upI_i, upR_eq, upR_a, upR_i, upI_ro, upI_rw, up1_same, up1_eq, ht, E1, E2, E3, E4, E5, E6, E7])) | (exact no _ ((tsL_34 c1).trans (onw_n (by intro h; dsimp only at h; omega))) (by repeat' (first | assumption | exact FW.rf | refine FW.up ?_ (by unfold wS; omega) | (refine FW.tr ?_ (by assumption)))) (by (try simp (disch := decide) only [upI_eq, upI_a, upI_i, upR_eq, upR_a, upR_i]); try assumption))
              · skip
                refine s258_190.mpr ?_
                refine (s258_191 kM).mpr ?_
                try simp (disch := first | decide | assumption | omega) only [kon, knt_some, knt_none, Option.toList_some, Option.toList_none, List.cons_append, List.nil_append, upI_eq, upI_a, upI_i, upR_eq, upR_a, upR_i, h36, ht, E1, E2, E3, E4, E5, E6, E7, fAdd_id, fSub_id, fMul_id, m2a]
                refine s258_194.mpr (wif (fun c194 => ?_) (fun c194 => ?_))
                · first
                  | (exfalso; omega)
                  | skip
                    refine (s258_401).mpr ?_
                    first | (exfalso; omega) | (exact ok _ _ _ ((tsL_34 c1).trans (onw_p (by dsimp only; exact ⟨by omega, le0 y144.2.2 rfl, by omega, by omega⟩))) (flw1 (by rw [c1]; decide)) (by repeat' (first | assumption | exact FW.rf | refine FW.up ?_ (by unfold wS; omega) | (refine FW.tr ?_ (by assumption)))) (by (try simp (disch := decide) only [upI_eq, upI_a, upI_i, upR_eq, upR_a, upR_i]); try assumption) (by (try simp (disch := decide) only [upI_eq, upI_a, upI_i, upR_eq, upR_a, upR_i]); try assumption) (by simp (disch := decide) only [scX, upI_eq, upI_a, upI_i, upR_eq, upR_a, upR_i, upI_ro, upI_rw, up1_same, up1_eq, ht, E1, E2, E3, E4, E5, E6, E7])) | (exact no _ ((tsL_34 c1).trans (onw_n (by intro h; dsimp only at h; omega))) (by repeat' (first | assumption | exact FW.rf | refine FW.up ?_ (by unfold wS; omega) | (refine FW.tr ?_ (by assumption)))) (by (try simp (disch := decide) only [upI_eq, upI_a, upI_i, upR_eq, upR_a, upR_i]); try assumption))
                · first
                  | (exfalso; omega)
                  | skip
                    refine s258_197.mpr (s258_198.mpr ?_)
                    refine (s258_200 (by omega) kM).mpr ?_
                    refine m_push hA hR (by (try simp (disch := decide) only [upI_eq, upI_a, upI_i, upR_eq, upR_a, upR_i]); first | assumption | rfl) (by omega) ?_
                    refine s258_203.mpr ?_
                    refine (s258_401).mpr ?_
                    first | (exfalso; omega) | (exact ok _ _ _ ((tsL_34 c1).trans (onw_p (by dsimp only; exact ⟨by omega, le0 y144.2.2 rfl, by omega, by omega⟩))) (flw1 (by rw [c1]; decide)) (by repeat' (first | assumption | exact FW.rf | refine FW.up ?_ (by unfold wS; omega) | (refine FW.tr ?_ (by assumption)))) (by (try simp (disch := decide) only [upI_eq, upI_a, upI_i, upR_eq, upR_a, upR_i]); try assumption) (by (try simp (disch := decide) only [upI_eq, upI_a, upI_i, upR_eq, upR_a, upR_i]); try assumption) (by simp (disch := decide) only [scX, upI_eq, upI_a, upI_i, upR_eq, upR_a, upR_i, upI_ro, upI_rw, up1_same, up1_eq, ht, E1, E2, E3, E4, E5, E6, E7])) | (exact no _ ((tsL_34 c1).trans (onw_n (by intro h; dsimp only at h; omega))) (by repeat' (first | assumption | exact FW.rf | refine FW.up ?_ (by unfold wS; omega) | (refine FW.tr ?_ (by assumption)))) (by (try simp (disch := decide) only [upI_eq, upI_a, upI_i, upR_eq, upR_a, upR_i]); try assumption))
          · first
            | (exfalso; omega)
            | skip
              refine s258_186.mpr ?_
              refine (s258_187 (by omega) kM).mpr ?_
              refine m_wants hA (by omega) (by (try simp (disch := decide) only [upI_eq, upI_a, upI_i, upR_eq, upR_a, upR_i]); first | assumption | rfl) (by omega) (fun y187 => ?_) (fun y187 => ?_)
              · skip
                refine s258_190.mpr ?_
                refine (s258_191 kM).mpr ?_
                try simp (disch := first | decide | assumption | omega) only [kon, knt_some, knt_none, Option.toList_some, Option.toList_none, List.cons_append, List.nil_append, upI_eq, upI_a, upI_i, upR_eq, upR_a, upR_i, h36, ht, E1, E2, E3, E4, E5, E6, E7, fAdd_id, fSub_id, fMul_id, m2a]
                refine s258_194.mpr (wif (fun c194 => ?_) (fun c194 => ?_))
                · first
                  | (exfalso; omega)
                  | skip
                    refine (s258_401).mpr ?_
                    first | (exfalso; omega) | (exact ok _ _ _ ((tsL_34 c1).trans (onw_p (by dsimp only; exact ⟨by omega, le0 y144.2.2 rfl, by omega, by omega⟩))) (flw1 (by rw [c1]; decide)) (by repeat' (first | assumption | exact FW.rf | refine FW.up ?_ (by unfold wS; omega) | (refine FW.tr ?_ (by assumption)))) (by (try simp (disch := decide) only [upI_eq, upI_a, upI_i, upR_eq, upR_a, upR_i]); try assumption) (by (try simp (disch := decide) only [upI_eq, upI_a, upI_i, upR_eq, upR_a, upR_i]); try assumption) (by simp (disch := decide) only [scX, upI_eq, upI_a, upI_i, upR_eq, upR_a, upR_i, upI_ro, upI_rw, up1_same, up1_eq, ht, E1, E2, E3, E4, E5, E6, E7])) | (exact no _ ((tsL_34 c1).trans (onw_n (by intro h; dsimp only at h; omega))) (by repeat' (first | assumption | exact FW.rf | refine FW.up ?_ (by unfold wS; omega) | (refine FW.tr ?_ (by assumption)))) (by (try simp (disch := decide) only [upI_eq, upI_a, upI_i, upR_eq, upR_a, upR_i]); try assumption))
                · first
                  | (exfalso; omega)
                  | skip
                    refine s258_197.mpr (s258_198.mpr ?_)
                    refine (s258_200 (by omega) kM).mpr ?_
                    refine m_push hA hR (by (try simp (disch := decide) only [upI_eq, upI_a, upI_i, upR_eq, upR_a, upR_i]); first | assumption | rfl) (by omega) ?_
                    refine s258_203.mpr ?_
                    refine (s258_401).mpr ?_
                    first | (exfalso; omega) | (exact ok _ _ _ ((tsL_34 c1).trans (onw_p (by dsimp only; exact ⟨by omega, le0 y144.2.2 rfl, by omega, by omega⟩))) (flw1 (by rw [c1]; decide)) (by repeat' (first | assumption | exact FW.rf | refine FW.up ?_ (by unfold wS; omega) | (refine FW.tr ?_ (by assumption)))) (by (try simp (disch := decide) only [upI_eq, upI_a, upI_i, upR_eq, upR_a, upR_i]); try assumption) (by (try simp (disch := decide) only [upI_eq, upI_a, upI_i, upR_eq, upR_a, upR_i]); try assumption) (by simp (disch := decide) only [scX, upI_eq, upI_a, upI_i, upR_eq, upR_a, upR_i, upI_ro, upI_rw, up1_same, up1_eq, ht, E1, E2, E3, E4, E5, E6, E7])) | (exact no _ ((tsL_34 c1).trans (onw_n (by intro h; dsimp only at h; omega))) (by repeat' (first | assumption | exact FW.rf | refine FW.up ?_ (by unfold wS; omega) | (refine FW.tr ?_ (by assumption)))) (by (try simp (disch := decide) only [upI_eq, upI_a, upI_i, upR_eq, upR_a, upR_i]); try assumption))
              · skip
                refine s258_190.mpr ?_
                refine (s258_191 kM).mpr ?_
                try simp (disch := first | decide | assumption | omega) only [kon, knt_some, knt_none, Option.toList_some, Option.toList_none, List.cons_append, List.nil_append, upI_eq, upI_a, upI_i, upR_eq, upR_a, upR_i, h36, ht, E1, E2, E3, E4, E5, E6, E7, fAdd_id, fSub_id, fMul_id, m2a]
                refine s258_194.mpr (wif (fun c194 => ?_) (fun c194 => ?_))
                · first
                  | (exfalso; omega)
                  | skip
                    refine (s258_401).mpr ?_
                    first | (exfalso; omega) | (exact ok _ _ _ ((tsL_34 c1).trans (onw_p (by dsimp only; exact ⟨by omega, le0 y144.2.2 rfl, by omega, by omega⟩))) (flw1 (by rw [c1]; decide)) (by repeat' (first | assumption | exact FW.rf | refine FW.up ?_ (by unfold wS; omega) | (refine FW.tr ?_ (by assumption)))) (by (try simp (disch := decide) only [upI_eq, upI_a, upI_i, upR_eq, upR_a, upR_i]); try assumption) (by (try simp (disch := decide) only [upI_eq, upI_a, upI_i, upR_eq, upR_a, upR_i]); try assumption) (by simp (disch := decide) only [scX, upI_eq, upI_a, upI_i, upR_eq, upR_a, upR_i, upI_ro, upI_rw, up1_same, up1_eq, ht, E1, E2, E3, E4, E5, E6, E7])) | (exact no _ ((tsL_34 c1).trans (onw_n (by intro h; dsimp only at h; omega))) (by repeat' (first | assumption | exact FW.rf | refine FW.up ?_ (by unfold wS; omega) | (refine FW.tr ?_ (by assumption)))) (by (try simp (disch := decide) only [upI_eq, upI_a, upI_i, upR_eq, upR_a, upR_i]); try assumption))
                · first
                  | (exfalso; omega)
                  | skip
                    refine s258_197.mpr (s258_198.mpr ?_)
                    refine (s258_200 (by omega) kM).mpr ?_
                    refine m_push hA hR (by (try simp (disch := decide) only [upI_eq, upI_a, upI_i, upR_eq, upR_a, upR_i]); first | assumption | rfl) (by omega) ?_
                    refine s258_203.mpr ?_
                    refine (s258_401).mpr ?_
                    first | (exfalso; omega) | (exact ok _ _ _ ((tsL_34 c1).trans (onw_p (by dsimp only; exact ⟨by omega, le0 y144.2.2 rfl, by omega, by omega⟩))) (flw1 (by rw [c1]; decide)) (by repeat' (first | assumption | exact FW.rf | refine FW.up ?_ (by unfold wS; omega) | (refine FW.tr ?_ (by assumption)))) (by (try simp (disch := decide) only [upI_eq, upI_a, upI_i, upR_eq, upR_a, upR_i]); try assumption) (by (try simp (disch := decide) only [upI_eq, upI_a, upI_i, upR_eq, upR_a, upR_i]); try assumption) (by simp (disch := decide) only [scX, upI_eq, upI_a, upI_i, upR_eq, upR_a, upR_i, upI_ro, upI_rw, up1_same, up1_eq, ht, E1, E2, E3, E4, E5, E6, E7])) | (exact no _ ((tsL_34 c1).trans (onw_n (by intro h; dsimp only at h; omega))) (by repeat' (first | assumption | exact FW.rf | refine FW.up ?_ (by unfold wS; omega) | (refine FW.tr ?_ (by assumption)))) (by (try simp (disch := decide) only [upI_eq, upI_a, upI_i, upR_eq, upR_a, upR_i]); try assumption))
    · skip
      try simp (disch := decide) only [upI_eq, upI_a, upI_i, upR_eq, upR_a, upR_i, E1, E4] at y149
      try simp (disch := decide) only [upI_eq, upI_a, upI_i, upR_eq, upR_a, upR_i, E1, E4] at x149
      refine s258_152.mpr (s258_154.mpr (s258_155.mpr ?_))
      refine (s258_156 kM).mpr ?_
      try simp (disch := first | decide | assumption | omega) only [kon, knt_some, knt_none, Option.toList_some, Option.toList_none, List.cons_append, List.nil_append, upI_eq, upI_a, upI_i, upR_eq, upR_a, upR_i, h36, ht, E1, E2, E3, E4, E5, E6, E7, fAdd_id, fSub_id, fMul_id, m2a]
      refine s258_159.mpr (wif (fun c159 => ?_) (fun c159 => ?_))
      · first
        | (exfalso; omega)
        | skip
          refine s258_186.mpr ?_
          refine (s258_187 (by omega) kM).mpr ?_
          refine m_wants hA (by omega) (by (try simp (disch := decide) only [upI_eq, upI_a, upI_i, upR_eq, upR_a, upR_i]); first | assumption | rfl) (by omega) (fun y187 => ?_) (fun y187 => ?_)
          · skip
            refine s258_190.mpr ?_
            refine (s258_191 kM).mpr ?_
            try simp (disch := first | decide | assumption | omega) only [kon, knt_some, knt_none, Option.toList_some, Option.toList_none, List.cons_append, List.nil_append, upI_eq, upI_a, upI_i, upR_eq, upR_a, upR_i, h36, ht, E1, E2, E3, E4, E5, E6, E7, fAdd_id, fSub_id, fMul_id, m2a]
            refine s258_194.mpr (wif (fun c194 => ?_) (fun c194 => ?_))
            · first
              | (exfalso; omega)
              | skip
                refine (s258_401).mpr ?_
                first | (exfalso; omega) | (exact ok _ _ _ ((tsL_34 c1).trans (onw_p (by dsimp only; exact ⟨by omega, le0 y144.2.2 rfl, by omega, by omega⟩))) (flw1 (by rw [c1]; decide)) (by repeat' (first | assumption | exact FW.rf | refine FW.up ?_ (by unfold wS; omega) | (refine FW.tr ?_ (by assumption)))) (by (try simp (disch := decide) only [upI_eq, upI_a, upI_i, upR_eq, upR_a, upR_i]); try assumption) (by (try simp (disch := decide) only [upI_eq, upI_a, upI_i, upR_eq, upR_a, upR_i]); try assumption) (by simp (disch := decide) only [scX, upI_eq, upI_a, upI_i, upR_eq, upR_a, upR_i, upI_ro, upI_rw, up1_same, up1_eq, ht, E1, E2, E3, E4, E5, E6, E7])) | (exact no _ ((tsL_34 c1).trans (onw_n (by intro h; dsimp only at h; omega))) (by repeat' (first | assumption | exact FW.rf | refine FW.up ?_ (by unfold wS; omega) | (refine FW.tr ?_ (by assumption)))) (by (try simp (disch := decide) only [upI_eq, upI_a, upI_i, upR_eq, upR_a, upR_i]); try assumption))
            · first
              | (exfalso; omega)
              | skip
                refine s258_197.mpr (s258_198.mpr ?_)
                refine (s258_200 (by omega) kM).mpr ?_
                refine m_push hA hR (by (try simp (disch := decide) only [upI_eq, upI_a, upI_i, upR_eq, upR_a, upR_i]); first | assumption | rfl) (by omega) ?_
                refine s258_203.mpr ?_
                refine (s258_401).mpr ?_
                first | (exfalso; omega) | (exact ok _ _ _ ((tsL_34 c1).trans (onw_p (by dsimp only; exact ⟨by omega, le0 y144.2.2 rfl, by omega, by omega⟩))) (flw1 (by rw [c1]; decide)) (by repeat' (first | assumption | exact FW.rf | refine FW.up ?_ (by unfold wS; omega) | (refine FW.tr ?_ (by assumption)))) (by (try simp (disch := decide) only [upI_eq, upI_a, upI_i, upR_eq, upR_a, upR_i]); try assumption) (by (try simp (disch := decide) only [upI_eq, upI_a, upI_i, upR_eq, upR_a, upR_i]); try assumption) (by simp (disch := decide) only [scX, upI_eq, upI_a, upI_i, upR_eq, upR_a, upR_i, upI_ro, upI_rw, up1_same, up1_eq, ht, E1, E2, E3, E4, E5, E6, E7])) | (exact no _ ((tsL_34 c1).trans (onw_n (by intro h; dsimp only at h; omega))) (by repeat' (first | assumption | exact FW.rf | refine FW.up ?_ (by unfold wS; omega) | (refine FW.tr ?_ (by assumption)))) (by (try simp (disch := decide) only [upI_eq, upI_a, upI_i, upR_eq, upR_a, upR_i]); try assumption))
          · skip
            refine s258_190.mpr ?_
            refine (s258_191 kM).mpr ?_
            try simp (disch := first | decide | assumption | omega) only [kon, knt_some, knt_none, Option.toList_some, Option.toList_none, List.cons_append, List.nil_append, upI_eq, upI_a, upI_i, upR_eq, upR_a, upR_i, h36, ht, E1, E2, E3, E4, E5, E6, E7, fAdd_id, fSub_id, fMul_id, m2a]
            refine s258_194.mpr (wif (fun c194 => ?_) (fun c194 => ?_))
            · first
              | (exfalso; omega)
              | skip
                refine (s258_401).mpr ?_
                first | (exfalso; omega) | (exact ok _ _ _ ((tsL_34 c1).trans (onw_p (by dsimp only; exact ⟨by omega, le0 y144.2.2 rfl, by omega, by omega⟩))) (flw1 (by rw [c1]; decide)) (by repeat' (first | assumption | exact FW.rf | refine FW.up ?_ (by unfold wS; omega) | (refine FW.tr ?_ (by assumption)))) (by (try simp (disch := decide) only [upI_eq, upI_a, upI_i, upR_eq, upR_a, upR_i]); try assumption) (by (try simp (disch := decide) only [upI_eq, upI_a, upI_i, upR_eq, upR_a, upR_i]); try assumption) (by simp (disch := decide) only [scX, upI_eq, upI_a, upI_i, upR_eq, upR_a, upR_i, upI_ro, upI_rw, up1_same, up1_eq, ht, E1, E2, E3, E4, E5, E6, E7])) | (exact no _ ((tsL_34 c1).trans (onw_n (by intro h; dsimp only at h; omega))) (by repeat' (first | assumption | exact FW.rf | refine FW.up ?_ (by unfold wS; omega) | (refine FW.tr ?_ (by assumption)))) (by (try simp (disch := decide) only [upI_eq, upI_a, upI_i, upR_eq, upR_a, upR_i]); try assumption))
            · first
              | (exfalso; omega)
              | skip
                refine s258_197.mpr (s258_198.mpr ?_)
                refine (s258_200 (by omega) kM).mpr ?_
                refine m_push hA hR (by (try simp (disch := decide) only [upI_eq, upI_a, upI_i, upR_eq, upR_a, upR_i]); first | assumption | rfl) (by omega) ?_
                refine s258_203.mpr ?_
                refine (s258_401).mpr ?_
                first | (exfalso; omega) | (exact ok _ _ _ ((tsL_34 c1).trans (onw_p (by dsimp only; exact ⟨by omega, le0 y144.2.2 rfl, by omega, by omega⟩))) (flw1 (by rw [c1]; decide)) (by repeat' (first | assumption | exact FW.rf | refine FW.up ?_ (by unfold wS; omega) | (refine FW.tr ?_ (by assumption)))) (by (try simp (disch := decide) only [upI_eq, upI_a, upI_i, upR_eq, upR_a, upR_i]); try assumption) (by (try simp (disch := decide) only [upI_eq, upI_a, upI_i, upR_eq, upR_a, upR_i]); try assumption) (by simp (disch := decide) only [scX, upI_eq, upI_a, upI_i, upR_eq, upR_a, upR_i, upI_ro, upI_rw, up1_same, up1_eq, ht, E1, E2, E3, E4, E5, E6, E7])) | (exact no _ ((tsL_34 c1).trans (onw_n (by intro h; dsimp only at h; omega))) (by repeat' (first | assumption | exact FW.rf | refine FW.up ?_ (by unfold wS; omega) | (refine FW.tr ?_ (by assumption)))) (by (try simp (disch := decide) only [upI_eq, upI_a, upI_i, upR_eq, upR_a, upR_i]); try assumption))
      · first
        | (exfalso; omega)
        | skip
          refine s258_162.mpr (s258_164.mpr ((s258_165 kM).mpr ?_))
          rw [mr_9 hR]
          refine s258_168.mpr (s258_170.mpr (s258_171.mpr (s258_172.mpr ?_)))
          try simp (disch := first | decide | assumption | omega) only [kon, knt_some, knt_none, Option.toList_some, Option.toList_none, List.cons_append, List.nil_append, upI_eq, upI_a, upI_i, upR_eq, upR_a, upR_i, h36, ht, E1, E2, E3, E4, E5, E6, E7, fAdd_id, fSub_id, fMul_id, m2a]
          refine (s258_174 (by omega)).mpr ?_
          refine (m_which (vT_rng (hv75 _ (by omega) (by omega)))).mpr ?_
          refine s258_177.mpr ?_
          try simp (disch := first | decide | assumption | omega) only [kon, knt_some, knt_none, Option.toList_some, Option.toList_none, List.cons_append, List.nil_append, upI_eq, upI_a, upI_i, upR_eq, upR_a, upR_i, h36, ht, E1, E2, E3, E4, E5, E6, E7, fAdd_id, fSub_id, fMul_id, m2a]
          refine (s258_178 (hA.k (by decide) (by decide) rfl) (by first | assumption | omega) (by first | assumption | omega)).mpr ?_
          try simp (disch := first | decide | assumption | omega) only [kon, knt_some, knt_none, Option.toList_some, Option.toList_none, List.cons_append, List.nil_append, upI_eq, upI_a, upI_i, upR_eq, upR_a, upR_i, h36, ht, E1, E2, E3, E4, E5, E6, E7, fAdd_id, fSub_id, fMul_id, m2a]
          refine s258_179.mpr (wif (fun c179 => ?_) (fun c179 => ?_))
          · first
            | (exfalso; omega)
            | skip
              refine s258_182.mpr (s258_183.mpr ?_)
              refine (s258_187 (by omega) kM).mpr ?_
              refine m_wants hA (by omega) (by (try simp (disch := decide) only [upI_eq, upI_a, upI_i, upR_eq, upR_a, upR_i]); first | assumption | rfl) (by omega) (fun y187 => ?_) (fun y187 => ?_)
              · skip
                refine s258_190.mpr ?_
                refine (s258_191 kM).mpr ?_
                try simp (disch := first | decide | assumption | omega) only [kon, knt_some, knt_none, Option.toList_some, Option.toList_none, List.cons_append, List.nil_append, upI_eq, upI_a, upI_i, upR_eq, upR_a, upR_i, h36, ht, E1, E2, E3, E4, E5, E6, E7, fAdd_id, fSub_id, fMul_id, m2a]
                refine s258_194.mpr (wif (fun c194 => ?_) (fun c194 => ?_))
                · first
                  | (exfalso; omega)
                  | skip
                    refine (s258_401).mpr ?_
                    first | (exfalso; omega) | (exact ok _ _ _ ((tsL_34 c1).trans (onw_p (by dsimp only; exact ⟨by omega, le0 y144.2.2 rfl, by omega, by omega⟩))) (flw1 (by rw [c1]; decide)) (by repeat' (first | assumption | exact FW.rf | refine FW.up ?_ (by unfold wS; omega) | (refine FW.tr ?_ (by assumption)))) (by (try simp (disch := decide) only [upI_eq, upI_a, upI_i, upR_eq, upR_a, upR_i]); try assumption) (by (try simp (disch := decide) only [upI_eq, upI_a, upI_i, upR_eq, upR_a, upR_i]); try assumption) (by simp (disch := decide) only [scX, upI_eq, upI_a, upI_i, upR_eq, upR_a, upR_i, upI_ro, upI_rw, up1_same, up1_eq, ht, E1, E2, E3, E4, E5, E6, E7])) | (exact no _ ((tsL_34 c1).trans (onw_n (by intro h; dsimp only at h; omega))) (by repeat' (first | assumption | exact FW.rf | refine FW.up ?_ (by unfold wS; omega) | (refine FW.tr ?_ (by assumption)))) (by (try simp (disch := decide) only [upI_eq, upI_a, upI_i, upR_eq, upR_a, upR_i]); try assumption))
                · first
                  | (exfalso; omega)
                  | skip
                    refine s258_197.mpr (s258_198.mpr ?_)
                    refine (s258_200 (by omega) kM).mpr ?_
                    refine m_push hA hR (by (try simp (disch := decide) only [upI_eq, upI_a, upI_i, upR_eq, upR_a, upR_i]); first | assumption | rfl) (by omega) ?_
                    refine s258_203.mpr ?_
                    refine (s258_401).mpr ?_
                    first | (exfalso; omega) | (exact ok _ _ _ ((tsL_34 c1).trans (onw_p (by dsimp only; exact ⟨by omega, le0 y144.2.2 rfl, by omega, by omega⟩))) (flw1 (by rw [c1]; decide)) (by repeat' (first | assumption | exact FW.rf | refine FW.up ?_ (by unfold wS; omega) | (refine FW.tr ?_ (by assumption)))) (by (try simp (disch := decide) only [upI_eq, upI_a, upI_i, upR_eq, upR_a, upR_i]); try assumption) (by (try simp (disch := decide) only [upI_eq, upI_a, upI_i, upR_eq, upR_a, upR_i]); try assumption) (by simp (disch := decide) only [scX, upI_eq, upI_a, upI_i, upR_eq, upR_a, upR_i, upI_ro, upI_rw, up1_same, up1_eq, ht, E1, E2, E3, E4, E5, E6, E7])) | (exact no _ ((tsL_34 c1).trans (onw_n (by intro h; dsimp only at h; omega))) (by repeat' (first | assumption | exact FW.rf | refine FW.up ?_ (by unfold wS; omega) | (refine FW.tr ?_ (by assumption)))) (by (try simp (disch := decide) only [upI_eq, upI_a, upI_i, upR_eq, upR_a, upR_i]); try assumption))
              · skip
                refine s258_190.mpr ?_
                refine (s258_191 kM).mpr ?_
                try simp (disch := first | decide | assumption | omega) only [kon, knt_some, knt_none, Option.toList_some, Option.toList_none, List.cons_append, List.nil_append, upI_eq, upI_a, upI_i, upR_eq, upR_a, upR_i, h36, ht, E1, E2, E3, E4, E5, E6, E7, fAdd_id, fSub_id, fMul_id, m2a]
                refine s258_194.mpr (wif (fun c194 => ?_) (fun c194 => ?_))
                · first
                  | (exfalso; omega)
                  | skip
                    refine (s258_401).mpr ?_
                    first | (exfalso; omega) | (exact ok _ _ _ ((tsL_34 c1).trans (onw_p (by dsimp only; exact ⟨by omega, le0 y144.2.2 rfl, by omega, by omega⟩))) (flw1 (by rw [c1]; decide)) (by repeat' (first | assumption | exact FW.rf | refine FW.up ?_ (by unfold wS; omega) | (refine FW.tr ?_ (by assumption)))) (by (try simp (disch := decide) only [upI_eq, upI_a, upI_i, upR_eq, upR_a, upR_i]); try assumption) (by (try simp (disch := decide) only [upI_eq, upI_a, upI_i, upR_eq, upR_a, upR_i]); try assumption) (by simp (disch := decide) only [scX, upI_eq, upI_a, upI_i, upR_eq, upR_a, upR_i, upI_ro, upI_rw, up1_same, up1_eq, ht, E1, E2, E3, E4, E5, E6, E7])) | (exact no _ ((tsL_34 c1).trans (onw_n (by intro h; dsimp only at h; omega))) (by repeat' (first | assumption | exact FW.rf | refine FW.up ?_ (by unfold wS; omega) | (refine FW.tr ?_ (by assumption)))) (by (try simp (disch := decide) only [upI_eq, upI_a, upI_i, upR_eq, upR_a, upR_i]); try assumption))
                · first
                  | (exfalso; omega)
                  | skip
                    refine s258_197.mpr (s258_198.mpr ?_)
                    refine (s258_200 (by omega) kM).mpr ?_
                    refine m_push hA hR (by (try simp (disch := decide) only [upI_eq, upI_a, upI_i, upR_eq, upR_a, upR_i]); first | assumption | rfl) (by omega) ?_
                    refine s258_203.mpr ?_
                    refine (s258_401).mpr ?_
                    first | (exfalso; omega) | (exact ok _ _ _ ((tsL_34 c1).trans (onw_p (by dsimp only; exact ⟨by omega, le0 y144.2.2 rfl, by omega, by omega⟩))) (flw1 (by rw [c1]; decide)) (by repeat' (first | assumption | exact FW.rf | refine FW.up ?_ (by unfold wS; omega) | (refine FW.tr ?_ (by assumption)))) (by (try simp (disch := decide) only [upI_eq, upI_a, upI_i, upR_eq, upR_a, upR_i]); try assumption) (by (try simp (disch := decide) only [upI_eq, upI_a, upI_i, upR_eq, upR_a, upR_i]); try assumption) (by simp (disch := decide) only [scX, upI_eq, upI_a, upI_i, upR_eq, upR_a, upR_i, upI_ro, upI_rw, up1_same, up1_eq, ht, E1, E2, E3, E4, E5, E6, E7])) | (exact no _ ((tsL_34 c1).trans (onw_n (by intro h; dsimp only at h; omega))) (by repeat' (first | assumption | exact FW.rf | refine FW.up ?_ (by unfold wS; omega) | (refine FW.tr ?_ (by assumption)))) (by (try simp (disch := decide) only [upI_eq, upI_a, upI_i, upR_eq, upR_a, upR_i]); try assumption))
          · first
            | (exfalso; omega)
            | skip
              refine s258_186.mpr ?_
              refine (s258_187 (by omega) kM).mpr ?_
              refine m_wants hA (by omega) (by (try simp (disch := decide) only [upI_eq, upI_a, upI_i, upR_eq, upR_a, upR_i]); first | assumption | rfl) (by omega) (fun y187 => ?_) (fun y187 => ?_)
              · skip
                refine s258_190.mpr ?_
                refine (s258_191 kM).mpr ?_
                try simp (disch := first | decide | assumption | omega) only [kon, knt_some, knt_none, Option.toList_some, Option.toList_none, List.cons_append, List.nil_append, upI_eq, upI_a, upI_i, upR_eq, upR_a, upR_i, h36, ht, E1, E2, E3, E4, E5, E6, E7, fAdd_id, fSub_id, fMul_id, m2a]
                refine s258_194.mpr (wif (fun c194 => ?_) (fun c194 => ?_))
                · first
                  | (exfalso; omega)
                  | skip
                    refine (s258_401).mpr ?_
                    first | (exfalso; omega) | (exact ok _ _ _ ((tsL_34 c1).trans (onw_p (by dsimp only; exact ⟨by omega, le0 y144.2.2 rfl, by omega, by omega⟩))) (flw1 (by rw [c1]; decide)) (by repeat' (first | assumption | exact FW.rf | refine FW.up ?_ (by unfold wS; omega) | (refine FW.tr ?_ (by assumption)))) (by (try simp (disch := decide) only [upI_eq, upI_a, upI_i, upR_eq, upR_a, upR_i]); try assumption) (by (try simp (disch := decide) only [upI_eq, upI_a, upI_i, upR_eq, upR_a, upR_i]); try assumption) (by simp (disch := decide) only [scX, upI_eq, upI_a, upI_i, upR_eq, upR_a, upR_i, upI_ro, upI_rw, up1_same, up1_eq, ht, E1, E2, E3, E4, E5, E6, E7])) | (exact no _ ((tsL_34 c1).trans (onw_n (by intro h; dsimp only at h; omega))) (by repeat' (first | assumption | exact FW.rf | refine FW.up ?_ (by unfold wS; omega) | (refine FW.tr ?_ (by assumption)))) (by (try simp (disch := decide) only [upI_eq, upI_a, upI_i, upR_eq, upR_a, upR_i]); try assumption))
                · first
                  | (exfalso; omega)
                  | skip
                    refine s258_197.mpr (s258_198.mpr ?_)
                    refine (s258_200 (by omega) kM).mpr ?_
                    refine m_push hA hR (by (try simp (disch := decide) only [upI_eq, upI_a, upI_i, upR_eq, upR_a, upR_i]); first | assumption | rfl) (by omega) ?_
                    refine s258_203.mpr ?_
                    refine (s258_401).mpr ?_
                    first | (exfalso; omega) | (exact ok _ _ _ ((tsL_34 c1).trans (onw_p (by dsimp only; exact ⟨by omega, le0 y144.2.2 rfl, by omega, by omega⟩))) (flw1 (by rw [c1]; decide)) (by repeat' (first | assumption | exact FW.rf | refine FW.up ?_ (by unfold wS; omega) | (refine FW.tr ?_ (by assumption)))) (by (try simp (disch := decide) only [upI_eq, upI_a, upI_i, upR_eq, upR_a, upR_i]); try assumption) (by (try simp (disch := decide) only [upI_eq, upI_a, upI_i, upR_eq, upR_a, upR_i]); try assumption) (by simp (disch := decide) only [scX, upI_eq, upI_a, upI_i, upR_eq, upR_a, upR_i, upI_ro, upI_rw, up1_same, up1_eq, ht, E1, E2, E3, E4, E5, E6, E7])) | (exact no _ ((tsL_34 c1).trans (onw_n (by intro h; dsimp only at h; omega))) (by repeat' (first | assumption | exact FW.rf | refine FW.up ?_ (by unfold wS; omega) | (refine FW.tr ?_ (by assumption)))) (by (try simp (disch := decide) only [upI_eq, upI_a, upI_i, upR_eq, upR_a, upR_i]); try assumption))
              · skip
                refine s258_190.mpr ?_
                refine (s258_191 kM).mpr ?_
                try simp (disch := first | decide | assumption | omega) only [kon, knt_some, knt_none, Option.toList_some, Option.toList_none, List.cons_append, List.nil_append, upI_eq, upI_a, upI_i, upR_eq, upR_a, upR_i, h36, ht, E1, E2, E3, E4, E5, E6, E7, fAdd_id, fSub_id, fMul_id, m2a]
                refine s258_194.mpr (wif (fun c194 => ?_) (fun c194 => ?_))
                · first
                  | (exfalso; omega)
                  | skip
                    refine (s258_401).mpr ?_
                    first | (exfalso; omega) | (exact ok _ _ _ ((tsL_34 c1).trans (onw_p (by dsimp only; exact ⟨by omega, le0 y144.2.2 rfl, by omega, by omega⟩))) (flw1 (by rw [c1]; decide)) (by repeat' (first | assumption | exact FW.rf | refine FW.up ?_ (by unfold wS; omega) | (refine FW.tr ?_ (by assumption)))) (by (try simp (disch := decide) only [upI_eq, upI_a, upI_i, upR_eq, upR_a, upR_i]); try assumption) (by (try simp (disch := decide) only [upI_eq, upI_a, upI_i, upR_eq, upR_a, upR_i]); try assumption) (by simp (disch := decide) only [scX, upI_eq, upI_a, upI_i, upR_eq, upR_a, upR_i, upI_ro, upI_rw, up1_same, up1_eq, ht, E1, E2, E3, E4, E5, E6, E7])) | (exact no _ ((tsL_34 c1).trans (onw_n (by intro h; dsimp only at h; omega))) (by repeat' (first | assumption | exact FW.rf | refine FW.up ?_ (by unfold wS; omega) | (refine FW.tr ?_ (by assumption)))) (by (try simp (disch := decide) only [upI_eq, upI_a, upI_i, upR_eq, upR_a, upR_i]); try assumption))
                · first
                  | (exfalso; omega)
                  | skip
                    refine s258_197.mpr (s258_198.mpr ?_)
                    refine (s258_200 (by omega) kM).mpr ?_
                    refine m_push hA hR (by (try simp (disch := decide) only [upI_eq, upI_a, upI_i, upR_eq, upR_a, upR_i]); first | assumption | rfl) (by omega) ?_
                    refine s258_203.mpr ?_
                    refine (s258_401).mpr ?_
                    first | (exfalso; omega) | (exact ok _ _ _ ((tsL_34 c1).trans (onw_p (by dsimp only; exact ⟨by omega, le0 y144.2.2 rfl, by omega, by omega⟩))) (flw1 (by rw [c1]; decide)) (by repeat' (first | assumption | exact FW.rf | refine FW.up ?_ (by unfold wS; omega) | (refine FW.tr ?_ (by assumption)))) (by (try simp (disch := decide) only [upI_eq, upI_a, upI_i, upR_eq, upR_a, upR_i]); try assumption) (by (try simp (disch := decide) only [upI_eq, upI_a, upI_i, upR_eq, upR_a, upR_i]); try assumption) (by simp (disch := decide) only [scX, upI_eq, upI_a, upI_i, upR_eq, upR_a, upR_i, upI_ro, upI_rw, up1_same, up1_eq, ht, E1, E2, E3, E4, E5, E6, E7])) | (exact no _ ((tsL_34 c1).trans (onw_n (by intro h; dsimp only at h; omega))) (by repeat' (first | assumption | exact FW.rf | refine FW.up ?_ (by unfold wS; omega) | (refine FW.tr ?_ (by assumption)))) (by (try simp (disch := decide) only [upI_eq, upI_a, upI_i, upR_eq, upR_a, upR_i]); try assumption))
  · skip
    try simp (disch := decide) only [upI_eq, upI_a, upI_i, upR_eq, upR_a, upR_i, E1, E4] at y144
    try simp (disch := decide) only [upI_eq, upI_a, upI_i, upR_eq, upR_a, upR_i, E1, E4] at x144
    refine s258_147.mpr (s258_148.mpr ?_)
    refine (s258_149 (by omega) kM).mpr ?_
    refine m_popKind hA hR (by omega) (by (try simp (disch := decide) only [upI_eq, upI_a, upI_i, upR_eq, upR_a, upR_i]); first | assumption | rfl) (by omega) (by (try simp (disch := decide) only [upI_eq, upI_a, upI_i, upR_eq, upR_a, upR_i]); first | assumption | rfl) (by omega) (fun y149 => ?_) (fun q149 hi149 t149 w149 z149 u149 v149 x149 => ?_)
    · skip
      try simp (disch := decide) only [upI_eq, upI_a, upI_i, upR_eq, upR_a, upR_i, E1, E4] at y149
      try simp (disch := decide) only [upI_eq, upI_a, upI_i, upR_eq, upR_a, upR_i, E1, E4] at x149
      refine s258_152.mpr (s258_154.mpr (s258_155.mpr ?_))
      refine (s258_156 kM).mpr ?_
      try simp (disch := first | decide | assumption | omega) only [kon, knt_some, knt_none, Option.toList_some, Option.toList_none, List.cons_append, List.nil_append, upI_eq, upI_a, upI_i, upR_eq, upR_a, upR_i, h36, ht, E1, E2, E3, E4, E5, E6, E7, fAdd_id, fSub_id, fMul_id, m2a]
      refine s258_159.mpr (wif (fun c159 => ?_) (fun c159 => ?_))
      · first
        | (exfalso; omega)
        | skip
          refine s258_186.mpr ?_
          refine (s258_187 (by omega) kM).mpr ?_
          refine m_wants hA (by omega) (by (try simp (disch := decide) only [upI_eq, upI_a, upI_i, upR_eq, upR_a, upR_i]); first | assumption | rfl) (by omega) (fun y187 => ?_) (fun y187 => ?_)
          · skip
            refine s258_190.mpr ?_
            refine (s258_191 kM).mpr ?_
            try simp (disch := first | decide | assumption | omega) only [kon, knt_some, knt_none, Option.toList_some, Option.toList_none, List.cons_append, List.nil_append, upI_eq, upI_a, upI_i, upR_eq, upR_a, upR_i, h36, ht, E1, E2, E3, E4, E5, E6, E7, fAdd_id, fSub_id, fMul_id, m2a]
            refine s258_194.mpr (wif (fun c194 => ?_) (fun c194 => ?_))
            · first
              | (exfalso; omega)
              | skip
                refine (s258_401).mpr ?_
                first | (exfalso; omega) | (exact ok _ _ _ ((tsL_34 c1).trans (onw_p (by dsimp only; exact ⟨by omega, le0 y144.2.2 rfl, by omega, by omega⟩))) (flw1 (by rw [c1]; decide)) (by repeat' (first | assumption | exact FW.rf | refine FW.up ?_ (by unfold wS; omega) | (refine FW.tr ?_ (by assumption)))) (by (try simp (disch := decide) only [upI_eq, upI_a, upI_i, upR_eq, upR_a, upR_i]); try assumption) (by (try simp (disch := decide) only [upI_eq, upI_a, upI_i, upR_eq, upR_a, upR_i]); try assumption) (by simp (disch := decide) only [scX, upI_eq, upI_a, upI_i, upR_eq, upR_a, upR_i, upI_ro, upI_rw, up1_same, up1_eq, ht, E1, E2, E3, E4, E5, E6, E7])) | (exact no _ ((tsL_34 c1).trans (onw_n (by intro h; dsimp only at h; omega))) (by repeat' (first | assumption | exact FW.rf | refine FW.up ?_ (by unfold wS; omega) | (refine FW.tr ?_ (by assumption)))) (by (try simp (disch := decide) only [upI_eq, upI_a, upI_i, upR_eq, upR_a, upR_i]); try assumption))
            · first
              | (exfalso; omega)
              | skip
                refine s258_197.mpr (s258_198.mpr ?_)
                refine (s258_200 (by omega) kM).mpr ?_
                refine m_push hA hR (by (try simp (disch := decide) only [upI_eq, upI_a, upI_i, upR_eq, upR_a, upR_i]); first | assumption | rfl) (by omega) ?_
                refine s258_203.mpr ?_
                refine (s258_401).mpr ?_
                first | (exfalso; omega) | (exact ok _ _ _ ((tsL_34 c1).trans (onw_p (by dsimp only; exact ⟨by omega, le0 y144.2.2 rfl, by omega, by omega⟩))) (flw1 (by rw [c1]; decide)) (by repeat' (first | assumption | exact FW.rf | refine FW.up ?_ (by unfold wS; omega) | (refine FW.tr ?_ (by assumption)))) (by (try simp (disch := decide) only [upI_eq, upI_a, upI_i, upR_eq, upR_a, upR_i]); try assumption) (by (try simp (disch := decide) only [upI_eq, upI_a, upI_i, upR_eq, upR_a, upR_i]); try assumption) (by simp (disch := decide) only [scX, upI_eq, upI_a, upI_i, upR_eq, upR_a, upR_i, upI_ro, upI_rw, up1_same, up1_eq, ht, E1, E2, E3, E4, E5, E6, E7])) | (exact no _ ((tsL_34 c1).trans (onw_n (by intro h; dsimp only at h; omega))) (by repeat' (first | assumption | exact FW.rf | refine FW.up ?_ (by unfold wS; omega) | (refine FW.tr ?_ (by assumption)))) (by (try simp (disch := decide) only [upI_eq, upI_a, upI_i, upR_eq, upR_a, upR_i]); try assumption))
          · skip
            refine s258_190.mpr ?_
            refine (s258_191 kM).mpr ?_
            try simp (disch := first | decide | assumption | omega) only [kon, knt_some, knt_none, Option.toList_some, Option.toList_none, List.cons_append, List.nil_append, upI_eq, upI_a, upI_i, upR_eq, upR_a, upR_i, h36, ht, E1, E2, E3, E4, E5, E6, E7, fAdd_id, fSub_id, fMul_id, m2a]
            refine s258_194.mpr (wif (fun c194 => ?_) (fun c194 => ?_))
            · first
              | (exfalso; omega)
              | skip
                refine (s258_401).mpr ?_
                first | (exfalso; omega) | (exact ok _ _ _ ((tsL_34 c1).trans (onw_p (by dsimp only; exact ⟨by omega, le0 y144.2.2 rfl, by omega, by omega⟩))) (flw1 (by rw [c1]; decide)) (by repeat' (first | assumption | exact FW.rf | refine FW.up ?_ (by unfold wS; omega) | (refine FW.tr ?_ (by assumption)))) (by (try simp (disch := decide) only [upI_eq, upI_a, upI_i, upR_eq, upR_a, upR_i]); try assumption) (by (try simp (disch := decide) only [upI_eq, upI_a, upI_i, upR_eq, upR_a, upR_i]); try assumption) (by simp (disch := decide) only [scX, upI_eq, upI_a, upI_i, upR_eq, upR_a, upR_i, upI_ro, upI_rw, up1_same, up1_eq, ht, E1, E2, E3, E4, E5, E6, E7])) | (exact no _ ((tsL_34 c1).trans (onw_n (by intro h; dsimp only at h; omega))) (by repeat' (first | assumption | exact FW.rf | refine FW.up ?_ (by unfold wS; omega) | (refine FW.tr ?_ (by assumption)))) (by (try simp (disch := decide) only [upI_eq, upI_a, upI_i, upR_eq, upR_a, upR_i]); try assumption))
            · first
              | (exfalso; omega)
              | skip
                refine s258_197.mpr (s258_198.mpr ?_)
                refine (s258_200 (by omega) kM).mpr ?_
                refine m_push hA hR (by (try simp (disch := decide) only [upI_eq, upI_a, upI_i, upR_eq, upR_a, upR_i]); first | assumption | rfl) (by omega) ?_
                refine s258_203.mpr ?_
                refine (s258_401).mpr ?_
                first | (exfalso; omega) | (exact ok _ _ _ ((tsL_34 c1).trans (onw_p (by dsimp only; exact ⟨by omega, le0 y144.2.2 rfl, by omega, by omega⟩))) (flw1 (by rw [c1]; decide)) (by repeat' (first | assumption | exact FW.rf | refine FW.up ?_ (by unfold wS; omega) | (refine FW.tr ?_ (by assumption)))) (by (try simp (disch := decide) only [upI_eq, upI_a, upI_i, upR_eq, upR_a, upR_i]); try assumption) (by (try simp (disch := decide) only [upI_eq, upI_a, upI_i, upR_eq, upR_a, upR_i]); try assumption) (by simp (disch := decide) only [scX, upI_eq, upI_a, upI_i, upR_eq, upR_a, upR_i, upI_ro, upI_rw, up1_same, up1_eq, ht, E1, E2, E3, E4, E5, E6, E7])) | (exact no _ ((tsL_34 c1).trans (onw_n (by intro h; dsimp only at h; omega))) (by repeat' (first | assumption | exact FW.rf | refine FW.up ?_ (by unfold wS; omega) | (refine FW.tr ?_ (by assumption)))) (by (try simp (disch := decide) only [upI_eq, upI_a, upI_i, upR_eq, upR_a, upR_i]); try assumption))
      · first
        | (exfalso; omega)
        | skip
          refine s258_162.mpr (s258_164.mpr ((s258_165 kM).mpr ?_))
          rw [mr_9 hR]
          refine s258_168.mpr (s258_170.mpr (s258_171.mpr (s258_172.mpr ?_)))
          try simp (disch := first | decide | assumption | omega) only [kon, knt_some, knt_none, Option.toList_some, Option.toList_none, List.cons_append, List.nil_append, upI_eq, upI_a, upI_i, upR_eq, upR_a, upR_i, h36, ht, E1, E2, E3, E4, E5, E6, E7, fAdd_id, fSub_id, fMul_id, m2a]
          refine (s258_174 (by omega)).mpr ?_
          refine (m_which (vT_rng (hv75 _ (by omega) (by omega)))).mpr ?_
          refine s258_177.mpr ?_
          try simp (disch := first | decide | assumption | omega) only [kon, knt_some, knt_none, Option.toList_some, Option.toList_none, List.cons_append, List.nil_append, upI_eq, upI_a, upI_i, upR_eq, upR_a, upR_i, h36, ht, E1, E2, E3, E4, E5, E6, E7, fAdd_id, fSub_id, fMul_id, m2a]
          refine (s258_178 (hA.k (by decide) (by decide) rfl) (by first | assumption | omega) (by first | assumption | omega)).mpr ?_
          try simp (disch := first | decide | assumption | omega) only [kon, knt_some, knt_none, Option.toList_some, Option.toList_none, List.cons_append, List.nil_append, upI_eq, upI_a, upI_i, upR_eq, upR_a, upR_i, h36, ht, E1, E2, E3, E4, E5, E6, E7, fAdd_id, fSub_id, fMul_id, m2a]
          refine s258_179.mpr (wif (fun c179 => ?_) (fun c179 => ?_))
          · first
            | (exfalso; omega)
            | skip
              refine s258_182.mpr (s258_183.mpr ?_)
              refine (s258_187 (by omega) kM).mpr ?_
              refine m_wants hA (by omega) (by (try simp (disch := decide) only [upI_eq, upI_a, upI_i, upR_eq, upR_a, upR_i]); first | assumption | rfl) (by omega) (fun y187 => ?_) (fun y187 => ?_)
              · skip
                refine s258_190.mpr ?_
                refine (s258_191 kM).mpr ?_
                try simp (disch := first | decide | assumption | omega) only [kon, knt_some, knt_none, Option.toList_some, Option.toList_none, List.cons_append, List.nil_append, upI_eq, upI_a, upI_i, upR_eq, upR_a, upR_i, h36, ht, E1, E2, E3, E4, E5, E6, E7, fAdd_id, fSub_id, fMul_id, m2a]
                refine s258_194.mpr (wif (fun c194 => ?_) (fun c194 => ?_))
                · first
                  | (exfalso; omega)
                  | skip
                    refine (s258_401).mpr ?_
                    first | (exfalso; omega) | (exact ok _ _ _ ((tsL_34 c1).trans (onw_p (by dsimp only; exact ⟨by omega, le0 y144.2.2 rfl, by omega, by omega⟩))) (flw1 (by rw [c1]; decide)) (by repeat' (first | assumption | exact FW.rf | refine FW.up ?_ (by unfold wS; omega) | (refine FW.tr ?_ (by assumption)))) (by (try simp (disch := decide) only [upI_eq, upI_a, upI_i, upR_eq, upR_a, upR_i]); try assumption) (by (try simp (disch := decide) only [upI_eq, upI_a, upI_i, upR_eq, upR_a, upR_i]); try assumption) (by simp (disch := decide) only [scX, upI_eq, upI_a, upI_i, upR_eq, upR_a, upR_i, upI_ro, upI_rw, up1_same, up1_eq, ht, E1, E2, E3, E4, E5, E6, E7])) | (exact no _ ((tsL_34 c1).trans (onw_n (by intro h; dsimp only at h; omega))) (by repeat' (first | assumption | exact FW.rf | refine FW.up ?_ (by unfold wS; omega) | (refine FW.tr ?_ (by assumption)))) (by (try simp (disch := decide) only [upI_eq, upI_a, upI_i, upR_eq, upR_a, upR_i]); try assumption))
                · first
                  | (exfalso; omega)
                  | skip
                    refine s258_197.mpr (s258_198.mpr ?_)
                    refine (s258_200 (by omega) kM).mpr ?_
                    refine m_push hA hR (by (try simp (disch := decide) only [upI_eq, upI_a, upI_i, upR_eq, upR_a, upR_i]); first | assumption | rfl) (by omega) ?_
                    refine s258_203.mpr ?_
                    refine (s258_401).mpr ?_
                    first | (exfalso; omega) | (exact ok _ _ _ ((tsL_34 c1).trans (onw_p (by dsimp only; exact ⟨by omega, le0 y144.2.2 rfl, by omega, by omega⟩))) (flw1 (by rw [c1]; decide)) (by repeat' (first | assumption | exact FW.rf | refine FW.up ?_ (by unfold wS; omega) | (refine FW.tr ?_ (by assumption)))) (by (try simp (disch := decide) only [upI_eq, upI_a, upI_i, upR_eq, upR_a, upR_i]); try assumption) (by (try simp (disch := decide) only [upI_eq, upI_a, upI_i, upR_eq, upR_a, upR_i]); try assumption) (by simp (disch := decide) only [scX, upI_eq, upI_a, upI_i, upR_eq, upR_a, upR_i, upI_ro, upI_rw, up1_same, up1_eq, ht, E1, E2, E3, E4, E5, E6, E7])) | (exact no _ ((tsL_34 c1).trans (onw_n (by intro h; dsimp only at h; omega))) (by repeat' (first | assumption | exact FW.rf | refine FW.up ?_ (by unfold wS; omega) | (refine FW.tr ?_ (by assumption)))) (by (try simp (disch := decide) only [upI_eq, upI_a, upI_i, upR_eq, upR_a, upR_i]); try assumption))
              · skip
                refine s258_190.mpr ?_
                refine (s258_191 kM).mpr ?_
                try simp (disch := first | decide | assumption | omega) only [kon, knt_some, knt_none, Option.toList_some, Option.toList_none, List.cons_append, List.nil_append, upI_eq, upI_a, upI_i, upR_eq, upR_a, upR_i, h36, ht, E1, E2, E3, E4, E5, E6, E7, fAdd_id, fSub_id, fMul_id, m2a]
                refine s258_194.mpr (wif (fun c194 => ?_) (fun c194 => ?_))
                · first
                  | (exfalso; omega)
                  | skip
                    refine (s258_401).mpr ?_
                    first | (exfalso; omega) | (exact ok _ _ _ ((tsL_34 c1).trans (onw_p (by dsimp only; exact ⟨by omega, le0 y144.2.2 rfl, by omega, by omega⟩))) (flw1 (by rw [c1]; decide)) (by repeat' (first | assumption | exact FW.rf | refine FW.up ?_ (by unfold wS; omega) | (refine FW.tr ?_ (by assumption)))) (by (try simp (disch := decide) only [upI_eq, upI_a, upI_i, upR_eq, upR_a, upR_i]); try assumption) (by (try simp (disch := decide) only [upI_eq, upI_a, upI_i, upR_eq, upR_a, upR_i]); try assumption) (by simp (disch := decide) only [scX, upI_eq, upI_a, upI_i, upR_eq, upR_a, upR_i, upI_ro, upI_rw, up1_same, up1_eq, ht, E1, E2, E3, E4, E5, E6, E7])) | (exact no _ ((tsL_34 c1).trans (onw_n (by intro h; dsimp only at h; omega))) (by repeat' (first | assumption | exact FW.rf | refine FW.up ?_ (by unfold wS; omega) | (refine FW.tr ?_ (by assumption)))) (by (try simp (disch := decide) only [upI_eq, upI_a, upI_i, upR_eq, upR_a, upR_i]); try assumption))
                · first
                  | (exfalso; omega)
                  | skip
                    refine s258_197.mpr (s258_198.mpr ?_)
                    refine (s258_200 (by omega) kM).mpr ?_
                    refine m_push hA hR (by (try simp (disch := decide) only [upI_eq, upI_a, upI_i, upR_eq, upR_a, upR_i]); first | assumption | rfl) (by omega) ?_
                    refine s258_203.mpr ?_
                    refine (s258_401).mpr ?_
                    first | (exfalso; omega) | (exact ok _ _ _ ((tsL_34 c1).trans (onw_p (by dsimp only; exact ⟨by omega, le0 y144.2.2 rfl, by omega, by omega⟩))) (flw1 (by rw [c1]; decide)) (by repeat' (first | assumption | exact FW.rf | refine FW.up ?_ (by unfold wS; omega) | (refine FW.tr ?_ (by assumption)))) (by (try simp (disch := decide) only [upI_eq, upI_a, upI_i, upR_eq, upR_a, upR_i]); try assumption) (by (try simp (disch := decide) only [upI_eq, upI_a, upI_i, upR_eq, upR_a, upR_i]); try assumption) (by simp (disch := decide) only [scX, upI_eq, upI_a, upI_i, upR_eq, upR_a, upR_i, upI_ro, upI_rw, up1_same, up1_eq, ht, E1, E2, E3, E4, E5, E6, E7])) | (exact no _ ((tsL_34 c1).trans (onw_n (by intro h; dsimp only at h; omega))) (by repeat' (first | assumption | exact FW.rf | refine FW.up ?_ (by unfold wS; omega) | (refine FW.tr ?_ (by assumption)))) (by (try simp (disch := decide) only [upI_eq, upI_a, upI_i, upR_eq, upR_a, upR_i]); try assumption))
          · first
            | (exfalso; omega)
            | skip
              refine s258_186.mpr ?_
              refine (s258_187 (by omega) kM).mpr ?_
              refine m_wants hA (by omega) (by (try simp (disch := decide) only [upI_eq, upI_a, upI_i, upR_eq, upR_a, upR_i]); first | assumption | rfl) (by omega) (fun y187 => ?_) (fun y187 => ?_)
              · skip
                refine s258_190.mpr ?_
                refine (s258_191 kM).mpr ?_
                try simp (disch := first | decide | assumption | omega) only [kon, knt_some, knt_none, Option.toList_some, Option.toList_none, List.cons_append, List.nil_append, upI_eq, upI_a, upI_i, upR_eq, upR_a, upR_i, h36, ht, E1, E2, E3, E4, E5, E6, E7, fAdd_id, fSub_id, fMul_id, m2a]
                refine s258_194.mpr (wif (fun c194 => ?_) (fun c194 => ?_))
                · first
                  | (exfalso; omega)
                  | skip
                    refine (s258_401).mpr ?_
                    first | (exfalso; omega) | (exact ok _ _ _ ((tsL_34 c1).trans (onw_p (by dsimp only; exact ⟨by omega, le0 y144.2.2 rfl, by omega, by omega⟩))) (flw1 (by rw [c1]; decide)) (by repeat' (first | assumption | exact FW.rf | refine FW.up ?_ (by unfold wS; omega) | (refine FW.tr ?_ (by assumption)))) (by (try simp (disch := decide) only [upI_eq, upI_a, upI_i, upR_eq, upR_a, upR_i]); try assumption) (by (try simp (disch := decide) only [upI_eq, upI_a, upI_i, upR_eq, upR_a, upR_i]); try assumption) (by simp (disch := decide) only [scX, upI_eq, upI_a, upI_i, upR_eq, upR_a, upR_i, upI_ro, upI_rw, up1_same, up1_eq, ht, E1, E2, E3, E4, E5, E6, E7])) | (exact no _ ((tsL_34 c1).trans (onw_n (by intro h; dsimp only at h; omega))) (by repeat' (first | assumption | exact FW.rf | refine FW.up ?_ (by unfold wS; omega) | (refine FW.tr ?_ (by assumption)))) (by (try simp (disch := decide) only [upI_eq, upI_a, upI_i, upR_eq, upR_a, upR_i]); try assumption))
                · first
                  | (exfalso; omega)
                  | skip
                    refine s258_197.mpr (s258_198.mpr ?_)
                    refine (s258_200 (by omega) kM).mpr ?_
                    refine m_push hA hR (by (try simp (disch := decide) only [upI_eq, upI_a, upI_i, upR_eq, upR_a, upR_i]); first | assumption | rfl) (by omega) ?_
                    refine s258_203.mpr ?_
                    refine (s258_401).mpr ?_
                    first | (exfalso; omega) | (exact ok _ _ _ ((tsL_34 c1).trans (onw_p (by dsimp only; exact ⟨by omega, le0 y144.2.2 rfl, by omega, by omega⟩))) (flw1 (by rw [c1]; decide)) (by repeat' (first | assumption | exact FW.rf | refine FW.up ?_ (by unfold wS; omega) | (refine FW.tr ?_ (by assumption)))) (by (try simp (disch := decide) only [upI_eq, upI_a, upI_i, upR_eq, upR_a, upR_i]); try assumption) (by (try simp (disch := decide) only [upI_eq, upI_a, upI_i, upR_eq, upR_a, upR_i]); try assumption) (by simp (disch := decide) only [scX, upI_eq, upI_a, upI_i, upR_eq, upR_a, upR_i, upI_ro, upI_rw, up1_same, up1_eq, ht, E1, E2, E3, E4, E5, E6, E7])) | (exact no _ ((tsL_34 c1).trans (onw_n (by intro h; dsimp only at h; omega))) (by repeat' (first | assumption | exact FW.rf | refine FW.up ?_ (by unfold wS; omega) | (refine FW.tr ?_ (by assumption)))) (by (try simp (disch := decide) only [upI_eq, upI_a, upI_i, upR_eq, upR_a, upR_i]); try assumption))
              · skip
                refine s258_190.mpr ?_
                refine (s258_191 kM).mpr ?_
                try simp (disch := first | decide | assumption | omega) only [kon, knt_some, knt_none, Option.toList_some, Option.toList_none, List.cons_append, List.nil_append, upI_eq, upI_a, upI_i, upR_eq, upR_a, upR_i, h36, ht, E1, E2, E3, E4, E5, E6, E7, fAdd_id, fSub_id, fMul_id, m2a]
                refine s258_194.mpr (wif (fun c194 => ?_) (fun c194 => ?_))
                · first
                  | (exfalso; omega)
                  | skip
                    refine (s258_401).mpr ?_
                    first | (exfalso; omega) | (exact ok _ _ _ ((tsL_34 c1).trans (onw_p (by dsimp only; exact ⟨by omega, le0 y144.2.2 rfl, by omega, by omega⟩))) (flw1 (by rw [c1]; decide)) (by repeat' (first | assumption | exact FW.rf | refine FW.up ?_ (by unfold wS; omega) | (refine FW.tr ?_ (by assumption)))) (by (try simp (disch := decide) only [upI_eq, upI_a, upI_i, upR_eq, upR_a, upR_i]); try assumption) (by (try simp (disch := decide) only [upI_eq, upI_a, upI_i, upR_eq, upR_a, upR_i]); try assumption) (by simp (disch := decide) only [scX, upI_eq, upI_a, upI_i, upR_eq, upR_a, upR_i, upI_ro, upI_rw, up1_same, up1_eq, ht, E1, E2, E3, E4, E5, E6, E7])) | (exact no _ ((tsL_34 c1).trans (onw_n (by intro h; dsimp only at h; omega))) (by repeat' (first | assumption | exact FW.rf | refine FW.up ?_ (by unfold wS; omega) | (refine FW.tr ?_ (by assumption)))) (by (try simp (disch := decide) only [upI_eq, upI_a, upI_i, upR_eq, upR_a, upR_i]); try assumption))
                · first
                  | (exfalso; omega)
                  | skip
                    refine s258_197.mpr (s258_198.mpr ?_)
                    refine (s258_200 (by omega) kM).mpr ?_
                    refine m_push hA hR (by (try simp (disch := decide) only [upI_eq, upI_a, upI_i, upR_eq, upR_a, upR_i]); first | assumption | rfl) (by omega) ?_
                    refine s258_203.mpr ?_
                    refine (s258_401).mpr ?_
                    first | (exfalso; omega) | (exact ok _ _ _ ((tsL_34 c1).trans (onw_p (by dsimp only; exact ⟨by omega, le0 y144.2.2 rfl, by omega, by omega⟩))) (flw1 (by rw [c1]; decide)) (by repeat' (first | assumption | exact FW.rf | refine FW.up ?_ (by unfold wS; omega) | (refine FW.tr ?_ (by assumption)))) (by (try simp (disch := decide) only [upI_eq, upI_a, upI_i, upR_eq, upR_a, upR_i]); try assumption) (by (try simp (disch := decide) only [upI_eq, upI_a, upI_i, upR_eq, upR_a, upR_i]); try assumption) (by simp (disch := decide) only [scX, upI_eq, upI_a, upI_i, upR_eq, upR_a, upR_i, upI_ro, upI_rw, up1_same, up1_eq, ht, E1, E2, E3, E4, E5, E6, E7])) | (exact no _ ((tsL_34 c1).trans (onw_n (by intro h; dsimp only at h; omega))) (by repeat' (first | assumption | exact FW.rf | refine FW.up ?_ (by unfold wS; omega) | (refine FW.tr ?_ (by assumption)))) (by (try simp (disch := decide) only [upI_eq, upI_a, upI_i, upR_eq, upR_a, upR_i]); try assumption))
    · skip
      try simp (disch := decide) only [upI_eq, upI_a, upI_i, upR_eq, upR_a, upR_i, E1, E4] at y149
      try simp (disch := decide) only [upI_eq, upI_a, upI_i, upR_eq, upR_a, upR_i, E1, E4] at x149
      refine s258_152.mpr (s258_154.mpr (s258_155.mpr ?_))
      refine (s258_156 kM).mpr ?_
      try simp (disch := first | decide | assumption | omega) only [kon, knt_some, knt_none, Option.toList_some, Option.toList_none, List.cons_append, List.nil_append, upI_eq, upI_a, upI_i, upR_eq, upR_a, upR_i, h36, ht, E1, E2, E3, E4, E5, E6, E7, fAdd_id, fSub_id, fMul_id, m2a]
      refine s258_159.mpr (wif (fun c159 => ?_) (fun c159 => ?_))
      · first
        | (exfalso; omega)
        | skip
          refine s258_186.mpr ?_
          refine (s258_187 (by omega) kM).mpr ?_
          refine m_wants hA (by omega) (by (try simp (disch := decide) only [upI_eq, upI_a, upI_i, upR_eq, upR_a, upR_i]); first | assumption | rfl) (by omega) (fun y187 => ?_) (fun y187 => ?_)
          · skip
            refine s258_190.mpr ?_
            refine (s258_191 kM).mpr ?_
            try simp (disch := first | decide | assumption | omega) only [kon, knt_some, knt_none, Option.toList_some, Option.toList_none, List.cons_append, List.nil_append, upI_eq, upI_a, upI_i, upR_eq, upR_a, upR_i, h36, ht, E1, E2, E3, E4, E5, E6, E7, fAdd_id, fSub_id, fMul_id, m2a]
            refine s258_194.mpr (wif (fun c194 => ?_) (fun c194 => ?_))
            · first
              | (exfalso; omega)
              | skip
                refine (s258_401).mpr ?_
                first | (exfalso; omega) | (exact ok _ _ _ ((tsL_34 c1).trans (onw_p (by dsimp only; exact ⟨by omega, le0 y144.2.2 rfl, by omega, by omega⟩))) (flw1 (by rw [c1]; decide)) (by repeat' (first | assumption | exact FW.rf | refine FW.up ?_ (by unfold wS; omega) | (refine FW.tr ?_ (by assumption)))) (by (try simp (disch := decide) only [upI_eq, upI_a, upI_i, upR_eq, upR_a, upR_i]); try assumption) (by (try simp (disch := decide) only [upI_eq, upI_a, upI_i, upR_eq, upR_a, upR_i]); try assumption) (by simp (disch := decide) only [scX, upI_eq, upI_a, upI_i, upR_eq, upR_a, upR_i, upI_ro, upI_rw, up1_same, up1_eq, ht, E1, E2, E3, E4, E5, E6, E7])) | (exact no _ ((tsL_34 c1).trans (onw_n (by intro h; dsimp only at h; omega))) (by repeat' (first | assumption | exact FW.rf | refine FW.up ?_ (by unfold wS; omega) | (refine FW.tr ?_ (by assumption)))) (by (try simp (disch := decide) only [upI_eq, upI_a, upI_i, upR_eq, upR_a, upR_i]); try assumption))
            · first
              | (exfalso; omega)
              | skip
                refine s258_197.mpr (s258_198.mpr ?_)
                refine (s258_200 (by omega) kM).mpr ?_
                refine m_push hA hR (by (try simp (disch := decide) only [upI_eq, upI_a, upI_i, upR_eq, upR_a, upR_i]); first | assumption | rfl) (by omega) ?_
                refine s258_203.mpr ?_
                refine (s258_401).mpr ?_
                first | (exfalso; omega) | (exact ok _ _ _ ((tsL_34 c1).trans (onw_p (by dsimp only; exact ⟨by omega, le0 y144.2.2 rfl, by omega, by omega⟩))) (flw1 (by rw [c1]; decide)) (by repeat' (first | assumption | exact FW.rf | refine FW.up ?_ (by unfold wS; omega) | (refine FW.tr ?_ (by assumption)))) (by (try simp (disch := decide) only [upI_eq, upI_a, upI_i, upR_eq, upR_a, upR_i]); try assumption) (by (try simp (disch := decide) only [upI_eq, upI_a, upI_i, upR_eq, upR_a, upR_i]); try assumption) (by simp (disch := decide) only [scX, upI_eq, upI_a, upI_i, upR_eq, upR_a, upR_i, upI_ro, upI_rw, up1_same, up1_eq, ht, E1, E2, E3, E4, E5, E6, E7])) | (exact no _ ((tsL_34 c1).trans (onw_n (by intro h; dsimp only at h; omega))) (by repeat' (first | assumption | exact FW.rf | refine FW.up ?_ (by unfold wS; omega) | (refine FW.tr ?_ (by assumption)))) (by (try simp (disch := decide) only [upI_eq, upI_a, upI_i, upR_eq, upR_a, upR_i]); try assumption))
          · skip
            refine s258_190.mpr ?_
            refine (s258_191 kM).mpr ?_
            try simp (disch := first | decide | assumption | omega) only [kon, knt_some, knt_none, Option.toList_some, Option.toList_none, List.cons_append, List.nil_append, upI_eq, upI_a, upI_i, upR_eq, upR_a, upR_i, h36, ht, E1, E2, E3, E4, E5, E6, E7, fAdd_id, fSub_id, fMul_id, m2a]
            refine s258_194.mpr (wif (fun c194 => ?_) (fun c194 => ?_))
            · first
              | (exfalso; omega)
              | skip
                refine (s258_401).mpr ?_
                first | (exfalso; omega) | (exact ok _ _ _ ((tsL_34 c1).trans (onw_p (by dsimp only; exact ⟨by omega, le0 y144.2.2 rfl, by omega, by omega⟩))) (flw1 (by rw [c1]; decide)) (by repeat' (first | assumption | exact FW.rf | refine FW.up ?_ (by unfold wS; omega) | (refine FW.tr ?_ (by assumption)))) (by (try simp (disch := decide) only [upI_eq, upI_a, upI_i, upR_eq, upR_a, upR_i]); try assumption) (by (try simp (disch := decide) only [upI_eq, upI_a, upI_i, upR_eq, upR_a, upR_i]); try assumption) (by simp (disch := decide) only [scX, upI_eq, upI_a, upI_i, upR_eq, upR_a, upR_i, upI_ro, upI_rw, up1_same, up1_eq, ht, E1, E2, E3, E4, E5, E6, E7])) | (exact no _ ((tsL_34 c1).trans (onw_n (by intro h; dsimp only at h; omega))) (by repeat' (first | assumption | exact FW.rf | refine FW.up ?_ (by unfold wS; omega) | (refine FW.tr ?_ (by assumption)))) (by (try simp (disch := decide) only [upI_eq, upI_a, upI_i, upR_eq, upR_a, upR_i]); try assumption))
            · first
              | (exfalso; omega)
              | skip
                refine s258_197.mpr (s258_198.mpr ?_)
                refine (s258_200 (by omega) kM).mpr ?_
                refine m_push hA hR (by (try simp (disch := decide) only [upI_eq, upI_a, upI_i, upR_eq, upR_a, upR_i]); first | assumption | rfl) (by omega) ?_
                refine s258_203.mpr ?_
                refine (s258_401).mpr ?_
                first | (exfalso; omega) | (exact ok _ _ _ ((tsL_34 c1).trans (onw_p (by dsimp only; exact ⟨by omega, le0 y144.2.2 rfl, by omega, by omega⟩))) (flw1 (by rw [c1]; decide)) (by repeat' (first | assumption | exact FW.rf | refine FW.up ?_ (by unfold wS; omega) | (refine FW.tr ?_ (by assumption)))) (by (try simp (disch := decide) only [upI_eq, upI_a, upI_i, upR_eq, upR_a, upR_i]); try assumption) (by (try simp (disch := decide) only [upI_eq, upI_a, upI_i, upR_eq, upR_a, upR_i]); try assumption) (by simp (disch := decide) only [scX, upI_eq, upI_a, upI_i, upR_eq, upR_a, upR_i, upI_ro, upI_rw, up1_same, up1_eq, ht, E1, E2, E3, E4, E5, E6, E7])) | (exact no _ ((tsL_34 c1).trans (onw_n (by intro h; dsimp only at h; omega))) (by repeat' (first | assumption | exact FW.rf | refine FW.up ?_ (by unfold wS; omega) | (refine FW.tr ?_ (by assumption)))) (by (try simp (disch := decide) only [upI_eq, upI_a, upI_i, upR_eq, upR_a, upR_i]); try assumption))
      · first
        | (exfalso; omega)
        | skip
          refine s258_162.mpr (s258_164.mpr ((s258_165 kM).mpr ?_))
          rw [mr_9 hR]
          refine s258_168.mpr (s258_170.mpr (s258_171.mpr (s258_172.mpr ?_)))
          try simp (disch := first | decide | assumption | omega) only [kon, knt_some, knt_none, Option.toList_some, Option.toList_none, List.cons_append, List.nil_append, upI_eq, upI_a, upI_i, upR_eq, upR_a, upR_i, h36, ht, E1, E2, E3, E4, E5, E6, E7, fAdd_id, fSub_id, fMul_id, m2a]
          refine (s258_174 (by omega)).mpr ?_
          refine (m_which (vT_rng (hv75 _ (by omega) (by omega)))).mpr ?_
          refine s258_177.mpr ?_
          try simp (disch := first | decide | assumption | omega) only [kon, knt_some, knt_none, Option.toList_some, Option.toList_none, List.cons_append, List.nil_append, upI_eq, upI_a, upI_i, upR_eq, upR_a, upR_i, h36, ht, E1, E2, E3, E4, E5, E6, E7, fAdd_id, fSub_id, fMul_id, m2a]
          refine (s258_178 (hA.k (by decide) (by decide) rfl) (by first | assumption | omega) (by first | assumption | omega)).mpr ?_
          try simp (disch := first | decide | assumption | omega) only [kon, knt_some, knt_none, Option.toList_some, Option.toList_none, List.cons_append, List.nil_append, upI_eq, upI_a, upI_i, upR_eq, upR_a, upR_i, h36, ht, E1, E2, E3, E4, E5, E6, E7, fAdd_id, fSub_id, fMul_id, m2a]
          refine s258_179.mpr (wif (fun c179 => ?_) (fun c179 => ?_))
          · first
            | (exfalso; omega)
            | skip
              refine s258_182.mpr (s258_183.mpr ?_)
              refine (s258_187 (by omega) kM).mpr ?_
              refine m_wants hA (by omega) (by (try simp (disch := decide) only [upI_eq, upI_a, upI_i, upR_eq, upR_a, upR_i]); first | assumption | rfl) (by omega) (fun y187 => ?_) (fun y187 => ?_)
              · skip
                refine s258_190.mpr ?_
                refine (s258_191 kM).mpr ?_
                try simp (disch := first | decide | assumption | omega) only [kon, knt_some, knt_none, Option.toList_some, Option.toList_none, List.cons_append, List.nil_append, upI_eq, upI_a, upI_i, upR_eq, upR_a, upR_i, h36, ht, E1, E2, E3, E4, E5, E6, E7, fAdd_id, fSub_id, fMul_id, m2a]
                refine s258_194.mpr (wif (fun c194 => ?_) (fun c194 => ?_))
                · first
                  | (exfalso; omega)
                  | skip
                    refine (s258_401).mpr ?_
                    first | (exfalso; omega) | (exact ok _ _ _ ((tsL_34 c1).trans (onw_p (by dsimp only; exact ⟨by omega, le0 y144.2.2 rfl, by omega, by omega⟩))) (flw1 (by rw [c1]; decide)) (by repeat' (first | assumption | exact FW.rf | refine FW.up ?_ (by unfold wS; omega) | (refine FW.tr ?_ (by assumption)))) (by (try simp (disch := decide) only [upI_eq, upI_a, upI_i, upR_eq, upR_a, upR_i]); try assumption) (by (try simp (disch := decide) only [upI_eq, upI_a, upI_i, upR_eq, upR_a, upR_i]); try assumption) (by simp (disch := decide) only [scX, upI_eq, upI_a, upI_i, upR_eq, upR_a, upR_i, upI_ro, upI_rw, up1_same, up1_eq, ht, E1, E2, E3, E4, E5, E6, E7])) | (exact no _ ((tsL_34 c1).trans (onw_n (by intro h; dsimp only at h; omega))) (by repeat' (first | assumption | exact FW.rf | refine FW.up ?_ (by unfold wS; omega) | (refine FW.tr ?_ (by assumption)))) (by (try simp (disch := decide) only [upI_eq, upI_a, upI_i, upR_eq, upR_a, upR_i]); try assumption))
                · first
                  | (exfalso; omega)
                  | skip
                    refine s258_197.mpr (s258_198.mpr ?_)
                    refine (s258_200 (by omega) kM).mpr ?_
                    refine m_push hA hR (by (try simp (disch := decide) only [upI_eq, upI_a, upI_i, upR_eq, upR_a, upR_i]); first | assumption | rfl) (by omega) ?_
                    refine s258_203.mpr ?_
                    refine (s258_401).mpr ?_
                    first | (exfalso; omega) | (exact ok _ _ _ ((tsL_34 c1).trans (onw_p (by dsimp only; exact ⟨by omega, le0 y144.2.2 rfl, by omega, by omega⟩))) (flw1 (by rw [c1]; decide)) (by repeat' (first | assumption | exact FW.rf | refine FW.up ?_ (by unfold wS; omega) | (refine FW.tr ?_ (by assumption)))) (by (try simp (disch := decide) only [upI_eq, upI_a, upI_i, upR_eq, upR_a, upR_i]); try assumption) (by (try simp (disch := decide) only [upI_eq, upI_a, upI_i, upR_eq, upR_a, upR_i]); try assumption) (by simp (disch := decide) only [scX, upI_eq, upI_a, upI_i, upR_eq, upR_a, upR_i, upI_ro, upI_rw, up1_same, up1_eq, ht, E1, E2, E3, E4, E5, E6, E7])) | (exact no _ ((tsL_34 c1).trans (onw_n (by intro h; dsimp only at h; omega))) (by repeat' (first | assumption | exact FW.rf | refine FW.up ?_ (by unfold wS; omega) | (refine FW.tr ?_ (by assumption)))) (by (try simp (disch := decide) only [upI_eq, upI_a, upI_i, upR_eq, upR_a, upR_i]); try assumption))
              · skip
                refine s258_190.mpr ?_
                refine (s258_191 kM).mpr ?_
                try simp (disch := first | decide | assumption | omega) only [kon, knt_some, knt_none, Option.toList_some, Option.toList_none, List.cons_append, List.nil_append, upI_eq, upI_a, upI_i, upR_eq, upR_a, upR_i, h36, ht, E1, E2, E3, E4, E5, E6, E7, fAdd_id, fSub_id, fMul_id, m2a]
                refine s258_194.mpr (wif (fun c194 => ?_) (fun c194 => ?_))
                · first
                  | (exfalso; omega)
                  | skip
                    refine (s258_401).mpr ?_
                    first | (exfalso; omega) | (exact ok _ _ _ ((tsL_34 c1).trans (onw_p (by dsimp only; exact ⟨by omega, le0 y144.2.2 rfl, by omega, by omega⟩))) (flw1 (by rw [c1]; decide)) (by repeat' (first | assumption | exact FW.rf | refine FW.up ?_ (by unfold wS; omega) | (refine FW.tr ?_ (by assumption)))) (by (try simp (disch := decide) only [upI_eq, upI_a, upI_i, upR_eq, upR_a, upR_i]); try assumption) (by (try simp (disch := decide) only [upI_eq, upI_a, upI_i, upR_eq, upR_a, upR_i]); try assumption) (by simp (disch := decide) only [scX, upI_eq, upI_a, upI_i, upR_eq, upR_a, upR_i, upI_ro, upI_rw, up1_same, up1_eq, ht, E1, E2, E3, E4, E5, E6, E7])) | (exact no _ ((tsL_34 c1).trans (onw_n (by intro h; dsimp only at h; omega))) (by repeat' (first | assumption | exact FW.rf | refine FW.up ?_ (by unfold wS; omega) | (refine FW.tr ?_ (by assumption)))) (by (try simp (disch := decide) only [upI_eq, upI_a, upI_i, upR_eq, upR_a, upR_i]); try assumption))
                · first
                  | (exfalso; omega)
                  | skip
                    refine s258_197.mpr (s258_198.mpr ?_)
                    refine (s258_200 (by omega) kM).mpr ?_
                    refine m_push hA hR (by (try simp (disch := decide) only [upI_eq, upI_a, upI_i, upR_eq, upR_a, upR_i]); first | assumption | rfl) (by omega) ?_
                    refine s258_203.mpr ?_
                    refine (s258_401).mpr ?_
                    first | (exfalso; omega) | (exact ok _ _ _ ((tsL_34 c1).trans (onw_p (by dsimp only; exact ⟨by omega, le0 y144.2.2 rfl, by omega, by omega⟩))) (flw1 (by rw [c1]; decide)) (by repeat' (first | assumption | exact FW.rf | refine FW.up ?_ (by unfold wS; omega) | (refine FW.tr ?_ (by assumption)))) (by (try simp (disch := decide) only [upI_eq, upI_a, upI_i, upR_eq, upR_a, upR_i]); try assumption) (by (try simp (disch := decide) only [upI_eq, upI_a, upI_i, upR_eq, upR_a, upR_i]); try assumption) (by simp (disch := decide) only [scX, upI_eq, upI_a, upI_i, upR_eq, upR_a, upR_i, upI_ro, upI_rw, up1_same, up1_eq, ht, E1, E2, E3, E4, E5, E6, E7])) | (exact no _ ((tsL_34 c1).trans (onw_n (by intro h; dsimp only at h; omega))) (by repeat' (first | assumption | exact FW.rf | refine FW.up ?_ (by unfold wS; omega) | (refine FW.tr ?_ (by assumption)))) (by (try simp (disch := decide) only [upI_eq, upI_a, upI_i, upR_eq, upR_a, upR_i]); try assumption))
          · first
            | (exfalso; omega)
            | skip
              refine s258_186.mpr ?_
              refine (s258_187 (by omega) kM).mpr ?_
              refine m_wants hA (by omega) (by (try simp (disch := decide) only [upI_eq, upI_a, upI_i, upR_eq, upR_a, upR_i]); first | assumption | rfl) (by omega) (fun y187 => ?_) (fun y187 => ?_)
              · skip
                refine s258_190.mpr ?_
                refine (s258_191 kM).mpr ?_
                try simp (disch := first | decide | assumption | omega) only [kon, knt_some, knt_none, Option.toList_some, Option.toList_none, List.cons_append, List.nil_append, upI_eq, upI_a, upI_i, upR_eq, upR_a, upR_i, h36, ht, E1, E2, E3, E4, E5, E6, E7, fAdd_id, fSub_id, fMul_id, m2a]
                refine s258_194.mpr (wif (fun c194 => ?_) (fun c194 => ?_))
                · first
                  | (exfalso; omega)
                  | skip
                    refine (s258_401).mpr ?_
                    first | (exfalso; omega) | (exact ok _ _ _ ((tsL_34 c1).trans (onw_p (by dsimp only; exact ⟨by omega, le0 y144.2.2 rfl, by omega, by omega⟩))) (flw1 (by rw [c1]; decide)) (by repeat' (first | assumption | exact FW.rf | refine FW.up ?_ (by unfold wS; omega) | (refine FW.tr ?_ (by assumption)))) (by (try simp (disch := decide) only [upI_eq, upI_a, upI_i, upR_eq, upR_a, upR_i]); try assumption) (by (try simp (disch := decide) only [upI_eq, upI_a, upI_i, upR_eq, upR_a, upR_i]); try assumption) (by simp (disch := decide) only [scX, upI_eq, upI_a, upI_i, upR_eq, upR_a, upR_i, upI_ro, upI_rw, up1_same, up1_eq, ht, E1, E2, E3, E4, E5, E6, E7])) | (exact no _ ((tsL_34 c1).trans (onw_n (by intro h; dsimp only at h; omega))) (by repeat' (first | assumption | exact FW.rf | refine FW.up ?_ (by unfold wS; omega) | (refine FW.tr ?_ (by assumption)))) (by (try simp (disch := decide) only [upI_eq, upI_a, upI_i, upR_eq, upR_a, upR_i]); try assumption))
                · first
                  | (exfalso; omega)
                  | skip
                    refine s258_197.mpr (s258_198.mpr ?_)
                    refine (s258_200 (by omega) kM).mpr ?_
                    refine m_push hA hR (by (try simp (disch := decide) only [upI_eq, upI_a, upI_i, upR_eq, upR_a, upR_i]); first | assumption | rfl) (by omega) ?_
                    refine s258_203.mpr ?_
                    refine (s258_401).mpr ?_
                    first | (exfalso; omega) | (exact ok _ _ _ ((tsL_34 c1).trans (onw_p (by dsimp only; exact ⟨by omega, le0 y144.2.2 rfl, by omega, by omega⟩))) (flw1 (by rw [c1]; decide)) (by repeat' (first | assumption | exact FW.rf | refine FW.up ?_ (by unfold wS; omega) | (refine FW.tr ?_ (by assumption)))) (by (try simp (disch := decide) only [upI_eq, upI_a, upI_i, upR_eq, upR_a, upR_i]); try assumption) (by (try simp (disch := decide) only [upI_eq, upI_a, upI_i, upR_eq, upR_a, upR_i]); try assumption) (by simp (disch := decide) only [scX, upI_eq, upI_a, upI_i, upR_eq, upR_a, upR_i, upI_ro, upI_rw, up1_same, up1_eq, ht, E1, E2, E3, E4, E5, E6, E7])) | (exact no _ ((tsL_34 c1).trans (onw_n (by intro h; dsimp only at h; omega))) (by repeat' (first | assumption | exact FW.rf | refine FW.up ?_ (by unfold wS; omega) | (refine FW.tr ?_ (by assumption)))) (by (try simp (disch := decide) only [upI_eq, upI_a, upI_i, upR_eq, upR_a, upR_i]); try assumption))
              · skip
                refine s258_190.mpr ?_
                refine (s258_191 kM).mpr ?_
                try simp (disch := first | decide | assumption | omega) only [kon, knt_some, knt_none, Option.toList_some, Option.toList_none, List.cons_append, List.nil_append, upI_eq, upI_a, upI_i, upR_eq, upR_a, upR_i, h36, ht, E1, E2, E3, E4, E5, E6, E7, fAdd_id, fSub_id, fMul_id, m2a]
                refine s258_194.mpr (wif (fun c194 => ?_) (fun c194 => ?_))
                · first
                  | (exfalso; omega)
                  | skip
                    refine (s258_401).mpr ?_
                    first | (exfalso; omega) | (exact ok _ _ _ ((tsL_34 c1).trans (onw_p (by dsimp only; exact ⟨by omega, le0 y144.2.2 rfl, by omega, by omega⟩))) (flw1 (by rw [c1]; decide)) (by repeat' (first | assumption | exact FW.rf | refine FW.up ?_ (by unfold wS; omega) | (refine FW.tr ?_ (by assumption)))) (by (try simp (disch := decide) only [upI_eq, upI_a, upI_i, upR_eq, upR_a, upR_i]); try assumption) (by (try simp (disch := decide) only [upI_eq, upI_a, upI_i, upR_eq, upR_a, upR_i]); try assumption) (by simp (disch := decide) only [scX, upI_eq, upI_a, upI_i, upR_eq, upR_a, upR_i, upI_ro, upI_rw, up1_same, up1_eq, ht, E1, E2, E3, E4, E5, E6, E7])) | (exact no _ ((tsL_34 c1).trans (onw_n (by intro h; dsimp only at h; omega))) (by repeat' (first | assumption | exact FW.rf | refine FW.up ?_ (by unfold wS; omega) | (refine FW.tr ?_ (by assumption)))) (by (try simp (disch := decide) only [upI_eq, upI_a, upI_i, upR_eq, upR_a, upR_i]); try assumption))
                · first
                  | (exfalso; omega)
                  | skip
                    refine s258_197.mpr (s258_198.mpr ?_)
                    refine (s258_200 (by omega) kM).mpr ?_
                    refine m_push hA hR (by (try simp (disch := decide) only [upI_eq, upI_a, upI_i, upR_eq, upR_a, upR_i]); first | assumption | rfl) (by omega) ?_
                    refine s258_203.mpr ?_
                    refine (s258_401).mpr ?_
                    first | (exfalso; omega) | (exact ok _ _ _ ((tsL_34 c1).trans (onw_p (by dsimp only; exact ⟨by omega, le0 y144.2.2 rfl, by omega, by omega⟩))) (flw1 (by rw [c1]; decide)) (by repeat' (first | assumption | exact FW.rf | refine FW.up ?_ (by unfold wS; omega) | (refine FW.tr ?_ (by assumption)))) (by (try simp (disch := decide) only [upI_eq, upI_a, upI_i, upR_eq, upR_a, upR_i]); try assumption) (by (try simp (disch := decide) only [upI_eq, upI_a, upI_i, upR_eq, upR_a, upR_i]); try assumption) (by simp (disch := decide) only [scX, upI_eq, upI_a, upI_i, upR_eq, upR_a, upR_i, upI_ro, upI_rw, up1_same, up1_eq, ht, E1, E2, E3, E4, E5, E6, E7])) | (exact no _ ((tsL_34 c1).trans (onw_n (by intro h; dsimp only at h; omega))) (by repeat' (first | assumption | exact FW.rf | refine FW.up ?_ (by unfold wS; omega) | (refine FW.tr ?_ (by assumption)))) (by (try simp (disch := decide) only [upI_eq, upI_a, upI_i, upR_eq, upR_a, upR_i]); try assumption))
theorem m_l35 {m g op v p t : Int} (hA : SA al) (hR : MR hr) (hd : 5 ≤ d) (hM : MB hi m B) (hS : Sh B) (h36 : hi 49 36 = 1) (h38 : hi 49 38 = 0) (ht : hi 49 35 = t) (ht0 : 0 ≤ t ∧ t ≤ 16) (hvX : vX B (t, hi 75, hi 76)) (c1 : op = 35)
    (ok : ∀ L Y hi', tsL B g op v p (t, hi 75, hi 76) = some L → FLW op v p Y L → FW wS hi hi' → hi' 49 36 = 1 → hi' 49 38 = 0 → scX hi' = Y → Q (some none) al hi' hr)
    (no : ∀ hi', tsL B g op v p (t, hi 75, hi 76) = none → FW wS hi hi' → hi' 49 36 = 0 → Q (some none) al hi' hr) : Wp d 258 206 [vR (some 49), vI m, vI (10 * m + g), vI op, vI v, none, none, none] [] al hi hr Q := by
  have kM : isK al 49 13 := hA.k (by decide) (by decide) rfl
  have E1 : t - 1 - 1 = t - 2 := by omega
  have E2 : t - 2 + 1 = t - 1 := by omega
  have E3 : t - 1 + 1 = t := by omega
  have E4 : t - 2 - 1 = t - 3 := by omega
  have E5 : t - 3 + 1 = t - 2 := by omega
  have E6 : t + 1 + 1 = t + 2 := by omega
  have E7 : t + 1 - 1 = t := by omega
  refine s258_206.mpr (s258_207.mpr ?_)
  refine (s258_208 (by omega) kM).mpr ?_
  refine m_popKind hA hR (by omega) (by (try simp (disch := decide) only [upI_eq, upI_a, upI_i, upR_eq, upR_a, upR_i]); first | assumption | rfl) (by omega) (by (try simp (disch := decide) only [upI_eq, upI_a, upI_i, upR_eq, upR_a, upR_i]); first | assumption | rfl) (by omega) (fun y208 => ?_) (fun q208 hi208 t208 w208 z208 u208 v208 x208 => ?_)
  · skip
    try simp (disch := decide) only [upI_eq, upI_a, upI_i, upR_eq, upR_a, upR_i, E1, E4] at y208
    try simp (disch := decide) only [upI_eq, upI_a, upI_i, upR_eq, upR_a, upR_i, E1, E4] at x208
    refine s258_211.mpr (s258_213.mpr ?_)
    refine (s258_401).mpr ?_
    first | (exfalso; omega) | (exact ok _ _ _ ((tsL_35 c1).trans (onw_p (by dsimp only; omega))) (flw1 (by rw [c1]; decide)) (by repeat' (first | assumption | exact FW.rf | refine FW.up ?_ (by unfold wS; omega) | (refine FW.tr ?_ (by assumption)))) (by (try simp (disch := decide) only [upI_eq, upI_a, upI_i, upR_eq, upR_a, upR_i]); try assumption) (by (try simp (disch := decide) only [upI_eq, upI_a, upI_i, upR_eq, upR_a, upR_i]); try assumption) (by simp (disch := decide) only [scX, upI_eq, upI_a, upI_i, upR_eq, upR_a, upR_i, upI_ro, upI_rw, up1_same, up1_eq, ht, E1, E2, E3, E4, E5, E6, E7])) | (exact no _ ((tsL_35 c1).trans (onw_n (by intro h; dsimp only at h; omega))) (by repeat' (first | assumption | exact FW.rf | refine FW.up ?_ (by unfold wS; omega) | (refine FW.tr ?_ (by assumption)))) (by (try simp (disch := decide) only [upI_eq, upI_a, upI_i, upR_eq, upR_a, upR_i]); try assumption))
  · skip
    try simp (disch := decide) only [upI_eq, upI_a, upI_i, upR_eq, upR_a, upR_i, E1, E4] at y208
    try simp (disch := decide) only [upI_eq, upI_a, upI_i, upR_eq, upR_a, upR_i, E1, E4] at x208
    refine s258_211.mpr (s258_213.mpr ?_)
    refine (s258_401).mpr ?_
    first | (exfalso; omega) | (exact ok _ _ _ ((tsL_35 c1).trans (onw_p (by dsimp only; omega))) (flw1 (by rw [c1]; decide)) (by repeat' (first | assumption | exact FW.rf | refine FW.up ?_ (by unfold wS; omega) | (refine FW.tr ?_ (by assumption)))) (by (try simp (disch := decide) only [upI_eq, upI_a, upI_i, upR_eq, upR_a, upR_i]); try assumption) (by (try simp (disch := decide) only [upI_eq, upI_a, upI_i, upR_eq, upR_a, upR_i]); try assumption) (by simp (disch := decide) only [scX, upI_eq, upI_a, upI_i, upR_eq, upR_a, upR_i, upI_ro, upI_rw, up1_same, up1_eq, ht, E1, E2, E3, E4, E5, E6, E7])) | (exact no _ ((tsL_35 c1).trans (onw_n (by intro h; dsimp only at h; omega))) (by repeat' (first | assumption | exact FW.rf | refine FW.up ?_ (by unfold wS; omega) | (refine FW.tr ?_ (by assumption)))) (by (try simp (disch := decide) only [upI_eq, upI_a, upI_i, upR_eq, upR_a, upR_i]); try assumption))
theorem m_l36 {m g op v p t : Int} (hA : SA al) (hR : MR hr) (hd : 5 ≤ d) (hM : MB hi m B) (hS : Sh B) (h36 : hi 49 36 = 1) (h38 : hi 49 38 = 0) (ht : hi 49 35 = t) (ht0 : 0 ≤ t ∧ t ≤ 16) (hvX : vX B (t, hi 75, hi 76)) (c1 : op = 36) (hv0 : 0 ≤ v ∧ v ≤ 255)
    (ok : ∀ L Y hi', tsL B g op v p (t, hi 75, hi 76) = some L → FLW op v p Y L → FW wS hi hi' → hi' 49 36 = 1 → hi' 49 38 = 0 → scX hi' = Y → Q (some none) al hi' hr)
    (no : ∀ hi', tsL B g op v p (t, hi 75, hi 76) = none → FW wS hi hi' → hi' 49 36 = 0 → Q (some none) al hi' hr) : Wp d 258 216 [vR (some 49), vI m, vI (10 * m + g), vI op, vI v, none, none, none] [] al hi hr Q := by
  have kM : isK al 49 13 := hA.k (by decide) (by decide) rfl
  have E1 : t - 1 - 1 = t - 2 := by omega
  have E2 : t - 2 + 1 = t - 1 := by omega
  have E3 : t - 1 + 1 = t := by omega
  have E4 : t - 2 - 1 = t - 3 := by omega
  have E5 : t - 3 + 1 = t - 2 := by omega
  have E6 : t + 1 + 1 = t + 2 := by omega
  have E7 : t + 1 - 1 = t := by omega
  refine s258_216.mpr (s258_217.mpr (s258_218.mpr (s258_220.mpr (s258_222.mpr (s258_223.mpr ?_)))))
  try simp (disch := first | decide | assumption | omega) only [kon, knt_some, knt_none, Option.toList_some, Option.toList_none, List.cons_append, List.nil_append, upI_eq, upI_a, upI_i, upR_eq, upR_a, upR_i, h36, ht, E1, E2, E3, E4, E5, E6, E7, fAdd_id, fSub_id, fMul_id]
  refine (s258_224 (by omega) kM).mpr ?_
  refine m_push hA hR (by (try simp (disch := decide) only [upI_eq, upI_a, upI_i, upR_eq, upR_a, upR_i]); first | assumption | rfl) (by omega) ?_
  refine s258_227.mpr (s258_228.mpr (s258_229.mpr (s258_231.mpr (s258_233.mpr (s258_234.mpr ?_)))))
  refine s258_235.mpr (s258_238.mpr ?_)
  try simp (disch := first | decide | assumption | omega) only [kon, knt_some, knt_none, Option.toList_some, Option.toList_none, List.cons_append, List.nil_append, upI_eq, upI_a, upI_i, upR_eq, upR_a, upR_i, h36, ht, E1, E2, E3, E4, E5, E6, E7, fAdd_id, fSub_id, fMul_id]
  refine (s258_239 (by omega) kM).mpr ?_
  refine m_push hA hR (by (try simp (disch := decide) only [upI_eq, upI_a, upI_i, upR_eq, upR_a, upR_i]); first | assumption | rfl) (by omega) ?_
  refine s258_242.mpr ?_
  refine (s258_401).mpr ?_
  first | (exfalso; omega) | (exact ok _ _ _ ((tsL_36 c1).trans (onw_p (trivial))) (flw1 (by rw [c1]; decide)) (by repeat' (first | assumption | exact FW.rf | refine FW.up ?_ (by unfold wS; omega) | (refine FW.tr ?_ (by assumption)))) (by (try simp (disch := decide) only [upI_eq, upI_a, upI_i, upR_eq, upR_a, upR_i]); try assumption) (by (try simp (disch := decide) only [upI_eq, upI_a, upI_i, upR_eq, upR_a, upR_i]); try assumption) (by simp (disch := decide) only [scX, upI_eq, upI_a, upI_i, upR_eq, upR_a, upR_i, upI_ro, upI_rw, up1_same, up1_eq, ht, E1, E2, E3, E4, E5, E6, E7]))
theorem m_l43 {m g op v p t : Int} (hA : SA al) (hR : MR hr) (hd : 5 ≤ d) (hM : MB hi m B) (hS : Sh B) (h36 : hi 49 36 = 1) (h38 : hi 49 38 = 0) (ht : hi 49 35 = t) (ht0 : 0 ≤ t ∧ t ≤ 16) (hvX : vX B (t, hi 75, hi 76)) (c1 : op = 43)
    (ok : ∀ L Y hi', tsL B g op v p (t, hi 75, hi 76) = some L → FLW op v p Y L → FW wS hi hi' → hi' 49 36 = 1 → hi' 49 38 = 0 → scX hi' = Y → Q (some none) al hi' hr)
    (no : ∀ hi', tsL B g op v p (t, hi 75, hi 76) = none → FW wS hi hi' → hi' 49 36 = 0 → Q (some none) al hi' hr) : Wp d 258 393 [vR (some 49), vI m, vI (10 * m + g), vI op, vI v, none, none, none] [] al hi hr Q := by
  have kM : isK al 49 13 := hA.k (by decide) (by decide) rfl
  have E1 : t - 1 - 1 = t - 2 := by omega
  have E2 : t - 2 + 1 = t - 1 := by omega
  have E3 : t - 1 + 1 = t := by omega
  have E4 : t - 2 - 1 = t - 3 := by omega
  have E5 : t - 3 + 1 = t - 2 := by omega
  have E6 : t + 1 + 1 = t + 2 := by omega
  have E7 : t + 1 - 1 = t := by omega
  refine s258_393.mpr (s258_394.mpr ?_)
  refine (s258_395 (by omega) kM).mpr ?_
  refine m_popFor hA hR (by omega) (by (try simp (disch := decide) only [upI_eq, upI_a, upI_i, upR_eq, upR_a, upR_i]); first | assumption | rfl) (by omega) (by (try simp (disch := decide) only [upI_eq, upI_a, upI_i, upR_eq, upR_a, upR_i]); first | assumption | rfl) (by omega) (fun y395 => ?_) (fun hi395 t395 w395 z395 u395 v395 x395 => ?_)
  · skip
    try simp (disch := decide) only [upI_eq, upI_a, upI_i, upR_eq, upR_a, upR_i, E1, E4] at y395
    try simp (disch := decide) only [upI_eq, upI_a, upI_i, upR_eq, upR_a, upR_i, E1, E4] at x395
    refine s258_398.mpr ?_
    refine (s258_401).mpr ?_
    first | (exfalso; omega) | (exact ok _ _ _ ((tsL_43 c1).trans (onw_p (by dsimp only; exact ⟨by omega, le0 y395.2.2 rfl⟩))) (flw1 (by rw [c1]; decide)) (by repeat' (first | assumption | exact FW.rf | refine FW.up ?_ (by unfold wS; omega) | (refine FW.tr ?_ (by assumption)))) (by (try simp (disch := decide) only [upI_eq, upI_a, upI_i, upR_eq, upR_a, upR_i]); try assumption) (by (try simp (disch := decide) only [upI_eq, upI_a, upI_i, upR_eq, upR_a, upR_i]); try assumption) (by simp (disch := decide) only [scX, upI_eq, upI_a, upI_i, upR_eq, upR_a, upR_i, upI_ro, upI_rw, up1_same, up1_eq, ht, E1, E2, E3, E4, E5, E6, E7])) | (exact no _ ((tsL_43 c1).trans (onw_n (by intro h; dsimp only at h; omega))) (by repeat' (first | assumption | exact FW.rf | refine FW.up ?_ (by unfold wS; omega) | (refine FW.tr ?_ (by assumption)))) (by (try simp (disch := decide) only [upI_eq, upI_a, upI_i, upR_eq, upR_a, upR_i]); try assumption))
  · skip
    try simp (disch := decide) only [upI_eq, upI_a, upI_i, upR_eq, upR_a, upR_i, E1, E4] at y395
    try simp (disch := decide) only [upI_eq, upI_a, upI_i, upR_eq, upR_a, upR_i, E1, E4] at x395
    refine s258_398.mpr ?_
    refine (s258_401).mpr ?_
    first | (exfalso; omega) | (exact ok _ _ _ ((tsL_43 c1).trans (onw_p (by dsimp only; exact ⟨by omega, le0 y395.2.2 rfl⟩))) (flw1 (by rw [c1]; decide)) (by repeat' (first | assumption | exact FW.rf | refine FW.up ?_ (by unfold wS; omega) | (refine FW.tr ?_ (by assumption)))) (by (try simp (disch := decide) only [upI_eq, upI_a, upI_i, upR_eq, upR_a, upR_i]); try assumption) (by (try simp (disch := decide) only [upI_eq, upI_a, upI_i, upR_eq, upR_a, upR_i]); try assumption) (by simp (disch := decide) only [scX, upI_eq, upI_a, upI_i, upR_eq, upR_a, upR_i, upI_ro, upI_rw, up1_same, up1_eq, ht, E1, E2, E3, E4, E5, E6, E7])) | (exact no _ ((tsL_43 c1).trans (onw_n (by intro h; dsimp only at h; omega))) (by repeat' (first | assumption | exact FW.rf | refine FW.up ?_ (by unfold wS; omega) | (refine FW.tr ?_ (by assumption)))) (by (try simp (disch := decide) only [upI_eq, upI_a, upI_i, upR_eq, upR_a, upR_i]); try assumption))
theorem m_l39 {m g op v p t : Int} (hA : SA al) (hR : MR hr) (hd : 5 ≤ d) (hM : MB hi m B) (hS : Sh B) (h36 : hi 49 36 = 1) (h38 : hi 49 38 = 0) (ht : hi 49 35 = t) (ht0 : 0 ≤ t ∧ t ≤ 16) (hvX : vX B (t, hi 75, hi 76)) (c1 : op = 39)
    (ok : ∀ L Y hi', tsL B g op v p (t, hi 75, hi 76) = some L → FLW op v p Y L → FW wS hi hi' → hi' 49 36 = 1 → hi' 49 38 = 0 → scX hi' = Y → Q (some none) al hi' hr)
    (no : ∀ hi', tsL B g op v p (t, hi 75, hi 76) = none → FW wS hi hi' → hi' 49 36 = 0 → Q (some none) al hi' hr) : Wp d 258 255 [vR (some 49), vI m, vI (10 * m + g), vI op, vI v, none, none, none] [] al hi hr Q := by
  have kM : isK al 49 13 := hA.k (by decide) (by decide) rfl
  have E1 : t - 1 - 1 = t - 2 := by omega
  have E2 : t - 2 + 1 = t - 1 := by omega
  have E3 : t - 1 + 1 = t := by omega
  have E4 : t - 2 - 1 = t - 3 := by omega
  have E5 : t - 3 + 1 = t - 2 := by omega
  have E6 : t + 1 + 1 = t + 2 := by omega
  have E7 : t + 1 - 1 = t := by omega
  have hv75 : ∀ k, 0 ≤ k → k < t → vT B (hi 75 k) := hvX.2.1
  have W1 := vE hv75 (t - 1)
  have hm0 := hM.1
  have hm1 := hM.2.1
  have c8 : nCtr B ≤ 4 := hS.2.2.2.2.2.1
  have s8 : 0 ≤ whichM (hi 75 (t - 1)) → whichM (hi 75 (t - 1)) < nCtr B → nSt B (whichM (hi 75 (t - 1))) ≤ 8 := fun a b => (hS.2.2.2.2.2.2.1 _ a b).2.1
  have s9 : ¬ (0 ≤ whichM (hi 75 (t - 1)) ∧ whichM (hi 75 (t - 1)) < nCtr B) ∨ nSt B (whichM (hi 75 (t - 1))) ≤ 8 := by
    by_cases h : 0 ≤ whichM (hi 75 (t - 1)) ∧ whichM (hi 75 (t - 1)) < nCtr B
    · exact Or.inr (s8 h.1 h.2)
    · exact Or.inl h
  clear s8
  have m4t : ∀ c s, 0 ≤ c → c < nCtr B → 0 ≤ s → s < nSt B c → hi 60 (8 * (4 * m + c) + s) = tnS B c s := fun c s a b e f => (hM.ct hS a b e f).1
  have l60 := SA.len (a := 60) (n := 416) hA (by decide) (by decide) rfl
  refine s258_255.mpr (s258_256.mpr ?_)
  refine (s258_257 (by omega) kM).mpr ?_
  refine m_popKind hA hR (by omega) (by (try simp (disch := decide) only [upI_eq, upI_a, upI_i, upR_eq, upR_a, upR_i]); first | assumption | rfl) (by omega) (by (try simp (disch := decide) only [upI_eq, upI_a, upI_i, upR_eq, upR_a, upR_i]); first | assumption | rfl) (by omega) (fun y257 => ?_) (fun q257 hi257 t257 w257 z257 u257 v257 x257 => ?_)
  · skip
    try simp (disch := decide) only [upI_eq, upI_a, upI_i, upR_eq, upR_a, upR_i, E1, E4] at y257
    try simp (disch := decide) only [upI_eq, upI_a, upI_i, upR_eq, upR_a, upR_i, E1, E4] at x257
    refine s258_260.mpr (s258_262.mpr (s258_263.mpr ?_))
    refine (s258_264 kM).mpr ?_
    try simp (disch := first | decide | assumption | omega) only [kon, knt_some, knt_none, Option.toList_some, Option.toList_none, List.cons_append, List.nil_append, upI_eq, upI_a, upI_i, upR_eq, upR_a, upR_i, h36, ht, E1, E2, E3, E4, E5, E6, E7, fAdd_id, fSub_id, fMul_id, m4t]
    refine s258_267.mpr (wif (fun c267 => ?_) (fun c267 => ?_))
    · first
      | (exfalso; omega)
      | skip
        refine s258_300.mpr ?_
        refine (s258_301 (by omega) kM).mpr ?_
        refine m_wants hA (by omega) (by (try simp (disch := decide) only [upI_eq, upI_a, upI_i, upR_eq, upR_a, upR_i]); first | assumption | rfl) (by omega) (fun y301 => ?_) (fun y301 => ?_)
        · skip
          refine s258_304.mpr ?_
          refine (s258_401).mpr ?_
          first | (exfalso; omega) | (exact ok _ _ _ ((tsL_39 c1).trans (onw_p (by dsimp only; omega))) (flw1 (by rw [c1]; decide)) (by repeat' (first | assumption | exact FW.rf | refine FW.up ?_ (by unfold wS; omega) | (refine FW.tr ?_ (by assumption)))) (by (try simp (disch := decide) only [upI_eq, upI_a, upI_i, upR_eq, upR_a, upR_i]); try assumption) (by (try simp (disch := decide) only [upI_eq, upI_a, upI_i, upR_eq, upR_a, upR_i]); try assumption) (by simp (disch := decide) only [scX, upI_eq, upI_a, upI_i, upR_eq, upR_a, upR_i, upI_ro, upI_rw, up1_same, up1_eq, ht, E1, E2, E3, E4, E5, E6, E7])) | (exact no _ ((tsL_39 c1).trans (onw_n (by intro h; dsimp only at h; omega))) (by repeat' (first | assumption | exact FW.rf | refine FW.up ?_ (by unfold wS; omega) | (refine FW.tr ?_ (by assumption)))) (by (try simp (disch := decide) only [upI_eq, upI_a, upI_i, upR_eq, upR_a, upR_i]); try assumption))
        · skip
          refine s258_304.mpr ?_
          refine (s258_401).mpr ?_
          first | (exfalso; omega) | (exact ok _ _ _ ((tsL_39 c1).trans (onw_p (by dsimp only; omega))) (flw1 (by rw [c1]; decide)) (by repeat' (first | assumption | exact FW.rf | refine FW.up ?_ (by unfold wS; omega) | (refine FW.tr ?_ (by assumption)))) (by (try simp (disch := decide) only [upI_eq, upI_a, upI_i, upR_eq, upR_a, upR_i]); try assumption) (by (try simp (disch := decide) only [upI_eq, upI_a, upI_i, upR_eq, upR_a, upR_i]); try assumption) (by simp (disch := decide) only [scX, upI_eq, upI_a, upI_i, upR_eq, upR_a, upR_i, upI_ro, upI_rw, up1_same, up1_eq, ht, E1, E2, E3, E4, E5, E6, E7])) | (exact no _ ((tsL_39 c1).trans (onw_n (by intro h; dsimp only at h; omega))) (by repeat' (first | assumption | exact FW.rf | refine FW.up ?_ (by unfold wS; omega) | (refine FW.tr ?_ (by assumption)))) (by (try simp (disch := decide) only [upI_eq, upI_a, upI_i, upR_eq, upR_a, upR_i]); try assumption))
    · first
      | (exfalso; omega)
      | skip
        refine s258_270.mpr ((s258_271 kM).mpr ?_)
        rw [mr_12 hR]
        refine s258_274.mpr (s258_276.mpr (s258_277.mpr (s258_278.mpr (s258_279.mpr ?_))))
        try simp (disch := first | decide | assumption | omega) only [kon, knt_some, knt_none, Option.toList_some, Option.toList_none, List.cons_append, List.nil_append, upI_eq, upI_a, upI_i, upR_eq, upR_a, upR_i, h36, ht, E1, E2, E3, E4, E5, E6, E7, fAdd_id, fSub_id, fMul_id, m4t]
        refine (s258_281 (by omega)).mpr ?_
        refine (m_which (vT_rng (hv75 _ (by omega) (by omega)))).mpr ?_
        refine s258_284.mpr (s258_285.mpr (s258_286.mpr ?_))
        try simp (disch := first | decide | assumption | omega) only [kon, knt_some, knt_none, Option.toList_some, Option.toList_none, List.cons_append, List.nil_append, upI_eq, upI_a, upI_i, upR_eq, upR_a, upR_i, h36, ht, E1, E2, E3, E4, E5, E6, E7, fAdd_id, fSub_id, fMul_id, m4t]
        refine (s258_288 (by omega)).mpr ?_
        refine (m_state (vT_rng (hv75 _ (by omega) (by omega)))).mpr ?_
        refine s258_291.mpr ?_
        try simp (disch := first | decide | assumption | omega) only [kon, knt_some, knt_none, Option.toList_some, Option.toList_none, List.cons_append, List.nil_append, upI_eq, upI_a, upI_i, upR_eq, upR_a, upR_i, h36, ht, E1, E2, E3, E4, E5, E6, E7, fAdd_id, fSub_id, fMul_id, m4t]
        refine (s258_292 (hA.k (by decide) (by decide) rfl) (by first | assumption | omega) (by first | assumption | omega)).mpr ?_
        try simp (disch := first | decide | assumption | omega) only [kon, knt_some, knt_none, Option.toList_some, Option.toList_none, List.cons_append, List.nil_append, upI_eq, upI_a, upI_i, upR_eq, upR_a, upR_i, h36, ht, E1, E2, E3, E4, E5, E6, E7, fAdd_id, fSub_id, fMul_id, m4t]
        refine s258_293.mpr (wif (fun c293 => ?_) (fun c293 => ?_))
        · first
          | (exfalso; omega)
          | skip
            refine s258_296.mpr (s258_297.mpr ?_)
            refine (s258_301 (by omega) kM).mpr ?_
            refine m_wants hA (by omega) (by (try simp (disch := decide) only [upI_eq, upI_a, upI_i, upR_eq, upR_a, upR_i]); first | assumption | rfl) (by omega) (fun y301 => ?_) (fun y301 => ?_)
            · skip
              refine s258_304.mpr ?_
              refine (s258_401).mpr ?_
              first | (exfalso; omega) | (exact ok _ _ _ ((tsL_39 c1).trans (onw_p (by dsimp only; omega))) (flw1 (by rw [c1]; decide)) (by repeat' (first | assumption | exact FW.rf | refine FW.up ?_ (by unfold wS; omega) | (refine FW.tr ?_ (by assumption)))) (by (try simp (disch := decide) only [upI_eq, upI_a, upI_i, upR_eq, upR_a, upR_i]); try assumption) (by (try simp (disch := decide) only [upI_eq, upI_a, upI_i, upR_eq, upR_a, upR_i]); try assumption) (by simp (disch := decide) only [scX, upI_eq, upI_a, upI_i, upR_eq, upR_a, upR_i, upI_ro, upI_rw, up1_same, up1_eq, ht, E1, E2, E3, E4, E5, E6, E7])) | (exact no _ ((tsL_39 c1).trans (onw_n (by intro h; dsimp only at h; omega))) (by repeat' (first | assumption | exact FW.rf | refine FW.up ?_ (by unfold wS; omega) | (refine FW.tr ?_ (by assumption)))) (by (try simp (disch := decide) only [upI_eq, upI_a, upI_i, upR_eq, upR_a, upR_i]); try assumption))
            · skip
              refine s258_304.mpr ?_
              refine (s258_401).mpr ?_
              first | (exfalso; omega) | (exact ok _ _ _ ((tsL_39 c1).trans (onw_p (by dsimp only; omega))) (flw1 (by rw [c1]; decide)) (by repeat' (first | assumption | exact FW.rf | refine FW.up ?_ (by unfold wS; omega) | (refine FW.tr ?_ (by assumption)))) (by (try simp (disch := decide) only [upI_eq, upI_a, upI_i, upR_eq, upR_a, upR_i]); try assumption) (by (try simp (disch := decide) only [upI_eq, upI_a, upI_i, upR_eq, upR_a, upR_i]); try assumption) (by simp (disch := decide) only [scX, upI_eq, upI_a, upI_i, upR_eq, upR_a, upR_i, upI_ro, upI_rw, up1_same, up1_eq, ht, E1, E2, E3, E4, E5, E6, E7])) | (exact no _ ((tsL_39 c1).trans (onw_n (by intro h; dsimp only at h; omega))) (by repeat' (first | assumption | exact FW.rf | refine FW.up ?_ (by unfold wS; omega) | (refine FW.tr ?_ (by assumption)))) (by (try simp (disch := decide) only [upI_eq, upI_a, upI_i, upR_eq, upR_a, upR_i]); try assumption))
        · first
          | (exfalso; omega)
          | skip
            refine s258_300.mpr ?_
            refine (s258_301 (by omega) kM).mpr ?_
            refine m_wants hA (by omega) (by (try simp (disch := decide) only [upI_eq, upI_a, upI_i, upR_eq, upR_a, upR_i]); first | assumption | rfl) (by omega) (fun y301 => ?_) (fun y301 => ?_)
            · skip
              refine s258_304.mpr ?_
              refine (s258_401).mpr ?_
              first | (exfalso; omega) | (exact ok _ _ _ ((tsL_39 c1).trans (onw_p (by dsimp only; omega))) (flw1 (by rw [c1]; decide)) (by repeat' (first | assumption | exact FW.rf | refine FW.up ?_ (by unfold wS; omega) | (refine FW.tr ?_ (by assumption)))) (by (try simp (disch := decide) only [upI_eq, upI_a, upI_i, upR_eq, upR_a, upR_i]); try assumption) (by (try simp (disch := decide) only [upI_eq, upI_a, upI_i, upR_eq, upR_a, upR_i]); try assumption) (by simp (disch := decide) only [scX, upI_eq, upI_a, upI_i, upR_eq, upR_a, upR_i, upI_ro, upI_rw, up1_same, up1_eq, ht, E1, E2, E3, E4, E5, E6, E7])) | (exact no _ ((tsL_39 c1).trans (onw_n (by intro h; dsimp only at h; omega))) (by repeat' (first | assumption | exact FW.rf | refine FW.up ?_ (by unfold wS; omega) | (refine FW.tr ?_ (by assumption)))) (by (try simp (disch := decide) only [upI_eq, upI_a, upI_i, upR_eq, upR_a, upR_i]); try assumption))
            · skip
              refine s258_304.mpr ?_
              refine (s258_401).mpr ?_
              first | (exfalso; omega) | (exact ok _ _ _ ((tsL_39 c1).trans (onw_p (by dsimp only; omega))) (flw1 (by rw [c1]; decide)) (by repeat' (first | assumption | exact FW.rf | refine FW.up ?_ (by unfold wS; omega) | (refine FW.tr ?_ (by assumption)))) (by (try simp (disch := decide) only [upI_eq, upI_a, upI_i, upR_eq, upR_a, upR_i]); try assumption) (by (try simp (disch := decide) only [upI_eq, upI_a, upI_i, upR_eq, upR_a, upR_i]); try assumption) (by simp (disch := decide) only [scX, upI_eq, upI_a, upI_i, upR_eq, upR_a, upR_i, upI_ro, upI_rw, up1_same, up1_eq, ht, E1, E2, E3, E4, E5, E6, E7])) | (exact no _ ((tsL_39 c1).trans (onw_n (by intro h; dsimp only at h; omega))) (by repeat' (first | assumption | exact FW.rf | refine FW.up ?_ (by unfold wS; omega) | (refine FW.tr ?_ (by assumption)))) (by (try simp (disch := decide) only [upI_eq, upI_a, upI_i, upR_eq, upR_a, upR_i]); try assumption))
  · skip
    try simp (disch := decide) only [upI_eq, upI_a, upI_i, upR_eq, upR_a, upR_i, E1, E4] at y257
    try simp (disch := decide) only [upI_eq, upI_a, upI_i, upR_eq, upR_a, upR_i, E1, E4] at x257
    refine s258_260.mpr (s258_262.mpr (s258_263.mpr ?_))
    refine (s258_264 kM).mpr ?_
    try simp (disch := first | decide | assumption | omega) only [kon, knt_some, knt_none, Option.toList_some, Option.toList_none, List.cons_append, List.nil_append, upI_eq, upI_a, upI_i, upR_eq, upR_a, upR_i, h36, ht, E1, E2, E3, E4, E5, E6, E7, fAdd_id, fSub_id, fMul_id, m4t]
    refine s258_267.mpr (wif (fun c267 => ?_) (fun c267 => ?_))
    · first
      | (exfalso; omega)
      | skip
        refine s258_300.mpr ?_
        refine (s258_301 (by omega) kM).mpr ?_
        refine m_wants hA (by omega) (by (try simp (disch := decide) only [upI_eq, upI_a, upI_i, upR_eq, upR_a, upR_i]); first | assumption | rfl) (by omega) (fun y301 => ?_) (fun y301 => ?_)
        · skip
          refine s258_304.mpr ?_
          refine (s258_401).mpr ?_
          first | (exfalso; omega) | (exact ok _ _ _ ((tsL_39 c1).trans (onw_p (by dsimp only; omega))) (flw1 (by rw [c1]; decide)) (by repeat' (first | assumption | exact FW.rf | refine FW.up ?_ (by unfold wS; omega) | (refine FW.tr ?_ (by assumption)))) (by (try simp (disch := decide) only [upI_eq, upI_a, upI_i, upR_eq, upR_a, upR_i]); try assumption) (by (try simp (disch := decide) only [upI_eq, upI_a, upI_i, upR_eq, upR_a, upR_i]); try assumption) (by simp (disch := decide) only [scX, upI_eq, upI_a, upI_i, upR_eq, upR_a, upR_i, upI_ro, upI_rw, up1_same, up1_eq, ht, E1, E2, E3, E4, E5, E6, E7])) | (exact no _ ((tsL_39 c1).trans (onw_n (by intro h; dsimp only at h; omega))) (by repeat' (first | assumption | exact FW.rf | refine FW.up ?_ (by unfold wS; omega) | (refine FW.tr ?_ (by assumption)))) (by (try simp (disch := decide) only [upI_eq, upI_a, upI_i, upR_eq, upR_a, upR_i]); try assumption))
        · skip
          refine s258_304.mpr ?_
          refine (s258_401).mpr ?_
          first | (exfalso; omega) | (exact ok _ _ _ ((tsL_39 c1).trans (onw_p (by dsimp only; omega))) (flw1 (by rw [c1]; decide)) (by repeat' (first | assumption | exact FW.rf | refine FW.up ?_ (by unfold wS; omega) | (refine FW.tr ?_ (by assumption)))) (by (try simp (disch := decide) only [upI_eq, upI_a, upI_i, upR_eq, upR_a, upR_i]); try assumption) (by (try simp (disch := decide) only [upI_eq, upI_a, upI_i, upR_eq, upR_a, upR_i]); try assumption) (by simp (disch := decide) only [scX, upI_eq, upI_a, upI_i, upR_eq, upR_a, upR_i, upI_ro, upI_rw, up1_same, up1_eq, ht, E1, E2, E3, E4, E5, E6, E7])) | (exact no _ ((tsL_39 c1).trans (onw_n (by intro h; dsimp only at h; omega))) (by repeat' (first | assumption | exact FW.rf | refine FW.up ?_ (by unfold wS; omega) | (refine FW.tr ?_ (by assumption)))) (by (try simp (disch := decide) only [upI_eq, upI_a, upI_i, upR_eq, upR_a, upR_i]); try assumption))
    · first
      | (exfalso; omega)
      | skip
        refine s258_270.mpr ((s258_271 kM).mpr ?_)
        rw [mr_12 hR]
        refine s258_274.mpr (s258_276.mpr (s258_277.mpr (s258_278.mpr (s258_279.mpr ?_))))
        try simp (disch := first | decide | assumption | omega) only [kon, knt_some, knt_none, Option.toList_some, Option.toList_none, List.cons_append, List.nil_append, upI_eq, upI_a, upI_i, upR_eq, upR_a, upR_i, h36, ht, E1, E2, E3, E4, E5, E6, E7, fAdd_id, fSub_id, fMul_id, m4t]
        refine (s258_281 (by omega)).mpr ?_
        refine (m_which (vT_rng (hv75 _ (by omega) (by omega)))).mpr ?_
        refine s258_284.mpr (s258_285.mpr (s258_286.mpr ?_))
        try simp (disch := first | decide | assumption | omega) only [kon, knt_some, knt_none, Option.toList_some, Option.toList_none, List.cons_append, List.nil_append, upI_eq, upI_a, upI_i, upR_eq, upR_a, upR_i, h36, ht, E1, E2, E3, E4, E5, E6, E7, fAdd_id, fSub_id, fMul_id, m4t]
        refine (s258_288 (by omega)).mpr ?_
        refine (m_state (vT_rng (hv75 _ (by omega) (by omega)))).mpr ?_
        refine s258_291.mpr ?_
        try simp (disch := first | decide | assumption | omega) only [kon, knt_some, knt_none, Option.toList_some, Option.toList_none, List.cons_append, List.nil_append, upI_eq, upI_a, upI_i, upR_eq, upR_a, upR_i, h36, ht, E1, E2, E3, E4, E5, E6, E7, fAdd_id, fSub_id, fMul_id, m4t]
        refine (s258_292 (hA.k (by decide) (by decide) rfl) (by first | assumption | omega) (by first | assumption | omega)).mpr ?_
        try simp (disch := first | decide | assumption | omega) only [kon, knt_some, knt_none, Option.toList_some, Option.toList_none, List.cons_append, List.nil_append, upI_eq, upI_a, upI_i, upR_eq, upR_a, upR_i, h36, ht, E1, E2, E3, E4, E5, E6, E7, fAdd_id, fSub_id, fMul_id, m4t]
        refine s258_293.mpr (wif (fun c293 => ?_) (fun c293 => ?_))
        · first
          | (exfalso; omega)
          | skip
            refine s258_296.mpr (s258_297.mpr ?_)
            refine (s258_301 (by omega) kM).mpr ?_
            refine m_wants hA (by omega) (by (try simp (disch := decide) only [upI_eq, upI_a, upI_i, upR_eq, upR_a, upR_i]); first | assumption | rfl) (by omega) (fun y301 => ?_) (fun y301 => ?_)
            · skip
              refine s258_304.mpr ?_
              refine (s258_401).mpr ?_
              first | (exfalso; omega) | (exact ok _ _ _ ((tsL_39 c1).trans (onw_p (by dsimp only; omega))) (flw1 (by rw [c1]; decide)) (by repeat' (first | assumption | exact FW.rf | refine FW.up ?_ (by unfold wS; omega) | (refine FW.tr ?_ (by assumption)))) (by (try simp (disch := decide) only [upI_eq, upI_a, upI_i, upR_eq, upR_a, upR_i]); try assumption) (by (try simp (disch := decide) only [upI_eq, upI_a, upI_i, upR_eq, upR_a, upR_i]); try assumption) (by simp (disch := decide) only [scX, upI_eq, upI_a, upI_i, upR_eq, upR_a, upR_i, upI_ro, upI_rw, up1_same, up1_eq, ht, E1, E2, E3, E4, E5, E6, E7])) | (exact no _ ((tsL_39 c1).trans (onw_n (by intro h; dsimp only at h; omega))) (by repeat' (first | assumption | exact FW.rf | refine FW.up ?_ (by unfold wS; omega) | (refine FW.tr ?_ (by assumption)))) (by (try simp (disch := decide) only [upI_eq, upI_a, upI_i, upR_eq, upR_a, upR_i]); try assumption))
            · skip
              refine s258_304.mpr ?_
              refine (s258_401).mpr ?_
              first | (exfalso; omega) | (exact ok _ _ _ ((tsL_39 c1).trans (onw_p (by dsimp only; omega))) (flw1 (by rw [c1]; decide)) (by repeat' (first | assumption | exact FW.rf | refine FW.up ?_ (by unfold wS; omega) | (refine FW.tr ?_ (by assumption)))) (by (try simp (disch := decide) only [upI_eq, upI_a, upI_i, upR_eq, upR_a, upR_i]); try assumption) (by (try simp (disch := decide) only [upI_eq, upI_a, upI_i, upR_eq, upR_a, upR_i]); try assumption) (by simp (disch := decide) only [scX, upI_eq, upI_a, upI_i, upR_eq, upR_a, upR_i, upI_ro, upI_rw, up1_same, up1_eq, ht, E1, E2, E3, E4, E5, E6, E7])) | (exact no _ ((tsL_39 c1).trans (onw_n (by intro h; dsimp only at h; omega))) (by repeat' (first | assumption | exact FW.rf | refine FW.up ?_ (by unfold wS; omega) | (refine FW.tr ?_ (by assumption)))) (by (try simp (disch := decide) only [upI_eq, upI_a, upI_i, upR_eq, upR_a, upR_i]); try assumption))
        · first
          | (exfalso; omega)
          | skip
            refine s258_300.mpr ?_
            refine (s258_301 (by omega) kM).mpr ?_
            refine m_wants hA (by omega) (by (try simp (disch := decide) only [upI_eq, upI_a, upI_i, upR_eq, upR_a, upR_i]); first | assumption | rfl) (by omega) (fun y301 => ?_) (fun y301 => ?_)
            · skip
              refine s258_304.mpr ?_
              refine (s258_401).mpr ?_
              first | (exfalso; omega) | (exact ok _ _ _ ((tsL_39 c1).trans (onw_p (by dsimp only; omega))) (flw1 (by rw [c1]; decide)) (by repeat' (first | assumption | exact FW.rf | refine FW.up ?_ (by unfold wS; omega) | (refine FW.tr ?_ (by assumption)))) (by (try simp (disch := decide) only [upI_eq, upI_a, upI_i, upR_eq, upR_a, upR_i]); try assumption) (by (try simp (disch := decide) only [upI_eq, upI_a, upI_i, upR_eq, upR_a, upR_i]); try assumption) (by simp (disch := decide) only [scX, upI_eq, upI_a, upI_i, upR_eq, upR_a, upR_i, upI_ro, upI_rw, up1_same, up1_eq, ht, E1, E2, E3, E4, E5, E6, E7])) | (exact no _ ((tsL_39 c1).trans (onw_n (by intro h; dsimp only at h; omega))) (by repeat' (first | assumption | exact FW.rf | refine FW.up ?_ (by unfold wS; omega) | (refine FW.tr ?_ (by assumption)))) (by (try simp (disch := decide) only [upI_eq, upI_a, upI_i, upR_eq, upR_a, upR_i]); try assumption))
            · skip
              refine s258_304.mpr ?_
              refine (s258_401).mpr ?_
              first | (exfalso; omega) | (exact ok _ _ _ ((tsL_39 c1).trans (onw_p (by dsimp only; omega))) (flw1 (by rw [c1]; decide)) (by repeat' (first | assumption | exact FW.rf | refine FW.up ?_ (by unfold wS; omega) | (refine FW.tr ?_ (by assumption)))) (by (try simp (disch := decide) only [upI_eq, upI_a, upI_i, upR_eq, upR_a, upR_i]); try assumption) (by (try simp (disch := decide) only [upI_eq, upI_a, upI_i, upR_eq, upR_a, upR_i]); try assumption) (by simp (disch := decide) only [scX, upI_eq, upI_a, upI_i, upR_eq, upR_a, upR_i, upI_ro, upI_rw, up1_same, up1_eq, ht, E1, E2, E3, E4, E5, E6, E7])) | (exact no _ ((tsL_39 c1).trans (onw_n (by intro h; dsimp only at h; omega))) (by repeat' (first | assumption | exact FW.rf | refine FW.up ?_ (by unfold wS; omega) | (refine FW.tr ?_ (by assumption)))) (by (try simp (disch := decide) only [upI_eq, upI_a, upI_i, upR_eq, upR_a, upR_i]); try assumption))
end MT5
