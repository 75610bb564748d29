/-! THE REFERENCE: feed, fault, discard, module, typeAt -/
section MFC
variable {d : Nat} {al : AL} {hi : HI} {hr : HR} {Q : QQ} {B : Int → Int}
def fdA (a b c d e : Int) (k : Int) : Int := if k < 4 then a else if k < 8 then b else if k < 12 then c else if k < 16 then d else e
theorem m_feed {a b c d9 e : Int} (hA : SA al) (hR : MR hr) (ht : 0 ≤ hi 49 2 ∧ hi 49 2 ≤ 2000)
    (no : 2000 < hi 49 2 + 20 → Q (some (some (vI (-1)))) al (upI hi 49 0 0) hr)
    (ok : ∀ hi', hi 49 2 + 20 ≤ 2000 → FW (fun a i => (a = 49 ∧ (i = 0 ∨ i = 2)) ∨ (a = 50 ∧ hi 49 2 ≤ i ∧ i < hi 49 2 + 20)) hi hi' → hi' 49 2 = hi 49 2 + 20 → (∀ k : Int, 0 ≤ k → k < 20 → hi' 50 (hi 49 2 + k) % 256 = fShr (fdA a b c d9 e k) (24 - 8 * (k % 4)) % 256) → Q (some (some (vI (hi 49 2 + 20)))) al hi' hr) : Ev d 217 [vR (some 49), vI a, vI b, vI c, vI d9, vI e] al hi hr Q := by
  have kM : isK al 49 13 := hA.k (by decide) (by decide) rfl
  have l50 := SA.len (a := 50) (n := 2000) hA (by decide) (by decide) rfl
  rw [e217]
  by_cases hc : 2000 < hi 49 2 + 20
  · skip
    refine s217_0.mpr (s217_1.mpr ?_)
    refine (s217_2 kM).mpr ?_
    refine s217_5.mpr ?_
    try simp (disch := first | decide | assumption | omega) only [upI_eq, upI_a, upI_i, upR_eq, upR_a, upR_i, fAdd_id]
    refine (s217_6 kM).mpr ?_
    refine s217_9.mpr (s217_11.mpr (s217_12.mpr ?_))
    try simp (disch := first | decide | assumption | omega) only [upI_eq, upI_a, upI_i, upR_eq, upR_a, upR_i, fAdd_id]
    refine s217_15.mpr (wif (fun c15 => ?_) (fun c15 => ?_))
    · first
      | (exfalso; omega)
      | skip
        refine s217_18.mpr ?_
        refine (s217_19).mpr ?_
        exact no hc
    · first
      | (exfalso; omega)
      | skip
        exfalso; omega
  have T23 : Wp d 217 23 [vR (some 49), vI a, vI b, vI c, vI d9, vI e, vI 0, none] [] al (upI hi 49 0 0) hr Q := by
    refine wp_cnt (N := 20) (fun k ls h3 => (∃ l7, ls = [vR (some 49), vI a, vI b, vI c, vI d9, vI e, vI k, l7]) ∧ FW (fun a i => (a = 49 ∧ (i = 0 ∨ i = 2)) ∨ (a = 50 ∧ hi 49 2 ≤ i ∧ i < hi 49 2 + 20)) hi h3 ∧ h3 49 2 = hi 49 2 + k ∧ (∀ j : Int, 0 ≤ j → j < k → h3 50 (hi 49 2 + j) % 256 = fShr (fdA a b c d9 e j) (24 - 8 * (j % 4)) % 256)) ?_ ?_ _ _ ⟨⟨_, rfl⟩, FW.up FW.rf (Or.inl ⟨rfl, Or.inl rfl⟩), by (try simp (disch := decide) only [upI_eq, upI_a, upI_i, upR_eq, upR_a, upR_i]); omega, fun j a b => absurd b (by omega)⟩
    · rintro k ls h3 hk ⟨⟨l7, rfl⟩, w3, e2, e50⟩ nx
      have hmod : (k : Int).tmod 4 = (k : Int) % 4 := by rw [Int.tmod_eq_emod_of_nonneg (by omega)]
      have hrem : fRem (k : Int) 4 = (k : Int) % 4 := hmod
      have T78 : ∀ v, v = fdA a b c d9 e k → Wp d 217 78 [vR (some 49), vI a, vI b, vI c, vI d9, vI e, vI k, vI v] [] al h3 hr Q := by
        intro v hv
        refine s217_78.mpr ((s217_79 kM).mpr ?_)
        rw [mr_1 hR]
        refine s217_82.mpr ?_
        refine (s217_83 kM).mpr ?_
        refine s217_86.mpr (s217_88.mpr (s217_90.mpr (s217_92.mpr (s217_94.mpr ?_))))
        try simp (disch := first | decide | assumption | omega) only [upI_eq, upI_a, upI_i, upR_eq, upR_a, upR_i, e2, hrem, fMul_id, fSub_id, fAdd_id]
        refine (s217_95 (by first | assumption | omega)).mpr ?_
        refine s217_96.mpr (s217_97.mpr (s217_98.mpr (s217_99.mpr ?_)))
        try simp (disch := first | decide | assumption | omega) only [upI_eq, upI_a, upI_i, upR_eq, upR_a, upR_i, e2, hrem, fMul_id, fSub_id, fAdd_id]
        refine (s217_100 (hA.k (by decide) (by decide) rfl) (by first | assumption | omega) (by first | assumption | omega)).mpr ?_
        refine s217_101.mpr (s217_102.mpr ?_)
        try simp (disch := first | decide | assumption | omega) only [upI_eq, upI_a, upI_i, upR_eq, upR_a, upR_i, e2, hrem, fMul_id, fSub_id, fAdd_id]
        refine (s217_103 kM).mpr ?_
        refine s217_106.mpr (s217_107.mpr ?_)
        try simp (disch := first | decide | assumption | omega) only [upI_eq, upI_a, upI_i, upR_eq, upR_a, upR_i, e2, hrem, fMul_id, fSub_id, fAdd_id]
        refine (s217_108 kM).mpr ?_
        refine s217_111.mpr (s217_114.mpr ?_)
        try simp (disch := first | decide | assumption | omega) only [upI_eq, upI_a, upI_i, upR_eq, upR_a, upR_i, e2, hrem, fMul_id, fSub_id, fAdd_id]
        refine nx _ _ ⟨⟨_, by rw [cast1]⟩, FW.up (FW.up w3 (Or.inr ⟨rfl, by omega, by omega⟩)) (Or.inl ⟨rfl, Or.inr rfl⟩), by rw [upI_eq]; omega, fun j a b => ?_⟩
        rw [upI_a (by decide)]
        by_cases e9 : j = k
        · subst e9; rw [upI_eq, fB_m, fB_m, hv]
        · rw [upI_i (by omega)]; exact e50 j a (by omega)
      refine s217_23.mpr (s217_25.mpr ?_)
      refine s217_27.mpr (wif (fun c27 => ?_) (fun c27 => ?_))
      · skip
        refine s217_30.mpr (s217_32.mpr ?_)
        refine s217_33.mpr (wif (fun c33 => ?_) (fun c33 => ?_))
        · skip
          refine s217_36.mpr (s217_37.mpr (s217_76.mpr ?_))
          exact T78 _ (by unfold fdA; repeat (first | rw [if_pos (by assumption)] | rw [if_neg (by assumption)]))
        · skip
          refine s217_40.mpr (s217_42.mpr ?_)
          refine s217_44.mpr (wif (fun c44 => ?_) (fun c44 => ?_))
          · skip
            refine s217_47.mpr (s217_48.mpr (s217_76.mpr ?_))
            exact T78 _ (by unfold fdA; repeat (first | rw [if_pos (by assumption)] | rw [if_neg (by assumption)]))
          · skip
            refine s217_51.mpr (s217_53.mpr ?_)
            refine s217_55.mpr (wif (fun c55 => ?_) (fun c55 => ?_))
            · skip
              refine s217_58.mpr (s217_59.mpr (s217_76.mpr ?_))
              exact T78 _ (by unfold fdA; repeat (first | rw [if_pos (by assumption)] | rw [if_neg (by assumption)]))
            · skip
              refine s217_62.mpr (s217_64.mpr ?_)
              refine s217_66.mpr (wif (fun c66 => ?_) (fun c66 => ?_))
              · skip
                refine s217_69.mpr (s217_71.mpr (s217_76.mpr ?_))
                exact T78 _ (by unfold fdA; repeat (first | rw [if_pos (by assumption)] | rw [if_neg (by assumption)]))
              · skip
                refine s217_74.mpr (s217_76.mpr ?_)
                exact T78 _ (by unfold fdA; repeat (first | rw [if_pos (by assumption)] | rw [if_neg (by assumption)]))
      · skip
        exfalso; omega
    · rintro ls h3 ⟨⟨l7, rfl⟩, w3, e2, e50⟩
      refine s217_23.mpr (s217_25.mpr ?_)
      refine s217_27.mpr (wif (fun c27 => ?_) (fun c27 => ?_))
      · skip
        exfalso; omega
      · skip
        refine s217_117.mpr ?_
        refine (s217_118 kM).mpr ?_
        try simp (disch := first | decide | assumption | omega) only [e2]
        refine (s217_121).mpr ?_
        exact ok h3 (by omega) w3 e2 e50
  refine s217_0.mpr (s217_1.mpr ?_)
  refine (s217_2 kM).mpr ?_
  refine s217_5.mpr ?_
  try simp (disch := first | decide | assumption | omega) only [upI_eq, upI_a, upI_i, upR_eq, upR_a, upR_i, fAdd_id]
  refine (s217_6 kM).mpr ?_
  refine s217_9.mpr (s217_11.mpr (s217_12.mpr ?_))
  try simp (disch := first | decide | assumption | omega) only [upI_eq, upI_a, upI_i, upR_eq, upR_a, upR_i, fAdd_id]
  refine s217_15.mpr (wif (fun c15 => ?_) (fun c15 => ?_))
  · first
    | (exfalso; omega)
    | skip
      exfalso; omega
  · first
    | (exfalso; omega)
    | skip
      refine s217_20.mpr (s217_21.mpr ?_)
      exact T23
theorem m_fault {w : Int} (hA : SA al) (hR : MR hr) (ok : Q (some (some (vI (if hi 49 24 = 0 then -1 else if w = 0 then hi 49 22 else if w = 1 then hi 49 23 else -1)))) al (upI hi 49 0 0) hr) : Ev d 219 [vR (some 49), vI w] al hi hr Q := by
  have kM : isK al 49 13 := hA.k (by decide) (by decide) rfl
  rw [e219]
  refine s219_0.mpr (s219_1.mpr ?_)
  refine (s219_2 kM).mpr ?_
  refine s219_5.mpr ?_
  try simp (disch := first | decide | assumption | omega) only [upI_eq, upI_a, upI_i, upR_eq, upR_a, upR_i]
  refine (s219_6 kM).mpr ?_
  try simp (disch := first | decide | assumption | omega) only [upI_eq, upI_a, upI_i, upR_eq, upR_a, upR_i]
  refine s219_9.mpr (wif (fun c9 => ?_) (fun c9 => ?_))
  · skip
    refine s219_12.mpr (s219_13.mpr ?_)
    refine (s219_40).mpr ?_
    repeat (first | rw [if_pos (by assumption)] at ok | rw [if_neg (by assumption)] at ok)
    exact ok
  · skip
    refine s219_16.mpr ?_
    refine s219_17.mpr (wif (fun c17 => ?_) (fun c17 => ?_))
    · skip
      refine s219_20.mpr ?_
      refine (s219_21 kM).mpr ?_
      refine s219_24.mpr ?_
      try simp (disch := first | decide | assumption | omega) only [upI_eq, upI_a, upI_i, upR_eq, upR_a, upR_i]
      refine (s219_40).mpr ?_
      repeat (first | rw [if_pos (by assumption)] at ok | rw [if_neg (by assumption)] at ok)
      exact ok
    · skip
      refine s219_27.mpr (s219_28.mpr ?_)
      refine s219_29.mpr (wif (fun c29 => ?_) (fun c29 => ?_))
      · skip
        refine s219_32.mpr ?_
        refine (s219_33 kM).mpr ?_
        refine s219_36.mpr ?_
        try simp (disch := first | decide | assumption | omega) only [upI_eq, upI_a, upI_i, upR_eq, upR_a, upR_i]
        refine (s219_40).mpr ?_
        repeat (first | rw [if_pos (by assumption)] at ok | rw [if_neg (by assumption)] at ok)
        exact ok
      · skip
        refine s219_39.mpr ?_
        refine (s219_40).mpr ?_
        repeat (first | rw [if_pos (by assumption)] at ok | rw [if_neg (by assumption)] at ok)
        exact ok
def isM (hi : HI) (m : Int) : Prop := 0 ≤ m ∧ m < 6 ∧ hi 56 m = 1
theorem m_isModule {m : Int} (hA : SA al) (hR : MR hr) (hsh : ∀ m, 0 ≤ m → m < 6 → hi 56 m = 0 ∨ hi 56 m = 1) (hy : isM hi m → Q (some (some (vI 1))) al hi hr) (hn : ¬ isM hi m → Q (some (some (vI 0))) al hi hr) : Ev d 268 [vR (some 49), vI m] al hi hr Q := by
  have kM : isK al 49 13 := hA.k (by decide) (by decide) rfl
  have l56 := SA.len (a := 56) (n := 13) hA (by decide) (by decide) rfl
  rw [e268]
  refine s268_0.mpr ?_
  refine s268_1.mpr (wif (fun c1 => ?_) (fun c1 => ?_))
  · skip
    refine s268_23.mpr ?_
    refine (s268_24 (by first | assumption | omega)).mpr ?_
    first | (refine hn (fun h => ?_); unfold isM at h; omega) | (refine hy ⟨by omega, by omega, ?_⟩; have := hsh m (by omega) (by omega); omega)
  · skip
    refine s268_4.mpr (s268_5.mpr ?_)
    refine s268_7.mpr (wif (fun c7 => ?_) (fun c7 => ?_))
    · skip
      refine s268_10.mpr ((s268_11 kM).mpr ?_)
      rw [mr_8 hR]
      refine s268_14.mpr ?_
      refine (s268_15Z (hA.k (by decide) (by decide) rfl) (by first | assumption | omega) (by first | assumption | omega)).mpr ?_
      refine s268_16.mpr (wif (fun c16 => ?_) (fun c16 => ?_))
      · skip
        refine s268_23.mpr ?_
        refine (s268_24 (by first | assumption | omega)).mpr ?_
        first | (refine hn (fun h => ?_); unfold isM at h; omega) | (refine hy ⟨by omega, by omega, ?_⟩; have := hsh m (by omega) (by omega); omega)
      · skip
        refine s268_19.mpr (s268_20.mpr ?_)
        refine (s268_24 (by first | assumption | omega)).mpr ?_
        first | (refine hn (fun h => ?_); unfold isM at h; omega) | (refine hy ⟨by omega, by omega, ?_⟩; have := hsh m (by omega) (by omega); omega)
    · skip
      refine s268_23.mpr ?_
      refine (s268_24 (by first | assumption | omega)).mpr ?_
      first | (refine hn (fun h => ?_); unfold isM at h; omega) | (refine hy ⟨by omega, by omega, ?_⟩; have := hsh m (by omega) (by omega); omega)
theorem m_discard {m : Int} (hA : SA al) (hR : MR hr) (hd : 1 ≤ d) (hsh : ∀ m, 0 ≤ m → m < 6 → hi 56 m = 0 ∨ hi 56 m = 1) (hy : isM hi m → Q (some (some (vI 1))) al (upI (upI hi 49 0 0) 56 m 0) hr) (hn : ¬ isM hi m → Q (some (some (vI 0))) al (upI hi 49 0 0) hr) : Ev d 269 [vR (some 49), vI m] al hi hr Q := by
  have kM : isK al 49 13 := hA.k (by decide) (by decide) rfl
  have l56 := SA.len (a := 56) (n := 13) hA (by decide) (by decide) rfl
  have hsh' : ∀ m, 0 ≤ m → m < 6 → (upI hi 49 0 0) 56 m = 0 ∨ (upI hi 49 0 0) 56 m = 1 := fun m a b => by rw [upI_a (by decide)]; exact hsh m a b
  rw [e269]
  by_cases c : isM hi m
  · obtain ⟨c0, c1, -⟩ := id c
    refine s269_0.mpr (s269_1.mpr ?_)
    refine (s269_2 kM).mpr ?_
    refine s269_5.mpr (s269_6.mpr ?_)
    try simp (disch := first | decide | assumption | omega) only [kon, knt_some, knt_none, Option.toList_some, Option.toList_none, List.cons_append, List.nil_append, upI_eq, upI_a, upI_i, upR_eq, upR_a, upR_i]
    refine (s269_7 (by omega) kM).mpr ?_
    refine m_isModule hA hR hsh' (fun _ => ?_) (fun h => absurd (show isM (upI hi 49 0 0) m from by unfold isM at c ⊢; rw [upI_a (by decide)]; exact c) h)
    refine s269_10.mpr (wif (fun c10 => ?_) (fun c10 => ?_))
    · first
      | (exfalso; omega)
      | skip
        exfalso; omega
    · first
      | (exfalso; omega)
      | skip
        refine s269_15.mpr ((s269_16 kM).mpr ?_)
        rw [mr_8 hR]
        refine s269_19.mpr (s269_20.mpr ?_)
        refine (s269_21Z (hA.k (by decide) (by decide) rfl) (by first | assumption | omega) (by first | assumption | omega)).mpr ?_
        refine s269_22.mpr ?_
        try simp (disch := first | decide | assumption | omega) only [kon, knt_some, knt_none, Option.toList_some, Option.toList_none, List.cons_append, List.nil_append, upI_eq, upI_a, upI_i, upR_eq, upR_a, upR_i]
        refine (s269_23 (by first | assumption | omega)).mpr ?_
        exact hy c
  · skip
    refine s269_0.mpr (s269_1.mpr ?_)
    refine (s269_2 kM).mpr ?_
    refine s269_5.mpr (s269_6.mpr ?_)
    try simp (disch := first | decide | assumption | omega) only [kon, knt_some, knt_none, Option.toList_some, Option.toList_none, List.cons_append, List.nil_append, upI_eq, upI_a, upI_i, upR_eq, upR_a, upR_i]
    refine (s269_7 (by omega) kM).mpr ?_
    refine m_isModule hA hR hsh' (fun h => absurd (by unfold isM at h ⊢; rw [upI_a (by decide)] at h; exact h) c) (fun _ => ?_)
    refine s269_10.mpr (wif (fun c10 => ?_) (fun c10 => ?_))
    · first
      | (exfalso; omega)
      | skip
        refine s269_13.mpr ?_
        refine (s269_14 (by first | assumption | omega)).mpr ?_
        exact hn c
    · first
      | (exfalso; omega)
      | skip
        exfalso; omega
end MFC
