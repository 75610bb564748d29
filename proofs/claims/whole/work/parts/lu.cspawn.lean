/-! RUNNING, the class: a process begins -/
section CO0
variable {d : Nat} {Q : QQ} {T : TXs} {al al' : AL} {hi hi' : HI} {hr hr' : HR} {s s' s1 s2 u sx sm : HI} {A A' : Int → Int → Int} {NN : Int → Option Nat} {E E' : Int → Prop} {p m f q v w x y n k g qx i P e fr ty kd tt cv o : Int} {B : Int → Int} {X Y : Tst} {t t' N M c b : Nat} {al0 : AL} {hi0 : HI} {hr0 : HR} {V W ws : Int → Int}
theorem c_initTask {r : Option Nat} (ht : isK al t 9) (t119 : 119 ≤ t) (e : al.1 = t + 1) (q : ∀ al' hi' hr', GA al al' 6 1905 → TkS al' hr' t → hr' t 15 = some (t + 6) → hr' t 1 = r → hi' t 0 = p → (∀ a i, a < t → hi' a i = hi a i) → (∀ a i, a < t → hr' a i = hr a i) → al'.1 = t + 7 → Q (some none) al' hi' hr') : Ev d 115 [vR (some t), vI p, vR r] al hi hr Q := by
  have k1 : isK (nwA al 15 16 16) t 9 := isK_nw ht
  have k2 : isK (nwA (nwA al 15 16 16) 15 16 16) t 9 := isK_nw k1
  have k3 : isK (nwA (nwA (nwA al 15 16 16) 15 16 16) 15 16 16) t 9 := isK_nw k2
  have k4 : isK (nwA (nwA (nwA (nwA al 15 16 16) 15 16 16) 15 16 16) 15 416 416) t 9 := isK_nw k3
  have k5 : isK (nwA (nwA (nwA (nwA (nwA al 15 16 16) 15 16 16) 15 16 16) 15 416 416) 15 416 416) t 9 := isK_nw k4
  have k6 : isK (nwA (nwA (nwA (nwA (nwA (nwA al 15 16 16) 15 16 16) 15 16 16) 15 416 416) 15 416 416) 15 1025 1025) t 9 := isK_nw k5
  rw [e115]
  refine s115_0.mpr (s115_1.mpr (s115_4.mpr (s115_5.mpr ?_)))
  refine (s115_6 (by first | decide | assumption | omega)).mpr ?_
  refine s115_9.mpr (s115_10.mpr ?_)
  try simp (disch := first | decide | assumption | omega) only [k1, k2, k3, k4, k5, k6]
  refine (s115_11 (by first | decide | assumption | omega)).mpr ?_
  refine s115_14.mpr (s115_15.mpr ?_)
  try simp (disch := first | decide | assumption | omega) only [k1, k2, k3, k4, k5, k6]
  refine (s115_16 (by first | decide | assumption | omega)).mpr ?_
  refine s115_19.mpr (s115_20.mpr ?_)
  try simp (disch := first | decide | assumption | omega) only [k1, k2, k3, k4, k5, k6]
  refine (s115_21 (by first | decide | assumption | omega)).mpr ?_
  refine s115_24.mpr (s115_25.mpr ?_)
  try simp (disch := first | decide | assumption | omega) only [k1, k2, k3, k4, k5, k6]
  refine (s115_26 (by first | decide | assumption | omega)).mpr ?_
  refine s115_29.mpr (s115_30.mpr ?_)
  try simp (disch := first | decide | assumption | omega) only [k1, k2, k3, k4, k5, k6]
  refine (s115_31 (by first | decide | assumption | omega)).mpr ?_
  refine s115_34.mpr (s115_35.mpr ?_)
  try simp (disch := first | decide | assumption | omega) only [k1, k2, k3, k4, k5, k6]
  refine (s115_36 (by first | decide | assumption | omega)).mpr ?_
  refine s115_39.mpr (s115_40.mpr ?_)
  try simp (disch := first | decide | assumption | omega) only [k1, k2, k3, k4, k5, k6]
  refine (s115_42 (by first | assumption | omega) (by first | assumption | omega)).mpr ?_
  refine (s115_44 (by first | decide | assumption | omega)).mpr ?_
  refine s115_47.mpr (s115_48.mpr ?_)
  refine (s115_50 (by first | assumption | omega) (by first | assumption | omega)).mpr ?_
  refine (s115_52 (by first | decide | assumption | omega)).mpr ?_
  refine s115_55.mpr (s115_56.mpr ?_)
  refine (s115_58 (by first | assumption | omega) (by first | assumption | omega)).mpr ?_
  refine (s115_60 (by first | decide | assumption | omega)).mpr ?_
  refine s115_63.mpr (s115_64.mpr ?_)
  refine (s115_67 (by first | assumption | omega) (by first | assumption | omega)).mpr ?_
  refine (s115_69 (by first | decide | assumption | omega)).mpr ?_
  refine s115_72.mpr (s115_73.mpr ?_)
  refine (s115_76 (by first | assumption | omega) (by first | assumption | omega)).mpr ?_
  refine (s115_78 (by first | decide | assumption | omega)).mpr ?_
  refine s115_81.mpr (s115_82.mpr ?_)
  refine (s115_83 (by first | decide | assumption | omega)).mpr ?_
  refine s115_86.mpr (s115_87.mpr ?_)
  try simp (disch := first | decide | assumption | omega) only [k1, k2, k3, k4, k5, k6]
  refine (s115_90 (by first | assumption | omega) (by first | assumption | omega)).mpr ?_
  refine (s115_92 (by first | decide | assumption | omega)).mpr ?_
  refine s115_95.mpr (s115_96.mpr ?_)
  refine (s115_97 (by first | decide | assumption | omega)).mpr ?_
  refine s115_100.mpr (s115_101.mpr ?_)
  try simp (disch := first | decide | assumption | omega) only [k1, k2, k3, k4, k5, k6]
  refine (s115_102 (by first | decide | assumption | omega)).mpr ?_
  refine s115_105.mpr (s115_106.mpr ?_)
  try simp (disch := first | decide | assumption | omega) only [k1, k2, k3, k4, k5, k6]
  refine (s115_107 (by first | decide | assumption | omega)).mpr ?_
  refine (s115_110).mpr ?_
  skip
  refine q _ _ _ (GA.mn (((((GA.rf.nw).nw).nw).nw).nw).nw (by decide) (by decide)) ⟨⟨t119, k6⟩, ⟨?_, ?_, ?_⟩, ⟨?_, ?_, ?_⟩, ⟨?_, ?_, ?_⟩, ⟨?_, ?_, ?_⟩, ⟨?_, ?_, ?_⟩, ?_, ?_⟩ ?_ upR_eq upI_eq (fun a i ha => ?_) (fun a i ha => ?_) ?_
  all_goals (try simp only [nw_1, e])
  · repeat (first | rw [upR_i (by decide)] | rw [zeR_a (by omega)])
    first | done | rfl | (rw [upR_eq])
  · exact isK_nw (isK_nw (isK_nw (isK_nw (isK_nw (isK_n (by (try simp only [nw_1]); omega) (by (try simp only [nw_1]); omega))))))
  · rw [aln_nw (by (try simp only [nw_1]); omega), aln_nw (by (try simp only [nw_1]); omega), aln_nw (by (try simp only [nw_1]); omega), aln_nw (by (try simp only [nw_1]); omega), aln_nw (by (try simp only [nw_1]); omega), aln_n (by (try simp only [nw_1]); omega)]; rfl
  · repeat (first | rw [upR_i (by decide)] | rw [zeR_a (by omega)])
    first | done | rfl | (rw [upR_eq])
  · exact isK_nw (isK_nw (isK_nw (isK_nw (isK_n (by (try simp only [nw_1]); omega) (by (try simp only [nw_1]); omega)))))
  · rw [aln_nw (by (try simp only [nw_1]); omega), aln_nw (by (try simp only [nw_1]); omega), aln_nw (by (try simp only [nw_1]); omega), aln_nw (by (try simp only [nw_1]); omega), aln_n (by (try simp only [nw_1]); omega)]; rfl
  · repeat (first | rw [upR_i (by decide)] | rw [zeR_a (by omega)])
    first | done | rfl | (rw [upR_eq])
  · exact isK_nw (isK_nw (isK_nw (isK_n (by (try simp only [nw_1]); omega) (by (try simp only [nw_1]); omega))))
  · rw [aln_nw (by (try simp only [nw_1]); omega), aln_nw (by (try simp only [nw_1]); omega), aln_nw (by (try simp only [nw_1]); omega), aln_n (by (try simp only [nw_1]); omega)]; rfl
  · repeat (first | rw [upR_i (by decide)] | rw [zeR_a (by omega)])
    first | done | rfl | (rw [upR_eq])
  · exact isK_nw (isK_nw (isK_n (by (try simp only [nw_1]); omega) (by (try simp only [nw_1]); omega)))
  · rw [aln_nw (by (try simp only [nw_1]); omega), aln_nw (by (try simp only [nw_1]); omega), aln_n (by (try simp only [nw_1]); omega)]; rfl
  · repeat (first | rw [upR_i (by decide)] | rw [zeR_a (by omega)])
    first | done | rfl | (rw [upR_eq])
  · exact isK_nw (isK_n (by (try simp only [nw_1]); omega) (by (try simp only [nw_1]); omega))
  · rw [aln_nw (by (try simp only [nw_1]); omega), aln_n (by (try simp only [nw_1]); omega)]; rfl
  · exact isK_n (by (try simp only [nw_1]); omega) (by (try simp only [nw_1]); omega)
  · rw [aln_n (by (try simp only [nw_1]); omega)]; rfl
  · rw [upR_i (by decide), upR_eq]
  · repeat (first | rw [upI_a (by omega)] | rw [zeI_a (by omega)])
  · repeat (first | rw [upR_a (by omega)] | rw [zeR_a (by omega)])
/-- a task as it begins, in the memory -/
def bgM (hi : HI) (t : Nat) (sp c f : Int) (hi' : HI) : Prop := hi' t 0 = hi t 0 ∧ hi' t 2 = sp ∧ hi' t 3 = c ∧ hi' t 4 = 1 ∧ hi' t 5 = 0 ∧ hi' t 6 = 0 ∧ hi' t 7 = 1 ∧ hi' t 8 = 0 ∧ hi' t 16 = 1 ∧ hi' (t + 1) 0 = f ∧ hi' (t + 2) 0 = 0 ∧ hi' (t + 3) 0 = 0 ∧ (∀ k, 0 ≤ k → k < 10 → hi' (t + 4) (16 + k) = 7 ∧ hi' (t + 5) (16 + k) = 0) ∧ ∀ (b : Nat) i, ¬ (t ≤ b ∧ b ≤ t + 5) → hi' b i = hi b i
theorem TkS.up1 {r : Option Nat} (h : TkS al hr t) : TkS al (upR hr t 1 r) t := by
  unfold TkS at h ⊢
  rw [upR_i (by decide), upR_i (by decide), upR_i (by decide), upR_i (by decide), upR_i (by decide)]
  exact h
theorem c_beginTask {r : Option Nat} {sp h9 : Int} (tS : TkS al hr t) (hc : 0 ≤ h9 ∧ h9 ≤ 1024) (hd : 1 ≤ d) (q : ∀ hi', bgM hi t sp h9 f hi' → Q (some none) al hi' (upR hr t 1 r)) : Ev d 116 [vR (some t), vR r, vI sp, vI f, vI h9] al hi hr Q := by
  have t119 := tS.1.1
  have k9 := tS.1.2
  have em : fMax 0 (fMin h9 1024) = h9 := by unfold fMax fMin; split <;> split <;> omega
  obtain ⟨h1, hh1⟩ : ∃ h1, upI (upI (upI (upI (upI (upI (upI hi t 2 sp) t 3 h9) t 4 1) t 5 0) t 6 0) t 7 0) t 16 1 = h1 := ⟨_, rfl⟩
  have r7 : h1 t 7 = 0 := by rw [← hh1, upI_i (by decide), upI_eq]
  have EN := c_enter (d := d - 1) (f := f) (hi := h1) (Q := kon d 116 53 56 [vR (some t), vR r, vI sp, vI f, vI h9] [] Q) (tS.up1 (r := r)) r7 (by decide) (fun z => absurd z (by decide)) (fun h2 _ hE => by
    obtain ⟨m1, m2, m3, m4, m5, m6, m7⟩ := hE
    have fr : ∀ (b : Nat) i, ¬ (t ≤ b ∧ b ≤ t + 5) → h2 b i = hi b i := fun b i z => by
      rw [m7 b i (by omega) (by omega) (by omega), ← hh1, upI_a (by omega), upI_a (by omega), upI_a (by omega), upI_a (by omega), upI_a (by omega), upI_a (by omega), upI_a (by omega)]
    have ft : ∀ i, i ≠ 7 → i ≠ 8 → h2 t i = h1 t i := fun i z1 z2 => m7 t i (by omega) (by omega) (by omega)
    have E0 := q h2 ⟨by rw [ft 0 (by decide) (by decide), ← hh1, upI_i (by decide), upI_i (by decide), upI_i (by decide), upI_i (by decide), upI_i (by decide), upI_i (by decide), upI_i (by decide)], by rw [ft 2 (by decide) (by decide), ← hh1, upI_i (by decide), upI_i (by decide), upI_i (by decide), upI_i (by decide), upI_i (by decide), upI_i (by decide), upI_eq], by rw [ft 3 (by decide) (by decide), ← hh1, upI_i (by decide), upI_i (by decide), upI_i (by decide), upI_i (by decide), upI_i (by decide), upI_eq], by rw [ft 4 (by decide) (by decide), ← hh1, upI_i (by decide), upI_i (by decide), upI_i (by decide), upI_i (by decide), upI_eq], by rw [ft 5 (by decide) (by decide), ← hh1, upI_i (by decide), upI_i (by decide), upI_i (by decide), upI_eq], by rw [ft 6 (by decide) (by decide), ← hh1, upI_i (by decide), upI_i (by decide), upI_eq], m1, m2, by rw [ft 16 (by decide) (by decide), ← hh1, upI_eq], m3, m4, m5, fun k k0 k1 => by have := m6 k k0 k1; rw [show 26 * (0 : Int) + 16 + k = 16 + k by omega] at this; exact this, fr⟩
    simp only [kon, knt_some, knt_none, Option.toList_some, Option.toList_none, List.cons_append, List.nil_append]
    refine s116_56.mpr ?_
    refine (s116_57).mpr ?_
    exact E0
    )
  rw [← hh1] at EN
  rw [e116]
  refine s116_0.mpr (s116_1.mpr ?_)
  refine (s116_2 (by first | decide | assumption | omega)).mpr ?_
  refine s116_5.mpr (s116_6.mpr ?_)
  refine (s116_7 (by first | decide | assumption | omega)).mpr ?_
  refine s116_10.mpr (s116_11.mpr (s116_12.mpr (s116_14.mpr (s116_17.mpr (s116_20.mpr ?_)))))
  try simp (disch := first | decide | assumption | omega) only [em]
  refine (s116_23 (by first | decide | assumption | omega)).mpr ?_
  refine s116_26.mpr (s116_27.mpr ?_)
  try simp (disch := first | decide | assumption | omega) only [em]
  refine (s116_28 (by first | decide | assumption | omega)).mpr ?_
  refine s116_31.mpr (s116_32.mpr ?_)
  try simp (disch := first | decide | assumption | omega) only [em]
  refine (s116_33 (by first | decide | assumption | omega)).mpr ?_
  refine s116_36.mpr (s116_37.mpr ?_)
  try simp (disch := first | decide | assumption | omega) only [em]
  refine (s116_38 (by first | decide | assumption | omega)).mpr ?_
  refine s116_41.mpr (s116_42.mpr ?_)
  try simp (disch := first | decide | assumption | omega) only [em]
  refine (s116_43 (by first | decide | assumption | omega)).mpr ?_
  refine s116_46.mpr (s116_47.mpr ?_)
  try simp (disch := first | decide | assumption | omega) only [em]
  refine (s116_48 (by first | decide | assumption | omega)).mpr ?_
  refine s116_51.mpr (s116_52.mpr ?_)
  try simp (disch := first | decide | assumption | omega) only [em]
  refine (s116_53 (by first | decide | assumption | omega) (by first | decide | assumption | omega)).mpr ?_
  exact EN
/-- a task is taken, or made -/
def tkN (al : AL) (hi : HI) (hr : HR) (n : Int) (t : Nat) (al' : AL) (h1 : HI) (r1 : HR) : Prop := (hr 27 n = some t ∧ al' = al ∧ h1 = hi ∧ r1 = hr) ∨ (hr 27 n = none ∧ t = al.1 ∧ GA al al' 7 1922 ∧ al'.1 = t + 7 ∧ TkS al' r1 t ∧ r1 t 15 = some (t + 6) ∧ h1 t 0 = n ∧ (∀ a i, a < t → h1 a i = hi a i) ∧ r1 27 n = some t ∧ ∀ a i, a < t → ¬ (a = 27 ∧ i = n) → r1 a i = hr a i)
theorem x5_begin {sp h9 : Int} (hA : SA al) (hC : CR hr) (n0 : 0 ≤ n ∧ n < 12) (hT : ∀ t, hr 27 n = some t → TkS al hr t) (hc : 0 ≤ h9 ∧ h9 ≤ 1024) (hd : 2 ≤ d) (q : ∀ t al' h1 r1 hi', tkN al hi hr n t al' h1 r1 → TkS al' r1 t → bgM (upI h1 28 n 1) t sp h9 f hi' → Q (some (some (vR (some t)))) al' hi' (upR r1 t 1 (some N))) : Ev d 66 [vR (some 26), vI n, vR (some N), vI sp, vI f, vI h9] al hi hr Q := by
  have k26 : isK al 26 6 := hA.k (by decide) (by decide) rfl
  have g27 := cr_26_1 hC
  have g28 := cr_26_2 hC
  have al119 : 119 ≤ al.1 := hA.1
  have T24 : ∀ t al' h1 r1, tkN al hi hr n t al' h1 r1 → TkS al' r1 t → SA al' → CR r1 → r1 27 n = some t → Wp d 66 24 [vR (some 26), vI n, vR (some N), vI sp, vI f, vI h9] [] al' h1 r1 Q := by
    intro t al' h1 r1 hk tS hA2 hC' e27
    have k26' : isK al' 26 6 := hA2.k (by decide) (by decide) rfl
    have Q27 : isQ al' 27 = true := hA2.q (by decide) (by decide) (by decide)
    have K28 : isK al' 28 16 := hA2.k (by decide) (by decide) rfl
    have R28 : isR al' 28 = true := hA2.r (by decide) (by decide) (by decide)
    have f27 := cr_26_1 hC'
    have f28 := cr_26_2 hC'
    have k9 := tS.1.2
    have t119 := tS.1.1
    have l27 := SA.len (a := 27) (n := 12) hA2 (by decide) (by decide) rfl
    have l28 := SA.len (a := 28) (n := 12) hA2 (by decide) (by decide) rfl
    have z1 : fZ 1 = 1 := rfl
    have BT := c_beginTask (d := d - 1) (hi := upI h1 28 n (fZ 1)) (r := some N) (sp := sp) (h9 := h9) (f := f) (Q := kon d 66 43 46 [vR (some 26), vI n, vR (some N), vI sp, vI f, vI h9] [] Q) tS hc (by omega) (fun h3 hB => by
      have E0 := q t al' h1 r1 h3 hk tS hB
      have u27 : upR r1 t 1 (some N) 27 n = some t := by rw [upR_a (by omega)]; exact e27
      have v27 : upR r1 t 1 (some N) 26 1 = some 27 := by rw [upR_a (by omega)]; exact f27
      simp only [kon, knt_some, knt_none, Option.toList_some, Option.toList_none, List.cons_append, List.nil_append]
      refine s66_46.mpr ?_
      refine (s66_47 (by first | decide | assumption | omega)).mpr ?_
      refine s66_50.mpr ?_
      try simp (disch := first | decide | assumption | omega) only [v27]
      refine (s66_51 (by first | decide | assumption | omega) (by first | decide | assumption | omega) (by first | decide | assumption | omega)).mpr ?_
      refine (s66_52).mpr ?_
      first | (rw [u27]; exact E0) | skip
      )
    have T37 : Wp d 66 37 [vR (some 26), vI n, vR (some N), vI sp, vI f, vI h9] [vR (some t)] al' (upI h1 28 n (fZ 1)) r1 Q := by
      refine s66_37.mpr (s66_38.mpr (s66_39.mpr (s66_41.mpr ?_)))
      refine (s66_43 (by first | decide | assumption | omega) (by first | decide | assumption | omega)).mpr ?_
      exact BT
    refine s66_24.mpr ?_
    refine (s66_25 (by first | decide | assumption | omega)).mpr ?_
    refine s66_28.mpr (s66_29.mpr ?_)
    try simp (disch := first | decide | assumption | omega) only [f27, f28]
    refine (s66_30Z (by first | decide | assumption | omega) (by first | decide | assumption | omega) (by first | decide | assumption | omega)).mpr ?_
    refine s66_31.mpr ?_
    try simp (disch := first | decide | assumption | omega) only [f27, f28]
    refine (s66_32 (by first | decide | assumption | omega)).mpr ?_
    refine s66_35.mpr ?_
    try simp (disch := first | decide | assumption | omega) only [f27, f28]
    refine (s66_36 (by first | decide | assumption | omega) (by first | decide | assumption | omega) (by first | decide | assumption | omega)).mpr ?_
    rw [e27]
    exact T37
  cases e27 : hr 27 n with
  | some t =>
    have Z := T24 t al hi hr (Or.inl ⟨e27, rfl, rfl, rfl⟩) (hT t e27) hA hC e27
    have Q27 : isQ al 27 = true := hA.q (by decide) (by decide) (by decide)
    have l27 := SA.len (a := 27) (n := 12) hA (by decide) (by decide) rfl
    rw [e66]
    refine s66_0.mpr ?_
    refine (s66_1 (by first | decide | assumption | omega)).mpr ?_
    refine s66_4.mpr ?_
    try simp (disch := first | decide | assumption | omega) only [g27, e27]
    refine (s66_5 (by first | decide | assumption | omega) (by first | decide | assumption | omega) (by first | decide | assumption | omega)).mpr ?_
    refine s66_6.mpr (wif (fun c6 => ?_) (fun c6 => ?_))
    · skip
      exfalso; rw [e27] at c6; simp at c6
    · skip
      exact Z
  | none =>
    have Q27 : isQ al 27 = true := hA.q (by decide) (by decide) (by decide)
    have l27 := SA.len (a := 27) (n := 12) hA (by decide) (by decide) rfl
    obtain ⟨a1, ha1⟩ : ∃ a1, nwA al 9 0 17 = a1 := ⟨_, rfl⟩
    have kt : isK a1 al.1 9 := by rw [← ha1]; exact isK_new (by omega)
    have IT := c_initTask (d := d - 1) (al := a1) (t := al.1) (p := n) (r := some N) (hi := zeI hi al.1) (hr := zeR hr al.1) (Q := kon d 66 20 23 [vR (some 26), vI n, vR (some N), vI sp, vI f, vI h9] [vR (some al.1), vI n, vR (some 27)] Q) kt al119 (by rw [← ha1]; rfl) (fun al' hi' hr' gA tS e15 e1 e0 fi fr eL => by
      have GA1 : GA al a1 1 17 := by rw [← ha1]; exact GA.rf.nw
      have GA2 : GA al al' 7 1922 := (GA1.tr gA).mn (by decide) (by decide)
      have hA' : SA al' := GA2.sa hA
      have fr0 : ∀ a i, a < al.1 → hr' a i = hr a i := fun a i z => (fr a i z).trans (zeR_a (by omega))
      have fi0 : ∀ a i, a < al.1 → hi' a i = hi a i := fun a i z => (fi a i z).trans (zeI_a (by omega))
      have rr : ∀ a i, a < al.1 → ¬ (a = 27 ∧ i = n) → upR hr' 27 n (some al.1) a i = hr a i := fun a i z1 z2 => by
        unfold upR; rw [if_neg z2]; exact fr0 a i z1
      have hC' : CR (upR hr' 27 n (some al.1)) := fun pr hpr => by
        have : pr.1 < 119 ∧ pr.1 ≠ 27 := (show ∀ p ∈ crl, p.1 < 119 ∧ p.1 ≠ 27 by decide) pr hpr
        rw [rr _ _ (by omega) (by omega)]; exact hC pr hpr
      have tS' : TkS al' (upR hr' 27 n (some al.1)) al.1 := by
        unfold TkS at tS ⊢
        rw [upR_a (by omega), upR_a (by omega), upR_a (by omega), upR_a (by omega), upR_a (by omega)]
        exact tS
      have Z := T24 al.1 al' hi' (upR hr' 27 n (some al.1)) (Or.inr ⟨e27, rfl, GA2, eL, tS', by rw [upR_a (by omega)]; exact e15, e0, fi0, upR_eq, rr⟩) tS' hA' hC' upR_eq
      have K27 : isK al' 27 19 := hA'.k (by decide) (by decide) rfl
      have l27 : aln al' 27 = 12 := hA'.len (by decide) (by decide) rfl
      simp only [kon, knt_some, knt_none, Option.toList_some, Option.toList_none, List.cons_append, List.nil_append]
      refine (s66_23 K27 (by decide) (by omega) (by omega) tS.1.2).mpr ?_
      exact Z)
    rw [← ha1] at IT
    rw [e66]
    refine s66_0.mpr ?_
    refine (s66_1 (by first | decide | assumption | omega)).mpr ?_
    refine s66_4.mpr ?_
    try simp (disch := first | decide | assumption | omega) only [g27, e27]
    refine (s66_5 (by first | decide | assumption | omega) (by first | decide | assumption | omega) (by first | decide | assumption | omega)).mpr ?_
    refine s66_6.mpr (wif (fun c6 => ?_) (fun c6 => ?_))
    · skip
      refine s66_9.mpr ?_
      refine (s66_10 (by first | decide | assumption | omega)).mpr ?_
      refine s66_13.mpr (s66_14.mpr (s66_17.mpr (s66_18.mpr (s66_19.mpr ?_))))
      try simp (disch := first | decide | assumption | omega) only [g27, e27]
      refine (s66_20 (by omega)).mpr ?_
      exact IT
    · skip
      exfalso; exact absurd (by rw [e27]) c6
end CO0
