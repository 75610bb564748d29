/-! THE REFERENCE: load -/
section MLD
variable {d : Nat} {al : AL} {hi : HI} {hr : HR} {Q : QQ} {B : Int → Int}
/-- the text that stands on the tape, its first n bytes -/
def tB (hi : HI) (n : Int) : Int → Int := fun k => if 0 ≤ k ∧ k < n then hi 50 k % 256 else -1
theorem fB_m (x : Int) : fB x % 256 = x % 256 := by unfold fB; rw [Int.bmod_def]; split <;> omega
def wTk (a : Nat) (i : Int) : Prop := (a = 51 ∧ 24000 ≤ i ∧ i < 26000) ∨ (a = 52 ∧ i = 12) ∨ (a = 49 ∧ (i = 2 ∨ i = 26 ∨ i = 22 ∨ i = 23 ∨ i = 24))
theorem m_take {n : Int} (hA : SA al) (hR : MR hr) (h0 : 0 ≤ n) (h1 : n ≤ 2000)
    (ok : ∀ hi', FW wTk hi hi' → bAt hi' 12 = tB hi n → hi' 52 12 = n → hi' 49 2 = 0 → hi' 49 26 = 0 → hi' 49 22 = 0 → hi' 49 23 = -1 → hi' 49 24 = 1 → Q (some none) al hi' hr) : Ev d 265 [vR (some 49), vI n] al hi hr Q := by
  have kM : isK al 49 13 := hA.k (by decide) (by decide) rfl
  have l51 := SA.len (a := 51) (n := 26000) hA (by decide) (by decide) rfl
  have l50 := SA.len (a := 50) (n := 2000) hA (by decide) (by decide) rfl
  have l52 := SA.len (a := 52) (n := 13) hA (by decide) (by decide) rfl
  rw [e265]
  have T2 : Wp d 265 2 [vR (some 49), vI n, vI 0] [] al hi hr Q := by
    refine wp_cnt (N := n.toNat) (fun k ls h3 => ls = [vR (some 49), vI n, vI k] ∧ FW (fun a i => a = 51 ∧ 24000 ≤ i ∧ i < 26000) hi h3 ∧ (∀ q : Int, 0 ≤ q → q < k → h3 51 (24000 + q) = fB (hi 50 q))) ?_ ?_ _ _ ⟨rfl, FW.rf, fun j a b => absurd b (by omega)⟩
    · rintro k ls h3 hk ⟨rfl, w3, a51⟩ nx
      have e50 : h3 50 k = hi 50 k := w3 50 k (by omega)
      refine s265_2.mpr (s265_3.mpr ?_)
      refine s265_4.mpr (wif (fun c4 => ?_) (fun c4 => ?_))
      · skip
        refine s265_7.mpr ((s265_8 kM).mpr ?_)
        rw [mr_3 hR]
        refine s265_11.mpr (s265_14.mpr (s265_15.mpr (s265_16.mpr ((s265_17 kM).mpr ?_))))
        rw [mr_1 hR]
        refine s265_20.mpr ?_
        try simp (disch := first | decide | assumption | omega) only [upI_eq, upI_a, upI_i, upR_eq, upR_a, upR_i, fAdd_id, e50]
        refine (s265_21 (hA.k (by decide) (by decide) rfl) (by first | assumption | omega) (by first | assumption | omega)).mpr ?_
        try simp (disch := first | decide | assumption | omega) only [upI_eq, upI_a, upI_i, upR_eq, upR_a, upR_i, fAdd_id, e50]
        refine (s265_22 (hA.k (by decide) (by decide) rfl) (by first | assumption | omega) (by first | assumption | omega)).mpr ?_
        refine s265_23.mpr (s265_26.mpr ?_)
        try simp (disch := first | decide | assumption | omega) only [upI_eq, upI_a, upI_i, upR_eq, upR_a, upR_i, fAdd_id, e50]
        refine nx _ _ ⟨by rw [cast1], FW.up w3 ⟨rfl, by omega, by omega⟩, fun j a b => ?_⟩
        by_cases e : j = k
        · subst e; rw [upI_eq]
        · rw [upI_i (by omega)]; exact a51 j a (by omega)
      · skip
        exfalso; omega
    · rintro ls h3 ⟨rfl, w3, a51⟩
      have w3' : FW wTk hi h3 := w3.mn (fun a i h => Or.inl h)
      refine s265_2.mpr (s265_3.mpr ?_)
      refine s265_4.mpr (wif (fun c4 => ?_) (fun c4 => ?_))
      · skip
        exfalso; omega
      · skip
        refine s265_29.mpr ((s265_30 kM).mpr ?_)
        rw [mr_4 hR]
        refine s265_33.mpr (s265_35.mpr ?_)
        refine (s265_36 (hA.k (by decide) (by decide) rfl) (by first | assumption | omega) (by first | assumption | omega)).mpr ?_
        refine s265_37.mpr (s265_38.mpr ?_)
        refine (s265_39 kM).mpr ?_
        refine s265_42.mpr (s265_43.mpr ?_)
        refine (s265_44 kM).mpr ?_
        refine s265_47.mpr (s265_48.mpr ?_)
        refine (s265_49 kM).mpr ?_
        refine s265_52.mpr (s265_53.mpr ?_)
        refine (s265_54 kM).mpr ?_
        refine s265_57.mpr (s265_58.mpr ?_)
        refine (s265_59 kM (by first | assumption | omega)).mpr ?_
        refine (s265_62).mpr ?_
        refine ok _ (by repeat' (first | exact w3' | refine FW.up ?_ (by unfold wTk; omega))) ?_ (by (try simp (disch := decide) only [upI_eq, upI_a, upI_i, upR_eq, upR_a, upR_i])) (by (try simp (disch := decide) only [upI_eq, upI_a, upI_i, upR_eq, upR_a, upR_i])) (by (try simp (disch := decide) only [upI_eq, upI_a, upI_i, upR_eq, upR_a, upR_i])) (by (try simp (disch := decide) only [upI_eq, upI_a, upI_i, upR_eq, upR_a, upR_i])) (by (try simp (disch := decide) only [upI_eq, upI_a, upI_i, upR_eq, upR_a, upR_i])) (by (try simp (disch := decide) only [upI_eq, upI_a, upI_i, upR_eq, upR_a, upR_i]))
        funext k
        unfold bAt tB
        simp (disch := decide) only [upI_eq, upI_a, upI_i, upR_eq, upR_a, upR_i]
        by_cases c : 0 ≤ k ∧ k < n
        · rw [if_pos c, if_pos c, show (2000 * 12 + k : Int) = 24000 + k by omega, a51 k c.1 (by omega)]; exact fB_m _
        · rw [if_neg c, if_neg c]
  refine s265_0.mpr (s265_1.mpr ?_)
  exact T2
/-- a row's part, moved -/
def mvK (h : HI) (a : Nat) (F T k : Int) : HI := fun b i => if b = a ∧ T ≤ i ∧ i < T + k then h a (i + (F - T)) else h b i
theorem mv_ne {h : HI} {a b : Nat} {F T n i : Int} (hb : b ≠ a) : mvK h a F T n b i = h b i := by unfold mvK; rw [if_neg (fun q => hb q.1)]
theorem mv_in {h : HI} {a : Nat} {F T n i : Int} (h0 : T ≤ i) (h1 : i < T + n) : mvK h a F T n a i = h a (i + (F - T)) := by unfold mvK; rw [if_pos ⟨rfl, h0, h1⟩]
theorem mv_out {h : HI} {a b : Nat} {F T n i : Int} (h0 : ¬ (T ≤ i ∧ i < T + n)) : mvK h a F T n b i = h b i := by unfold mvK; rw [if_neg (fun q => h0 q.2)]
theorem mv_0 {h : HI} {a : Nat} {F T : Int} : mvK h a F T 0 = h := by funext b i; exact mv_out (by omega)
theorem mv_s {h : HI} {a : Nat} {F T k n : Int} (h0 : 0 ≤ k) (hk : k < n) (hdj : F + n ≤ T ∨ T + n ≤ F) : upI (mvK h a F T k) a (T + k) (h a (F + k)) = mvK h a F T (k + 1) := by
  funext b i
  by_cases c : b = a ∧ i = T + k
  · obtain ⟨rfl, rfl⟩ := c
    rw [upI_eq, mv_in (by omega) (by omega)]
    congr 1; omega
  · have e : upI (mvK h a F T k) a (T + k) (h a (F + k)) b i = mvK h a F T k b i := by unfold upI; rw [if_neg c]
    rw [e]
    by_cases c2 : b = a
    · subst c2
      by_cases c3 : T ≤ i ∧ i < T + k
      · rw [mv_in c3.1 c3.2, mv_in c3.1 (by omega)]
      · rw [mv_out c3, mv_out (fun q => c3 ⟨q.1, by have : ¬ i = T + k := fun e => c ⟨rfl, e⟩; omega⟩)]
    · rw [mv_ne c2, mv_ne c2]
theorem m_move {a : Nat} {fr to n F T : Int} (hK : isK al a 15) (n0 : 1 ≤ n ∧ n ≤ 1000) (hF : fr * n = F) (hT : to * n = T) (hf : F + n ≤ aln al a) (ht : T + n ≤ aln al a) (hm : 0 ≤ F ∧ F < 100000 ∧ 0 ≤ T ∧ T < 100000) (hdj : F + n ≤ T ∨ T + n ≤ F)
    (ok : Q (some none) al (mvK hi a F T n) hr) : Ev d 266 [vR (some a), vI fr, vI to, vI n] al hi hr Q := by
  rw [e266]
  have T3 : Wp d 266 3 [vR (some a), vI fr, vI to, vI n, vI 0] [] al hi hr Q := by
    refine wp_cnt (N := n.toNat) (fun k ls h3 => ls = [vR (some a), vI fr, vI to, vI n, vI k] ∧ h3 = mvK hi a F T k) ?_ ?_ _ _ ⟨rfl, mv_0.symm⟩
    · rintro k ls h3 hk ⟨rfl, rfl⟩ nx
      have eF : mvK hi a F T k a (F + k) = hi a (F + k) := mv_out (by omega)
      refine s266_3.mpr (s266_5.mpr ?_)
      refine s266_6.mpr (wif (fun c6 => ?_) (fun c6 => ?_))
      · skip
        refine s266_9.mpr (s266_10.mpr (s266_11.mpr (s266_12.mpr (s266_13.mpr (s266_15.mpr ?_)))))
        refine s266_16.mpr (s266_17.mpr (s266_18.mpr (s266_19.mpr (s266_20.mpr (s266_22.mpr ?_)))))
        try simp (disch := first | decide | assumption | omega) only [fMul_id, fAdd_id, hF, hT, eF]
        refine (s266_23 (by first | decide | assumption | omega) (by first | decide | assumption | omega) (by first | decide | assumption | omega)).mpr ?_
        try simp (disch := first | decide | assumption | omega) only [fMul_id, fAdd_id, hF, hT, eF]
        refine (s266_24 (by first | decide | assumption | omega) (by first | decide | assumption | omega) (by first | decide | assumption | omega)).mpr ?_
        refine s266_25.mpr (s266_28.mpr ?_)
        try simp (disch := first | decide | assumption | omega) only [fMul_id, fAdd_id, hF, hT, eF]
        refine nx _ _ ⟨by rw [cast1], mv_s (by omega) (by omega) hdj⟩
      · skip
        exfalso; omega
    · rintro ls h3 ⟨rfl, rfl⟩
      refine s266_3.mpr (s266_5.mpr ?_)
      refine s266_6.mpr (wif (fun c6 => ?_) (fun c6 => ?_))
      · skip
        exfalso; omega
      · skip
        refine (s266_31).mpr ?_
        rw [show ((n.toNat : Nat) : Int) = n by omega]; exact ok
  refine s266_0.mpr (s266_1.mpr ?_)
  exact T3
/-- a text, moved -/
def mvB (h : HI) (F T k : Int) : HI := fun b i => if b = 51 ∧ T ≤ i ∧ i < T + k then fB (h 51 (i + (F - T))) else h b i
theorem mb_ne {h : HI} {b : Nat} {F T n i : Int} (hb : b ≠ 51) : mvB h F T n b i = h b i := by unfold mvB; rw [if_neg (fun q => hb q.1)]
theorem mb_in {h : HI} {F T n i : Int} (h0 : T ≤ i) (h1 : i < T + n) : mvB h F T n 51 i = fB (h 51 (i + (F - T))) := by unfold mvB; rw [if_pos ⟨rfl, h0, h1⟩]
theorem mb_out {h : HI} {b : Nat} {F T n i : Int} (h0 : ¬ (T ≤ i ∧ i < T + n)) : mvB h F T n b i = h b i := by unfold mvB; rw [if_neg (fun q => h0 q.2)]
theorem mb_0 {h : HI} {F T : Int} : mvB h F T 0 = h := by funext b i; exact mb_out (by omega)
theorem mb_s {h : HI} {F T k n : Int} (h0 : 0 ≤ k) (hk : k < n) (hdj : F + n ≤ T ∨ T + n ≤ F) : upI (mvB h F T k) 51 (T + k) (fB (h 51 (F + k))) = mvB h F T (k + 1) := by
  funext b i
  by_cases c : b = 51 ∧ i = T + k
  · obtain ⟨rfl, rfl⟩ := c
    rw [upI_eq, mb_in (by omega) (by omega)]
    congr 2; omega
  · have e : upI (mvB h F T k) 51 (T + k) (fB (h 51 (F + k))) b i = mvB h F T k b i := by unfold upI; rw [if_neg c]
    rw [e]
    by_cases c2 : b = 51
    · subst c2
      by_cases c3 : T ≤ i ∧ i < T + k
      · rw [mb_in c3.1 c3.2, mb_in c3.1 (by omega)]
      · rw [mb_out c3, mb_out (fun q => c3 ⟨q.1, by have : ¬ i = T + k := fun e => c ⟨rfl, e⟩; omega⟩)]
    · rw [mb_ne c2, mb_ne c2]
/-- a module's rows, copied to another place -/
def cpH (h : HI) (fr to : Int) : HI :=
  mvK (mvK (mvK (mvK (mvK (mvK (mvK (mvK (mvK (mvK (mvK (mvK (mvK (mvK (mvK (mvK (mvK (mvB h (2000 * fr) (2000 * to) (h 52 fr))
    52 fr to 1) 53 fr to 1) 54 fr to 1) 55 fr to 1) 57 (fr * 8) (to * 8) 8) 58 (fr * 48) (to * 48) 48) 59 (fr * 4) (to * 4) 4) 60 (fr * 32) (to * 32) 32) 61 (fr * 32) (to * 32) 32) 62 (fr * 128) (to * 128) 128) 63 (fr * 128) (to * 128) 128) 64 (fr * 10) (to * 10) 10) 65 (fr * 40) (to * 40) 40) 66 (fr * 10) (to * 10) 10) 67 (fr * 10) (to * 10) 10) 68 (fr * 10) (to * 10) 10) 69 (fr * 10) (to * 10) 10
theorem m_copy {fr to : Int} (hA : SA al) (hR : MR hr) (hd : 1 ≤ d) (f0 : 0 ≤ fr ∧ fr < 13) (t0 : 0 ≤ to ∧ to < 13) (hne : fr ≠ to) (hs : 0 ≤ hi 52 fr ∧ hi 52 fr ≤ 2000)
    (ok : Q (some none) al (cpH hi fr to) hr) : Ev d 267 [vR (some 49), vI fr, vI to] al hi hr Q := by
  have kM : isK al 49 13 := hA.k (by decide) (by decide) rfl
  have l52 := SA.len (a := 52) (n := 13) hA (by decide) (by decide) rfl
  have l51 := SA.len (a := 51) (n := 26000) hA (by decide) (by decide) rfl
  have l53 := SA.len (a := 53) (n := 13) hA (by decide) (by decide) rfl
  have l54 := SA.len (a := 54) (n := 13) hA (by decide) (by decide) rfl
  have l55 := SA.len (a := 55) (n := 13) hA (by decide) (by decide) rfl
  have l57 := SA.len (a := 57) (n := 104) hA (by decide) (by decide) rfl
  have l58 := SA.len (a := 58) (n := 624) hA (by decide) (by decide) rfl
  have l59 := SA.len (a := 59) (n := 52) hA (by decide) (by decide) rfl
  have l60 := SA.len (a := 60) (n := 416) hA (by decide) (by decide) rfl
  have l61 := SA.len (a := 61) (n := 416) hA (by decide) (by decide) rfl
  have l62 := SA.len (a := 62) (n := 1664) hA (by decide) (by decide) rfl
  have l63 := SA.len (a := 63) (n := 1664) hA (by decide) (by decide) rfl
  have l64 := SA.len (a := 64) (n := 130) hA (by decide) (by decide) rfl
  have l65 := SA.len (a := 65) (n := 520) hA (by decide) (by decide) rfl
  have l66 := SA.len (a := 66) (n := 130) hA (by decide) (by decide) rfl
  have l67 := SA.len (a := 67) (n := 130) hA (by decide) (by decide) rfl
  have l68 := SA.len (a := 68) (n := 130) hA (by decide) (by decide) rfl
  have l69 := SA.len (a := 69) (n := 130) hA (by decide) (by decide) rfl
  rw [e267]
  have T42 : ∀ l3 h, h = mvB hi (2000 * fr) (2000 * to) (hi 52 fr) → Wp d 267 42 [vR (some 49), vI fr, vI to, l3] [] al h hr Q := by
    intro l3 h hh
    refine s267_42.mpr ((s267_43 kM).mpr ?_)
    rw [mr_4 hR]
    refine s267_46.mpr (s267_47.mpr (s267_48.mpr ?_))
    refine (s267_49 (by omega)).mpr ?_
    refine m_move (hA.k (by decide) (by decide) rfl) (by decide) rfl rfl (by omega) (by omega) (by omega) (by omega) ?_
    refine s267_52.mpr ((s267_53 kM).mpr ?_)
    rw [mr_5 hR]
    refine s267_56.mpr (s267_57.mpr (s267_58.mpr ?_))
    refine (s267_59 (by omega)).mpr ?_
    refine m_move (hA.k (by decide) (by decide) rfl) (by decide) rfl rfl (by omega) (by omega) (by omega) (by omega) ?_
    refine s267_62.mpr ((s267_63 kM).mpr ?_)
    rw [mr_6 hR]
    refine s267_66.mpr (s267_67.mpr (s267_68.mpr ?_))
    refine (s267_69 (by omega)).mpr ?_
    refine m_move (hA.k (by decide) (by decide) rfl) (by decide) rfl rfl (by omega) (by omega) (by omega) (by omega) ?_
    refine s267_72.mpr ((s267_73 kM).mpr ?_)
    rw [mr_7 hR]
    refine s267_76.mpr (s267_77.mpr (s267_78.mpr ?_))
    refine (s267_79 (by omega)).mpr ?_
    refine m_move (hA.k (by decide) (by decide) rfl) (by decide) rfl rfl (by omega) (by omega) (by omega) (by omega) ?_
    refine s267_82.mpr ((s267_83 kM).mpr ?_)
    rw [mr_9 hR]
    refine s267_86.mpr (s267_87.mpr (s267_88.mpr ?_))
    refine (s267_90 (by omega)).mpr ?_
    refine m_move (hA.k (by decide) (by decide) rfl) (by decide) rfl rfl (by omega) (by omega) (by omega) (by omega) ?_
    refine s267_93.mpr ((s267_94 kM).mpr ?_)
    rw [mr_10 hR]
    refine s267_97.mpr (s267_98.mpr (s267_99.mpr ?_))
    refine (s267_101 (by omega)).mpr ?_
    refine m_move (hA.k (by decide) (by decide) rfl) (by decide) rfl rfl (by omega) (by omega) (by omega) (by omega) ?_
    refine s267_104.mpr ((s267_105 kM).mpr ?_)
    rw [mr_11 hR]
    refine s267_108.mpr (s267_109.mpr (s267_110.mpr ?_))
    refine (s267_111 (by omega)).mpr ?_
    refine m_move (hA.k (by decide) (by decide) rfl) (by decide) rfl rfl (by omega) (by omega) (by omega) (by omega) ?_
    refine s267_114.mpr ((s267_115 kM).mpr ?_)
    rw [mr_12 hR]
    refine s267_118.mpr (s267_119.mpr (s267_120.mpr ?_))
    refine (s267_122 (by omega)).mpr ?_
    refine m_move (hA.k (by decide) (by decide) rfl) (by decide) rfl rfl (by omega) (by omega) (by omega) (by omega) ?_
    refine s267_125.mpr ((s267_126 kM).mpr ?_)
    rw [mr_13 hR]
    refine s267_129.mpr (s267_130.mpr (s267_131.mpr ?_))
    refine (s267_133 (by omega)).mpr ?_
    refine m_move (hA.k (by decide) (by decide) rfl) (by decide) rfl rfl (by omega) (by omega) (by omega) (by omega) ?_
    refine s267_136.mpr ((s267_137 kM).mpr ?_)
    rw [mr_14 hR]
    refine s267_140.mpr (s267_141.mpr (s267_142.mpr ?_))
    refine (s267_145 (by omega)).mpr ?_
    refine m_move (hA.k (by decide) (by decide) rfl) (by decide) rfl rfl (by omega) (by omega) (by omega) (by omega) ?_
    refine s267_148.mpr ((s267_149 kM).mpr ?_)
    rw [mr_15 hR]
    refine s267_152.mpr (s267_153.mpr (s267_154.mpr ?_))
    refine (s267_157 (by omega)).mpr ?_
    refine m_move (hA.k (by decide) (by decide) rfl) (by decide) rfl rfl (by omega) (by omega) (by omega) (by omega) ?_
    refine s267_160.mpr ((s267_161 kM).mpr ?_)
    rw [mr_16 hR]
    refine s267_164.mpr (s267_165.mpr (s267_166.mpr ?_))
    refine (s267_168 (by omega)).mpr ?_
    refine m_move (hA.k (by decide) (by decide) rfl) (by decide) rfl rfl (by omega) (by omega) (by omega) (by omega) ?_
    refine s267_171.mpr ((s267_172 kM).mpr ?_)
    rw [mr_17 hR]
    refine s267_175.mpr (s267_176.mpr (s267_177.mpr ?_))
    refine (s267_179 (by omega)).mpr ?_
    refine m_move (hA.k (by decide) (by decide) rfl) (by decide) rfl rfl (by omega) (by omega) (by omega) (by omega) ?_
    refine s267_182.mpr ((s267_183 kM).mpr ?_)
    rw [mr_18 hR]
    refine s267_186.mpr (s267_187.mpr (s267_188.mpr ?_))
    refine (s267_190 (by omega)).mpr ?_
    refine m_move (hA.k (by decide) (by decide) rfl) (by decide) rfl rfl (by omega) (by omega) (by omega) (by omega) ?_
    refine s267_193.mpr ((s267_194 kM).mpr ?_)
    rw [mr_19 hR]
    refine s267_197.mpr (s267_198.mpr (s267_199.mpr ?_))
    refine (s267_201 (by omega)).mpr ?_
    refine m_move (hA.k (by decide) (by decide) rfl) (by decide) rfl rfl (by omega) (by omega) (by omega) (by omega) ?_
    refine s267_204.mpr ((s267_205 kM).mpr ?_)
    rw [mr_20 hR]
    refine s267_208.mpr (s267_209.mpr (s267_210.mpr ?_))
    refine (s267_212 (by omega)).mpr ?_
    refine m_move (hA.k (by decide) (by decide) rfl) (by decide) rfl rfl (by omega) (by omega) (by omega) (by omega) ?_
    refine s267_215.mpr ((s267_216 kM).mpr ?_)
    rw [mr_21 hR]
    refine s267_219.mpr (s267_220.mpr (s267_221.mpr ?_))
    refine (s267_223 (by omega)).mpr ?_
    refine m_move (hA.k (by decide) (by decide) rfl) (by decide) rfl rfl (by omega) (by omega) (by omega) (by omega) ?_
    refine (s267_226).mpr ?_
    subst hh; simp only [Int.mul_one]; exact ok
  have T2 : Wp d 267 2 [vR (some 49), vI fr, vI to, vI 0] [] al hi hr Q := by
    refine wp_cnt (N := (hi 52 fr).toNat) (fun k ls h3 => ls = [vR (some 49), vI fr, vI to, vI k] ∧ h3 = mvB hi (2000 * fr) (2000 * to) k) ?_ ?_ _ _ ⟨rfl, mb_0.symm⟩
    · rintro k ls h3 hk ⟨rfl, rfl⟩ nx
      have e52 : mvB hi (2000 * fr) (2000 * to) k 52 fr = hi 52 fr := mb_ne (by decide)
      have eF : mvB hi (2000 * fr) (2000 * to) k 51 (2000 * fr + k) = hi 51 (2000 * fr + k) := mb_out (by omega)
      refine s267_2.mpr (s267_3.mpr ((s267_4 kM).mpr ?_))
      rw [mr_4 hR]
      refine s267_7.mpr ?_
      refine (s267_8 (hA.k (by decide) (by decide) rfl) (by first | assumption | omega) (by first | assumption | omega)).mpr ?_
      try simp (disch := first | decide | assumption | omega) only [fMul_id, fAdd_id, eF, e52]
      refine s267_9.mpr (wif (fun c9 => ?_) (fun c9 => ?_))
      · skip
        refine s267_12.mpr ((s267_13 kM).mpr ?_)
        rw [mr_3 hR]
        refine s267_16.mpr (s267_19.mpr (s267_20.mpr (s267_21.mpr (s267_22.mpr (s267_23.mpr ?_)))))
        refine (s267_24 kM).mpr ?_
        rw [mr_3 hR]
        refine s267_27.mpr (s267_30.mpr (s267_31.mpr (s267_32.mpr (s267_33.mpr ?_))))
        try simp (disch := first | decide | assumption | omega) only [fMul_id, fAdd_id, eF, e52]
        refine (s267_34 (hA.k (by decide) (by decide) rfl) (by first | assumption | omega) (by first | assumption | omega)).mpr ?_
        try simp (disch := first | decide | assumption | omega) only [fMul_id, fAdd_id, eF, e52]
        refine (s267_35 (hA.k (by decide) (by decide) rfl) (by first | assumption | omega) (by first | assumption | omega)).mpr ?_
        refine s267_36.mpr (s267_39.mpr ?_)
        try simp (disch := first | decide | assumption | omega) only [fMul_id, fAdd_id, eF, e52]
        refine nx _ _ ⟨by rw [cast1], mb_s (n := hi 52 fr) (by omega) (by omega) (by omega)⟩
      · skip
        exfalso; omega
    · rintro ls h3 ⟨rfl, rfl⟩
      have e52 : mvB hi (2000 * fr) (2000 * to) ((hi 52 fr).toNat : Int) 52 fr = hi 52 fr := mb_ne (by decide)
      refine s267_2.mpr (s267_3.mpr ((s267_4 kM).mpr ?_))
      rw [mr_4 hR]
      refine s267_7.mpr ?_
      refine (s267_8 (hA.k (by decide) (by decide) rfl) (by first | assumption | omega) (by first | assumption | omega)).mpr ?_
      try simp (disch := first | decide | assumption | omega) only [e52]
      refine s267_9.mpr (wif (fun c9 => ?_) (fun c9 => ?_))
      · skip
        exfalso; omega
      · skip
        exact T42 _ _ (by rw [show (((hi 52 fr).toNat : Nat) : Int) = hi 52 fr by omega])
  refine s267_0.mpr (s267_1.mpr ?_)
  exact T2
end MLD
