/-! FACES: about, and what a process is when it is asked; the reference -/
section FA0
variable {d : Nat} {al : AL} {hi : HI} {hr : HR} {Q : QQ} {s : HI} {T : TXs} {p w v v' : Int}
theorem lkp_of (h : INV T s) (p0 : 0 ≤ p ∧ p < 12) (c : s 89 p < 4) : ∃ m f X pc fl, Lk T s p m f X pc fl (opA (T m) f pc) (agA (T m) f pc) ∧ LkP (T m) s p m f (cAt (T m) f) pc ∧ LkG (T m) s p (cAt (T m) f) pc := by
  obtain ⟨h54, hJ⟩ := h
  obtain ⟨m, A, X, hP, hL, pc0, hA⟩ := hJ.start p0 c
  obtain ⟨f, hf⟩ : ∃ f, s 95 (ai s p) = f := ⟨_, rfl⟩
  obtain ⟨pc, hpc⟩ : ∃ pc, s 96 (ai s p) = pc := ⟨_, rfl⟩
  rw [hf] at hP hL
  rw [hpc] at pc0 hA
  have hmg := hP.mg
  have hS := hmg.2.1.2.1
  have hN := hmg.2.1.2.2.1
  have hMB := hmg.2.1.1
  have f0 := hP.2.2.2.2.1.1
  obtain ⟨x16, hbg⟩ := hL.2.2.1 pc X pc0 hA
  have hvX := hL.2.2.2 pc X pc0 hA
  obtain ⟨k1, k2, k3, k4, k5⟩ := code_at hMB hS f0 hbg
  have hrg : ∀ k, -1 ≤ (T m) k ∧ (T m) k ≤ 255 := fun k => by rw [← k5]; exact bAt_rng m k
  have hF := insF hS hN hrg f0 hbg
  obtain ⟨fl, ts9, hfl⟩ := hL.1.2 pc X pc0 hA
  have hop := opk_of hS hN hrg f0.1 f0.2 hbg
  have n10 : nFn (T m) ≤ 10 := hS.2.2.2.2.2.2.2.2.2.1
  have hm := hmg.1
  exact ⟨m, f, X, pc, fl, ⟨hP, hpc, pc0, ts9, hvX, ⟨rfl, rfl⟩, hF, fun q hq => (hfl q hq).2.1, fun q hq => ⟨(hop.2.2 X fl hvX ts9 q hq).1, (hfl q hq).1⟩, k1, k2⟩, ⟨hP.2.ap, hP.2.1.2.2.1, ⟨by omega, by omega⟩, hf, ⟨f0.1, by omega⟩, hpc, pc0, rfl, k3, k1, k2, k4, k5⟩, so_lkg hP ts9 hF⟩
theorem r_canGo2 (hA : SA al) (hR : MR hr) (hd : 8 ≤ d) (hE : RelR hi s) (hI : INV T s) (p0 : 0 ≤ p ∧ p < 12) (c : s 89 p < 4) (y : cgS T s p → Q (some (some (vI 1))) al hi hr) (n : ¬ cgS T s p → Q (some (some (vI 0))) al hi hr) : Ev d 306 [vR (some 49), vI p] al hi hr Q := by
  obtain ⟨m, f, X, x, fl, -, ⟨l1, l2, l3, l4, l5, l6, l7, l8, l9, l10, l11, l12, l13⟩, ⟨g38, g37⟩⟩ := lkp_of hI p0 c
  have H := Sm.rf hE.1
  have ea : ai hi p = ai s p := H.ai_
  have hap : AP hi p := l1.n (H.e (by omega))
  have x91 : hi 91 p = m := (H.e (by omega)).trans l2
  have x95 : hi 95 (ai hi p) = f := by rw [ea]; exact (H.e (by omega)).trans l4
  have x96 : hi 96 (ai hi p) = x := by rw [ea]; exact (H.e (by omega)).trans l6
  have x69 : hi 69 (10 * m + f) = cAt (T m) f := (H.e (by omega)).trans l9
  have x52 : hi 52 m ≤ 2000 := by rw [H.e (by omega)]; exact l12
  have xB : bAt hi m = T m := by
    rw [← l13]; funext k; unfold bAt; rw [H.e (a := 52) (by omega), H.e (a := 51) (by omega)]
  have eop : op9 T s p = T m (cAt (T m) f + x) := by unfold op9 qq9 fn9 pc9; rw [l2, l4, l6]
  have eag : ag9 T s p = T m (cAt (T m) f + x + 1) := by unfold ag9 qq9 fn9 pc9; rw [l2, l4, l6]
  have C := H.cgO_ (p := p) (o := T m (cAt (T m) f + x)) (t := T m (cAt (T m) f + x + 1))
  have eh : hg hi p = hg s p := H.hg_
  rw [cgO_S, eop, eag] at y n
  refine r_canGo hA hR (by omega) hap x91 x95 x96 l3 l5 x69 l10 l7 l11 x52 xB (by omega) (fun z => ?_) (fun z => ?_) (fun z => y (C.mp z)) (fun z => n (fun u => z (C.mpr u)))
  · rw [eh, H.tv_]; exact g38 z
  · rw [eh, H.dep_, H.ts_, H.tv_, H.tv_]
    obtain ⟨y1, y2, y3, y4⟩ := g37 z
    exact ⟨y1, y2, fun y => (EnO.e H).mpr (y3 y), y4⟩
/-- none below n can go on -/
def noG (T : TXs) (s : HI) (n : Int) : Prop := ∀ p, 0 ≤ p → p < n → ¬ (s 89 p < 4 ∧ cgS T s p)
def lvn (s : HI) : Nat → Int
  | 0 => 0
  | n + 1 => lvn s n + (if s 89 n < 4 then 1 else 0)
def chn (s : HI) : Nat → Int
  | 0 => 0
  | n + 1 => chn s n + (if s 112 (2 * n) ≠ -1 ∨ s 112 (2 * n + 1) ≠ -1 then 1 else 0)
def AbA (T : TXs) (s : HI) (w v : Int) : Prop := if w = 0 then v = s 49 52 else if w = 1 then (noG T s 12 ∧ v = 1) ∨ (¬ noG T s 12 ∧ v = 0) else if w = 2 then v = lvn s 12 else if w = 3 then v = chn s 12 else if w = 4 then v = bcn s 128 else if w = 5 then v = bcl s 128 else if w = 6 then v = s 49 55 else v = -1
theorem AbA_u (h : AbA T s w v) (h' : AbA T s w v') : v = v' := by
  unfold AbA at h h'
  by_cases c0 : w = 0
  · rw [if_pos c0] at h h'; omega
  rw [if_neg c0] at h h'
  by_cases c1 : w = 1
  · rw [if_pos c1] at h h'
    rcases h with ⟨a, b⟩ | ⟨a, b⟩
    · rcases h' with ⟨a', b'⟩ | ⟨a', b'⟩
      · omega
      · exact absurd a a'
    · rcases h' with ⟨a', b'⟩ | ⟨a', b'⟩
      · exact absurd a' a
      · omega
  rw [if_neg c1] at h h'
  by_cases c2 : w = 2
  · rw [if_pos c2] at h h'; omega
  rw [if_neg c2] at h h'
  by_cases c3 : w = 3
  · rw [if_pos c3] at h h'; omega
  rw [if_neg c3] at h h'
  by_cases c4 : w = 4
  · rw [if_pos c4] at h h'; omega
  rw [if_neg c4] at h h'
  by_cases c5 : w = 5
  · rw [if_pos c5] at h h'; omega
  rw [if_neg c5] at h h'
  by_cases c6 : w = 6
  · rw [if_pos c6] at h h'; omega
  rw [if_neg c6] at h h'
  omega
theorem AbA_0 (h : w = 0) : AbA T s w (s 49 52) := by unfold AbA; rw [if_pos h]
theorem AbA_1 (h : w = 1) (z : noG T s 12) : AbA T s w 1 := by unfold AbA; rw [if_neg (by omega), if_pos h]; exact Or.inl ⟨z, rfl⟩
theorem AbA_1n (h : w = 1) (z : ¬ noG T s 12) : AbA T s w 0 := by unfold AbA; rw [if_neg (by omega), if_pos h]; exact Or.inr ⟨z, rfl⟩
theorem AbA_2 (h : w = 2) : AbA T s w (lvn s 12) := by unfold AbA; rw [if_neg (by omega), if_neg (by omega), if_pos h]
theorem AbA_3 (h : w = 3) : AbA T s w (chn s 12) := by unfold AbA; rw [if_neg (by omega), if_neg (by omega), if_neg (by omega), if_pos h]
theorem AbA_4 (h : w = 4) : AbA T s w (bcn s 128) := by unfold AbA; rw [if_neg (by omega), if_neg (by omega), if_neg (by omega), if_neg (by omega), if_pos h]
theorem AbA_5 (h : w = 5) : AbA T s w (bcl s 128) := by unfold AbA; rw [if_neg (by omega), if_neg (by omega), if_neg (by omega), if_neg (by omega), if_neg (by omega), if_pos h]
theorem AbA_6 (h : w = 6) : AbA T s w (s 49 55) := by unfold AbA; rw [if_neg (by omega), if_neg (by omega), if_neg (by omega), if_neg (by omega), if_neg (by omega), if_neg (by omega), if_pos h]
theorem AbA_n (h : w ∉ ([0, 1, 2, 3, 4, 5, 6] : List Int)) : AbA T s w (-1) := by
  simp only [List.mem_cons, List.not_mem_nil, or_false, not_or] at h
  unfold AbA; rw [if_neg (by omega), if_neg (by omega), if_neg (by omega), if_neg (by omega), if_neg (by omega), if_neg (by omega), if_neg (by omega)]
theorem bcn_bb : ∀ n : Nat, 0 ≤ bcn s n ∧ bcn s n ≤ n
  | 0 => ⟨Int.le_refl _, Int.le_refl _⟩
  | n + 1 => by
    have := bcn_bb n
    unfold bcn
    split <;> omega
theorem lvn_b : ∀ n : Nat, 0 ≤ lvn s n ∧ lvn s n ≤ n
  | 0 => ⟨Int.le_refl _, Int.le_refl _⟩
  | n + 1 => by
    have := lvn_b n
    unfold lvn
    split <;> omega
theorem chn_b : ∀ n : Nat, 0 ≤ chn s n ∧ chn s n ≤ n
  | 0 => ⟨Int.le_refl _, Int.le_refl _⟩
  | n + 1 => by
    have := chn_b n
    unfold chn
    split <;> omega
theorem bcl_e {h : HI} (e : ∀ b, h 109 b = s 109 b) : ∀ n : Nat, bcl h n = bcl s n
  | 0 => rfl
  | n + 1 => by unfold bcl; rw [bcl_e e n, e]
theorem r_about (hA : SA al) (hR : MR hr) (hd : 12 ≤ d) (hE : RelR hi s) (hb : hi 49 51 = 0 ∨ hi 49 51 = 1) (hI : hi 49 51 = 1 → INV T s)
    (q : ∀ v, (if hi 49 51 = 1 then AbA T s w v else v = -1) → Q (some (some (vI v))) al (upI hi 49 0 0) hr) : Ev d 322 [vR (some 49), vI w] al hi hr Q := by
  have kM : isK al 49 13 := hA.k (by decide) (by decide) rfl
  have l89 := SA.len (a := 89) (n := 12) hA (by decide) (by decide) rfl
  have l109 := SA.len (a := 109) (n := 128) hA (by decide) (by decide) rfl
  obtain ⟨h, hh⟩ : ∃ h, upI hi 49 0 0 = h := ⟨_, rfl⟩
  have e51 : h 49 51 = hi 49 51 := by rw [← hh]; exact upI_i (by decide)
  have hE1 : RelR h s := by rw [← hh]; exact hE.y (by omega)
  have H := Sm.rf hE1.1
  rw [hh] at q
  rw [e322]
  by_cases cb : hi 49 51 = 1
  case neg =>
    have E0 := q (-1) (by rw [if_neg cb])
    refine s322_0.mpr (s322_1.mpr ?_)
    refine (s322_2 kM).mpr ?_
    refine s322_5.mpr ?_
    try simp (disch := first | decide | assumption | omega) only [hh, e51]
    refine (s322_6 kM).mpr ?_
    try simp (disch := first | decide | assumption | omega) only [hh, e51]
    refine s322_9.mpr (wif (fun c9 => ?_) (fun c9 => ?_))
    · skip
      refine s322_12.mpr ?_
      refine (s322_13).mpr ?_
      exact E0
    · skip
      exfalso; omega
  have hI := hI cb
  simp only [if_pos cb] at q
  have e52 : h 49 52 = s 49 52 := H.e49 (by omega)
  have e55 : h 49 55 = s 49 55 := H.e49 (by omega)
  have e89 : ∀ i, h 89 i = s 89 i := fun i => H.e (by omega)
  have e109 : ∀ i, h 109 i = s 109 i := fun i => H.e (by omega)
  have e112 : ∀ i, h 112 i = s 112 i := fun i => H.e (by omega)
  have hBk : BkO h := fun b b0 b1 => by
    have := hI.2.1.2.2.2.2.2.2.1 b b0 b1
    rw [e109]; omega
  -- 1
  have T67 : w = 1 → ∀ (j : Nat) (k : Int), k + j = 12 → 0 ≤ k → noG T s k → Wp d 322 67 [vR (some 49), vI w, vI 0, vI k] [] al h hr Q := by
    intro hw j
    induction j with
    | zero =>
      intro k hk k0 hN
      have ek : k = 12 := by omega
      subst ek
      have E0 := q 1 (AbA_1 hw hN)
      refine s322_67.mpr (s322_68.mpr ?_)
      refine s322_70.mpr (wif (fun c70 => ?_) (fun c70 => ?_))
      · skip
        exfalso; omega
      · skip
        refine s322_99.mpr ?_
        refine (s322_100).mpr ?_
        exact E0
    | succ j ih =>
      intro k hk k0 hN
      have NX := ih (k + 1) (by omega) (by omega)
      by_cases c : s 89 k < 4
      · have CG : Ev (d - 1) 306 [vR (some 49), vI k] al h hr (kon d 322 85 88 [vR (some 49), vI w, vI 0, vI k] [] Q) := by
          refine r_canGo2 hA hR (by omega) hE1 hI ⟨k0, by omega⟩ c (fun z => ?_) (fun z => ?_)
          · have E0 := q 0 (AbA_1n hw (fun y => y k k0 (by omega) ⟨c, z⟩))
            simp only [kon, knt_some, knt_none, Option.toList_some, Option.toList_none, List.cons_append, List.nil_append]
            refine s322_88.mpr (wif (fun c88 => ?_) (fun c88 => ?_))
            · skip
              exact absurd ‹(1 : Int) = 0› (by decide)
            · skip
              refine s322_91.mpr ?_
              refine (s322_92).mpr ?_
              exact E0
          · have NX := NX (fun p z1 z2 z3 => by
              by_cases y : p = k
              · subst y; exact z z3.2
              · exact hN p z1 (by omega) z3)
            simp only [kon, knt_some, knt_none, Option.toList_some, Option.toList_none, List.cons_append, List.nil_append]
            refine s322_88.mpr (wif (fun c88 => ?_) (fun c88 => ?_))
            · skip
              refine s322_93.mpr (s322_96.mpr ?_)
              try simp (disch := first | decide | assumption | omega) only [fAdd_id]
              exact NX
            · skip
              exact absurd rfl (by assumption)
        refine s322_67.mpr (s322_68.mpr ?_)
        refine s322_70.mpr (wif (fun c70 => ?_) (fun c70 => ?_))
        · first
          | (exfalso; omega)
          | skip
            refine s322_73.mpr ((s322_74 kM).mpr ?_)
            rw [mr_59 hR]
            refine s322_77.mpr ?_
            refine (s322_78 (hA.k (by decide) (by decide) rfl) (by first | assumption | omega) (by first | assumption | omega)).mpr ?_
            refine s322_79.mpr ?_
            try simp (disch := first | decide | assumption | omega) only [e89]
            refine s322_80.mpr (wif (fun c80 => ?_) (fun c80 => ?_))
            · first
              | (exfalso; omega)
              | skip
                refine s322_83.mpr (s322_84.mpr ?_)
                refine (s322_85 (by omega) kM).mpr ?_
                exact CG
            · first
              | (exfalso; omega)
              | skip
                exfalso; omega
        · first
          | (exfalso; omega)
          | skip
            exfalso; omega
      · have NX := NX (fun p z1 z2 z3 => by
          by_cases y : p = k
          · subst y; exact c z3.1
          · exact hN p z1 (by omega) z3)
        refine s322_67.mpr (s322_68.mpr ?_)
        refine s322_70.mpr (wif (fun c70 => ?_) (fun c70 => ?_))
        · first
          | (exfalso; omega)
          | skip
            refine s322_73.mpr ((s322_74 kM).mpr ?_)
            rw [mr_59 hR]
            refine s322_77.mpr ?_
            refine (s322_78 (hA.k (by decide) (by decide) rfl) (by first | assumption | omega) (by first | assumption | omega)).mpr ?_
            refine s322_79.mpr ?_
            try simp (disch := first | decide | assumption | omega) only [e89, fAdd_id]
            refine s322_80.mpr (wif (fun c80 => ?_) (fun c80 => ?_))
            · first
              | (exfalso; omega)
              | skip
                exfalso; omega
            · first
              | (exfalso; omega)
              | skip
                refine s322_93.mpr (s322_96.mpr ?_)
                try simp (disch := first | decide | assumption | omega) only [e89, fAdd_id]
                exact NX
        · first
          | (exfalso; omega)
          | skip
            exfalso; omega
  -- 2
  have T103 : w = 2 → ∀ (j : Nat) (k : Int) (K : Nat) (Y : Int), k = K → k + j = 12 → lvn s K = Y → Wp d 322 103 [vR (some 49), vI w, vI Y, vI k] [] al h hr Q := by
    intro hw j
    induction j with
    | zero =>
      intro k K Y hk hj hY
      have ek : K = 12 := by omega
      subst ek
      have E0 := q Y (by rw [← hY]; exact AbA_2 hw)
      refine s322_103.mpr (s322_104.mpr ?_)
      refine s322_106.mpr (wif (fun c106 => ?_) (fun c106 => ?_))
      · skip
        exfalso; omega
      · skip
        refine s322_133.mpr ?_
        refine (s322_134).mpr ?_
        exact E0
    | succ j ih =>
      intro k K Y hk hj hY
      have NX := ih (k + 1) (K + 1) _ (by omega) (by omega) rfl
      have e2 : lvn s (K + 1) = Y + (if s 89 k < 4 then 1 else 0) := by rw [← hY, hk]; rfl
      have bY := lvn_b (s := s) K
      rw [hY] at bY
      rw [e2] at NX
      by_cases c : s 89 k < 4
      · rw [if_pos c] at NX
        refine s322_103.mpr (s322_104.mpr ?_)
        refine s322_106.mpr (wif (fun c106 => ?_) (fun c106 => ?_))
        · first
          | (exfalso; omega)
          | skip
            refine s322_109.mpr (s322_110.mpr ((s322_111 kM).mpr ?_))
            rw [mr_59 hR]
            refine s322_114.mpr ?_
            refine (s322_115 (hA.k (by decide) (by decide) rfl) (by first | assumption | omega) (by first | assumption | omega)).mpr ?_
            refine s322_116.mpr ?_
            try simp (disch := first | decide | assumption | omega) only [e89, fAdd_id]
            refine s322_117.mpr (wif (fun c117 => ?_) (fun c117 => ?_))
            · first
              | (exfalso; omega)
              | skip
                refine s322_120.mpr (s322_121.mpr (s322_125.mpr (s322_126.mpr (s322_127.mpr (s322_130.mpr ?_)))))
                try simp (disch := first | decide | assumption | omega) only [e89, fAdd_id]
                exact NX
            · first
              | (exfalso; omega)
              | skip
                exfalso; omega
        · first
          | (exfalso; omega)
          | skip
            exfalso; omega
      · rw [if_neg c, Int.add_zero] at NX
        have f0 : fAdd Y 0 = Y := by rw [fAdd_id (by omega) (by omega), Int.add_zero]
        refine s322_103.mpr (s322_104.mpr ?_)
        refine s322_106.mpr (wif (fun c106 => ?_) (fun c106 => ?_))
        · first
          | (exfalso; omega)
          | skip
            refine s322_109.mpr (s322_110.mpr ((s322_111 kM).mpr ?_))
            rw [mr_59 hR]
            refine s322_114.mpr ?_
            refine (s322_115 (hA.k (by decide) (by decide) rfl) (by first | assumption | omega) (by first | assumption | omega)).mpr ?_
            refine s322_116.mpr ?_
            try simp (disch := first | decide | assumption | omega) only [e89, f0, fAdd_id]
            refine s322_117.mpr (wif (fun c117 => ?_) (fun c117 => ?_))
            · first
              | (exfalso; omega)
              | skip
                exfalso; omega
            · first
              | (exfalso; omega)
              | skip
                refine s322_124.mpr (s322_125.mpr (s322_126.mpr (s322_127.mpr (s322_130.mpr ?_))))
                try simp (disch := first | decide | assumption | omega) only [e89, f0, fAdd_id]
                exact NX
        · first
          | (exfalso; omega)
          | skip
            exfalso; omega
  -- 3
  have T137 : w = 3 → ∀ (j : Nat) (k : Int) (K : Nat) (Y : Int), k = K → k + j = 12 → chn s K = Y → Wp d 322 137 [vR (some 49), vI w, vI Y, vI k] [] al h hr Q := by
    intro hw j
    induction j with
    | zero =>
      intro k K Y hk hj hY
      have ek : K = 12 := by omega
      subst ek
      have E0 := q Y (by rw [← hY]; exact AbA_3 hw)
      refine s322_137.mpr (s322_138.mpr ?_)
      refine s322_140.mpr (wif (fun c140 => ?_) (fun c140 => ?_))
      · skip
        exfalso; omega
      · skip
        refine s322_165.mpr ?_
        refine (s322_166).mpr ?_
        exact E0
    | succ j ih =>
      intro k K Y hk hj hY
      have NX := ih (k + 1) (K + 1) _ (by omega) (by omega) rfl
      have e2 : chn s (K + 1) = Y + (if s 112 (2 * k) ≠ -1 ∨ s 112 (2 * k + 1) ≠ -1 then 1 else 0) := by rw [← hY, hk]; rfl
      have bY := chn_b (s := s) K
      rw [hY] at bY
      rw [e2] at NX
      have IC : Ev (d - 1) 294 [vR (some 49), vI k] al h hr (kon d 322 146 149 [vR (some 49), vI w, vI Y, vI k] [vI Y] Q) := by
        refine r_isChannel hA hR (by omega) (fun b b01 b1 => ?_)
        rw [e112, e112, decide_eq_true_iff] at b1
        simp only [kon, knt_some, knt_none, Option.toList_some, Option.toList_none, List.cons_append, List.nil_append]
        by_cases c : s 112 (2 * k) ≠ -1 ∨ s 112 (2 * k + 1) ≠ -1
        · rw [if_pos c] at NX
          have := b1.mpr c
          subst this
          refine s322_149.mpr (wif (fun c149 => ?_) (fun c149 => ?_))
          · skip
            exact absurd ‹(1 : Int) = 0› (by decide)
          · skip
            refine s322_152.mpr (s322_153.mpr (s322_157.mpr (s322_158.mpr (s322_159.mpr (s322_162.mpr ?_)))))
            try simp (disch := first | decide | assumption | omega) only [fAdd_id]
            exact NX
        · rw [if_neg c, Int.add_zero] at NX
          have f0 : fAdd Y 0 = Y := by rw [fAdd_id (by omega) (by omega), Int.add_zero]
          have : b = 0 := by
            rcases b01 with z | z
            · exact z
            · exact absurd (b1.mp z) c
          subst this
          refine s322_149.mpr (wif (fun c149 => ?_) (fun c149 => ?_))
          · skip
            refine s322_156.mpr (s322_157.mpr (s322_158.mpr (s322_159.mpr (s322_162.mpr ?_))))
            try simp (disch := first | decide | assumption | omega) only [f0, fAdd_id]
            exact NX
          · skip
            exact absurd rfl (by assumption)
      refine s322_137.mpr (s322_138.mpr ?_)
      refine s322_140.mpr (wif (fun c140 => ?_) (fun c140 => ?_))
      · first
        | (exfalso; omega)
        | skip
          refine s322_143.mpr (s322_144.mpr (s322_145.mpr ?_))
          refine (s322_146 (by omega) kM).mpr ?_
          exact IC
      · first
        | (exfalso; omega)
        | skip
          exfalso; omega
  -- 4
  have T169 : w = 4 → ∀ (j : Nat) (k : Int) (K : Nat) (Y : Int), k = K → k + j = 128 → bcn s K = Y → Wp d 322 169 [vR (some 49), vI w, vI Y, vI k] [] al h hr Q := by
    intro hw j
    induction j with
    | zero =>
      intro k K Y hk hj hY
      have ek : K = 128 := by omega
      subst ek
      have E0 := q Y (by rw [← hY]; exact AbA_4 hw)
      refine s322_169.mpr (s322_170.mpr ?_)
      refine s322_173.mpr (wif (fun c173 => ?_) (fun c173 => ?_))
      · skip
        exfalso; omega
      · skip
        refine s322_200.mpr ?_
        refine (s322_201).mpr ?_
        exact E0
    | succ j ih =>
      intro k K Y hk hj hY
      have NX := ih (k + 1) (K + 1) _ (by omega) (by omega) rfl
      have e2 : bcn s (K + 1) = Y + (if s 109 k = -1 then 0 else 1) := by rw [← hY, hk]; rfl
      have bY := bcn_bb (s := s) K
      rw [hY] at bY
      rw [e2] at NX
      by_cases c : s 109 k = -1
      · rw [if_pos c, Int.add_zero] at NX
        have f0 : fAdd Y 0 = Y := by rw [fAdd_id (by omega) (by omega), Int.add_zero]
        refine s322_169.mpr (s322_170.mpr ?_)
        refine s322_173.mpr (wif (fun c173 => ?_) (fun c173 => ?_))
        · first
          | (exfalso; omega)
          | skip
            refine s322_176.mpr (s322_177.mpr ((s322_178 kM).mpr ?_))
            rw [mr_79 hR]
            refine s322_181.mpr ?_
            refine (s322_182 (hA.k (by decide) (by decide) rfl) (by first | assumption | omega) (by first | assumption | omega)).mpr ?_
            refine s322_183.mpr ?_
            try simp (disch := first | decide | assumption | omega) only [e109, f0, fAdd_id]
            refine s322_184.mpr (wif (fun c184 => ?_) (fun c184 => ?_))
            · first
              | (exfalso; omega)
              | skip
                refine s322_187.mpr (s322_188.mpr (s322_192.mpr (s322_193.mpr (s322_194.mpr (s322_197.mpr ?_)))))
                try simp (disch := first | decide | assumption | omega) only [e109, f0, fAdd_id]
                exact NX
            · first
              | (exfalso; omega)
              | skip
                exact absurd c (by assumption)
        · first
          | (exfalso; omega)
          | skip
            exfalso; omega
      · rw [if_neg c] at NX
        refine s322_169.mpr (s322_170.mpr ?_)
        refine s322_173.mpr (wif (fun c173 => ?_) (fun c173 => ?_))
        · first
          | (exfalso; omega)
          | skip
            refine s322_176.mpr (s322_177.mpr ((s322_178 kM).mpr ?_))
            rw [mr_79 hR]
            refine s322_181.mpr ?_
            refine (s322_182 (hA.k (by decide) (by decide) rfl) (by first | assumption | omega) (by first | assumption | omega)).mpr ?_
            refine s322_183.mpr ?_
            try simp (disch := first | decide | assumption | omega) only [e109, fAdd_id]
            refine s322_184.mpr (wif (fun c184 => ?_) (fun c184 => ?_))
            · first
              | (exfalso; omega)
              | skip
                exact absurd (by assumption) c
            · first
              | (exfalso; omega)
              | skip
                refine s322_191.mpr (s322_192.mpr (s322_193.mpr (s322_194.mpr (s322_197.mpr ?_))))
                try simp (disch := first | decide | assumption | omega) only [e109, fAdd_id]
                exact NX
        · first
          | (exfalso; omega)
          | skip
            exfalso; omega
  have BC : w = 5 → Ev (d - 1) 293 [vR (some 49)] al h hr (kon d 322 203 206 [vR (some 49), vI w, vI 0, none] [] Q) := fun hw => by
    refine r_blockCells (X := bcl s 128) hA hR hBk (fun n hn => by rw [hn, bcl_e e109]) ?_
    have E0 := q _ (AbA_5 hw)
    simp only [kon, knt_some, knt_none, Option.toList_some, Option.toList_none, List.cons_append, List.nil_append]
    refine (s322_206).mpr ?_
    exact E0
  refine s322_0.mpr (s322_1.mpr ?_)
  refine (s322_2 kM).mpr ?_
  refine s322_5.mpr ?_
  try simp (disch := first | decide | assumption | omega) only [hh, e51, e52, e55]
  refine (s322_6 kM).mpr ?_
  try simp (disch := first | decide | assumption | omega) only [hh, e51, e52, e55]
  refine s322_9.mpr (wif (fun c9 => ?_) (fun c9 => ?_))
  · skip
    exfalso; omega
  · skip
    refine s322_14.mpr (s322_15.mpr (s322_16.mpr ?_))
    refine g322_17 (fun c17 => ?_) (fun c17 => ?_) (fun c17 => ?_) (fun c17 => ?_) (fun c17 => ?_) (fun c17 => ?_) (fun c17 => ?_) (fun c17 => ?_)
    · skip
      have c17 := List.mem_singleton.mp c17
      refine s322_60.mpr ?_
      refine (s322_61 kM).mpr ?_
      try simp (disch := first | decide | assumption | omega) only [hh, e51, e52, e55]
      refine (s322_64).mpr ?_
      first | exact q _ (AbA_0 c17) | exact q _ (AbA_6 c17) | exact q _ (AbA_n c17)
    · skip
      have c17 := List.mem_singleton.mp c17
      have c17' := c17; exact s322_65.mpr (s322_66.mpr (T67 c17' 12 0 (by decide) (by decide) (fun p z1 z2 => by omega)))
    · skip
      have c17 := List.mem_singleton.mp c17
      exact s322_101.mpr (s322_102.mpr (T103 c17 12 0 0 0 rfl (by decide) rfl))
    · skip
      have c17 := List.mem_singleton.mp c17
      exact s322_135.mpr (s322_136.mpr (T137 c17 12 0 0 0 rfl (by decide) rfl))
    · skip
      have c17 := List.mem_singleton.mp c17
      exact s322_167.mpr (s322_168.mpr (T169 c17 128 0 0 0 rfl (by decide) rfl))
    · skip
      have c17 := List.mem_singleton.mp c17
      refine s322_202.mpr ?_
      refine (s322_203 (by omega) kM).mpr ?_
      exact BC c17
    · skip
      have c17 := List.mem_singleton.mp c17
      refine s322_207.mpr ?_
      refine (s322_208 kM).mpr ?_
      try simp (disch := first | decide | assumption | omega) only [hh, e51, e52, e55]
      refine (s322_211).mpr ?_
      first | exact q _ (AbA_0 c17) | exact q _ (AbA_6 c17) | exact q _ (AbA_n c17)
    · skip
      refine s322_212.mpr ?_
      refine (s322_213).mpr ?_
      first | exact q _ (AbA_0 c17) | exact q _ (AbA_6 c17) | exact q _ (AbA_n c17)
end FA0
