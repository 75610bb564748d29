/-! RUNNING, the class: what is reached is moved -/
section CG1
variable {d : Nat} {Q : QQ} {T : TXs} {al al' : AL} {hi hi' : HI} {hr hr' : HR} {s s' : HI} {A A' : Int → Int → Int} {p q m f v w x : Int} {t t' N c0 c1 : Nat} {a' : Int → Int} {fr sc k : Int}
theorem fAnd_65535 {x : Int} : fAnd x 65535 = x % 65536 := fAnd_mask 16 (by omega)
theorem hdr_b {t n : Int} (h : 1 ≤ n ∧ n ≤ 1024) : (0 ≤ hdr t n ∧ hdr t n < 20000000) ∧ hdr t n % 65536 = n - 1 := by
  have := wM_b (t := t)
  unfold hdr
  split
  · omega
  · split <;> omega
def zz (s : HI) (p b : Int) : Int := s 100 (1025 * p + b)
def vmf (a' : Int → Int) (v w : Int) : Int := if w = 1 then (if v = 0 then 0 else a' v) else v
theorem vmf_x {a' a'' : Int → Int} {v w : Int} (h : w = 1 → v ≠ 0 → a'' v = a' v) : vmf a'' v w = vmf a' v w := by
  unfold vmf
  split
  · split
    · rfl
    · exact h (by assumption) (by assumption)
  · rfl
/-- what is given when a collection begins -/
def CB (A : Int → Int → Int) (s : HI) (p : Int) : Prop := (∀ b, rch s p b → (1 ≤ b ∧ b ≤ 1024) ∧ 1 ≤ zz s p b ∧ 1 ≤ A p b ∧ A p b + zz s p b ≤ 1025) ∧ (∀ b b', rch s p b → rch s p b' → b ≠ b' → A p b + zz s p b ≤ A p b' ∨ A p b' + zz s p b' ≤ A p b) ∧ rsm s p ≤ 1024
/-- while it goes on: boxes at a', below fr; those below sc have their items' new places, of the one at sc the first k -/
def CI (A : Int → Int → Int) (s : HI) (p : Int) (c0 c1 : Nat) (a' : Int → Int) (fr sc k : Int) (hi : HI) : Prop := (1 ≤ sc ∧ sc ≤ fr ∧ (sc < fr ∨ k = 0)) ∧ (∀ b, a' b ≠ 0 → rch s p b ∧ (1 ≤ a' b ∧ a' b + zz s p b ≤ fr) ∧ hi c1 (a' b) = hdr (s 302 (1025 * p + b)) (zz s p b) ∧ (a' b + zz s p b ≤ sc ∨ sc ≤ a' b) ∧ ∀ i, 0 ≤ i → i < zz s p b - 1 → ((a' b < sc ∨ a' b = sc ∧ i < k) → hi c1 (a' b + 1 + i) = vmf a' (s 300 (hx p b i)) (s 301 (hx p b i)) ∧ (s 301 (hx p b i) = 1 → s 300 (hx p b i) ≠ 0 → a' (s 300 (hx p b i)) ≠ 0)) ∧ (¬ (a' b < sc ∨ a' b = sc ∧ i < k) → hi c1 (a' b + 1 + i) = vm A p (s 300 (hx p b i)) (s 301 (hx p b i)))) ∧ (∀ b b', a' b ≠ 0 → a' b' ≠ 0 → b ≠ b' → a' b + zz s p b ≤ a' b' ∨ a' b' + zz s p b' ≤ a' b) ∧ (∀ x, 1 ≤ x → x < fr → ∃ b, a' b ≠ 0 ∧ a' b ≤ x ∧ x < a' b + zz s p b) ∧ (∀ b, rch s p b → hi c0 (A p b) = (if a' b = 0 then hdr (s 302 (1025 * p + b)) (zz s p b) else -(a' b)) ∧ ∀ i, 0 ≤ i → i < zz s p b - 1 → hi c0 (A p b + 1 + i) = vm A p (s 300 (hx p b i)) (s 301 (hx p b i))) ∧ fr - 1 = sA (zz s p) (fun b => a' b ≠ 0)
def wMv (t c0 c1 : Nat) (a : Nat) (i : Int) : Prop := a = c0 ∨ a = c1 ∨ (a = t ∧ i = 16)
theorem c_moved (k9 : isK al t 9) (e15 : hr t 15 = some c1) (kc0 : isK al c0 15 ∧ aln al c0 = 1025) (kc1 : isK al c1 15 ∧ aln al c1 = 1025) (hne : c0 ≠ c1) (hB : CB A s p) (hC : CI A s p c0 c1 a' fr sc k hi) (h16 : hi t 16 = fr) (hv : v = 0 ∨ rch s p v)
    (q : ∀ a'' fr' hi', CI A s p c0 c1 a'' fr' sc k hi' → hi' t 16 = fr' → (∀ b, a' b ≠ 0 → a'' b = a' b) → (v ≠ 0 → a'' v ≠ 0) → FW (wMv t c0 c1) hi hi' → fr ≤ fr' → Q (some (some (vI (vmf a'' v 1)))) al hi' hr) : Ev d 142 [vR (some t), vR (some c0), vI (vm A p v 1)] al hi hr Q := by
  obtain ⟨kc0, lc0⟩ := kc0
  obtain ⟨kc1, lc1⟩ := kc1
  have r0 := isR_of kc0 (by decide) (by decide)
  have r1 := isR_of kc1 (by decide) (by decide)
  obtain ⟨⟨b1, b2, b3⟩, i2, i3, i4, i5, i6⟩ := id hC
  have nt0 : c0 ≠ t := isK_ne kc0 k9 (by decide)
  have nt1 : c1 ≠ t := isK_ne kc1 k9 (by decide)
  rw [e142]
  by_cases cv : v = 0
  · have e0 : vm A p v 1 = 0 := by unfold vm; rw [if_pos rfl, if_pos cv]
    have e0' : vmf a' v 1 = 0 := by unfold vmf; rw [if_pos rfl, if_pos cv]
    have E := q a' fr hi hC h16 (fun _ _ => rfl) (fun z => absurd cv z) FW.rf (Int.le_refl _)
    rw [e0'] at E
    rw [e0]
    refine s142_0.mpr (s142_1.mpr ?_)
    refine s142_2.mpr (wif (fun c2 => ?_) (fun c2 => ?_))
    · first
      | (exfalso; omega)
      | skip
        refine s142_18.mpr ?_
        refine (s142_19).mpr ?_
        exact E
    · first
      | (exfalso; omega)
      | skip
        exfalso; omega
  have hv := hv.resolve_left cv
  obtain ⟨g1, g2, g3, g4⟩ := hB.1 v hv
  obtain ⟨g5, g6⟩ := i5 v hv
  have e0 : vm A p v 1 = A p v := by unfold vm; rw [if_pos rfl, if_neg cv]
  rw [e0]
  obtain ⟨F, hF⟩ : ∃ F, A p v = F := ⟨_, rfl⟩
  obtain ⟨z, hz⟩ : ∃ z, zz s p v = z := ⟨_, rfl⟩
  rw [hF] at g3 g4 g5 g6 ⊢
  rw [hz] at g2 g4 g5 g6
  by_cases ca : a' v = 0
  case neg =>
    obtain ⟨j1, j2, -⟩ := i2 v ca
    rw [if_neg ca] at g5
    have e0' : vmf a' v 1 = a' v := by unfold vmf; rw [if_pos rfl, if_neg cv]
    have E := q a' fr hi hC h16 (fun _ _ => rfl) (fun _ => ca) FW.rf (Int.le_refl _)
    rw [e0'] at E
    have hle : a' v ≤ 1025 := by
      have h1 : (fr - 1 : Int) ≤ rsm s p := by
        rw [i6, rsm_sA]
        exact Int.ofNat_le.mpr (sA_mn (fun b hb => (i2 b hb).1))
      have := hB.2.2
      have h2 : 1 ≤ zz s p v := (hB.1 v hv).2.1
      omega
    have en : fNeg (-(a' v)) = a' v := by rw [fNeg_id (by omega) (by omega)]; omega
    refine s142_0.mpr (s142_1.mpr ?_)
    refine s142_2.mpr (wif (fun c2 => ?_) (fun c2 => ?_))
    · first
      | (exfalso; omega)
      | skip
        exfalso; omega
    · first
      | (exfalso; omega)
      | skip
        refine s142_5.mpr (s142_6.mpr ?_)
        refine s142_9.mpr (wif (fun c9 => ?_) (fun c9 => ?_))
        · first
          | (exfalso; omega)
          | skip
            exfalso; omega
        · first
          | (exfalso; omega)
          | skip
            refine s142_12.mpr (s142_13.mpr ?_)
            refine (s142_14 (by first | decide | assumption | omega)).mpr ?_
            try simp (disch := first | decide | assumption | omega) only [g5, lc0, en]
            refine s142_15.mpr (wif (fun c15 => ?_) (fun c15 => ?_))
            · first
              | (exfalso; omega)
              | skip
                refine s142_20.mpr (s142_21.mpr ?_)
                refine (s142_22 (by first | decide | assumption | omega) (by first | decide | assumption | omega) (by first | decide | assumption | omega)).mpr ?_
                try simp (disch := first | decide | assumption | omega) only [g5, lc0, en]
                refine s142_23.mpr (wif (fun c23 => ?_) (fun c23 => ?_))
                · first
                  | (exfalso; omega)
                  | skip
                    refine s142_26.mpr (s142_27.mpr ?_)
                    refine (s142_28 (by first | decide | assumption | omega) (by first | decide | assumption | omega) (by first | decide | assumption | omega)).mpr ?_
                    refine s142_29.mpr ?_
                    try simp (disch := first | decide | assumption | omega) only [g5, lc0, en]
                    refine (s142_30).mpr ?_
                    exact E
                · first
                  | (exfalso; omega)
                  | skip
                    exfalso; omega
            · first
              | (exfalso; omega)
              | skip
                exfalso; omega
  rw [if_pos ca] at g5
  have hd := hdr_b (t := s 302 (1025 * p + v)) (n := z) ⟨g2, by omega⟩
  obtain ⟨H, hH⟩ : ∃ H, hdr (s 302 (1025 * p + v)) z = H := ⟨_, rfl⟩
  rw [hH] at g5 hd
  -- the new place
  let a'' : Int → Int := fun b => if b = v then fr else a' b
  have av : a'' v = fr := if_pos rfl
  have an : ∀ b, b ≠ v → a'' b = a' b := fun b y => if_neg y
  have aP : ∀ b, a'' b ≠ 0 ↔ a' b ≠ 0 ∨ b = v := fun b => by
    by_cases y : b = v
    · subst y; rw [av]; exact ⟨fun _ => Or.inr rfl, fun _ => by omega⟩
    · rw [an b y]; exact ⟨Or.inl, fun u => u.resolve_right y⟩
  have hsum : (sA (zz s p) (fun b => a'' b ≠ 0) : Int) = fr - 1 + z := by
    have := sA_up (z := zz s p) (P := fun b => a' b ≠ 0) (P' := fun b => a'' b ≠ 0) (b0 := v) g1 (fun y => y ca) aP
    rw [this, hz]
    omega
  have hle : fr + z ≤ 1025 := by
    have h1 : (sA (zz s p) (fun b => a'' b ≠ 0) : Int) ≤ rsm s p := by
      rw [rsm_sA]
      refine Int.ofNat_le.mpr (sA_mn (fun b hb => ?_))
      rcases (aP b).mp hb with y | y
      · exact (i2 b y).1
      · rw [y]; exact hv
    have := hB.2.2
    omega
  obtain ⟨h1, hh1⟩ : ∃ h1, cpI hi c0 F c1 fr z = h1 := ⟨_, rfl⟩
  have h1c : ∀ i, fr ≤ i → i < fr + z → h1 c1 i = hi c0 (F + (i - fr)) := fun i y1 y2 => by rw [← hh1]; unfold cpI; rw [if_pos ⟨rfl, y1, y2⟩]
  have h1n : ∀ (b : Nat) i, ¬ (b = c1 ∧ fr ≤ i ∧ i < fr + z) → h1 b i = hi b i := fun b i y => by rw [← hh1]; unfold cpI; rw [if_neg y]
  obtain ⟨h2, hh2⟩ : ∃ h2, upI (upI h1 c0 F (-fr)) t 16 (fr + z) = h2 := ⟨_, rfl⟩
  have h20 : ∀ i, i ≠ F → h2 c0 i = hi c0 i := fun i y => by rw [← hh2, upI_a nt0, upI_i y, h1n _ _ (fun u => hne u.1)]
  have h2F : h2 c0 F = -fr := by rw [← hh2, upI_a nt0, upI_eq]
  have h21 : ∀ i, h2 c1 i = h1 c1 i := fun i => by rw [← hh2, upI_a nt1, upI_a (fun y => hne y.symm)]
  have h2t : h2 t 16 = fr + z := by rw [← hh2, upI_eq]
  have h2w : FW (wMv t c0 c1) hi h2 := fun b i y => by
    unfold wMv at y
    rw [← hh2]
    unfold upI
    rw [if_neg (fun u => y (Or.inr (Or.inr u))), if_neg (fun u => y (Or.inl u.1)), h1n b i (fun u => y (Or.inr (Or.inl u.1)))]
  have hlow : ∀ i, i < fr → h2 c1 i = hi c1 i := fun i y => by rw [h21, h1n _ _ (by omega)]
  have hC2 : CI A s p c0 c1 a'' (fr + z) sc k h2 := by
    refine ⟨⟨b1, by omega, by omega⟩, fun b hb => ?_, fun b b' hb hb' hbb => ?_, fun x x0 x1 => ?_, fun b hb => ?_, by rw [hsum]; omega⟩
    · by_cases y : b = v
      · subst y
        rw [av, hz]
        refine ⟨hv, ⟨by omega, by omega⟩, ?_, Or.inr (by omega), fun i i0 i1 => ⟨fun u => by omega, fun _ => ?_⟩⟩
        · rw [h21, h1c fr (by omega) (by omega), show F + (fr - fr) = F by omega, g5, hH]
        · rw [h21, h1c _ (by omega) (by omega), show F + (fr + 1 + i - fr) = F + 1 + i by omega]
          exact g6 i i0 i1
      · rw [an b y] at hb ⊢
        obtain ⟨j1, j2, j3, j4, j5⟩ := i2 b hb
        refine ⟨j1, ⟨j2.1, by omega⟩, by rw [hlow _ (by have := (hB.1 b j1).2.1; omega)]; exact j3, j4, fun i i0 i1 => ?_⟩
        rw [hlow _ (by omega)]
        obtain ⟨j6, j7⟩ := j5 i i0 i1
        refine ⟨fun u => ?_, j7⟩
        obtain ⟨j8, j9⟩ := j6 u
        have xx : s 301 (hx p b i) = 1 → s 300 (hx p b i) ≠ 0 → a'' (s 300 (hx p b i)) = a' (s 300 (hx p b i)) := fun w1 w2 => an _ (fun e => j9 w1 w2 (by rw [e]; exact ca))
        refine ⟨by rw [vmf_x xx]; exact j8, fun w1 w2 => by rw [xx w1 w2]; exact j9 w1 w2⟩
    · by_cases y : b = v
      · subst y
        rw [av, hz, an b' (fun e => hbb e.symm)]
        rw [an b' (fun e => hbb e.symm)] at hb'
        have := (i2 b' hb').2.1
        exact Or.inr this.2
      · by_cases y' : b' = v
        · subst y'
          rw [av, hz, an b y]
          rw [an b y] at hb
          exact Or.inl (i2 b hb).2.1.2
        · rw [an b y, an b' y']
          rw [an b y] at hb
          rw [an b' y'] at hb'
          exact i3 b b' hb hb' hbb
    · by_cases y : x < fr
      · obtain ⟨b, y1, y2, y3⟩ := i4 x x0 y
        have hbv : b ≠ v := fun e => y1 (by rw [e]; exact ca)
        exact ⟨b, by rw [an b hbv]; exact y1, by rw [an b hbv]; exact y2, by rw [an b hbv]; exact y3⟩
      · exact ⟨v, by rw [av]; omega, by rw [av]; omega, by rw [av, hz]; exact x1⟩
    · by_cases y : b = v
      · subst y
        rw [hF, h2F, av, if_neg (by omega), hz]
        exact ⟨rfl, fun i i0 i1 => by rw [h20 _ (by omega)]; exact g6 i i0 i1⟩
      · obtain ⟨j1, j2⟩ := i5 b hb
        obtain ⟨k1, k2, k3, k4⟩ := hB.1 b hb
        have hd2 := hB.2.1 b v hb hv y
        rw [hF, hz] at hd2
        rw [an b y, h20 _ (by omega)]
        exact ⟨j1, fun i i0 i1 => by rw [h20 _ (by omega)]; exact j2 i i0 i1⟩
  have e9 : vmf a'' v 1 = fr := by unfold vmf; rw [if_pos rfl, if_neg cv]; exact av
  have E := q a'' (fr + z) h2 hC2 h2t (fun b hb => an b (fun e => hb (by rw [e]; exact ca))) (fun _ => by rw [av]; omega) h2w (by omega)
  rw [e9] at E
  have ez : fAdd 1 (H % 65536) = z := by rw [fAdd_id (by omega) (by omega), hd.2]; omega
  have en : fNeg fr = -fr := fNeg_id (by omega) (by omega)
  have x16 : upI h1 c0 F (-fr) t 16 = fr := by rw [upI_a (fun y => nt0 y.symm), h1n _ _ (fun y => nt1 y.1.symm)]; exact h16
  refine s142_0.mpr (s142_1.mpr ?_)
  refine s142_2.mpr (wif (fun c2 => ?_) (fun c2 => ?_))
  · first
    | (exfalso; omega)
    | skip
      exfalso; omega
  · first
    | (exfalso; omega)
    | skip
      refine s142_5.mpr (s142_6.mpr ?_)
      refine s142_9.mpr (wif (fun c9 => ?_) (fun c9 => ?_))
      · first
        | (exfalso; omega)
        | skip
          exfalso; omega
      · first
        | (exfalso; omega)
        | skip
          refine s142_12.mpr (s142_13.mpr ?_)
          refine (s142_14 (by first | decide | assumption | omega)).mpr ?_
          try simp (disch := first | decide | assumption | omega) only [g5, lc0, lc1, h16, e15, fAnd_65535, ez, en, hh1, hh2, x16, fAdd_id]
          refine s142_15.mpr (wif (fun c15 => ?_) (fun c15 => ?_))
          · first
            | (exfalso; omega)
            | skip
              refine s142_20.mpr (s142_21.mpr ?_)
              refine (s142_22 (by first | decide | assumption | omega) (by first | decide | assumption | omega) (by first | decide | assumption | omega)).mpr ?_
              try simp (disch := first | decide | assumption | omega) only [g5, lc0, lc1, h16, e15, fAnd_65535, ez, en, hh1, hh2, x16, fAdd_id]
              refine s142_23.mpr (wif (fun c23 => ?_) (fun c23 => ?_))
              · first
                | (exfalso; omega)
                | skip
                  exfalso; omega
              · first
                | (exfalso; omega)
                | skip
                  refine s142_31.mpr ?_
                  refine (s142_32 (by first | decide | assumption | omega)).mpr ?_
                  refine s142_35.mpr (s142_36.mpr (s142_37.mpr (s142_38.mpr ?_)))
                  try simp (disch := first | decide | assumption | omega) only [g5, lc0, lc1, h16, e15, fAnd_65535, ez, en, hh1, hh2, x16, fAdd_id]
                  refine (s142_39 (by first | decide | assumption | omega) (by first | decide | assumption | omega) (by first | decide | assumption | omega)).mpr ?_
                  refine s142_40.mpr (s142_42.mpr (s142_43.mpr (s142_44.mpr (s142_46.mpr (s142_47.mpr ?_)))))
                  refine s142_49.mpr (s142_50.mpr ?_)
                  try simp (disch := first | decide | assumption | omega) only [g5, lc0, lc1, h16, e15, fAnd_65535, ez, en, hh1, hh2, x16, fAdd_id]
                  refine (s142_51 (by first | decide | assumption | omega)).mpr ?_
                  try simp (disch := first | decide | assumption | omega) only [g5, lc0, lc1, h16, e15, fAnd_65535, ez, en, hh1, hh2, x16, fAdd_id]
                  refine s142_52.mpr (wif (fun c52 => ?_) (fun c52 => ?_))
                  · first
                    | (exfalso; omega)
                    | skip
                      exfalso; omega
                  · first
                    | (exfalso; omega)
                    | skip
                      refine s142_55.mpr ?_
                      refine s142_56.mpr (wif (fun c56 => ?_) (fun c56 => ?_))
                      · first
                        | (exfalso; omega)
                        | skip
                          exfalso; omega
                      · first
                        | (exfalso; omega)
                        | skip
                          refine s142_59.mpr (s142_60.mpr (s142_62.mpr (s142_63.mpr ?_)))
                          try simp (disch := first | decide | assumption | omega) only [g5, lc0, lc1, h16, e15, fAnd_65535, ez, en, hh1, hh2, x16, fAdd_id]
                          refine (s142_64 (by first | decide | assumption | omega)).mpr ?_
                          try simp (disch := first | decide | assumption | omega) only [g5, lc0, lc1, h16, e15, fAnd_65535, ez, en, hh1, hh2, x16, fAdd_id]
                          refine (s142_67 (by first | decide | assumption | omega)).mpr ?_
                          try simp (disch := first | decide | assumption | omega) only [g5, lc0, lc1, h16, e15, fAnd_65535, ez, en, hh1, hh2, x16, fAdd_id]
                          refine s142_68.mpr (wif (fun c68 => ?_) (fun c68 => ?_))
                          · first
                            | (exfalso; omega)
                            | skip
                              exfalso; omega
                          · first
                            | (exfalso; omega)
                            | skip
                              refine s142_73.mpr (s142_74.mpr (s142_75.mpr ?_))
                              refine (s142_76 (by first | decide | assumption | omega)).mpr ?_
                              refine s142_79.mpr (s142_80.mpr ?_)
                              try simp (disch := first | decide | assumption | omega) only [g5, lc0, lc1, h16, e15, fAnd_65535, ez, en, hh1, hh2, x16, fAdd_id]
                              refine (s142_82 (by first | decide | assumption | omega) (by first | decide | assumption | omega) (by first | decide | assumption | omega) (by first | decide | assumption | omega) (by first | decide | assumption | omega) (by first | decide | assumption | omega) (by first | decide | assumption | omega)).mpr ?_
                              refine s142_85.mpr (s142_86.mpr (s142_87.mpr (s142_88.mpr ?_)))
                              try simp (disch := first | decide | assumption | omega) only [g5, lc0, lc1, h16, e15, fAnd_65535, ez, en, hh1, hh2, x16, fAdd_id]
                              refine (s142_89 (by first | decide | assumption | omega) (by first | decide | assumption | omega) (by first | decide | assumption | omega)).mpr ?_
                              refine s142_90.mpr (s142_91.mpr (s142_92.mpr (s142_94.mpr ?_)))
                              try simp (disch := first | decide | assumption | omega) only [g5, lc0, lc1, h16, e15, fAnd_65535, ez, en, hh1, hh2, x16, fAdd_id]
                              refine (s142_95 (by first | decide | assumption | omega)).mpr ?_
                              refine s142_98.mpr ?_
                              try simp (disch := first | decide | assumption | omega) only [g5, lc0, lc1, h16, e15, fAnd_65535, ez, en, hh1, hh2, x16, fAdd_id]
                              refine (s142_99).mpr ?_
                              exact E
          · first
            | (exfalso; omega)
            | skip
              exfalso; omega
end CG1
