/-! RUNNING, the class: collecting -/
section CG3
variable {d : Nat} {Q : QQ} {T : TXs} {al al' : AL} {hi hi' : HI} {hr hr' : HR} {s s' : HI} {A A' : Int → Int → Int} {p q m f v w x : Int} {B : Int → Int} {t t' N c0 c1 : Nat} {a' : Int → Int} {fr sc k : Int}
theorem kmp_1 {w : Int} : kmp w = 1 ↔ w = 1 := by
  unfold kmp
  split
  · omega
  · split
    · omega
    · split
      · omega
      · split <;> omega
/-- the roots: those before a slot have their new places -/
def VRo (A : Int → Int → Int) (s : HI) (p : Int) (t : Nat) (a' : Int → Int) (a0 s0 : Int) (hi : HI) : Prop := ∀ a k, 0 ≤ a → a < s 94 p → 0 ≤ k → k < 10 + s 97 (16 * p + a) → ((a < a0 ∨ a = a0 ∧ slt k < s0) → hi (t + 5) (26 * a + slt k) = vmf a' (s 98 (26 * (16 * p + a) + k)) (s 99 (26 * (16 * p + a) + k)) ∧ (s 99 (26 * (16 * p + a) + k) = 1 → s 98 (26 * (16 * p + a) + k) ≠ 0 → a' (s 98 (26 * (16 * p + a) + k)) ≠ 0)) ∧ (¬ (a < a0 ∨ a = a0 ∧ slt k < s0) → hi (t + 5) (26 * a + slt k) = vm A p (s 98 (26 * (16 * p + a) + k)) (s 99 (26 * (16 * p + a) + k)))
def wCo (t c0 c1 : Nat) (a : Nat) (i : Int) : Prop := a = c0 ∨ a = c1 ∨ a = t + 5 ∨ (a = t ∧ i = 16)
/-- what a collection needs of a process -/
def ClN (T : TXs) (A : Int → Int → Int) (al : AL) (hi : HI) (hr : HR) (s : HI) (p m : Int) (t N c0 c1 : Nat) : Prop := (0 ≤ p ∧ p < 12) ∧ (1 ≤ s 94 p ∧ s 94 p ≤ 16) ∧ (∀ x, 16 * p ≤ x → x ≤ ai s p → 0 ≤ s 97 x ∧ s 97 x ≤ 16) ∧ TkS al hr t ∧ (isK al c0 15 ∧ aln al c0 = 1025) ∧ (isK al c1 15 ∧ aln al c1 = 1025) ∧ c0 ≠ c1 ∧ (¬ (t ≤ c0 ∧ c0 ≤ t + 5) ∧ ¬ (t ≤ c1 ∧ c1 ≤ t + 5)) ∧ hr t 15 = some c0 ∧ hi t 7 = s 94 p ∧ (∀ a, 0 ≤ a → a < s 94 p → hi (t + 3) a = s 97 (16 * p + a)) ∧ (∀ a k, 0 ≤ a → a < s 94 p → 0 ≤ k → k < 10 + s 97 (16 * p + a) → hi (t + 4) (26 * a + slt k) = kmp (s 99 (26 * (16 * p + a) + k)) ∧ hi (t + 5) (26 * a + slt k) = vm A p (s 98 (26 * (16 * p + a) + k)) (s 99 (26 * (16 * p + a) + k))) ∧ CB A s p ∧ (∀ b, rch s p b → hi c0 (A p b) = hdr (s 302 (1025 * p + b)) (zz s p b) ∧ ∀ i, 0 ≤ i → i < zz s p b - 1 → hi c0 (A p b + 1 + i) = vm A p (s 300 (hx p b i)) (s 301 (hx p b i))) ∧ (∀ b i, rch s p b → 0 ≤ i → i < zz s p b - 1 → s 301 (hx p b i) = 1 → 0 ≤ s 300 (hx p b i)) ∧ (∀ i, pl s p i → s 99 i = 1 → s 98 i = 0 ∨ rch s p (s 98 i)) ∧ Mg T s m ∧ HpI T s p m ∧ hr t 1 = some N ∧ (isK al N 10 ∧ hr N 5 = some (N + 3) ∧ isK al (N + 3) 15 ∧ aln al (N + 3) = 8) ∧ (N + 3 ≠ c0 ∧ N + 3 ≠ c1 ∧ ¬ (t ≤ N + 3 ∧ N + 3 ≤ t + 5)) ∧ N ≠ t ∧ ∀ r, 0 ≤ r → r < nRec (T m) → hi (N + 3) r = ptB (T m) r (nFld (T m) r).toNat
theorem CI.fw {hi' : HI} (h : CI A s p c0 c1 a' fr sc k hi) (e0 : ∀ i, hi' c0 i = hi c0 i) (e1 : ∀ i, hi' c1 i = hi c1 i) : CI A s p c0 c1 a' fr sc k hi' := by
  unfold CI at h ⊢
  simp only [e0, e1]
  exact h
theorem CI.sz (h : CI A s p c0 c1 a' fr sc k hi) (hB : CB A s p) : fr ≤ 1025 := by
  have h1 : (fr - 1 : Int) ≤ rsm s p := by
    rw [h.2.2.2.2.2, rsm_sA]
    exact Int.ofNat_le.mpr (sA_mn (fun b hb => (h.2.1 b hb).1))
  have := hB.2.2
  omega
set_option maxRecDepth 8000 in
theorem c_collect (hN : ClN T A al hi hr s p m t N c0 c1) (hd : 2 ≤ d)
    (q : ∀ a' fr hi', CI A s p c0 c1 a' fr fr 0 hi' → VRo A s p t a' (s 94 p) 0 hi' → hi' t 16 = fr → FW (wCo t c0 c1) hi hi' → Q (some (some (vR (some c0)))) al hi' (upR hr t 15 (some c1))) : Ev d 141 [vR (some t), vR (some c1)] al hi hr Q := by
  obtain ⟨⟨p0, p1⟩, ⟨a1, a16⟩, h97, ⟨⟨t119, k9⟩, ⟨e9, K1, L1⟩, ⟨e10, K2, L2⟩, ⟨e11, K3, L3⟩, ⟨e12, K4, L4⟩, ⟨e13, K5, L5⟩, K6, L6⟩, kc0, kc1, hne, ⟨hn0, hn1⟩, e15, e7, hh, hv, hB, hold, hng, hrt, hM, hH, e1, ⟨kN, eN5, kN3, lN3⟩, ⟨n30, n31, n3t⟩, nNt, hP⟩ := hN
  obtain ⟨r1, hr1⟩ : ∃ r1, upR hr t 15 (some c1) = r1 := ⟨_, rfl⟩
  have r15 : r1 t 15 = some c1 := by rw [← hr1, upR_eq]
  have rn : ∀ b (i : Int), i ≠ 15 → r1 b i = hr b i := fun b i z => by rw [← hr1]; exact upR_i z
  have r11 : r1 t 11 = some (t + 3) := (rn _ _ (by decide)).trans e11
  have r12 : r1 t 12 = some (t + 4) := (rn _ _ (by decide)).trans e12
  have r13 : r1 t 13 = some (t + 5) := (rn _ _ (by decide)).trans e13
  have rt1 : r1 t 1 = some N := (rn _ _ (by decide)).trans e1
  have rN5 : r1 N 5 = some (N + 3) := (rn _ _ (by decide)).trans eN5
  rw [hr1] at q
  have kc0' := kc0.1
  have kc1' := kc1.1
  have lc1 := kc1.2
  have rr1 := isR_of kc1' (by decide) (by decide)
  have nt0 : c0 ≠ t := isK_ne kc0' k9 (by decide)
  have nt1 : c1 ≠ t := isK_ne kc1' k9 (by decide)
  obtain ⟨AN, hAN⟩ : ∃ AN, s 94 p = AN := ⟨_, rfl⟩
  -- the other cells
  have keep : ∀ {h : HI}, FW (wCo t c0 c1) (upI hi t 16 1) h → h t 7 = AN ∧ (∀ a, 0 ≤ a → a < AN → h (t + 3) a = s 97 (16 * p + a)) ∧ (∀ a k, 0 ≤ a → a < AN → 0 ≤ k → k < 10 + s 97 (16 * p + a) → h (t + 4) (26 * a + slt k) = kmp (s 99 (26 * (16 * p + a) + k))) ∧ (∀ r, 0 ≤ r → r < nRec (T m) → h (N + 3) r = ptB (T m) r (nFld (T m) r).toNat) := fun {h} w => by
    have c : ∀ (b : Nat) i, ¬ wCo t c0 c1 b i → h b i = hi b i := fun b i z => by
      rw [w b i z]; unfold upI; rw [if_neg (fun u => z (by unfold wCo; omega))]
    refine ⟨by rw [c _ _ (by unfold wCo; omega), e7, hAN], fun a z0 z1 => by rw [c _ _ (by unfold wCo; omega)]; exact hh a z0 (by omega), fun a k z0 z1 k0 k1 => by rw [c _ _ (by unfold wCo; omega)]; exact (hv a k z0 (by omega) k0 k1).1, fun r r0 r1' => by rw [c _ _ (by unfold wCo; omega)]; exact hP r r0 r1'⟩
  -- the scan
  have T115 : ∀ (n : Nat) (i sc : Int) a' fr h l5, i + n = 1024 → 0 ≤ i → 1 + i ≤ sc → CI A s p c0 c1 a' fr sc 0 h → h t 16 = fr → VRo A s p t a' AN 0 h → FW (wCo t c0 c1) (upI hi t 16 1) h → Wp d 141 115 [vR (some t), vR (some c1), vR (some c0), vI sc, vI i, l5] [] al h r1 Q := by
    have FIN : ∀ (sc : Int) a' fr h i l5, fr ≤ sc → CI A s p c0 c1 a' fr sc 0 h → h t 16 = fr → VRo A s p t a' AN 0 h → FW (wCo t c0 c1) (upI hi t 16 1) h → Wp d 141 155 [vR (some t), vR (some c1), vR (some c0), vI sc, i, l5] [] al h r1 Q := by
      intro sc a' fr h i l5 z0 z1 z2 z3 z4
      have ef : sc = fr := by have := z1.1.2.1; omega
      have E := q a' fr h (by rw [ef] at z1; exact z1) (by rw [hAN]; exact z3) z2 (fun b j u => by rw [z4 b j u]; unfold upI; rw [if_neg (fun y => u (by unfold wCo; omega))])
      refine s141_155.mpr ?_
      refine (s141_156).mpr ?_
      exact E
    intro n
    induction n with
    | zero =>
      intro i sc a' fr h l5 hi9 i0 hsc z1 z2 z3 z4
      have hsz := z1.sz hB
      have E := FIN sc a' fr h (vI i) l5 (by omega) z1 z2 z3 z4
      refine s141_115.mpr (s141_117.mpr ?_)
      refine s141_120.mpr (wif (fun c120 => ?_) (fun c120 => ?_))
      · skip
        exfalso; omega
      · skip
        exact E
    | succ n ih =>
      intro i sc a' fr h l5 hi9 i0 hsc z1 z2 z3 z4
      have hsz := z1.sz hB
      by_cases cl : sc < fr
      · obtain ⟨k7, k3, k4, kP⟩ := keep z4
        have NX : Ev (d - 1) 143 [vR (some t), vR (some c0), vI sc] al h r1 (kon d 141 144 147 [vR (some t), vR (some c1), vR (some c0), vI sc, vI i, l5] [vI sc] Q) := by
          refine c_parts (m := m) k9 r15 kc0 kc1 hne (by omega) hB z1 z2 cl hM hH hng rt1 ⟨kN, rN5, kN3, lN3⟩ ⟨n30, n31⟩ kP (fun b a'' fr' h' y1 y2 y3 y4 y5 y6 => ?_)
          have hbn : a' b ≠ 0 := by have := z1.1.1; omega
          have zb := (hB.1 b (z1.2.1 b hbn).1).2.1
          have zsz := (z1.2.1 b hbn).2.1.2
          have V : VRo A s p t a'' AN 0 h' := by
            intro a k u0 u1 u2 u3
            have e5 : h' (t + 5) (26 * a + slt k) = h (t + 5) (26 * a + slt k) := y5 _ _ (by unfold wMv; omega)
            rw [e5]
            obtain ⟨v1, v2⟩ := z3 a k u0 u1 u2 u3
            refine ⟨fun u => ?_, v2⟩
            obtain ⟨v3, v4⟩ := v1 u
            exact ⟨by rw [vmf_x (fun x1 x2 => y4 _ (v4 x1 x2))]; exact v3, fun x1 x2 => by rw [y4 _ (v4 x1 x2)]; exact v4 x1 x2⟩
          have RC := ih (i + 1) (sc + zz s p b) a'' fr' h' l5 (by omega) (by omega) (by omega) y2 y3 V (z4.tr (y5.mn (fun b j u => by unfold wMv at u; unfold wCo; omega)))
          simp only [kon, knt_some, knt_none, Option.toList_some, Option.toList_none, List.cons_append, List.nil_append]
          refine s141_147.mpr (s141_148.mpr (s141_149.mpr (s141_152.mpr ?_)))
          try simp (disch := first | decide | assumption | omega) only [fAdd_id]
          exact RC
        refine s141_115.mpr (s141_117.mpr ?_)
        refine s141_120.mpr (wif (fun c120 => ?_) (fun c120 => ?_))
        · first
          | (exfalso; omega)
          | skip
            refine s141_123.mpr (s141_124.mpr ?_)
            refine (s141_125 (by first | decide | assumption | omega)).mpr ?_
            try simp (disch := first | decide | assumption | omega) only [z2, r15, lc1]
            refine s141_128.mpr (wif (fun c128 => ?_) (fun c128 => ?_))
            · first
              | (exfalso; omega)
              | skip
                refine s141_131.mpr (s141_132.mpr ?_)
                refine (s141_133 (by first | decide | assumption | omega)).mpr ?_
                try simp (disch := first | decide | assumption | omega) only [z2, r15, lc1]
                refine (s141_136 (by first | decide | assumption | omega)).mpr ?_
                try simp (disch := first | decide | assumption | omega) only [z2, r15, lc1]
                refine s141_137.mpr (wif (fun c137 => ?_) (fun c137 => ?_))
                · first
                  | (exfalso; omega)
                  | skip
                    refine s141_140.mpr (s141_141.mpr (s141_142.mpr (s141_143.mpr ?_)))
                    refine (s141_144 (by first | decide | assumption | omega) (by first | decide | assumption | omega)).mpr ?_
                    exact NX
                · first
                  | (exfalso; omega)
                  | skip
                    exfalso; omega
            · first
              | (exfalso; omega)
              | skip
                exfalso; omega
        · first
          | (exfalso; omega)
          | skip
            exfalso; omega
      · have E := FIN sc a' fr h (vI i) l5 (by omega) z1 z2 z3 z4
        refine s141_115.mpr (s141_117.mpr ?_)
        refine s141_120.mpr (wif (fun c120 => ?_) (fun c120 => ?_))
        · first
          | (exfalso; omega)
          | skip
            refine s141_123.mpr (s141_124.mpr ?_)
            refine (s141_125 (by first | decide | assumption | omega)).mpr ?_
            try simp (disch := first | decide | assumption | omega) only [z2, r15, lc1]
            refine s141_128.mpr (wif (fun c128 => ?_) (fun c128 => ?_))
            · first
              | (exfalso; omega)
              | skip
                exfalso; omega
            · first
              | (exfalso; omega)
              | skip
                exact E
        · first
          | (exfalso; omega)
          | skip
            exact E
  -- the roots
  have T17 : ∀ (n : Nat) (a : Int) a' fr h l4 l5, a + n = AN → 0 ≤ a → CI A s p c0 c1 a' fr 1 0 h → h t 16 = fr → VRo A s p t a' a 0 h → FW (wCo t c0 c1) (upI hi t 16 1) h → Wp d 141 17 [vR (some t), vR (some c1), vR (some c0), vI a, l4, l5] [] al h r1 Q := by
    intro n
    induction n with
    | zero =>
      intro a a' fr h l4 l5 ha a0 z1 z2 z3 z4
      obtain ⟨k7, k3, k4, kP⟩ := keep z4
      have ea : a = AN := by omega
      subst ea
      have E := T115 1024 0 1 a' fr h l5 (by decide) (by decide) (by decide) z1 z2 z3 z4
      refine s141_17.mpr (s141_18.mpr ?_)
      refine (s141_19 (by first | decide | assumption | omega)).mpr ?_
      try simp (disch := first | decide | assumption | omega) only [k7]
      refine s141_22.mpr (wif (fun c22 => ?_) (fun c22 => ?_))
      · skip
        exfalso; omega
      · skip
        refine s141_110.mpr (s141_111.mpr (s141_112.mpr (s141_113.mpr ?_)))
        exact E
    | succ n ih =>
      intro a a' fr h l4 l5 ha a0 z1 z2 z3 z4
      obtain ⟨k7, k3, k4, kP⟩ := keep z4
      have h9 := h97 (16 * p + a) (by omega) (by unfold ai; omega)
      have T34 : ∀ (n : Nat) (j : Int) a' fr h l5, j + n = 26 → 0 ≤ j → CI A s p c0 c1 a' fr 1 0 h → h t 16 = fr → VRo A s p t a' a j h → FW (wCo t c0 c1) (upI hi t 16 1) h → Wp d 141 34 [vR (some t), vR (some c1), vR (some c0), vI a, vI j, l5] [] al h r1 Q := by
        intro n
        induction n with
        | zero =>
          intro j a' fr h l5 hj j0 z1 z2 z3 z4
          have V : VRo A s p t a' (a + 1) 0 h := by
            intro b k u0 u1 u2 u3
            have hb := h97 (16 * p + b) (by omega) (by unfold ai; omega)
            have sb := slt_b (k := k) ⟨u2, by omega⟩
            obtain ⟨v1, v2⟩ := z3 b k u0 u1 u2 u3
            exact ⟨fun u => v1 (by omega), fun u => v2 (by omega)⟩
          have RC := ih (a + 1) a' fr h (vI j) l5 (by omega) (by omega) z1 z2 V z4
          refine s141_34.mpr (s141_36.mpr ?_)
          refine s141_38.mpr (wif (fun c38 => ?_) (fun c38 => ?_))
          · skip
            exfalso; omega
          · skip
            refine s141_104.mpr (s141_107.mpr ?_)
            try simp (disch := first | decide | assumption | omega) only [fAdd_id]
            exact RC
        | succ n ih2 =>
          intro j a' fr h l5 hj j0 z1 z2 z3 z4
          obtain ⟨k7, k3, k4, kP⟩ := keep z4
          have k3' := k3 a a0 (by omega)
          have ei : fAdd (fMul a 26) j = 26 * a + j := by rw [fMul_id (by omega) (by omega), fAdd_id (by omega) (by omega), Int.mul_comm a 26]
          -- the place of the slot
          by_cases live : 16 ≤ j ∨ j < s 97 (16 * p + a)
          · obtain ⟨k, hk0, hk1, hks⟩ : ∃ k, 0 ≤ k ∧ k < 10 + s 97 (16 * p + a) ∧ slt k = j := by
              by_cases c : 16 ≤ j
              · exact ⟨j - 16, by omega, by omega, by rw [slt_l (by omega)]; omega⟩
              · exact ⟨10 + j, by omega, by omega, slt_s (by omega)⟩
            have k4' := k4 a k a0 (by omega) hk0 hk1
            obtain ⟨v1, v2⟩ := z3 a k a0 (by omega) hk0 hk1
            have vv := v2 (by omega)
            clear v1 v2
            rw [hks] at k4' vv
            obtain ⟨pl0, hpl⟩ : ∃ i, 26 * (16 * p + a) + k = i := ⟨_, rfl⟩
            rw [hpl] at k4' vv
            have hp9 : pl s p pl0 := ⟨16 * p + a, k, by omega, by unfold ai; omega, hk0, hk1, hpl.symm⟩
            obtain ⟨w, hw⟩ : ∃ w, s 99 pl0 = w := ⟨_, rfl⟩
            obtain ⟨v, hv9⟩ : ∃ v, s 98 pl0 = v := ⟨_, rfl⟩
            rw [hw] at k4' vv
            rw [hv9] at vv
            -- another slot
            have other : ∀ b l, 0 ≤ b → b < AN → 0 ≤ l → l < 10 + s 97 (16 * p + b) → ¬ (b = a ∧ slt l = j) → 26 * b + slt l ≠ 26 * a + j := fun b l u0 u1 u2 u3 u4 => by
              have hb := h97 (16 * p + b) (by omega) (by unfold ai; omega)
              have sb := slt_b (k := l) ⟨u2, by omega⟩
              omega
            have inj : ∀ l, 0 ≤ l → l < 10 + s 97 (16 * p + a) → slt l = j → l = k := fun l u0 u1 u2 => slt_i ⟨u0, by omega⟩ ⟨hk0, by omega⟩ (u2.trans hks.symm)
            by_cases cw : w = 1
            · have ekm : kmp w = 1 := kmp_1.mpr cw
              rw [ekm] at k4'
              rw [cw] at vv
              have hv8 := hrt pl0 hp9 (hw.trans cw)
              rw [hv9] at hv8
              have NX : Ev (d - 1) 142 [vR (some t), vR (some c0), vI (vm A p v 1)] al h r1 (kon d 141 94 97 [vR (some t), vR (some c1), vR (some c0), vI a, vI j, vI (26 * a + j)] [vI (26 * a + j), vR (some (t + 5))] Q) := by
                refine c_moved k9 r15 kc0 kc1 hne hB z1 z2 hv8 (fun a'' fr' h' y1 y2 y3 y4 y5 y6 => ?_)
                obtain ⟨u, hu⟩ : ∃ u, vmf a'' v 1 = u := ⟨_, rfl⟩
                rw [hu]
                have V : VRo A s p t a'' a (j + 1) (upI h' (t + 5) (26 * a + j) u) := by
                  intro b l u0 u1 u2 u3
                  have e5 : ∀ i, h' (t + 5) i = h (t + 5) i := fun i => y5 _ _ (by unfold wMv; omega)
                  by_cases c : b = a ∧ slt l = j
                  · obtain ⟨rfl, c2⟩ := c
                    have hl : l = k := inj l u2 u3 c2
                    subst hl
                    refine ⟨fun _ => ?_, fun z => absurd (Or.inr ⟨rfl, by omega⟩) z⟩
                    rw [c2, upI_eq, hpl, hw, hv9, cw, hu]
                    exact ⟨rfl, fun _ x2 => y4 x2⟩
                  · rw [upI_i (other b l u0 (by omega) u2 u3 c), e5]
                    obtain ⟨v1, v2⟩ := z3 b l u0 u1 u2 u3
                    refine ⟨fun z => ?_, fun z => v2 (by omega)⟩
                    obtain ⟨v3, v4⟩ := v1 (by omega)
                    exact ⟨by rw [vmf_x (fun x1 x2 => y3 _ (v4 x1 x2))]; exact v3, fun x1 x2 => by rw [y3 _ (v4 x1 x2)]; exact v4 x1 x2⟩
                have RC := ih2 (j + 1) a'' fr' (upI h' (t + 5) (26 * a + j) u) (vI (26 * a + j)) (by omega) (by omega) (y1.fw (fun i => upI_a (by omega)) (fun i => upI_a (by omega))) (by rw [upI_a (by omega)]; exact y2) V ((z4.tr (y5.mn (fun b j u => by unfold wMv at u; unfold wCo; omega))).up (by unfold wCo; omega))
                simp only [kon, knt_some, knt_none, Option.toList_some, Option.toList_none, List.cons_append, List.nil_append]
                refine (s141_97 (by first | decide | assumption | omega) (by first | decide | assumption | omega) (by first | decide | assumption | omega)).mpr ?_
                refine s141_98.mpr (s141_101.mpr ?_)
                try simp (disch := first | decide | assumption | omega) only [fAdd_id]
                exact RC
              rw [← vv] at NX
              refine s141_34.mpr (s141_36.mpr ?_)
              refine s141_38.mpr (wif (fun c38 => ?_) (fun c38 => ?_))
              · first
                | (exfalso; omega)
                | skip
                  refine s141_41.mpr (s141_42.mpr (s141_44.mpr (s141_45.mpr (s141_47.mpr (s141_48.mpr ?_)))))
                  refine s141_50.mpr (s141_52.mpr ?_)
                  try simp (disch := first | decide | assumption | omega) only [ei, r11, r12, r13, k3', k4']
                  refine s141_54.mpr (wif (fun c54 => ?_) (fun c54 => ?_))
                  · first
                    | (exfalso; omega)
                    | skip
                      refine s141_57.mpr (s141_59.mpr ?_)
                      refine (s141_60 (by first | decide | assumption | omega)).mpr ?_
                      refine s141_63.mpr ?_
                      try simp (disch := first | decide | assumption | omega) only [ei, r11, r12, r13, k3', k4']
                      refine (s141_64 (by first | decide | assumption | omega) (by first | decide | assumption | omega) (by first | decide | assumption | omega)).mpr ?_
                      try simp (disch := first | decide | assumption | omega) only [ei, r11, r12, r13, k3', k4']
                      refine s141_65.mpr (wif (fun c65 => ?_) (fun c65 => ?_))
                      · first
                        | (exfalso; omega)
                        | skip
                          refine s141_68.mpr ?_
                          refine (s141_69 (by first | decide | assumption | omega)).mpr ?_
                          refine s141_72.mpr ?_
                          try simp (disch := first | decide | assumption | omega) only [ei, r11, r12, r13, k3', k4']
                          refine (s141_74 (by first | decide | assumption | omega) (by first | decide | assumption | omega) (by first | decide | assumption | omega)).mpr ?_
                          refine s141_75.mpr ?_
                          try simp (disch := first | decide | assumption | omega) only [ei, r11, r12, r13, k3', k4']
                          refine s141_76.mpr (wif (fun c76 => ?_) (fun c76 => ?_))
                          · first
                            | (exfalso; omega)
                            | skip
                              refine s141_79.mpr ?_
                              refine (s141_80 (by first | decide | assumption | omega)).mpr ?_
                              refine s141_83.mpr (s141_85.mpr (s141_86.mpr (s141_87.mpr ?_)))
                              try simp (disch := first | decide | assumption | omega) only [ei, r11, r12, r13, k3', k4']
                              refine (s141_88 (by first | decide | assumption | omega)).mpr ?_
                              refine s141_91.mpr ?_
                              try simp (disch := first | decide | assumption | omega) only [ei, r11, r12, r13, k3', k4']
                              refine (s141_93 (by first | decide | assumption | omega) (by first | decide | assumption | omega) (by first | decide | assumption | omega)).mpr ?_
                              try simp (disch := first | decide | assumption | omega) only [ei, r11, r12, r13, k3', k4']
                              refine (s141_94 (by first | decide | assumption | omega) (by first | decide | assumption | omega)).mpr ?_
                              exact NX
                          · first
                            | (exfalso; omega)
                            | skip
                              exfalso; omega
                      · first
                        | (exfalso; omega)
                        | skip
                          exfalso; omega
                  · first
                    | (exfalso; omega)
                    | skip
                      refine s141_68.mpr ?_
                      refine (s141_69 (by first | decide | assumption | omega)).mpr ?_
                      refine s141_72.mpr ?_
                      try simp (disch := first | decide | assumption | omega) only [ei, r11, r12, r13, k3', k4']
                      refine (s141_74 (by first | decide | assumption | omega) (by first | decide | assumption | omega) (by first | decide | assumption | omega)).mpr ?_
                      refine s141_75.mpr ?_
                      try simp (disch := first | decide | assumption | omega) only [ei, r11, r12, r13, k3', k4']
                      refine s141_76.mpr (wif (fun c76 => ?_) (fun c76 => ?_))
                      · first
                        | (exfalso; omega)
                        | skip
                          refine s141_79.mpr ?_
                          refine (s141_80 (by first | decide | assumption | omega)).mpr ?_
                          refine s141_83.mpr (s141_85.mpr (s141_86.mpr (s141_87.mpr ?_)))
                          try simp (disch := first | decide | assumption | omega) only [ei, r11, r12, r13, k3', k4']
                          refine (s141_88 (by first | decide | assumption | omega)).mpr ?_
                          refine s141_91.mpr ?_
                          try simp (disch := first | decide | assumption | omega) only [ei, r11, r12, r13, k3', k4']
                          refine (s141_93 (by first | decide | assumption | omega) (by first | decide | assumption | omega) (by first | decide | assumption | omega)).mpr ?_
                          try simp (disch := first | decide | assumption | omega) only [ei, r11, r12, r13, k3', k4']
                          refine (s141_94 (by first | decide | assumption | omega) (by first | decide | assumption | omega)).mpr ?_
                          exact NX
                      · first
                        | (exfalso; omega)
                        | skip
                          exfalso; omega
              · first
                | (exfalso; omega)
                | skip
                  exfalso; omega
            · have ekm : kmp w ≠ 1 := fun u => cw (kmp_1.mp u)
              obtain ⟨kw, hkw⟩ : ∃ kw, kmp w = kw := ⟨_, rfl⟩
              rw [hkw] at k4' ekm
              have V : VRo A s p t a' a (j + 1) h := by
                intro b l u0 u1 u2 u3
                obtain ⟨v1, v2'⟩ := z3 b l u0 u1 u2 u3
                by_cases c : b = a ∧ slt l = j
                · obtain ⟨rfl, c2⟩ := c
                  have hl : l = k := inj l u2 u3 c2
                  subst hl
                  refine ⟨fun _ => ?_, fun z => absurd (Or.inr ⟨rfl, by omega⟩) z⟩
                  rw [c2, hpl, hw, hv9]
                  rw [vv]
                  unfold vm vmf
                  rw [if_neg cw, if_neg cw]
                  exact ⟨rfl, fun z => absurd z cw⟩
                · exact ⟨fun z => v1 (by omega), fun z => v2' (by omega)⟩
              have RC := ih2 (j + 1) a' fr h (vI (26 * a + j)) (by omega) (by omega) z1 z2 V z4
              refine s141_34.mpr (s141_36.mpr ?_)
              refine s141_38.mpr (wif (fun c38 => ?_) (fun c38 => ?_))
              · first
                | (exfalso; omega)
                | skip
                  refine s141_41.mpr (s141_42.mpr (s141_44.mpr (s141_45.mpr (s141_47.mpr (s141_48.mpr ?_)))))
                  refine s141_50.mpr (s141_52.mpr ?_)
                  try simp (disch := first | decide | assumption | omega) only [ei, r11, r12, r13, k3', k4', fAdd_id]
                  refine s141_54.mpr (wif (fun c54 => ?_) (fun c54 => ?_))
                  · first
                    | (exfalso; omega)
                    | skip
                      refine s141_57.mpr (s141_59.mpr ?_)
                      refine (s141_60 (by first | decide | assumption | omega)).mpr ?_
                      refine s141_63.mpr ?_
                      try simp (disch := first | decide | assumption | omega) only [ei, r11, r12, r13, k3', k4', fAdd_id]
                      refine (s141_64 (by first | decide | assumption | omega) (by first | decide | assumption | omega) (by first | decide | assumption | omega)).mpr ?_
                      try simp (disch := first | decide | assumption | omega) only [ei, r11, r12, r13, k3', k4', fAdd_id]
                      refine s141_65.mpr (wif (fun c65 => ?_) (fun c65 => ?_))
                      · first
                        | (exfalso; omega)
                        | skip
                          refine s141_68.mpr ?_
                          refine (s141_69 (by first | decide | assumption | omega)).mpr ?_
                          refine s141_72.mpr ?_
                          try simp (disch := first | decide | assumption | omega) only [ei, r11, r12, r13, k3', k4', fAdd_id]
                          refine (s141_74 (by first | decide | assumption | omega) (by first | decide | assumption | omega) (by first | decide | assumption | omega)).mpr ?_
                          refine s141_75.mpr ?_
                          try simp (disch := first | decide | assumption | omega) only [ei, r11, r12, r13, k3', k4', fAdd_id]
                          refine s141_76.mpr (wif (fun c76 => ?_) (fun c76 => ?_))
                          · first
                            | (exfalso; omega)
                            | skip
                              exact absurd (by assumption) ekm
                          · first
                            | (exfalso; omega)
                            | skip
                              refine s141_98.mpr (s141_101.mpr ?_)
                              try simp (disch := first | decide | assumption | omega) only [ei, r11, r12, r13, k3', k4', fAdd_id]
                              exact RC
                      · first
                        | (exfalso; omega)
                        | skip
                          refine s141_98.mpr (s141_101.mpr ?_)
                          try simp (disch := first | decide | assumption | omega) only [ei, r11, r12, r13, k3', k4', fAdd_id]
                          exact RC
                  · first
                    | (exfalso; omega)
                    | skip
                      refine s141_68.mpr ?_
                      refine (s141_69 (by first | decide | assumption | omega)).mpr ?_
                      refine s141_72.mpr ?_
                      try simp (disch := first | decide | assumption | omega) only [ei, r11, r12, r13, k3', k4', fAdd_id]
                      refine (s141_74 (by first | decide | assumption | omega) (by first | decide | assumption | omega) (by first | decide | assumption | omega)).mpr ?_
                      refine s141_75.mpr ?_
                      try simp (disch := first | decide | assumption | omega) only [ei, r11, r12, r13, k3', k4', fAdd_id]
                      refine s141_76.mpr (wif (fun c76 => ?_) (fun c76 => ?_))
                      · first
                        | (exfalso; omega)
                        | skip
                          exact absurd (by assumption) ekm
                      · first
                        | (exfalso; omega)
                        | skip
                          refine s141_98.mpr (s141_101.mpr ?_)
                          try simp (disch := first | decide | assumption | omega) only [ei, r11, r12, r13, k3', k4', fAdd_id]
                          exact RC
              · first
                | (exfalso; omega)
                | skip
                  exfalso; omega
          · have V : VRo A s p t a' a (j + 1) h := by
              intro b l u0 u1 u2 u3
              obtain ⟨v1, v2'⟩ := z3 b l u0 u1 u2 u3
              have hn : ¬ (b = a ∧ slt l = j) := by
                rintro ⟨rfl, c2⟩
                unfold slt at c2
                split at c2 <;> omega
              exact ⟨fun z => v1 (by omega), fun z => v2' (by omega)⟩
            have RC := ih2 (j + 1) a' fr h (vI (26 * a + j)) (by omega) (by omega) z1 z2 V z4
            refine s141_34.mpr (s141_36.mpr ?_)
            refine s141_38.mpr (wif (fun c38 => ?_) (fun c38 => ?_))
            · first
              | (exfalso; omega)
              | skip
                refine s141_41.mpr (s141_42.mpr (s141_44.mpr (s141_45.mpr (s141_47.mpr (s141_48.mpr ?_)))))
                refine s141_50.mpr (s141_52.mpr ?_)
                try simp (disch := first | decide | assumption | omega) only [ei, r11, k3', fAdd_id]
                refine s141_54.mpr (wif (fun c54 => ?_) (fun c54 => ?_))
                · first
                  | (exfalso; omega)
                  | skip
                    refine s141_57.mpr (s141_59.mpr ?_)
                    refine (s141_60 (by first | decide | assumption | omega)).mpr ?_
                    refine s141_63.mpr ?_
                    try simp (disch := first | decide | assumption | omega) only [ei, r11, k3', fAdd_id]
                    refine (s141_64 (by first | decide | assumption | omega) (by first | decide | assumption | omega) (by first | decide | assumption | omega)).mpr ?_
                    try simp (disch := first | decide | assumption | omega) only [ei, r11, k3', fAdd_id]
                    refine s141_65.mpr (wif (fun c65 => ?_) (fun c65 => ?_))
                    · first
                      | (exfalso; omega)
                      | skip
                        exfalso; omega
                    · first
                      | (exfalso; omega)
                      | skip
                        refine s141_98.mpr (s141_101.mpr ?_)
                        try simp (disch := first | decide | assumption | omega) only [ei, r11, k3', fAdd_id]
                        exact RC
                · first
                  | (exfalso; omega)
                  | skip
                    exfalso; omega
            · first
              | (exfalso; omega)
              | skip
                exfalso; omega
      have E := T34 26 0 a' fr h l5 (by decide) (by decide) z1 z2 z3 z4
      refine s141_17.mpr (s141_18.mpr ?_)
      refine (s141_19 (by first | decide | assumption | omega)).mpr ?_
      try simp (disch := first | decide | assumption | omega) only [k7]
      refine s141_22.mpr (wif (fun c22 => ?_) (fun c22 => ?_))
      · skip
        refine s141_25.mpr (s141_26.mpr ?_)
        refine s141_28.mpr (wif (fun c28 => ?_) (fun c28 => ?_))
        · skip
          refine s141_31.mpr (s141_32.mpr ?_)
          exact E
        · skip
          exfalso; omega
      · skip
        exfalso; omega
  have E := T17 AN.toNat 0 (fun _ => 0) 1 (upI hi t 16 1) none none (by omega) (Int.le_refl _) ⟨⟨by decide, by decide, Or.inr rfl⟩, fun b hb => absurd rfl hb, fun b b' hb => absurd rfl hb, fun x x0 x1 => by omega, fun b hb => by
      rw [if_pos rfl, upI_a nt0]
      obtain ⟨u1, u2⟩ := hold b hb
      exact ⟨u1, fun i i0 i1 => by rw [upI_a nt0]; exact u2 i i0 i1⟩, by
      have := sA_le (z := zz s p) (a := fun _ => 0) 1 1 (fun b => (0 : Int) ≠ 0) (by decide) (by decide) (fun b hb => absurd rfl hb) (fun b b' hb => absurd rfl hb)
      show (1 : Int) - 1 = (sA (zz s p) (fun b => (0 : Int) ≠ 0) : Nat)
      omega⟩ upI_eq (fun a k u0 u1 u2 u3 => ⟨fun z => by
      have hb := h97 (16 * p + a) (by omega) (by unfold ai; omega)
      have sb := slt_b (k := k) ⟨u2, by omega⟩
      omega, fun _ => by rw [upI_a (by omega)]; exact (hv a k u0 u1 u2 u3).2⟩) FW.rf
  rw [e141]
  refine s141_0.mpr ?_
  refine (s141_1 (by first | decide | assumption | omega)).mpr ?_
  refine s141_4.mpr (s141_5.mpr (s141_6.mpr ?_))
  try simp (disch := first | decide | assumption | omega) only [e15, hr1]
  refine (s141_7 (by first | decide | assumption | omega)).mpr ?_
  refine s141_10.mpr (s141_11.mpr ?_)
  refine (s141_12 (by first | decide | assumption | omega)).mpr ?_
  refine s141_15.mpr (s141_16.mpr ?_)
  try simp (disch := first | decide | assumption | omega) only [e15, hr1]
  exact E
end CG3
