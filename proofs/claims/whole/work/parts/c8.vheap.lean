section CV8
variable {d : Nat} {al : AL} {hi : HI} {hr : HR} {Q : QQ} {B : Int → Int} {N : Nat} {n : Int} {f : Int}
/-- a module that stands, with a text that names what is there -/
def ModV (al : AL) (hi : HI) (hr : HR) (N : Nat) (n : Int) (B : Int → Int) (M : Nat) : Prop := (MS al hr N ∧ 119 ≤ N ∧ N + 6 < M ∧ M ≤ al.1) ∧ (hi N 1 = n ∧ n ≤ aln al (N + 6) ∧ ∀ k, 0 ≤ k → k < n → hi (N + 6) k = B k) ∧ (hi N 2 = nRec B ∧ hi N 6 = nCtr B ∧ hi N 8 = nFn B) ∧ RecsOK hi N B (nRec B) ∧ (∀ c, 0 ≤ c → c < nCtr B → ∃ o, hr (N + 4) c = some o ∧ N + 6 < o ∧ o + 4 < M ∧ CtrOK al hi hr B c o) ∧ (∀ f, 0 ≤ f → f < nFn B → ∃ t, hr (N + 5) f = some (t + 1) ∧ N + 6 < t ∧ t + 2 < M ∧ RoutOK al hi hr B f t) ∧ szOK hi N ∧ OPS al hi
/-- the text -/
def TxV (B : Int → Int) (n : Int) : Prop := TX2 B n ∧ Sh B ∧ NV B
theorem TxV.rg (h : TxV B n) (k : Int) : -1 ≤ B k ∧ B k ≤ 255 := by
  have := h.1.1 k
  by_cases c : 0 ≤ k ∧ k < n
  · have := this.1 c; omega
  · have := this.2 c; omega
theorem ModV.fr {al' : AL} {hi' : HI} {hr' : HR} {M x s : Nat} (h : ModV al hi hr N n B M) (hG : GA al al' x s) (h0 : ∀ i, hi' 0 i = hi 0 i) (hf : ∀ a i, N ≤ a → a < M → (i = 6 → ¬ isK al a 8) → hi' a i = hi a i) (hR : ∀ a i, N ≤ a → a < M → (i = 8 ∨ i = 9 → ¬ isK al a 8) → hr' a i = hr a i) : ModV al' hi' hr' N n B M := by
  obtain ⟨⟨a1, a2, a3, a4⟩, ⟨b1, b2, b3⟩, ⟨c1, c2, c3⟩, d1, e1, f1, g1, i1⟩ := h
  have kx : ∀ {a k : Nat}, isK al a k → k ≠ 8 → ¬ isK al a 8 := fun h1 h2 h3 => h2 (h1.2.2.symm.trans h3.2.2)
  have kN := a1.1
  have hfN : ∀ i, hi' N i = hi N i := fun i => hf N i (by omega) (by omega) (fun _ => kx kN (by decide))
  have hrN : ∀ i, hr' N i = hr N i := fun i => hR N i (by omega) (by omega) (fun _ => kx kN (by decide))
  have k6 := a1.2.2.2.2.2.2.2
  have hfk : ∀ {a k : Nat} i, isK al a k → k ≠ 8 → N ≤ a → a < M → hi' a i = hi a i := fun i h1 h2 h3 h4 => hf _ i h3 h4 (fun _ => kx h1 h2)
  have hrk : ∀ {a k : Nat} i, isK al a k → k ≠ 8 → N ≤ a → a < M → hr' a i = hr a i := fun i h1 h2 h3 h4 => hR _ i h3 h4 (fun _ => kx h1 h2)
  refine ⟨⟨a1.fr hG hrN, a2, a3, Nat.le_trans a4 hG.1⟩, ⟨(hfN _).trans b1, by rw [hG.l (by omega)]; exact b2, fun k k0 k1 => (hfk k k6 (by decide) (by omega) (by omega)).trans (b3 k k0 k1)⟩, ⟨(hfN _).trans c1, (hfN _).trans c2, (hfN _).trans c3⟩, ?_, fun c c0 c1 => ?_, fun f f0 f1' => ?_, fun r r0 r1 => ?_, i1.fr hG (by omega) h0⟩
  · refine d1.fr (fun a i z1 z2 => ?_)
    have : a = N + 1 ∨ a = N + 2 ∨ a = N + 3 := by omega
    rcases this with rfl | rfl | rfl
    · exact hfk i a1.2.1.2.1 (by decide) (by omega) (by omega)
    · exact hfk i a1.2.2.1.2.1 (by decide) (by omega) (by omega)
    · exact hfk i a1.2.2.2.1.2.1 (by decide) (by omega) (by omega)
  · obtain ⟨o, z1, z2, z3, z4⟩ := e1 c c0 c1
    refine ⟨o, (hrk _ a1.2.2.2.2.1.2.1 (by decide) (by omega) (by omega)).trans z1, z2, z3, z4.fr hG (fun a i y1 y2 => ?_) (fun i => hrk i z4.1.1 (by decide) (by omega) (by omega))⟩
    obtain ⟨q0, ⟨q1, q2, q3⟩, ⟨q4, q5, q6⟩, ⟨q7, q8, q9⟩, q10, q11, q12⟩ := z4.1
    have : a = o ∨ a = o + 1 ∨ a = o + 2 ∨ a = o + 3 ∨ a = o + 4 := by omega
    rcases this with rfl | rfl | rfl | rfl | rfl
    · exact hfk i q0 (by decide) (by omega) (by omega)
    · exact hfk i q2 (by decide) (by omega) (by omega)
    · exact hfk i q5 (by decide) (by omega) (by omega)
    · exact hfk i q8 (by decide) (by omega) (by omega)
    · exact hfk i q11 (by decide) (by omega) (by omega)
  · obtain ⟨t, z1, z2, z3, z4⟩ := f1 f f0 f1'
    refine ⟨t, (hrk _ a1.2.2.2.2.2.1.2.1 (by decide) (by omega) (by omega)).trans z1, z2, z3, z4.fr hG (fun a i y1 y2 y3 => ?_) (fun i y => hR _ i (by omega) (by omega) (fun w => absurd w (by omega)))⟩
    obtain ⟨q0, ⟨q1, q2⟩, q4, q5⟩ := z4.1
    have : a = t ∨ a = t + 1 ∨ a = t + 2 := by omega
    rcases this with rfl | rfl | rfl
    · exact hfk i q2 (by decide) (by omega) (by omega)
    · exact hf _ i (by omega) (by omega) (fun w => absurd w (y3 rfl))
    · exact hfk i q5 (by decide) (by omega) (by omega)
  · rw [hfk r a1.2.1.2.1 (by decide) (by omega) (by omega)]; exact g1 r r0 r1
theorem ModV.wv {hi' : HI} {M : Nat} (h : ModV al hi hr N n B M) (hf : FW wV hi hi') : ModV al hi' hr N n B M := h.fr GA.rf (fun i => hf 0 i (fun q => by unfold wV at q; omega)) (fun a i z1 _ _ => hf a i (wV_a (by have := h.1.2.1; omega))) (fun _ _ _ _ _ => rfl)
theorem c_namedByW {t : Int} (q : ∀ x, Q (some (some (vI x))) al hi hr) : Ev d 208 [vI t] al hi hr Q := by
  rw [e208]
  refine s208_0.mpr (s208_1.mpr (s208_2.mpr (s208_3.mpr (s208_6.mpr ?_))))
  refine (s208_7).mpr ?_
  exact q _
/-- what is in hand behind an instruction, and whether it goes on -/
def VF (r : Option (List (Int × Tst))) (x : Int) (hi : HI) : Prop := (∃ q Y, r = some [(q, Y)] ∧ Y.1 ≤ 16 ∧ VS (some Y) hi ∧ x = 1) ∨ (r = some [] ∧ (∃ Y, VS (some Y) hi) ∧ x = 0) ∨ ((r = none ∨ ∃ q Y, r = some [(q, Y)] ∧ ¬ Y.1 ≤ 16) ∧ VS none hi ∧ (x = 0 ∨ x = 1))
theorem VF.of {c : Prop} {q : Int} {Y : Tst} (h : VS (nxO (onw c [(q, Y)])) hi) : VF (onw c [(q, Y)]) 1 hi := by
  by_cases hc : c
  · rw [onw_p hc] at h ⊢
    by_cases c16 : Y.1 ≤ 16
    · rw [nx_y c16] at h; exact Or.inl ⟨q, Y, rfl, c16, h, rfl⟩
    · rw [nx_x c16] at h; exact Or.inr (Or.inr ⟨Or.inr ⟨q, Y, rfl, c16⟩, h, Or.inr rfl⟩)
  · rw [onw_n hc] at h ⊢; exact Or.inr (Or.inr ⟨Or.inl rfl, h, Or.inr rfl⟩)
theorem VF.no {x : Int} (h : VS none hi) (hx : x = 0 ∨ x = 1) : VF none x hi := Or.inr (Or.inr ⟨Or.inl rfl, h, hx⟩)
theorem vX.pop {X : Tst} (h : vX B X) (hx : 0 < X.1) : vX B (X.1 - 1, X.2.1, X.2.2) := ⟨by show 0 ≤ X.1 - 1; omega, fun k k0 k1 => h.2.1 k k0 (by have k1 : k < X.1 - 1 := k1; omega), h.2.2⟩
theorem popI_y {X : Tst} (h : 0 < X.1) (h2 : X.2.1 (X.1 - 1) = 0) : popI (some X) = some (X.1 - 1, X.2.1, X.2.2) := if_pos ⟨h, h2⟩
theorem popI_n {X : Tst} (h : ¬ (0 < X.1 ∧ X.2.1 (X.1 - 1) = 0)) : popI (some X) = none := if_neg h
theorem popO_v {X : Tst} (h : vX B X) : ∀ Y, popO (some X) = some Y → vX B Y := fun Y e => by
  by_cases c : 0 < X.1
  · rw [pop_y c] at e; cases e; exact h.pop c
  · rw [pop_n c] at e; cases e
theorem popI_v {X : Tst} (h : vX B X) : ∀ Y, popI (some X) = some Y → vX B Y := fun Y e => by
  by_cases c : 0 < X.1 ∧ X.2.1 (X.1 - 1) = 0
  · rw [popI_y c.1 c.2] at e; cases e; exact h.pop c.1
  · rw [popI_n c] at e; cases e
/-- a record's size and fields, as they stand -/
theorem ModV.sz {M : Nat} {r : Int} (h : ModV al hi hr N n B M) (hT : TxV B n) (r0 : 0 ≤ r) (r1 : r < nRec B) : szR hi N r = nFld B r := by
  rw [szR_y r0 (by have := hT.2.1.2.1; omega)]
  exact (h.2.2.2.1 r r0 r1).1.1
theorem ModV.tf {M : Nat} {r k : Int} (h : ModV al hi hr N n B M) (hT : TxV B n) (r0 : 0 ≤ r) (r1 : r < nRec B) (k0 : 0 ≤ k) : tfR hi N r k = if k < nFld B r then cv (fTy B r k) else -1 := by
  unfold tfR
  rw [h.sz hT r0 r1]
  by_cases c : k < nFld B r
  · rw [if_neg (by omega), if_pos c, (h.2.2.2.1 r r0 r1).1.2 k k0 c]
    exact tyC_cv hT.rg ((hT.2.1.2.2.1 r r0 r1).2.2.2.1 k k0 c).1
  · rw [if_pos (by omega), if_neg c]
theorem v_popIntN (h : VR al hr) (hd : 1 ≤ d) (hs : VS none hi) (q : ∀ hi', VS none hi' → FW wV hi hi' → Q (some none) al hi' hr) : Ev d 167 [vR (some 8)] al hi hr Q := v_popInt (B := fun _ => 0) h hd hs (fun X e => by cases e) q
theorem v_wantN {x : Int} (h : VR al hr) (hs : VS none hi) (q : ∀ hi', VS none hi' → FW wV hi hi' → Q (some none) al hi' hr) : Ev d 166 [vR (some 8), vI x] al hi hr Q := v_wantW h hs (fun hi' s f _ => q hi' s f)
theorem c_namedByG {t : Int} (q : ∀ x, (rng t → x = t / 16 % 256) → Q (some (some (vI x))) al hi hr) : Ev d 208 [vI t] al hi hr Q := by
  by_cases c : rng t
  · exact (c_namedBy c).mpr (q _ (fun _ => rfl))
  · exact c_namedByW (fun x => q x (fun z => absurd z c))
theorem cv_r {t : Int} (h : rT t) : rng (cv t) := by have := cv_rng h; exact ⟨by omega, by omega⟩
/-- blocks -/
theorem v_blk32 {v p : Int} {X : Tst} (h : VR al hr) (hd : 2 ≤ d) (hs : VS (some X) hi) (v0 : 0 ≤ v ∧ v ≤ 255)
    (q : ∀ hi', VF (tsL B f 32 v p X) 1 hi' → FW wV hi hi' → Q (some (some (vI 1))) al hi' hr) : Ev d 180 [vR (some 8), vI 32, vI v] al hi hr Q := by
  have k8 := h.k8; have k11 := h.k11; have k12 := h.k12; have l11 := h.l11; have l12 := h.l12; have r1 := h.2.2.1; have r2 := h.2.2.2.1
  have e1 : tyO 4 v = cv (4 + 8 * v) := by rw [tyO_v (by decide) (by decide) v0.1 (by omega), cv_node (by decide) (by decide) v0.1 (by omega)]
  have et : tsL B f 32 v p X = onw True [(p + 2, (X.1 + 1, up1 X.2.1 X.1 (4 + 8 * v), X.2.2))] := rfl
  rw [et] at q
  rw [e180]
  refine s180_0.mpr (s180_1.mpr ?_)
  refine s180_3.mpr (wif (fun c3 => ?_) (fun c3 => ?_))
  · first
    | (exfalso; omega)
    | skip
      refine s180_6.mpr (s180_7.mpr (s180_8.mpr ?_))
      refine (s180_9 (by omega)).mpr ?_
      refine c_typeOf.mpr ?_
      refine (s180_12 (by first | decide | assumption | omega) (by first | decide | assumption | omega)).mpr ?_
      refine v_push h hs (fun _ => e1) (fun hi1 s1 f1 => ?_)
      refine s180_15.mpr ?_
      refine (s180_16 (by first | assumption | omega)).mpr ?_
      exact q _ (VF.of (by rw [onw_p trivial, nx_push]; exact s1)) f1
  · first
    | (exfalso; omega)
    | skip
      exfalso; omega
theorem v_blk33 {v p : Int} {X : Tst} {M : Nat} (h : VR al hr) (hd : 2 ≤ d) (hM : ModV al hi hr N n B M) (hT : TxV B n) (hN : hr 8 7 = some N) (hs : VS (some X) hi) (hv : vX B X)
    (q : ∀ hi', VF (tsL B f 33 v p X) 1 hi' → FW wV hi hi' → Q (some (some (vI 1))) al hi' hr) : Ev d 180 [vR (some 8), vI 33, vI v] al hi hr Q := by
  have k8 := h.k8; have k11 := h.k11; have k12 := h.k12; have l11 := h.l11; have l12 := h.l12; have r1 := h.2.2.1; have r2 := h.2.2.2.1
  have kN := hM.1.1.1
  have c16 := hs.2.2.2.1
  have tK : ∀ v1, topV (some X) v1 → 0 < X.1 → v1 = cv (X.2.1 (X.1 - 1)) ∧ v1 % 16 = kindM (X.2.1 (X.1 - 1)) ∧ rng v1 ∧ v1 / 16 % 256 = whichM (X.2.1 (X.1 - 1)) := fun v1 t1 c => by (have hv1 := (hv.2.1 (X.1 - 1) (by omega) (by omega)).r; have e := t1 X rfl c; rw [e]; exact ⟨rfl, cv_k hv1, cv_r hv1, cv_w hv1⟩)
  have et : tsL B f 33 v p X = onw (0 < X.1 ∧ kindM (X.2.1 (X.1 - 1)) = 4 ∧ v < nFld B (whichM (X.2.1 (X.1 - 1)))) [(p + 2, (X.1 + 1, up1 X.2.1 X.1 0, X.2.2))] := rfl
  rw [et] at q
  have qN : ∀ hi', VS none hi' → FW wV hi hi' → ¬ (0 < X.1 ∧ kindM (X.2.1 (X.1 - 1)) = 4 ∧ v < nFld B (whichM (X.2.1 (X.1 - 1)))) → Q (some (some (vI 1))) al hi' hr := fun hi' s f1 c => q hi' (by rw [onw_n c]; exact VF.no s (Or.inr rfl)) f1
  have key : ∀ v1 x9 hi1, topV (some X) v1 → (rng v1 → x9 = v1 / 16 % 256) → FW wV hi hi1 → 0 < X.1 → v1 % 16 = 4 → szR hi1 N x9 = nFld B (whichM (X.2.1 (X.1 - 1))) := fun v1 x9 hi1 t1 w1 f1 c k => by
    obtain ⟨k1, k2, k3, k4⟩ := tK v1 t1 c
    have hvt := hv.2.1 (X.1 - 1) (by omega) (by omega)
    rw [w1 k3, k4]
    exact (hM.wv f1).sz hT (by unfold whichM; omega) (hvt.2.2.2.2.2.2.1 (by omega))
  rw [e180]
  refine s180_0.mpr (s180_1.mpr ?_)
  refine s180_3.mpr (wif (fun c3 => ?_) (fun c3 => ?_))
  · first
    | (exfalso; omega)
    | skip
      exfalso; omega
  · first
    | (exfalso; omega)
    | skip
      refine s180_17.mpr (s180_18.mpr ?_)
      refine s180_20.mpr (wif (fun c20 => ?_) (fun c20 => ?_))
      · first
        | (exfalso; omega)
        | skip
          exfalso; omega
      · first
        | (exfalso; omega)
        | skip
          refine s180_27.mpr ?_
          refine (s180_28 (by first | decide | assumption | omega) (by first | decide | assumption | omega)).mpr ?_
          refine v_pop h hs (fun v1 hi1 s1 f1 t1 => ?_)
          refine s180_31.mpr (s180_32.mpr (s180_33.mpr ?_))
          refine (s180_34 (by omega)).mpr ?_
          refine c_kindOf.mpr ?_
          refine s180_37.mpr ?_
          refine s180_38.mpr (wif (fun c38 => ?_) (fun c38 => ?_))
          · first
            | (exfalso; omega)
            | skip
              refine s180_41.mpr (s180_42.mpr ?_)
              refine (s180_46 (by first | decide | assumption | omega) (by first | decide | assumption | omega)).mpr ?_
              first | refine v_want0 h ?_ | refine v_want1 h ?_
              refine s180_49.mpr (s180_50.mpr ?_)
              refine s180_52.mpr (wif (fun c52 => ?_) (fun c52 => ?_))
              · first
                | (exfalso; omega)
                | skip
                  refine s180_84.mpr (s180_85.mpr ?_)
                  refine s180_87.mpr (wif (fun c87 => ?_) (fun c87 => ?_))
                  · first
                    | (exfalso; omega)
                    | skip
                      refine s180_90.mpr (s180_91.mpr ?_)
                      refine (s180_92 (by first | decide | assumption | omega) (by first | decide | assumption | omega)).mpr ?_
                      first
                      | refine v_push (t := X.2.1 (X.1 - 1)) h s1 (fun z => (tK v1 t1 (nn_pop rfl z)).1) (fun hi4 s4 f4 => ?_)
                      | refine v_pushN h s1.w (fun hi4 s4 f4 => ?_)
                      | refine v_pushN h s1.w.w (fun hi4 s4 f4 => ?_)
                      | refine v_push (t := 0) h s4 (fun _ => rfl) (fun hi5 s5 f5 => ?_)
                      refine s180_95.mpr ?_
                      refine (s180_96 (by first | assumption | omega)).mpr ?_
                      first
                      | (by_cases c : 0 < X.1
                         · rw [key v1 x9 hi1 t1 w1 f1 c (by assumption)] at c68
                           refine q _ (VF.of ?_) ((f1.tr f4).tr f5)
                           rw [onw_p ⟨c, by have := (tK v1 t1 c).2.1; omega, c68⟩, nx_push]
                           rw [pop_y c, push_y (by show X.1 - 1 < 16; omega)] at s5
                           simp only [Int.sub_add_cancel, up1_sf] at s5
                           exact s5
                         · refine qN _ ?_ ((f1.tr f4).tr f5) (fun z => c z.1)
                           rw [pop_n c] at s5; exact s5)
                      | (refine qN _ s5 (((f1.up wV_5).tr f4).tr f5) (fun z => ?_)
                         have k2 := (tK v1 t1 z.1).2.1
                         have c68 := c68
                         first
                         | (exfalso; omega)
                         | (rw [key v1 x9 hi1 t1 w1 f1 z.1 (by assumption)] at c68; exact absurd z.2.2 c68))
                      | (refine qN _ s5 ((((f1.up wV_5).up wV_5).tr f4).tr f5) (fun z => ?_)
                         have k2 := (tK v1 t1 z.1).2.1
                         omega)
                  · first
                    | (exfalso; omega)
                    | skip
                      refine s180_95.mpr ?_
                      refine (s180_96 (by first | assumption | omega)).mpr ?_
                      first
                      | (by_cases c : 0 < X.1
                         · rw [key v1 x9 hi1 t1 w1 f1 c (by assumption)] at c68
                           refine q _ (VF.of ?_) ((f1.tr f4).tr f5)
                           rw [onw_p ⟨c, by have := (tK v1 t1 c).2.1; omega, c68⟩, nx_push]
                           rw [pop_y c, push_y (by show X.1 - 1 < 16; omega)] at s5
                           simp only [Int.sub_add_cancel, up1_sf] at s5
                           exact s5
                         · refine qN _ ?_ ((f1.tr f4).tr f5) (fun z => c z.1)
                           rw [pop_n c] at s5; exact s5)
                      | (refine qN _ s5 (((f1.up wV_5).tr f4).tr f5) (fun z => ?_)
                         have k2 := (tK v1 t1 z.1).2.1
                         have c68 := c68
                         first
                         | (exfalso; omega)
                         | (rw [key v1 x9 hi1 t1 w1 f1 z.1 (by assumption)] at c68; exact absurd z.2.2 c68))
                      | (refine qN _ s5 ((((f1.up wV_5).up wV_5).tr f4).tr f5) (fun z => ?_)
                         have k2 := (tK v1 t1 z.1).2.1
                         omega)
              · first
                | (exfalso; omega)
                | skip
                  refine s180_55.mpr (s180_56.mpr (s180_57.mpr ?_))
                  refine (s180_58 (by first | decide | assumption | omega)).mpr ?_
                  refine s180_61.mpr ?_
                  try simp (disch := first | decide | assumption | omega) only [kon, knt_some, knt_none, Option.toList_some, Option.toList_none, List.cons_append, List.nil_append, hN]
                  refine (s180_62 (by omega)).mpr ?_
                  refine c_namedByG (fun x9 w1 => ?_)
                  refine (s180_65 (by first | decide | assumption | omega) (by first | decide | assumption | omega)).mpr ?_
                  refine t_sizeOfRecord hM.1.1 ?_
                  refine s180_68.mpr (wif (fun c68 => ?_) (fun c68 => ?_))
                  · first
                    | (exfalso; omega)
                    | skip
                      refine s180_71.mpr (s180_72.mpr ?_)
                      refine (s180_76 (by first | decide | assumption | omega) (by first | decide | assumption | omega)).mpr ?_
                      first | refine v_want0 h ?_ | refine v_want1 h ?_
                      refine s180_79.mpr (s180_80.mpr ?_)
                      refine (s180_81 (by first | decide | assumption | omega) (by first | decide | assumption | omega)).mpr ?_
                      first
                      | refine v_push (t := X.2.1 (X.1 - 1)) h s1 (fun z => (tK v1 t1 (nn_pop rfl z)).1) (fun hi4 s4 f4 => ?_)
                      | refine v_pushN h s1.w (fun hi4 s4 f4 => ?_)
                      | refine v_pushN h s1.w.w (fun hi4 s4 f4 => ?_)
                      | refine v_push (t := 0) h s4 (fun _ => rfl) (fun hi5 s5 f5 => ?_)
                      refine s180_84.mpr (s180_85.mpr ?_)
                      refine s180_87.mpr (wif (fun c87 => ?_) (fun c87 => ?_))
                      · first
                        | (exfalso; omega)
                        | skip
                          refine s180_90.mpr (s180_91.mpr ?_)
                          refine (s180_92 (by first | decide | assumption | omega) (by first | decide | assumption | omega)).mpr ?_
                          first
                          | refine v_push (t := X.2.1 (X.1 - 1)) h s1 (fun z => (tK v1 t1 (nn_pop rfl z)).1) (fun hi4 s4 f4 => ?_)
                          | refine v_pushN h s1.w (fun hi4 s4 f4 => ?_)
                          | refine v_pushN h s1.w.w (fun hi4 s4 f4 => ?_)
                          | refine v_push (t := 0) h s4 (fun _ => rfl) (fun hi5 s5 f5 => ?_)
                          refine s180_95.mpr ?_
                          refine (s180_96 (by first | assumption | omega)).mpr ?_
                          first
                          | (by_cases c : 0 < X.1
                             · rw [key v1 x9 hi1 t1 w1 f1 c (by assumption)] at c68
                               refine q _ (VF.of ?_) ((f1.tr f4).tr f5)
                               rw [onw_p ⟨c, by have := (tK v1 t1 c).2.1; omega, c68⟩, nx_push]
                               rw [pop_y c, push_y (by show X.1 - 1 < 16; omega)] at s5
                               simp only [Int.sub_add_cancel, up1_sf] at s5
                               exact s5
                             · refine qN _ ?_ ((f1.tr f4).tr f5) (fun z => c z.1)
                               rw [pop_n c] at s5; exact s5)
                          | (refine qN _ s5 (((f1.up wV_5).tr f4).tr f5) (fun z => ?_)
                             have k2 := (tK v1 t1 z.1).2.1
                             have c68 := c68
                             first
                             | (exfalso; omega)
                             | (rw [key v1 x9 hi1 t1 w1 f1 z.1 (by assumption)] at c68; exact absurd z.2.2 c68))
                          | (refine qN _ s5 ((((f1.up wV_5).up wV_5).tr f4).tr f5) (fun z => ?_)
                             have k2 := (tK v1 t1 z.1).2.1
                             omega)
                      · first
                        | (exfalso; omega)
                        | skip
                          refine s180_95.mpr ?_
                          refine (s180_96 (by first | assumption | omega)).mpr ?_
                          first
                          | (by_cases c : 0 < X.1
                             · rw [key v1 x9 hi1 t1 w1 f1 c (by assumption)] at c68
                               refine q _ (VF.of ?_) ((f1.tr f4).tr f5)
                               rw [onw_p ⟨c, by have := (tK v1 t1 c).2.1; omega, c68⟩, nx_push]
                               rw [pop_y c, push_y (by show X.1 - 1 < 16; omega)] at s5
                               simp only [Int.sub_add_cancel, up1_sf] at s5
                               exact s5
                             · refine qN _ ?_ ((f1.tr f4).tr f5) (fun z => c z.1)
                               rw [pop_n c] at s5; exact s5)
                          | (refine qN _ s5 (((f1.up wV_5).tr f4).tr f5) (fun z => ?_)
                             have k2 := (tK v1 t1 z.1).2.1
                             have c68 := c68
                             first
                             | (exfalso; omega)
                             | (rw [key v1 x9 hi1 t1 w1 f1 z.1 (by assumption)] at c68; exact absurd z.2.2 c68))
                          | (refine qN _ s5 ((((f1.up wV_5).up wV_5).tr f4).tr f5) (fun z => ?_)
                             have k2 := (tK v1 t1 z.1).2.1
                             omega)
                  · first
                    | (exfalso; omega)
                    | skip
                      refine s180_75.mpr ?_
                      refine (s180_76 (by first | decide | assumption | omega) (by first | decide | assumption | omega)).mpr ?_
                      first | refine v_want0 h ?_ | refine v_want1 h ?_
                      refine s180_79.mpr (s180_80.mpr ?_)
                      refine (s180_81 (by first | decide | assumption | omega) (by first | decide | assumption | omega)).mpr ?_
                      first
                      | refine v_push (t := X.2.1 (X.1 - 1)) h s1 (fun z => (tK v1 t1 (nn_pop rfl z)).1) (fun hi4 s4 f4 => ?_)
                      | refine v_pushN h s1.w (fun hi4 s4 f4 => ?_)
                      | refine v_pushN h s1.w.w (fun hi4 s4 f4 => ?_)
                      | refine v_push (t := 0) h s4 (fun _ => rfl) (fun hi5 s5 f5 => ?_)
                      refine s180_84.mpr (s180_85.mpr ?_)
                      refine s180_87.mpr (wif (fun c87 => ?_) (fun c87 => ?_))
                      · first
                        | (exfalso; omega)
                        | skip
                          refine s180_90.mpr (s180_91.mpr ?_)
                          refine (s180_92 (by first | decide | assumption | omega) (by first | decide | assumption | omega)).mpr ?_
                          first
                          | refine v_push (t := X.2.1 (X.1 - 1)) h s1 (fun z => (tK v1 t1 (nn_pop rfl z)).1) (fun hi4 s4 f4 => ?_)
                          | refine v_pushN h s1.w (fun hi4 s4 f4 => ?_)
                          | refine v_pushN h s1.w.w (fun hi4 s4 f4 => ?_)
                          | refine v_push (t := 0) h s4 (fun _ => rfl) (fun hi5 s5 f5 => ?_)
                          refine s180_95.mpr ?_
                          refine (s180_96 (by first | assumption | omega)).mpr ?_
                          first
                          | (by_cases c : 0 < X.1
                             · rw [key v1 x9 hi1 t1 w1 f1 c (by assumption)] at c68
                               refine q _ (VF.of ?_) ((f1.tr f4).tr f5)
                               rw [onw_p ⟨c, by have := (tK v1 t1 c).2.1; omega, c68⟩, nx_push]
                               rw [pop_y c, push_y (by show X.1 - 1 < 16; omega)] at s5
                               simp only [Int.sub_add_cancel, up1_sf] at s5
                               exact s5
                             · refine qN _ ?_ ((f1.tr f4).tr f5) (fun z => c z.1)
                               rw [pop_n c] at s5; exact s5)
                          | (refine qN _ s5 (((f1.up wV_5).tr f4).tr f5) (fun z => ?_)
                             have k2 := (tK v1 t1 z.1).2.1
                             have c68 := c68
                             first
                             | (exfalso; omega)
                             | (rw [key v1 x9 hi1 t1 w1 f1 z.1 (by assumption)] at c68; exact absurd z.2.2 c68))
                          | (refine qN _ s5 ((((f1.up wV_5).up wV_5).tr f4).tr f5) (fun z => ?_)
                             have k2 := (tK v1 t1 z.1).2.1
                             omega)
                      · first
                        | (exfalso; omega)
                        | skip
                          refine s180_95.mpr ?_
                          refine (s180_96 (by first | assumption | omega)).mpr ?_
                          first
                          | (by_cases c : 0 < X.1
                             · rw [key v1 x9 hi1 t1 w1 f1 c (by assumption)] at c68
                               refine q _ (VF.of ?_) ((f1.tr f4).tr f5)
                               rw [onw_p ⟨c, by have := (tK v1 t1 c).2.1; omega, c68⟩, nx_push]
                               rw [pop_y c, push_y (by show X.1 - 1 < 16; omega)] at s5
                               simp only [Int.sub_add_cancel, up1_sf] at s5
                               exact s5
                             · refine qN _ ?_ ((f1.tr f4).tr f5) (fun z => c z.1)
                               rw [pop_n c] at s5; exact s5)
                          | (refine qN _ s5 (((f1.up wV_5).tr f4).tr f5) (fun z => ?_)
                             have k2 := (tK v1 t1 z.1).2.1
                             have c68 := c68
                             first
                             | (exfalso; omega)
                             | (rw [key v1 x9 hi1 t1 w1 f1 z.1 (by assumption)] at c68; exact absurd z.2.2 c68))
                          | (refine qN _ s5 ((((f1.up wV_5).up wV_5).tr f4).tr f5) (fun z => ?_)
                             have k2 := (tK v1 t1 z.1).2.1
                             omega)
          · first
            | (exfalso; omega)
            | skip
              refine s180_45.mpr ?_
              refine (s180_46 (by first | decide | assumption | omega) (by first | decide | assumption | omega)).mpr ?_
              first | refine v_want0 h ?_ | refine v_want1 h ?_
              refine s180_49.mpr (s180_50.mpr ?_)
              refine s180_52.mpr (wif (fun c52 => ?_) (fun c52 => ?_))
              · first
                | (exfalso; omega)
                | skip
                  refine s180_84.mpr (s180_85.mpr ?_)
                  refine s180_87.mpr (wif (fun c87 => ?_) (fun c87 => ?_))
                  · first
                    | (exfalso; omega)
                    | skip
                      refine s180_90.mpr (s180_91.mpr ?_)
                      refine (s180_92 (by first | decide | assumption | omega) (by first | decide | assumption | omega)).mpr ?_
                      first
                      | refine v_push (t := X.2.1 (X.1 - 1)) h s1 (fun z => (tK v1 t1 (nn_pop rfl z)).1) (fun hi4 s4 f4 => ?_)
                      | refine v_pushN h s1.w (fun hi4 s4 f4 => ?_)
                      | refine v_pushN h s1.w.w (fun hi4 s4 f4 => ?_)
                      | refine v_push (t := 0) h s4 (fun _ => rfl) (fun hi5 s5 f5 => ?_)
                      refine s180_95.mpr ?_
                      refine (s180_96 (by first | assumption | omega)).mpr ?_
                      first
                      | (by_cases c : 0 < X.1
                         · rw [key v1 x9 hi1 t1 w1 f1 c (by assumption)] at c68
                           refine q _ (VF.of ?_) ((f1.tr f4).tr f5)
                           rw [onw_p ⟨c, by have := (tK v1 t1 c).2.1; omega, c68⟩, nx_push]
                           rw [pop_y c, push_y (by show X.1 - 1 < 16; omega)] at s5
                           simp only [Int.sub_add_cancel, up1_sf] at s5
                           exact s5
                         · refine qN _ ?_ ((f1.tr f4).tr f5) (fun z => c z.1)
                           rw [pop_n c] at s5; exact s5)
                      | (refine qN _ s5 (((f1.up wV_5).tr f4).tr f5) (fun z => ?_)
                         have k2 := (tK v1 t1 z.1).2.1
                         have c68 := c68
                         first
                         | (exfalso; omega)
                         | (rw [key v1 x9 hi1 t1 w1 f1 z.1 (by assumption)] at c68; exact absurd z.2.2 c68))
                      | (refine qN _ s5 ((((f1.up wV_5).up wV_5).tr f4).tr f5) (fun z => ?_)
                         have k2 := (tK v1 t1 z.1).2.1
                         omega)
                  · first
                    | (exfalso; omega)
                    | skip
                      refine s180_95.mpr ?_
                      refine (s180_96 (by first | assumption | omega)).mpr ?_
                      first
                      | (by_cases c : 0 < X.1
                         · rw [key v1 x9 hi1 t1 w1 f1 c (by assumption)] at c68
                           refine q _ (VF.of ?_) ((f1.tr f4).tr f5)
                           rw [onw_p ⟨c, by have := (tK v1 t1 c).2.1; omega, c68⟩, nx_push]
                           rw [pop_y c, push_y (by show X.1 - 1 < 16; omega)] at s5
                           simp only [Int.sub_add_cancel, up1_sf] at s5
                           exact s5
                         · refine qN _ ?_ ((f1.tr f4).tr f5) (fun z => c z.1)
                           rw [pop_n c] at s5; exact s5)
                      | (refine qN _ s5 (((f1.up wV_5).tr f4).tr f5) (fun z => ?_)
                         have k2 := (tK v1 t1 z.1).2.1
                         have c68 := c68
                         first
                         | (exfalso; omega)
                         | (rw [key v1 x9 hi1 t1 w1 f1 z.1 (by assumption)] at c68; exact absurd z.2.2 c68))
                      | (refine qN _ s5 ((((f1.up wV_5).up wV_5).tr f4).tr f5) (fun z => ?_)
                         have k2 := (tK v1 t1 z.1).2.1
                         omega)
              · first
                | (exfalso; omega)
                | skip
                  refine s180_55.mpr (s180_56.mpr (s180_57.mpr ?_))
                  refine (s180_58 (by first | decide | assumption | omega)).mpr ?_
                  refine s180_61.mpr ?_
                  try simp (disch := first | decide | assumption | omega) only [kon, knt_some, knt_none, Option.toList_some, Option.toList_none, List.cons_append, List.nil_append, hN]
                  refine (s180_62 (by omega)).mpr ?_
                  refine c_namedByG (fun x9 w1 => ?_)
                  refine (s180_65 (by first | decide | assumption | omega) (by first | decide | assumption | omega)).mpr ?_
                  refine t_sizeOfRecord hM.1.1 ?_
                  refine s180_68.mpr (wif (fun c68 => ?_) (fun c68 => ?_))
                  · first
                    | (exfalso; omega)
                    | skip
                      refine s180_71.mpr (s180_72.mpr ?_)
                      refine (s180_76 (by first | decide | assumption | omega) (by first | decide | assumption | omega)).mpr ?_
                      first | refine v_want0 h ?_ | refine v_want1 h ?_
                      refine s180_79.mpr (s180_80.mpr ?_)
                      refine (s180_81 (by first | decide | assumption | omega) (by first | decide | assumption | omega)).mpr ?_
                      first
                      | refine v_push (t := X.2.1 (X.1 - 1)) h s1 (fun z => (tK v1 t1 (nn_pop rfl z)).1) (fun hi4 s4 f4 => ?_)
                      | refine v_pushN h s1.w (fun hi4 s4 f4 => ?_)
                      | refine v_pushN h s1.w.w (fun hi4 s4 f4 => ?_)
                      | refine v_push (t := 0) h s4 (fun _ => rfl) (fun hi5 s5 f5 => ?_)
                      refine s180_84.mpr (s180_85.mpr ?_)
                      refine s180_87.mpr (wif (fun c87 => ?_) (fun c87 => ?_))
                      · first
                        | (exfalso; omega)
                        | skip
                          refine s180_90.mpr (s180_91.mpr ?_)
                          refine (s180_92 (by first | decide | assumption | omega) (by first | decide | assumption | omega)).mpr ?_
                          first
                          | refine v_push (t := X.2.1 (X.1 - 1)) h s1 (fun z => (tK v1 t1 (nn_pop rfl z)).1) (fun hi4 s4 f4 => ?_)
                          | refine v_pushN h s1.w (fun hi4 s4 f4 => ?_)
                          | refine v_pushN h s1.w.w (fun hi4 s4 f4 => ?_)
                          | refine v_push (t := 0) h s4 (fun _ => rfl) (fun hi5 s5 f5 => ?_)
                          refine s180_95.mpr ?_
                          refine (s180_96 (by first | assumption | omega)).mpr ?_
                          first
                          | (by_cases c : 0 < X.1
                             · rw [key v1 x9 hi1 t1 w1 f1 c (by assumption)] at c68
                               refine q _ (VF.of ?_) ((f1.tr f4).tr f5)
                               rw [onw_p ⟨c, by have := (tK v1 t1 c).2.1; omega, c68⟩, nx_push]
                               rw [pop_y c, push_y (by show X.1 - 1 < 16; omega)] at s5
                               simp only [Int.sub_add_cancel, up1_sf] at s5
                               exact s5
                             · refine qN _ ?_ ((f1.tr f4).tr f5) (fun z => c z.1)
                               rw [pop_n c] at s5; exact s5)
                          | (refine qN _ s5 (((f1.up wV_5).tr f4).tr f5) (fun z => ?_)
                             have k2 := (tK v1 t1 z.1).2.1
                             have c68 := c68
                             first
                             | (exfalso; omega)
                             | (rw [key v1 x9 hi1 t1 w1 f1 z.1 (by assumption)] at c68; exact absurd z.2.2 c68))
                          | (refine qN _ s5 ((((f1.up wV_5).up wV_5).tr f4).tr f5) (fun z => ?_)
                             have k2 := (tK v1 t1 z.1).2.1
                             omega)
                      · first
                        | (exfalso; omega)
                        | skip
                          refine s180_95.mpr ?_
                          refine (s180_96 (by first | assumption | omega)).mpr ?_
                          first
                          | (by_cases c : 0 < X.1
                             · rw [key v1 x9 hi1 t1 w1 f1 c (by assumption)] at c68
                               refine q _ (VF.of ?_) ((f1.tr f4).tr f5)
                               rw [onw_p ⟨c, by have := (tK v1 t1 c).2.1; omega, c68⟩, nx_push]
                               rw [pop_y c, push_y (by show X.1 - 1 < 16; omega)] at s5
                               simp only [Int.sub_add_cancel, up1_sf] at s5
                               exact s5
                             · refine qN _ ?_ ((f1.tr f4).tr f5) (fun z => c z.1)
                               rw [pop_n c] at s5; exact s5)
                          | (refine qN _ s5 (((f1.up wV_5).tr f4).tr f5) (fun z => ?_)
                             have k2 := (tK v1 t1 z.1).2.1
                             have c68 := c68
                             first
                             | (exfalso; omega)
                             | (rw [key v1 x9 hi1 t1 w1 f1 z.1 (by assumption)] at c68; exact absurd z.2.2 c68))
                          | (refine qN _ s5 ((((f1.up wV_5).up wV_5).tr f4).tr f5) (fun z => ?_)
                             have k2 := (tK v1 t1 z.1).2.1
                             omega)
                  · first
                    | (exfalso; omega)
                    | skip
                      refine s180_75.mpr ?_
                      refine (s180_76 (by first | decide | assumption | omega) (by first | decide | assumption | omega)).mpr ?_
                      first | refine v_want0 h ?_ | refine v_want1 h ?_
                      refine s180_79.mpr (s180_80.mpr ?_)
                      refine (s180_81 (by first | decide | assumption | omega) (by first | decide | assumption | omega)).mpr ?_
                      first
                      | refine v_push (t := X.2.1 (X.1 - 1)) h s1 (fun z => (tK v1 t1 (nn_pop rfl z)).1) (fun hi4 s4 f4 => ?_)
                      | refine v_pushN h s1.w (fun hi4 s4 f4 => ?_)
                      | refine v_pushN h s1.w.w (fun hi4 s4 f4 => ?_)
                      | refine v_push (t := 0) h s4 (fun _ => rfl) (fun hi5 s5 f5 => ?_)
                      refine s180_84.mpr (s180_85.mpr ?_)
                      refine s180_87.mpr (wif (fun c87 => ?_) (fun c87 => ?_))
                      · first
                        | (exfalso; omega)
                        | skip
                          refine s180_90.mpr (s180_91.mpr ?_)
                          refine (s180_92 (by first | decide | assumption | omega) (by first | decide | assumption | omega)).mpr ?_
                          first
                          | refine v_push (t := X.2.1 (X.1 - 1)) h s1 (fun z => (tK v1 t1 (nn_pop rfl z)).1) (fun hi4 s4 f4 => ?_)
                          | refine v_pushN h s1.w (fun hi4 s4 f4 => ?_)
                          | refine v_pushN h s1.w.w (fun hi4 s4 f4 => ?_)
                          | refine v_push (t := 0) h s4 (fun _ => rfl) (fun hi5 s5 f5 => ?_)
                          refine s180_95.mpr ?_
                          refine (s180_96 (by first | assumption | omega)).mpr ?_
                          first
                          | (by_cases c : 0 < X.1
                             · rw [key v1 x9 hi1 t1 w1 f1 c (by assumption)] at c68
                               refine q _ (VF.of ?_) ((f1.tr f4).tr f5)
                               rw [onw_p ⟨c, by have := (tK v1 t1 c).2.1; omega, c68⟩, nx_push]
                               rw [pop_y c, push_y (by show X.1 - 1 < 16; omega)] at s5
                               simp only [Int.sub_add_cancel, up1_sf] at s5
                               exact s5
                             · refine qN _ ?_ ((f1.tr f4).tr f5) (fun z => c z.1)
                               rw [pop_n c] at s5; exact s5)
                          | (refine qN _ s5 (((f1.up wV_5).tr f4).tr f5) (fun z => ?_)
                             have k2 := (tK v1 t1 z.1).2.1
                             have c68 := c68
                             first
                             | (exfalso; omega)
                             | (rw [key v1 x9 hi1 t1 w1 f1 z.1 (by assumption)] at c68; exact absurd z.2.2 c68))
                          | (refine qN _ s5 ((((f1.up wV_5).up wV_5).tr f4).tr f5) (fun z => ?_)
                             have k2 := (tK v1 t1 z.1).2.1
                             omega)
                      · first
                        | (exfalso; omega)
                        | skip
                          refine s180_95.mpr ?_
                          refine (s180_96 (by first | assumption | omega)).mpr ?_
                          first
                          | (by_cases c : 0 < X.1
                             · rw [key v1 x9 hi1 t1 w1 f1 c (by assumption)] at c68
                               refine q _ (VF.of ?_) ((f1.tr f4).tr f5)
                               rw [onw_p ⟨c, by have := (tK v1 t1 c).2.1; omega, c68⟩, nx_push]
                               rw [pop_y c, push_y (by show X.1 - 1 < 16; omega)] at s5
                               simp only [Int.sub_add_cancel, up1_sf] at s5
                               exact s5
                             · refine qN _ ?_ ((f1.tr f4).tr f5) (fun z => c z.1)
                               rw [pop_n c] at s5; exact s5)
                          | (refine qN _ s5 (((f1.up wV_5).tr f4).tr f5) (fun z => ?_)
                             have k2 := (tK v1 t1 z.1).2.1
                             have c68 := c68
                             first
                             | (exfalso; omega)
                             | (rw [key v1 x9 hi1 t1 w1 f1 z.1 (by assumption)] at c68; exact absurd z.2.2 c68))
                          | (refine qN _ s5 ((((f1.up wV_5).up wV_5).tr f4).tr f5) (fun z => ?_)
                             have k2 := (tK v1 t1 z.1).2.1
                             omega)
end CV8
