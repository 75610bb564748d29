section DV7
variable {d : Nat} {al : AL} {hi : HI} {hr : HR} {Q : QQ} {B : Int → Int} {N : Nat} {n : Int} {f : Int}
theorem v_channel {t : Nat} {v p : Int} {X : Tst} {M : Nat} (h : VR al hr) (hd : 3 ≤ d) (hM : ModV al hi hr N n B M) (hT : TxV B n) (hN : hr 8 7 = some N) (hk : hr 8 8 = some (t + 1)) (hR : RoutOK al hi hr B f t) (ht : 119 ≤ t) (hc : 0 ≤ cAt B f ∧ cAt B f ≤ 3000) (p0 : 0 ≤ p ∧ p ≤ 1000) (hv9 : v = B (cAt B f + p + 1)) (v0 : 0 ≤ v ∧ v ≤ 255) (hs : VS (some X) hi)
    (q : ∀ hi', VF (tsL B f 36 v p X) 1 hi' → FW wV hi hi' → Q (some (some (vI 1))) al hi' hr) : Ev d 181 [vR (some 8), vI 36, vI p] al hi hr Q := by
  have k8 := h.k8; have k11 := h.k11; have k12 := h.k12; have l11 := h.l11; have l12 := h.l12; have r1 := h.2.2.1; have r2 := h.2.2.2.1
  have c16 := hs.2.2.2.1
  have eb : bZ B (cAt B f + p + 1) = v := by rw [bZ_p (by omega), hv9]
  have e1 : enO v 0 0 = cv (5 + 8 * v) := by rw [enO_v v0.1 (by omega) (by decide) (by decide) (by decide) (by decide), cv_p (by omega)]; omega
  have e2 : enO v 0 1 = cv (5 + 8 * v + 524288) := by rw [enO_v v0.1 (by omega) (by decide) (by decide) (by decide) (by decide), cv_p (by omega)]; omega
  have et : tsL B f 36 v p X = onw True [(p + 2, (X.1 + 2, up1 (up1 X.2.1 X.1 (5 + 8 * v)) (X.1 + 1) (5 + 8 * v + 524288), X.2.2))] := rfl
  rw [et] at q
  have qA : ∀ hi', VS (pushO (pushO (some X) (5 + 8 * v)) (5 + 8 * v + 524288)) hi' → FW wV hi hi' → Q (some (some (vI 1))) al hi' hr := fun hi' s g => q _ (VF.of (by
    rw [onw_p trivial]
    by_cases c : X.1 + 2 ≤ 16
    · rw [nx_y (by show X.1 + 2 ≤ 16; exact c)]
      rw [push_y (by omega), push_y (by show X.1 + 1 < 16; omega)] at s
      simp only [show X.1 + 1 + 1 = X.1 + 2 by omega] at s
      exact s
    · rw [nx_x (by show ¬ X.1 + 2 ≤ 16; exact c)]
      by_cases c1 : X.1 < 16
      · rw [push_y c1, push_n (by show ¬ X.1 + 1 < 16; omega)] at s; exact s
      · rw [push_n c1] at s; exact s)) g
  rw [e181]
  refine s181_0.mpr ?_
  refine g181_1 (fun c1 => ?_) (fun c1 => ?_) (fun c1 => ?_) (fun c1 => ?_)
  · skip
    have c1 := List.mem_singleton.mp c1
    refine s181_28.mpr (s181_29.mpr (s181_30.mpr ?_))
    refine (s181_31 (by first | decide | assumption | omega) (by first | decide | assumption | omega)).mpr ?_
    first
    | (refine v_operandOf h (by omega) hM hT hN hk hR hc p0 ?_; rw [eb])
    | (refine v_operandOf h (by omega) (hM.wv g1) hT hN hk (hR.wv ht g1) hc p0 ?_; rw [eb])
    refine s181_34.mpr (s181_35.mpr ?_)
    refine (s181_36 (by omega)).mpr ?_
    refine c_endType.mpr ?_
    refine (s181_39 (by first | decide | assumption | omega) (by first | decide | assumption | omega)).mpr ?_
    first | refine v_push h hs (fun _ => e1) (fun hi1 s1 g1 => ?_) | refine v_push h s1 (fun _ => e2) (fun hi2 s2 g2 => ?_)
    refine s181_42.mpr (s181_43.mpr (s181_44.mpr ?_))
    refine (s181_45 (by first | decide | assumption | omega) (by first | decide | assumption | omega)).mpr ?_
    first
    | (refine v_operandOf h (by omega) hM hT hN hk hR hc p0 ?_; rw [eb])
    | (refine v_operandOf h (by omega) (hM.wv g1) hT hN hk (hR.wv ht g1) hc p0 ?_; rw [eb])
    refine s181_48.mpr (s181_49.mpr ?_)
    refine (s181_50 (by omega)).mpr ?_
    refine c_endType.mpr ?_
    refine (s181_53 (by first | decide | assumption | omega) (by first | decide | assumption | omega)).mpr ?_
    first | refine v_push h hs (fun _ => e1) (fun hi1 s1 g1 => ?_) | refine v_push h s1 (fun _ => e2) (fun hi2 s2 g2 => ?_)
    refine s181_56.mpr ?_
    refine (s181_57 (by first | assumption | omega)).mpr ?_
    exact qA _ s2 (g1.tr g2)
  · skip
    have c1 := List.mem_singleton.mp c1
    exfalso; omega
  · skip
    have c1 := List.mem_singleton.mp c1
    exfalso; omega
  · skip
    exact absurd c1 (by simp)
theorem v_close {v p : Int} {X : Tst} {M : Nat} (h : VR al hr) (hd : 3 ≤ d) (hM : ModV al hi hr N n B M) (hT : TxV B n) (hN : hr 8 7 = some N) (hs : VS (some X) hi) (hv : vX B X)
    (q : ∀ hi', VF (tsL B f 39 v p X) 1 hi' → FW wV hi hi' → Q (some (some (vI 1))) al hi' hr) : Ev d 181 [vR (some 8), vI 39, vI p] al hi hr Q := by
  have k8 := h.k8; have k11 := h.k11; have k12 := h.k12; have l11 := h.l11; have l12 := h.l12; have r1 := h.2.2.1; have r2 := h.2.2.2.1
  have c16 := hs.2.2.2.1
  have et : tsL B f 39 v p X = onw (0 < X.1 ∧ kindM (X.2.1 (X.1 - 1)) = 5 ∧ tnS B (whichM (X.2.1 (X.1 - 1))) (stateM (X.2.1 (X.1 - 1))) = 0) [(p + 1, (X.1 - 1, X.2.1, X.2.2))] := rfl
  rw [et] at q
  have hv1 : 0 < X.1 → vT B (X.2.1 (X.1 - 1)) := fun c => hv.2.1 _ (by omega) (by omega)
  have qA : ∀ v1 hi1, topV (some X) v1 → VS (popO (some X)) hi1 → FW wV hi hi1 → (0 < X.1 → kindM (X.2.1 (X.1 - 1)) = 5 ∧ tnS B (whichM (X.2.1 (X.1 - 1))) (stateM (X.2.1 (X.1 - 1))) = 0) → Q (some (some (vI 1))) al hi1 hr := fun v1 hi1 t1 s1 g1 y => q _ (VF.of (by
    by_cases c : 0 < X.1
    · rw [pop_y c] at s1; rw [onw_p ⟨c, y c⟩, nx_y (by show X.1 - 1 ≤ 16; omega)]; exact s1
    · rw [pop_n c] at s1; rw [onw_n (fun z => c z.1)]; exact s1)) g1
  have qB : ∀ hi1, VS none hi1 → FW wV hi hi1 → (0 < X.1 → ¬ (kindM (X.2.1 (X.1 - 1)) = 5 ∧ tnS B (whichM (X.2.1 (X.1 - 1))) (stateM (X.2.1 (X.1 - 1))) = 0)) → Q (some (some (vI 1))) al hi1 hr := fun hi1 s1 g1 y => q _ (VF.nn (fun z => y z.1 z.2) s1 (Or.inr rfl)) g1
  rw [e181]
  refine s181_0.mpr ?_
  refine g181_1 (fun c1 => ?_) (fun c1 => ?_) (fun c1 => ?_) (fun c1 => ?_)
  · skip
    have c1 := List.mem_singleton.mp c1
    exfalso; omega
  · skip
    have c1 := List.mem_singleton.mp c1
    exfalso; omega
  · skip
    have c1 := List.mem_singleton.mp c1
    exfalso; omega
  · skip
    refine s181_76.mpr ?_
    refine (s181_77 (by first | decide | assumption | omega) (by first | decide | assumption | omega)).mpr ?_
    refine v_pop h hs (fun v1 hi1 s1 g1 t1 => ?_)
    refine s181_80.mpr (s181_81.mpr (s181_82.mpr ?_))
    refine (s181_83 (by first | decide | assumption | omega) (by first | decide | assumption | omega)).mpr ?_
    skip
    refine v_contractOf h (by omega) (hM.wv g1) hT hN (fun r cr => ?_)
    simp only [kon, knt_some, knt_none, Option.toList_some, Option.toList_none, List.cons_append, List.nil_append]
    refine s181_86.mpr (s181_88.mpr (s181_89.mpr ?_))
    have cr0 := cr
    rcases cr with ⟨c, oc, rfl, z2, z3, z4, z5, z6, z7⟩ | ⟨rfl, z2⟩
    · have kO := z5.1.1
      refine s181_91.mpr (wif (fun c => by cases c) (fun _ => ?_))
      refine s181_94.mpr (s181_96.mpr ?_)
      refine (s181_97 (by omega)).mpr ?_
      refine c_stateOfEndG (fun x4 a4 b4 w4 => ?_)
      simp only [kon, knt_some, knt_none, Option.toList_some, Option.toList_none, List.cons_append, List.nil_append]
      refine (s181_100 (by omega) kO).mpr ?_
      refine k_turnAt z5.1 ?_
      simp only [kon, knt_some, knt_none, Option.toList_some, Option.toList_none, List.cons_append, List.nil_append]
      have key : 0 < X.1 → kindM (X.2.1 (X.1 - 1)) = 5 ∧ (if x4 < 0 ∨ 8 ≤ x4 then 0 else hi1 (oc + 1) x4) = tnS B (whichM (X.2.1 (X.1 - 1))) (stateM (X.2.1 (X.1 - 1))) := fun cc => by
        obtain ⟨k1, k2, k3, k4⟩ := top_of rfl hv t1 cc
        have ha := hv1 cc
        have hk : kindM (X.2.1 (X.1 - 1)) = 5 := by omega
        obtain ⟨s0, s8, e1, -⟩ := end_of (v := 0) hT ha hk ((z7 k3).trans k4) z5 (by decide)
        have ex : x4 = stateM (X.2.1 (X.1 - 1)) := by rw [w4 k3, k1]; exact cv_s ha.r
        rw [ex, if_neg (by omega), e1]; exact ⟨hk, rfl⟩
      refine s181_103.mpr (wif (fun c3 => ?_) (fun c3 => ?_))
      · refine s181_106.mpr (s181_107.mpr ?_)
        refine (s181_111 (by omega) k8).mpr ?_
        refine v_want1 h ?_
        simp only [kon, knt_some, knt_none, Option.toList_some, Option.toList_none, List.cons_append, List.nil_append]
        refine s181_114.mpr ?_
        refine (s181_115 (by decide)).mpr ?_
        exact qA v1 hi1 t1 s1 g1 (fun cc => ⟨(key cc).1, by rw [← (key cc).2]; exact c3⟩)
      · refine s181_110.mpr ?_
        refine (s181_111 (by omega) k8).mpr ?_
        refine v_want0 h ?_
        simp only [kon, knt_some, knt_none, Option.toList_some, Option.toList_none, List.cons_append, List.nil_append]
        refine s181_114.mpr ?_
        refine (s181_115 (by decide)).mpr ?_
        exact qB _ s1.w (g1.up wV_5) (fun cc z => c3 (by rw [(key cc).2]; exact z.2))
    · refine s181_91.mpr (wif (fun _ => ?_) (fun c => absurd rfl c))
      refine s181_110.mpr ?_
      refine (s181_111 (by omega) k8).mpr ?_
      refine v_want0 h ?_
      simp only [kon, knt_some, knt_none, Option.toList_some, Option.toList_none, List.cons_append, List.nil_append]
      refine s181_114.mpr ?_
      refine (s181_115 (by decide)).mpr ?_
      refine qB _ s1.w (g1.up wV_5) (fun cc z => ?_)
      rw [(top_of rfl hv t1 cc).1] at cr0
      rcases cr0.v (hv1 cc) with ⟨-, oc, w, -⟩ | ⟨w, -⟩
      · cases w
      · exact w z.1
/-- flags and ranks, over several arrivals -/
def FS (A : Asg) (hi : HI) (A' : Asg) (hi' : HI) : Prop := (∀ p, hi' 13 p = 1 ∨ (hi' 13 p = hi 13 p ∧ A' p = A p)) ∧ ((hi' 8 6 = hi 8 6 ∧ A' = A ∧ ∀ p, hi' 13 p = hi 13 p) ∨ (hi' 8 6 = 1 ∧ rkA A < rkA A')) ∧ (∀ p, 0 ≤ p → A p ≠ none → A' p ≠ none) ∧ ∀ p, 0 ≤ p → hi' 13 p = 1 → hi 13 p = 1 ∨ A' p ≠ none
theorem FS.rf {A : Asg} : FS A hi A hi := ⟨fun p => Or.inr ⟨rfl, rfl⟩, Or.inl ⟨rfl, rfl, fun _ => rfl⟩, fun _ _ h => h, fun _ _ h => Or.inl h⟩
theorem FS.tr {A A1 A2 : Asg} {h1 h2 : HI} (a : FS A hi A1 h1) (b : FS A1 h1 A2 h2) : FS A hi A2 h2 := by
  refine ⟨fun p => ?_, ?_, fun p p0 h => b.2.2.1 p p0 (a.2.2.1 p p0 h), fun p p0 h => ?_⟩
  · rcases b.1 p with y | ⟨y, z⟩
    · exact Or.inl y
    · rcases a.1 p with w | ⟨w, x⟩
      · exact Or.inl (y.trans w)
      · exact Or.inr ⟨y.trans w, z.trans x⟩
  · rcases b.2.1 with ⟨y, rfl, y3⟩ | ⟨y, z⟩
    · rcases a.2.1 with ⟨w, x, x3⟩ | ⟨w, x⟩
      · exact Or.inl ⟨y.trans w, x, fun p => (y3 p).trans (x3 p)⟩
      · exact Or.inr ⟨y.trans w, x⟩
    · rcases a.2.1 with ⟨w, rfl, -⟩ | ⟨w, x⟩
      · exact Or.inr ⟨y, z⟩
      · exact Or.inr ⟨y, Nat.lt_trans x z⟩
  · rcases b.2.2.2 p p0 h with y | y
    · rcases a.2.2.2 p p0 y with z | z
      · exact Or.inl z
      · exact Or.inr (b.2.2.1 p p0 z)
    · exact Or.inr y
theorem FS.of {A A' : Asg} {q : Int} {X : Tst} {hi' : HI} (hv : vA B A) (h : ArrR A q X A') (q0 : 0 ≤ q) (q1 : q < 240) (ha : AF A hi q A' hi') : FS A hi A' hi' := by
  have hm : ∀ p, 0 ≤ p → A p ≠ none → A' p ≠ none := fun p p0 hn => by
    cases e : A p with
    | none => exact absurd e hn
    | some Y => obtain ⟨Z, z, -⟩ := arr_le h p Y p0 e; rw [z]; simp
  rcases ha with ⟨rfl, y1, y2⟩ | ⟨y1, y2, y3, y4, y5⟩
  · exact ⟨fun p => Or.inr ⟨y1 p, rfl⟩, Or.inl ⟨y2, rfl, y1⟩, hm, fun p _ z => Or.inl (by rw [← y1]; exact z)⟩
  · refine ⟨fun p => ?_, Or.inr ⟨y3, arr_rk hv h q0 q1 y5⟩, hm, fun p _ z => ?_⟩
    · by_cases e : p = q
      · subst e; exact Or.inl y1
      · exact Or.inr ⟨y2 p e, y4 p e⟩
    · by_cases e : p = q
      · subst e; obtain ⟨Z, w, -⟩ := arr_at h; exact Or.inr (by rw [w]; simp)
      · rw [y2 p e] at z; exact Or.inl z
theorem FS.wv {A : Asg} {hi' : HI} (h : FW wV hi hi') : FS A hi A hi' := ⟨fun p => Or.inr ⟨h 13 p (wV_a (by decide)), rfl⟩, Or.inl ⟨h 8 6 (fun q => by unfold wV at q; omega), rfl, fun p => h 13 p (wV_a (by decide))⟩, fun _ _ z => z, fun p _ z => Or.inl (by rw [← h 13 p (wV_a (by decide))]; exact z)⟩
end DV7
