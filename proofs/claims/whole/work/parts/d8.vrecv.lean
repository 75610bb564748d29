section DV8
variable {d : Nat} {al : AL} {hi : HI} {hr : HR} {Q : QQ} {B : Int → Int} {N : Nat} {n : Int} {f : Int} {t H C : Nat} {l : Int}
/-- what an instruction's work may write -/
def wB (t H C : Nat) (a : Nat) (i : Int) : Prop := wV a i ∨ wA t H C a i
theorem wB_v {hi' : HI} (h : FW wV hi hi') : FW (wB t H C) hi hi' := h.mn (fun _ _ q => Or.inl q)
theorem wB_a {hi' : HI} (h : FW (wA t H C) hi hi') : FW (wB t H C) hi hi' := h.mn (fun _ _ q => Or.inr q)
theorem MC.wv {A : Asg} {hi' : HI} (h : MC A hi t H C l) (hV : RV al hr t H C l) (hf : FW wV hi hi') : MC A hi' t H C l := by
  obtain ⟨-, -, -, -, t1, t2, t3, -⟩ := hV
  exact h.fr (fun i => hf _ _ (wV_a (by omega))) (fun i => hf _ _ (wV_a (by omega))) (hf _ _ (wV_a (by omega)))
/-- what stands over an instruction's work: the module, the routine -/
theorem ModV.wb {M : Nat} {hi' : HI} (h : ModV al hi hr N n B M) (hV : RV al hr t H C l) (hH : M ≤ H) (hC : M ≤ C) (hf : FW (wB t H C) hi hi') : ModV al hi' hr N n B M := by
  have kt := hV.1
  have hN := h.1.2.1
  have t119 := hV.2.2.2.2.1
  have H119 := hV.2.2.2.2.2.1
  have C119 := hV.2.2.2.2.2.2.1
  refine h.fr GA.rf (fun i => hf 0 i (fun q => by unfold wB wV wA at q; omega)) (fun a i z1 z2 z3 => hf a i (fun q => ?_)) (fun _ _ _ _ _ => rfl)
  unfold wB wV wA at q
  have : a = t + 1 ∧ i = 6 := by omega
  obtain ⟨rfl, rfl⟩ := this
  exact z3 rfl kt
theorem RoutOK.wb {t' : Nat} {g : Int} {M : Nat} {hi' : HI} (h : RoutOK al hi hr B g t') (ht : 119 ≤ t') (htM : t' + 2 < M) (hV : RV al hr t H C l) (hH : M ≤ H) (hC : M ≤ C) (hf : FW (wB t H C) hi hi') : RoutOK al hi' hr B g t' := by
  refine h.fr GA.rf (fun a i z1 z2 z3 => hf a i (fun q => ?_)) (fun _ _ => rfl)
  unfold wB wV wA at q
  have kt := hV.1
  have : a = t + 1 ∧ i = 6 := by omega
  obtain ⟨e1, e2⟩ := this
  have e3 : a = t' + 1 := by
    have h1 := h.1.1
    have h2 := h.1.2.1.2
    have h3 := h.1.2.2.2
    have : a = t' ∨ a = t' + 1 ∨ a = t' + 2 := by omega
    rcases this with e | e | e
    · subst e; rw [e1] at h2; exact absurd (h2.2.2.symm.trans kt.2.2) (by decide)
    · exact e
    · subst e; rw [e1] at h3; exact absurd (h3.2.2.symm.trans kt.2.2) (by decide)
  exact z3 e3 e2
theorem rcv_p {X : Tst} {k : Int} (c : 0 < X.1) (c16 : X.1 ≤ 16) : (if ldT B (X.2.1 (X.1 - 1)) k = -1 then pushO (some (X.1 - 1, X.2.1, X.2.2)) (nxT B (X.2.1 (X.1 - 1)) k) else pushO (pushO (some (X.1 - 1, X.2.1, X.2.2)) (nxT B (X.2.1 (X.1 - 1)) k)) (ldT B (X.2.1 (X.1 - 1)) k)) = if (rcv B X k).1 ≤ 16 then some (rcv B X k) else none := by
  have e1 : pushO (some (X.1 - 1, X.2.1, X.2.2)) (nxT B (X.2.1 (X.1 - 1)) k) = some (X.1, up1 X.2.1 (X.1 - 1) (nxT B (X.2.1 (X.1 - 1)) k), X.2.2) := by
    rw [push_y (by show X.1 - 1 < 16; omega)]
    show some (X.1 - 1 + 1, up1 X.2.1 (X.1 - 1) _, X.2.2) = _
    rw [Int.sub_add_cancel]
  rw [e1]
  by_cases c1 : ldT B (X.2.1 (X.1 - 1)) k = -1
  · have e2 : rcv B X k = (X.1, up1 X.2.1 (X.1 - 1) (nxT B (X.2.1 (X.1 - 1)) k), X.2.2) := if_pos c1
    rw [if_pos c1, e2, if_pos c16]
  · have e2 : rcv B X k = (X.1 + 1, up1 (up1 X.2.1 (X.1 - 1) (nxT B (X.2.1 (X.1 - 1)) k)) X.1 (ldT B (X.2.1 (X.1 - 1)) k), X.2.2) := if_neg c1
    rw [if_neg c1, e2]
    by_cases c2 : X.1 < 16
    · rw [push_y (by show X.1 < 16; exact c2), if_pos (by show X.1 + 1 ≤ 16; omega)]
    · rw [push_n (by show ¬ X.1 < 16; exact c2), if_neg (by show ¬ X.1 + 1 ≤ 16; omega)]
theorem v_followReceive {v p : Int} {X : Tst} {A : Asg} {M : Nat} (h : VR al hr) (hd : 4 ≤ d) (hM : ModV al hi hr N n B M) (hT : TxV B n) (hN : hr 8 7 = some N) (hk : hr 8 8 = some (t + 1)) (hV : RV al hr t H C l) (hH : M ≤ H) (hC : M ≤ C) (hR : RoutOK al hi hr B f t) (htM : t + 2 < M) (hl : l = cLen B f) (hc : 0 ≤ cAt B f ∧ cAt B f ≤ 3000) (p0 : 0 ≤ p ∧ p ≤ 300) (hv9 : v = B (cAt B f + p + 1)) (v0 : 1 ≤ v ∧ v ≤ 4) (hs : VS (some X) hi) (hv : vX B X) (hm : MC A hi t H C l) (hvA : vA B A)
    (hO : ∀ fl, tsL B f 38 v p X = some fl → ∀ q ∈ fl, 0 ≤ q.1 ∧ vX B q.2)
    (ok : ∀ fl A' hi', tsL B f 38 v p X = some fl → FlR l A fl A' → hi' 8 5 = 0 → MC A' hi' t H C l → FW (wB t H C) hi hi' → FS A hi A' hi' → Q (some none) al hi' hr)
    (no : ∀ hi', (tsL B f 38 v p X = none ∨ ∃ fl, tsL B f 38 v p X = some fl ∧ FlX l A fl) → VS none hi' → FW (wB t H C) hi hi' → Q (some none) al hi' hr) : Ev d 184 [vR (some 8), vI p] al hi hr Q := by
  have k8 := h.k8; have k11 := h.k11; have k12 := h.k12; have l11 := h.l11; have l12 := h.l12; have r1 := h.2.2.1; have r2 := h.2.2.2.1
  have c16 := hs.2.2.2.1
  have l240 : l ≤ 240 := hV.2.2.2.2.2.2.2.2
  have t119 : 119 ≤ t := hV.2.2.2.2.1
  have H119 : 119 ≤ H := hV.2.2.2.2.2.1
  have C119 : 119 ≤ C := hV.2.2.2.2.2.2.1
  have eb : bZ B (cAt B f + p + 1) = v := by rw [bZ_p (by omega), hv9]
  have et : tsL B f 38 v p X = onw (0 < X.1 ∧ kindM (X.2.1 (X.1 - 1)) = 5 ∧ tnS B (whichM (X.2.1 (X.1 - 1))) (stateM (X.2.1 (X.1 - 1))) = 2 - sideM (X.2.1 (X.1 - 1)) ∧ nMs B (whichM (X.2.1 (X.1 - 1))) (stateM (X.2.1 (X.1 - 1))) = v) ((List.range v.toNat).map fun (t : Nat) => (B (cAt B f + p + 2 + (t : Int)), rcv B X (t : Int))) := rfl
  rw [et] at hO ok no
  have hv1 : 0 < X.1 → vT B (X.2.1 (X.1 - 1)) := fun c => hv.2.1 _ (by omega) (by omega)
  -- nothing more, when something is wrong
  have X72 : ∀ h1 l2 l3 l4 l5 l6 l7, VS none h1 → FW (wB t H C) hi h1 → (onw (0 < X.1 ∧ kindM (X.2.1 (X.1 - 1)) = 5 ∧ tnS B (whichM (X.2.1 (X.1 - 1))) (stateM (X.2.1 (X.1 - 1))) = 2 - sideM (X.2.1 (X.1 - 1)) ∧ nMs B (whichM (X.2.1 (X.1 - 1))) (stateM (X.2.1 (X.1 - 1))) = v) ((List.range v.toNat).map fun (t : Nat) => (B (cAt B f + p + 2 + (t : Int)), rcv B X (t : Int))) = none ∨ ∃ fl, onw (0 < X.1 ∧ kindM (X.2.1 (X.1 - 1)) = 5 ∧ tnS B (whichM (X.2.1 (X.1 - 1))) (stateM (X.2.1 (X.1 - 1))) = 2 - sideM (X.2.1 (X.1 - 1)) ∧ nMs B (whichM (X.2.1 (X.1 - 1))) (stateM (X.2.1 (X.1 - 1))) = v) ((List.range v.toNat).map fun (t : Nat) => (B (cAt B f + p + 2 + (t : Int)), rcv B X (t : Int))) = some fl ∧ FlX l A fl) → Wp d 184 72 [vR (some 8), vI p, l2, l3, l4, vI l5, l6, vI l7] [] al h1 hr Q := by
    intro h1 l2 l3 l4 l5 l6 l7 s1 g1 hx
    have e5 := s1.1
    refine s184_72.mpr (s184_74.mpr ?_)
    refine s184_76.mpr (wif (fun c76 => ?_) (fun c76 => ?_))
    · skip
      refine s184_79.mpr ?_
      refine (s184_80 (by first | decide | assumption | omega)).mpr ?_
      try simp (disch := first | decide | assumption | omega) only [e5]
      refine s184_83.mpr (wif (fun c83 => ?_) (fun c83 => ?_))
      · skip
        exfalso; omega
      · skip
        refine (s184_159).mpr ?_
        exact no _ hx s1 g1
    · skip
      refine (s184_159).mpr ?_
      exact no _ hx s1 g1
  have T63 : ∀ h1 oc l6 l7, 0 < X.1 → kindM (X.2.1 (X.1 - 1)) = 5 → tnS B (whichM (X.2.1 (X.1 - 1))) (stateM (X.2.1 (X.1 - 1))) = 2 - sideM (X.2.1 (X.1 - 1)) → nMs B (whichM (X.2.1 (X.1 - 1))) (stateM (X.2.1 (X.1 - 1))) = v → hr (N + 4) (whichM (X.2.1 (X.1 - 1))) = some oc → VS (some (X.1 - 1, X.2.1, X.2.2)) h1 → FW wV hi h1 → Wp d 184 63 [vR (some 8), vI p, vI (cv (X.2.1 (X.1 - 1))), vR (some oc), vI (stateM (X.2.1 (X.1 - 1))), vI v, l6, l7] [] al h1 hr Q := by
    intro h1 oc l6 l7 c hk5 ct cn eo s1 g1
    have ha := hv1 c
    have kr := cv_r ha.r
    have ke := cv_e ha.r
    have kw := cv_w ha.r
    have hw := (ha.2.2.2.2.2.2.2 hk5).1
    rw [onw_p ⟨c, hk5, ct, cn⟩] at hO ok no X72
    have kO : isK al oc 3 := by
      obtain ⟨o', y1, y2, y3, y4⟩ := hM.2.2.2.2.1 _ (by unfold whichM; omega) hw
      rw [eo] at y1; cases y1; exact y4.1.1
    have hCk : ∀ {h2 : HI}, FW (wB t H C) hi h2 → CtrOK al h2 hr B (whichM (X.2.1 (X.1 - 1))) oc := fun g => by
      obtain ⟨o', y1, y2, y3, y4⟩ := (hM.wb hV hH hC g).2.2.2.2.1 _ (by unfold whichM; omega) hw
      rw [eo] at y1; cases y1; exact y4
    have e84 : h1 8 4 = X.1 - 1 := s1.2.1
    have T72 : Wp d 184 72 [vR (some 8), vI p, vI (cv (X.2.1 (X.1 - 1))), vR (some oc), vI (stateM (X.2.1 (X.1 - 1))), vI v, vI (X.1 - 1), vI 0] [] al h1 hr Q := by
      refine wp_cnt (N := v.toNat) (fun k ls h2 => ls = [vR (some 8), vI p, vI (cv (X.2.1 (X.1 - 1))), vR (some oc), vI (stateM (X.2.1 (X.1 - 1))), vI v, vI (X.1 - 1), vI k] ∧ FW (wB t H C) hi h2 ∧ ((∃ A1, FlR l A ((List.range k).map fun (j : Nat) => (B (cAt B f + p + 2 + (j : Int)), rcv B X (j : Int))) A1 ∧ h2 8 5 = 0 ∧ (∀ j, 0 ≤ j → j < X.1 - 1 → h2 11 j = cv (X.2.1 j)) ∧ (∀ j, 0 ≤ j → j < 10 → h2 12 j = cv (X.2.2 j)) ∧ MC A1 h2 t H C l ∧ vA B A1 ∧ FS A hi A1 h2) ∨ (VS none h2 ∧ FlX l A ((List.range v.toNat).map fun (j : Nat) => (B (cAt B f + p + 2 + (j : Int)), rcv B X (j : Int)))))) ?_ ?_ _ _ ⟨rfl, wB_v g1, Or.inl ⟨A, fun _ _ => rfl, s1.1, s1.2.2.2.2.1, s1.2.2.2.2.2, hm.wv hV g1, hvA, FS.wv g1⟩⟩
      · rintro k ls h2 hkv ⟨rfl, g2, hJ⟩ nx
        rcases hJ with ⟨A1, gF, g5, gS, gL, gM, gv, gFS⟩ | ⟨s2, gx⟩
        · have k4 : 0 ≤ (k : Int) ∧ (k : Int) ≤ 3 := by omega
          have hfl := hO _ rfl (B (cAt B f + p + 2 + (k : Int)), rcv B X (k : Int)) (List.mem_map.mpr ⟨k, List.mem_range.mpr hkv, rfl⟩)
          have s3 : VS (some (X.1 - 1, X.2.1, X.2.2)) (upI h2 8 4 (X.1 - 1)) := ⟨by rw [upI_i (by decide)]; exact g5, upI_eq, by show 0 ≤ X.1 - 1; omega, by show X.1 - 1 ≤ 16; omega, fun j j0 j1 => by rw [upI_a (by decide)]; exact gS j j0 j1, fun j j0 j1 => by rw [upI_a (by decide)]; exact gL j j0 j1⟩
          have g3 : FW wV h2 (upI h2 8 4 (X.1 - 1)) := FW.up FW.rf wV_4
          have hbT : bZ B (cAt B f + (p + 1 + (k : Int)) + 1) = B (cAt B f + p + 2 + (k : Int)) := by rw [show cAt B f + (p + 1 + (k : Int)) + 1 = cAt B f + p + 2 + (k : Int) by omega]; exact bZ_p hfl.1
          have b255 := hT.rg (cAt B f + p + 2 + (k : Int))
          have split : (List.range v.toNat).map (fun (j : Nat) => (B (cAt B f + p + 2 + (j : Int)), rcv B X (j : Int))) = (List.range k).map (fun (j : Nat) => (B (cAt B f + p + 2 + (j : Int)), rcv B X (j : Int))) ++ (B (cAt B f + p + 2 + (k : Int)), rcv B X (k : Int)) :: (((List.range (v.toNat - k - 1)).map (fun j => j + (k + 1))).map (fun (j : Nat) => (B (cAt B f + p + 2 + (j : Int)), rcv B X (j : Int)))) := by
            have e : List.range v.toNat = List.range k ++ k :: ((List.range (v.toNat - k - 1)).map (fun j => j + (k + 1))) := by
              have e1 : v.toNat = (k + 1) + (v.toNat - k - 1) := by omega
              have e2 := List.range_add (n := k + 1) (m := v.toNat - k - 1)
              rw [← e1, List.range_succ, List.append_assoc] at e2
              rw [e2]
              simp [Nat.add_comm]
            rw [e, List.map_append, List.map_cons]
          -- the arrival
          have T139 : ∀ h5, VS (if (rcv B X k).1 ≤ 16 then some (rcv B X k) else none) h5 → FW wV h2 h5 → Wp d 184 139 [vR (some 8), vI p, vI (cv (X.2.1 (X.1 - 1))), vR (some oc), vI (stateM (X.2.1 (X.1 - 1))), vI v, vI (X.1 - 1), vI k] [] al h5 hr Q := by
            intro h5 s5 g4
            have gB := g2.tr (wB_v (t := t) (H := H) (C := C) g4)
            have hM5 := hM.wb hV hH hC gB
            have hR5 := hR.wb t119 htM hV hH hC gB
            have hl5 : h5 (t + 1) 4 = l := by rw [hR5.2.2.2.2.2.2.1]; exact hl.symm
            by_cases c9 : (rcv B X k).1 ≤ 16
            · rw [if_pos c9] at s5
              refine s184_139.mpr (s184_140.mpr (s184_141.mpr (s184_142.mpr (s184_143.mpr (s184_144.mpr ?_)))))
              refine s184_146.mpr ?_
              try simp (disch := first | decide | assumption | omega) only [kon, knt_some, knt_none, Option.toList_some, Option.toList_none, List.cons_append, List.nil_append, fAdd_id]
              refine (s184_147 (by first | decide | assumption | omega) (by first | decide | assumption | omega)).mpr ?_
              refine v_operandOf h (by omega) hM5 hT hN hk hR5 hc ⟨by omega, by omega⟩ ?_
              rw [hbT]
              refine (s184_150 (by first | decide | assumption | omega) (by first | decide | assumption | omega)).mpr ?_
              skip
              refine v_arrive h hV hk hl5 (by omega) hfl.1 (by omega) s5 (gM.wv hV g4) hfl.2 gv (fun A2 h6 y1 y2 y3 y4 y5 y6 => ?_) (fun h6 y1 y2 y3 => ?_)
              · simp only [kon, knt_some, knt_none, Option.toList_some, Option.toList_none, List.cons_append, List.nil_append]
                refine s184_153.mpr ?_
                rw [fAdd_id (by omega) (by omega)]
                refine s184_156.mpr ?_
                refine nx _ _ ⟨rfl, gB.tr (wB_a y5), Or.inl ⟨A2, ?_, y3.1, fun j j0 j1 => ?_, fun j j0 j1 => ?_, y4, arr_v y2 gv hfl.1 hfl.2, gFS.tr ((FS.wv g4).tr (FS.of gv y2 hfl.1 (by omega) y6))⟩⟩
                · rw [List.range_succ, List.map_append]
                  exact FlR_sn _ _ _ _ gF y1 c9 hfl.1 y2
                · have w := y3.2.2.2.2.1 j j0 (by have : X.1 ≤ (rcv B X k).1 := (by unfold rcv; dsimp only; split <;> first | exact Int.le_refl _ | (show X.1 ≤ X.1 + 1; omega)); omega)
                  rw [w]; congr 1; unfold rcv; dsimp only; split <;> simp only [up1_ne (show j ≠ X.1 - 1 by omega), up1_ne (show j ≠ X.1 by omega)]
                · rw [y3.2.2.2.2.2 j j0 j1]; congr 1; unfold rcv; dsimp only; split <;> rfl
              · simp only [kon, knt_some, knt_none, Option.toList_some, Option.toList_none, List.cons_append, List.nil_append]
                refine s184_153.mpr ?_
                rw [fAdd_id (by omega) (by omega)]
                refine s184_156.mpr ?_
                refine nx _ _ ⟨rfl, gB.tr (wB_a y3), Or.inr ⟨y2, ?_⟩⟩
                rw [split]
                exact FlX_sn hfl.1 _ _ _ _ gF (y1.imp (fun z w => z w.1) id)
            · rw [if_neg c9] at s5
              refine s184_139.mpr (s184_140.mpr (s184_141.mpr (s184_142.mpr (s184_143.mpr (s184_144.mpr ?_)))))
              refine s184_146.mpr ?_
              try simp (disch := first | decide | assumption | omega) only [kon, knt_some, knt_none, Option.toList_some, Option.toList_none, List.cons_append, List.nil_append, fAdd_id]
              refine (s184_147 (by first | decide | assumption | omega) (by first | decide | assumption | omega)).mpr ?_
              refine v_operandOf h (by omega) hM5 hT hN hk hR5 hc ⟨by omega, by omega⟩ ?_
              refine (s184_150 (by first | decide | assumption | omega) (by first | decide | assumption | omega)).mpr ?_
              skip
              refine v_arriveW (t := t) (H := H) (C := C) h s5 (fun h6 y2 y3 => ?_)
              simp only [kon, knt_some, knt_none, Option.toList_some, Option.toList_none, List.cons_append, List.nil_append]
              refine s184_153.mpr ?_
              rw [fAdd_id (by omega) (by omega)]
              refine s184_156.mpr ?_
              refine nx _ _ ⟨rfl, gB.tr (wB_a y3), Or.inr ⟨y2, ?_⟩⟩
              rw [split]
              exact FlX_sn hfl.1 _ _ _ _ gF (Or.inl (fun w => c9 w.2))
          -- the end in the state then, and the load
          have g9 := g2.tr (wB_v (t := t) (H := H) (C := C) g3)
          have hC3 := hCk g9
          obtain ⟨q0, q8, q1, q2, q3, -⟩ := end_of hT ha hk5 rfl hC3 k4
          have klt : (k : Int) < nMs B (whichM (X.2.1 (X.1 - 1))) (stateM (X.2.1 (X.1 - 1))) := by omega
          obtain ⟨i1, i2, i3⟩ := q3 klt
          have eN : (if ixA (upI h2 8 4 (X.1 - 1)) oc (stateM (X.2.1 (X.1 - 1))) k < 0 then 0 else (upI h2 8 4 (X.1 - 1)) (oc + 4) (ixA (upI h2 8 4 (X.1 - 1)) oc (stateM (X.2.1 (X.1 - 1))) k)) = thM B (whichM (X.2.1 (X.1 - 1))) (stateM (X.2.1 (X.1 - 1))) k := by rw [i1, if_neg (by omega), i3]
          have eX := cv_nx hT ha hk5 k4.1 klt
          have hL : ∀ {h4 : HI}, FW wV (upI h2 8 4 (X.1 - 1)) h4 → (if ixA h4 oc (stateM (X.2.1 (X.1 - 1))) k < 0 then -1 else h4 (oc + 3) (ixA h4 oc (stateM (X.2.1 (X.1 - 1))) k)) = cv (ldT B (X.2.1 (X.1 - 1)) k) := fun g => by
            obtain ⟨-, -, -, -, w3, -⟩ := end_of hT ha hk5 rfl (hCk (g9.tr (wB_v g))) k4
            rw [(w3 klt).1, if_neg (by omega), (w3 klt).2.1]
          have hl := ld_of hT.2.2 ha hk5 k4.1 klt
          have eM : cv (ldT B (X.2.1 (X.1 - 1)) k) = -1 ↔ ldT B (X.2.1 (X.1 - 1)) k = -1 := by
            constructor
            · intro z
              rcases hl with y | y
              · exact y
              · exact absurd z (cv_m y.1.r)
            · intro z; rw [z]; rfl
          have E1 : ldT B (X.2.1 (X.1 - 1)) k = -1 → ∀ h4, VS (pushO (some (X.1 - 1, X.2.1, X.2.2)) (nxT B (X.2.1 (X.1 - 1)) k)) h4 → FW wV (upI h2 8 4 (X.1 - 1)) h4 → _ := fun z h4 s4 g4 => T139 h4 (by rw [← rcv_p c c16, if_pos z]; exact s4) (g3.tr g4)
          have E2 : ldT B (X.2.1 (X.1 - 1)) k ≠ -1 → ∀ h5, VS (pushO (pushO (some (X.1 - 1, X.2.1, X.2.2)) (nxT B (X.2.1 (X.1 - 1)) k)) (ldT B (X.2.1 (X.1 - 1)) k)) h5 → FW wV (upI h2 8 4 (X.1 - 1)) h5 → _ := fun z h5 s5 g5 => T139 h5 (by rw [← rcv_p c c16, if_neg z]; exact s5) (g3.tr g5)
          have side2 : 0 ≤ sideM (X.2.1 (X.1 - 1)) ∧ sideM (X.2.1 (X.1 - 1)) < 2 := by unfold sideM; omega
          clear T139 q3 hl
          refine s184_72.mpr (s184_74.mpr ?_)
          refine s184_76.mpr (wif (fun c76 => ?_) (fun c76 => ?_))
          · first
            | (exfalso; omega)
            | skip
              refine s184_79.mpr ?_
              refine (s184_80 (by first | decide | assumption | omega)).mpr ?_
              try simp (disch := first | decide | assumption | omega) only [kon, knt_some, knt_none, Option.toList_some, Option.toList_none, List.cons_append, List.nil_append, g5]
              refine s184_83.mpr (wif (fun c83 => ?_) (fun c83 => ?_))
              · first
                | (exfalso; omega)
                | skip
                  refine s184_86.mpr (s184_87.mpr ?_)
                  refine (s184_89 (by first | decide | assumption | omega)).mpr ?_
                  refine s184_92.mpr (s184_93.mpr ?_)
                  try simp (disch := first | decide | assumption | omega) only [kon, knt_some, knt_none, Option.toList_some, Option.toList_none, List.cons_append, List.nil_append, g5]
                  refine (s184_94 (by omega)).mpr ?_
                  refine c_namedByH (fun x9 a9 b9 w9 => ?_)
                  obtain rfl : x9 = whichM (X.2.1 (X.1 - 1)) := (w9 kr).trans kw
                  refine s184_97.mpr (s184_98.mpr (s184_100.mpr ?_))
                  refine (s184_102 (by first | decide | assumption | omega) (by first | decide | assumption | omega)).mpr ?_
                  refine k_nextOf hC3.1 (by omega) ?_
                  simp only [kon, knt_some, knt_none, Option.toList_some, Option.toList_none, List.cons_append, List.nil_append, eN]
                  refine s184_105.mpr ?_
                  refine (s184_106 (by omega)).mpr ?_
                  refine c_sideOfEndG (fun e8 a8 b8 w8 => ?_)
                  obtain rfl : e8 = sideM (X.2.1 (X.1 - 1)) := (w8 kr).trans ke
                  refine (s184_109 (by omega)).mpr ?_
                  refine c_endType.mpr ?_
                  refine (s184_112 (by first | decide | assumption | omega) (by first | decide | assumption | omega)).mpr ?_
                  first | refine v_push h s3 (fun _ => eX) (fun h4 s4 g4 => ?_) | refine v_push h s4 (fun _ => rfl) (fun h5 s5 g6 => ?_)
                  refine s184_115.mpr (s184_116.mpr (s184_118.mpr ?_))
                  refine (s184_120 (by first | decide | assumption | omega) (by first | decide | assumption | omega)).mpr ?_
                  refine k_loadOf hC3.1 (by omega) ?_
                  simp only [kon, knt_some, knt_none, Option.toList_some, Option.toList_none, List.cons_append, List.nil_append, hL g4]
                  refine s184_123.mpr ?_
                  refine s184_124.mpr (wif (fun c124 => ?_) (fun c124 => ?_))
                  · first
                    | (exfalso; omega)
                    | skip
                      first | exact E1 (eM.mp (by assumption)) h4 s4 g4 | exact E2 (fun z => absurd (eM.mpr z) (by assumption)) h5 s5 (g4.tr g6)
                  · first
                    | (exfalso; omega)
                    | skip
                      refine s184_127.mpr (s184_128.mpr (s184_129.mpr (s184_131.mpr ?_)))
                      refine (s184_133 (by first | decide | assumption | omega) (by first | decide | assumption | omega)).mpr ?_
                      refine k_loadOf hC3.1 (by omega) ?_
                      simp only [kon, knt_some, knt_none, Option.toList_some, Option.toList_none, List.cons_append, List.nil_append, hL g4]
                      refine (s184_136 (by first | decide | assumption | omega) (by first | decide | assumption | omega)).mpr ?_
                      first | refine v_push h s3 (fun _ => eX) (fun h4 s4 g4 => ?_) | refine v_push h s4 (fun _ => rfl) (fun h5 s5 g6 => ?_)
                      first | exact E1 (eM.mp (by assumption)) h4 s4 g4 | exact E2 (fun z => absurd (eM.mpr z) (by assumption)) h5 s5 (g4.tr g6)
              · first
                | (exfalso; omega)
                | skip
                  exfalso; omega
          · first
            | (exfalso; omega)
            | skip
              exfalso; omega
        · have e5 := s2.1
          have E := X72 h2 (vI (cv (X.2.1 (X.1 - 1)))) (vR (some oc)) (vI (stateM (X.2.1 (X.1 - 1)))) v (vI (X.1 - 1)) k s2 g2 (Or.inr ⟨_, rfl, gx⟩)
          exact E
      · rintro ls h2 ⟨rfl, g2, hJ⟩
        rcases hJ with ⟨A1, gF, g5, gS, gL, gM, gv, gFS⟩ | ⟨s2, gx⟩
        · have E := ok _ A1 h2 rfl gF g5 gM g2 gFS
          refine s184_72.mpr (s184_74.mpr ?_)
          refine s184_76.mpr (wif (fun c76 => ?_) (fun c76 => ?_))
          · skip
            exfalso; omega
          · skip
            refine (s184_159).mpr ?_
            exact E
        · exact X72 h2 _ _ _ v _ _ s2 g2 (Or.inr ⟨_, rfl, gx⟩)
    refine s184_63.mpr ?_
    refine (s184_64 (by first | decide | assumption | omega)).mpr ?_
    refine s184_67.mpr (s184_69.mpr (s184_70.mpr ?_))
    try simp (disch := first | decide | assumption | omega) only [e84]
    exact T72
  have side2 : 0 ≤ sideM (X.2.1 (X.1 - 1)) ∧ sideM (X.2.1 (X.1 - 1)) < 2 := by unfold sideM; omega
  rw [e184]
  refine s184_0.mpr ?_
  refine (s184_1 (by omega) k8).mpr ?_
  refine v_pop h hs (fun v1 hi1 s1 g1 t1 => ?_)
  simp only [kon, knt_some, knt_none, Option.toList_some, Option.toList_none, List.cons_append, List.nil_append]
  refine s184_4.mpr (s184_5.mpr (s184_6.mpr ?_))
  refine (s184_7 (by omega) k8).mpr ?_
  refine v_contractOf h (by omega) (hM.wv g1) hT hN (fun r1 cr1 => ?_)
  simp only [kon, knt_some, knt_none, Option.toList_some, Option.toList_none, List.cons_append, List.nil_append]
  refine s184_10.mpr (s184_11.mpr ?_)
  refine (s184_12 (by omega)).mpr ?_
  refine c_stateOfEndG (fun x4 a4 b4 w4 => ?_)
  simp only [kon, knt_some, knt_none, Option.toList_some, Option.toList_none, List.cons_append, List.nil_append]
  refine s184_15.mpr (s184_17.mpr (s184_18.mpr ?_))
  refine (s184_19 (by omega) k8).mpr ?_
  refine v_operandOf h (by omega) (hM.wv g1) hT hN hk (hR.wv t119 g1) hc ⟨by omega, by omega⟩ ?_
  rw [eb]
  simp only [kon, knt_some, knt_none, Option.toList_some, Option.toList_none, List.cons_append, List.nil_append]
  refine s184_22.mpr (s184_24.mpr ?_)
  have cr0 := cr1
  -- wrong
  have W57 : ∀ l3 l4 l6 l7, ¬ (0 < X.1 ∧ kindM (X.2.1 (X.1 - 1)) = 5 ∧ tnS B (whichM (X.2.1 (X.1 - 1))) (stateM (X.2.1 (X.1 - 1))) = 2 - sideM (X.2.1 (X.1 - 1)) ∧ nMs B (whichM (X.2.1 (X.1 - 1))) (stateM (X.2.1 (X.1 - 1))) = v) → Wp d 184 57 [vR (some 8), vI p, vI v1, l3, l4, vI v, l6, l7] [] al hi1 hr Q := by
    intro l3 l4 l6 l7 nc
    have E := no _ (Or.inl (onw_n nc)) s1.w ((wB_v g1).up (Or.inl wV_5))
    refine s184_57.mpr (s184_58.mpr ?_)
    refine (s184_59 (by first | decide | assumption | omega) (by first | decide | assumption | omega)).mpr ?_
    refine (s184_62).mpr ?_
    exact E
  rcases cr1 with ⟨c, oc, rfl, z2, z3, z4, z5, z6, z7⟩ | ⟨rfl, z2⟩
  · have kO := z5.1.1
    have key : 0 < X.1 → kindM (X.2.1 (X.1 - 1)) = 5 ∧ x4 = stateM (X.2.1 (X.1 - 1)) ∧ v1 = cv (X.2.1 (X.1 - 1)) ∧ c = whichM (X.2.1 (X.1 - 1)) ∧ (if x4 < 0 ∨ 8 ≤ x4 then 0 else hi1 (oc + 1) x4) = tnS B (whichM (X.2.1 (X.1 - 1))) (stateM (X.2.1 (X.1 - 1))) ∧ (if x4 < 0 ∨ 8 ≤ x4 then 0 else hi1 (oc + 2) x4) = nMs B (whichM (X.2.1 (X.1 - 1))) (stateM (X.2.1 (X.1 - 1))) ∧ rng v1 ∧ v1 / 1048576 % 2 = sideM (X.2.1 (X.1 - 1)) := fun cc => by
      obtain ⟨k1, k2, k3, k4⟩ := top_of rfl hv t1 cc
      have ha := hv1 cc
      have hk : kindM (X.2.1 (X.1 - 1)) = 5 := by omega
      have ec := (z7 k3).trans k4
      obtain ⟨s0, s8, e1, e2, -⟩ := end_of (v := 0) hT ha hk ec z5 (by decide)
      have ex : x4 = stateM (X.2.1 (X.1 - 1)) := by rw [w4 k3, k1]; exact cv_s ha.r
      refine ⟨hk, ex, k1, ec, ?_, ?_, k3, by rw [k1]; exact cv_e ha.r⟩
      · rw [ex, if_neg (by omega), e1]
      · rw [ex, if_neg (by omega), e2]
    refine s184_25.mpr (wif (fun c => by cases c) (fun _ => ?_))
    refine s184_28.mpr (s184_29.mpr ?_)
    refine (s184_31 (by omega) kO).mpr ?_
    refine k_turnAt z5.1 ?_
    simp only [kon, knt_some, knt_none, Option.toList_some, Option.toList_none, List.cons_append, List.nil_append]
    refine s184_34.mpr (s184_35.mpr ?_)
    refine (s184_36 (by omega)).mpr ?_
    refine c_sideOfEndG (fun e5 a5 b5 w5 => ?_)
    simp only [kon, knt_some, knt_none, Option.toList_some, Option.toList_none, List.cons_append, List.nil_append]
    refine s184_39.mpr ?_
    rw [fSub_id (by omega) (by omega)]
    refine (s184_40 (by omega)).mpr ?_
    refine (c_turnOfSide (by omega) (by omega)).mpr ?_
    simp only [kon, knt_some, knt_none, Option.toList_some, Option.toList_none, List.cons_append, List.nil_append]
    refine s184_43.mpr (wif (fun c1 => ?_) (fun c1 => ?_))
    · refine s184_46.mpr (s184_47.mpr ?_)
      refine (s184_49 (by omega) kO).mpr ?_
      refine k_countAt z5.1 ?_
      simp only [kon, knt_some, knt_none, Option.toList_some, Option.toList_none, List.cons_append, List.nil_append]
      refine s184_52.mpr (s184_54.mpr (wif (fun c2 => ?_) (fun c2 => ?_)))
      · by_cases cc : 0 < X.1
        · obtain ⟨y1, y2, y3, y4, y5, y6, y7, y8⟩ := key cc
          rw [y3, y2]
          rw [pop_y cc] at s1
          exact T63 hi1 oc _ _ cc y1 (by rw [← y5, c1, w5 y7, y8]; omega) (by rw [← y6]; exact c2) (by rw [← y4]; exact z6.2) s1 g1
        · rw [pop_n cc] at s1
          have e0 := s1.1
          have E := no hi1 (Or.inl (onw_n (fun z => cc z.1))) s1 (wB_v g1)
          refine s184_63.mpr ?_
          refine (s184_64 (by first | decide | assumption | omega)).mpr ?_
          refine s184_67.mpr (s184_69.mpr (s184_70.mpr (s184_72.mpr (s184_74.mpr ?_))))
          try simp (disch := first | decide | assumption | omega) only [e0]
          refine s184_76.mpr (wif (fun c76 => ?_) (fun c76 => ?_))
          · skip
            refine s184_79.mpr ?_
            refine (s184_80 (by first | decide | assumption | omega)).mpr ?_
            try simp (disch := first | decide | assumption | omega) only [e0]
            refine s184_83.mpr (wif (fun c83 => ?_) (fun c83 => ?_))
            · skip
              exfalso; omega
            · skip
              refine (s184_159).mpr ?_
              exact E
          · skip
            refine (s184_159).mpr ?_
            exact E
      · exact W57 _ _ _ _ (fun z => c2 (by rw [(key z.1).2.2.2.2.2.1]; exact z.2.2.2))
    · refine W57 _ _ _ _ (fun z => c1 ?_)
      obtain ⟨y1, y2, y3, y4, y5, y6, y7, y8⟩ := key z.1
      rw [y5, z.2.2.1, w5 y7, y8]; omega
  · refine s184_25.mpr (wif (fun _ => ?_) (fun c => absurd rfl c))
    refine W57 _ _ _ _ (fun z => ?_)
    rw [(top_of rfl hv t1 z.1).1] at cr0
    rcases cr0.v (hv1 z.1) with ⟨-, oc, w, -⟩ | ⟨w, -⟩
    · cases w
    · exact w z.2.1
end DV8
