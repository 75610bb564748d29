section EV0
variable {d : Nat} {al : AL} {hi : HI} {hr : HR} {Q : QQ} {B : Int → Int} {N : Nat} {n : Int} {f : Int} {t H C : Nat} {l : Int}
theorem v_jump {v : Int} {X : Tst} {A : Asg} (h : VR al hr) (hd : 4 ≤ d) (hk : hr 8 8 = some (t + 1)) (hV : RV al hr t H C l) (hl4 : hi (t + 1) 4 = l) (v0 : 0 ≤ v ∧ v ≤ 255) (hs : VS (some X) hi) (hv : vX B X) (hm : MC A hi t H C l) (hvA : vA B A)
    (ok : ∀ A' hi', v < l → ArrR A v X A' → VS (some X) hi' → MC A' hi' t H C l → FW (wA t H C) hi hi' → AF A hi v A' hi' → Q (some (some (vI 0))) al hi' hr)
    (no : ∀ hi', (¬ v < l ∨ ArrX A v X) → VS none hi' → FW (wA t H C) hi hi' → Q (some (some (vI 0))) al hi' hr) : Ev d 172 [vR (some 8), vI 20, vI v] al hi hr Q := by
  have k8 := h.k8; have k11 := h.k11; have k12 := h.k12; have l11 := h.l11; have l12 := h.l12; have r1 := h.2.2.1; have r2 := h.2.2.2.1
  rw [e172]
  refine s172_0.mpr ?_
  refine g172_1 (fun c1 => ?_) (fun c1 => ?_) (fun c1 => ?_) (fun c1 => ?_)
  · skip
    have c1 := List.mem_singleton.mp c1
    exfalso; omega
  · skip
    have c1 := List.mem_singleton.mp c1
    refine s172_46.mpr (s172_47.mpr ?_)
    refine (s172_48 (by first | decide | assumption | omega) (by first | decide | assumption | omega)).mpr ?_
    refine v_arrive h hV hk hl4 (by omega) v0.1 (by omega) hs hm hv hvA (fun A2 h6 y1 y2 y3 y4 y5 y6 => ?_) (fun h6 y1 y2 y3 => ?_)
    · skip
      refine s172_51.mpr ?_
      refine (s172_52 (by first | assumption | omega)).mpr ?_
      first | exact ok A2 h6 y1 y2 y3 y4 y5 y6 | exact no h6 y1 y2 y3
    · skip
      refine s172_51.mpr ?_
      refine (s172_52 (by first | assumption | omega)).mpr ?_
      first | exact ok A2 h6 y1 y2 y3 y4 y5 y6 | exact no h6 y1 y2 y3
  · skip
    have c1 := List.mem_singleton.mp c1
    exfalso; omega
  · skip
    exact absurd c1 (by simp)
theorem v_zero {v : Int} {X : Tst} {A : Asg} (h : VR al hr) (hd : 4 ≤ d) (hk : hr 8 8 = some (t + 1)) (hV : RV al hr t H C l) (hl4 : hi (t + 1) 4 = l) (v0 : 0 ≤ v ∧ v ≤ 255) (hs : VS (some X) hi) (hv : vX B X) (hm : MC A hi t H C l) (hvA : vA B A)
    (ok : ∀ A' hi', (0 < X.1 ∧ X.2.1 (X.1 - 1) = 0) → v < l → ArrR A v (X.1 - 1, X.2.1, X.2.2) A' → VS (some (X.1 - 1, X.2.1, X.2.2)) hi' → MC A' hi' t H C l → FW (wB t H C) hi hi' → FS A hi A' hi' → Q (some (some (vI 1))) al hi' hr)
    (no : ∀ hi', (¬ (0 < X.1 ∧ X.2.1 (X.1 - 1) = 0) ∨ ¬ v < l ∨ ArrX A v (X.1 - 1, X.2.1, X.2.2)) → VS none hi' → FW (wB t H C) hi hi' → Q (some (some (vI 1))) al hi' hr) : Ev d 172 [vR (some 8), vI 21, vI v] al hi hr Q := by
  have k8 := h.k8; have k11 := h.k11; have k12 := h.k12; have l11 := h.l11; have l12 := h.l12; have r1 := h.2.2.1; have r2 := h.2.2.2.1
  have t119 : 119 ≤ t := hV.2.2.2.2.1
  have l240 : l ≤ 240 := hV.2.2.2.2.2.2.2.2
  rw [e172]
  by_cases c : 0 < X.1 ∧ X.2.1 (X.1 - 1) = 0
  · have e := popI_y (X := X) c.1 c.2
    refine s172_0.mpr ?_
    refine g172_1 (fun c1 => ?_) (fun c1 => ?_) (fun c1 => ?_) (fun c1 => ?_)
    · skip
      have c1 := List.mem_singleton.mp c1
      exfalso; omega
    · skip
      have c1 := List.mem_singleton.mp c1
      exfalso; omega
    · skip
      have c1 := List.mem_singleton.mp c1
      refine s172_53.mpr ?_
      refine (s172_54 (by first | decide | assumption | omega) (by first | decide | assumption | omega)).mpr ?_
      refine v_popInt h (by omega) hs (fun Z e => by cases e; exact hv) (fun hi0 s0 g0 => ?_)
      rw [e] at s0
      refine s172_57.mpr (s172_58.mpr ?_)
      refine (s172_59 (by first | decide | assumption | omega) (by first | decide | assumption | omega)).mpr ?_
      refine v_arrive h hV hk (by rw [g0 _ _ (wV_a (by omega))]; exact hl4) (by omega) v0.1 (by omega) s0 (hm.wv hV g0) (hv.pop c.1) hvA (fun A2 h6 y1 y2 y3 y4 y5 y6 => ?_) (fun h6 y1 y2 y3 => ?_)
      · skip
        refine s172_62.mpr ?_
        refine (s172_63 (by first | assumption | omega)).mpr ?_
        first | exact ok A2 h6 c y1 y2 y3 y4 ((wB_v g0).tr (wB_a y5)) ((FS.wv g0).tr (FS.of hvA y2 v0.1 (by omega) y6)) | exact no h6 (Or.inr y1) y2 ((wB_v g0).tr (wB_a y3))
      · skip
        refine s172_62.mpr ?_
        refine (s172_63 (by first | assumption | omega)).mpr ?_
        first | exact ok A2 h6 c y1 y2 y3 y4 ((wB_v g0).tr (wB_a y5)) ((FS.wv g0).tr (FS.of hvA y2 v0.1 (by omega) y6)) | exact no h6 (Or.inr y1) y2 ((wB_v g0).tr (wB_a y3))
    · skip
      exact absurd c1 (by simp)
  · have e := popI_n (X := X) c
    refine s172_0.mpr ?_
    refine g172_1 (fun c1 => ?_) (fun c1 => ?_) (fun c1 => ?_) (fun c1 => ?_)
    · skip
      have c1 := List.mem_singleton.mp c1
      exfalso; omega
    · skip
      have c1 := List.mem_singleton.mp c1
      exfalso; omega
    · skip
      have c1 := List.mem_singleton.mp c1
      refine s172_53.mpr ?_
      refine (s172_54 (by first | decide | assumption | omega) (by first | decide | assumption | omega)).mpr ?_
      refine v_popInt h (by omega) hs (fun Z e => by cases e; exact hv) (fun hi0 s0 g0 => ?_)
      rw [e] at s0
      refine s172_57.mpr (s172_58.mpr ?_)
      refine (s172_59 (by first | decide | assumption | omega) (by first | decide | assumption | omega)).mpr ?_
      refine v_arriveW (t := t) (H := H) (C := C) h s0 (fun h6 y2 y3 => ?_)
      refine s172_62.mpr ?_
      refine (s172_63 (by first | assumption | omega)).mpr ?_
      exact no h6 (Or.inl c) y2 ((wB_v g0).tr (wB_a y3))
    · skip
      exact absurd c1 (by simp)
set_option maxHeartbeats 1000000 in
theorem v_follow {p : Int} {X : Tst} {A : Asg} {M : Nat} (h : VR al hr) (hd : 6 ≤ d) (hM : ModV al hi hr N n B M) (hT : TxV B n) (hN : hr 8 7 = some N) (hk : hr 8 8 = some (t + 1)) (hV : RV al hr t H C l) (hH : M ≤ H) (hC : M ≤ C) (hR : RoutOK al hi hr B f t) (htM : t + 2 < M) (f0 : 0 ≤ f) (f1 : f < nFn B) (hl : l = cLen B f) (hc : 0 ≤ cAt B f ∧ cAt B f ≤ 3000) (p0 : 0 ≤ p ∧ p ≤ 300) (hI : InsI B (cAt B f + cLen B f) (nLoc B f) (cAt B f + p)) (hIV : InsV B f p) (hOp : Opk B f p) (hs : VS (some X) hi) (hv : vX B X) (hm : MC A hi t H C l) (hvA : vA B A)
    (ok : ∀ fl A' hi', tstep B f p X = some fl → FlR l A fl A' → hi' 8 5 = 0 → MC A' hi' t H C l → FW (wB t H C) hi hi' → FS A hi A' hi' → Q (some none) al hi' hr)
    (no : ∀ hi', (tstep B f p X = none ∨ ∃ fl, tstep B f p X = some fl ∧ FlX l A fl) → VS none hi' → FW (wB t H C) hi hi' → Q (some none) al hi' hr) : Ev d 169 [vR (some 8), vI p] al hi hr Q := by
  have k8 := h.k8; have k11 := h.k11; have k12 := h.k12; have l11 := h.l11; have l12 := h.l12; have r1 := h.2.2.1; have r2 := h.2.2.2.1
  have kT := hR.1.1
  have kN := hM.1.1.1
  have c16 := hs.2.2.2.1
  have t119 : 119 ≤ t := hV.2.2.2.2.1
  have l240 : l ≤ 240 := hV.2.2.2.2.2.2.2.2
  have e5 : hi (t + 1) 5 = cAt B f := hR.2.2.2.2.2.2.2.1
  have hl4 : hi (t + 1) 4 = l := by rw [hR.2.2.2.2.2.2.1]; exact hl.symm
  obtain ⟨I1, I2, I3, I4, I5, I6, I7, I8⟩ := hI
  have hrg := hT.rg (cAt B f + p + 1)
  have hO : ∀ fl, tstep B f p X = some fl → ∀ q ∈ fl, 0 ≤ q.1 ∧ vX B q.2 := fun fl e => hOp.2.2 X fl hv e
  have h38 : B (cAt B f + p) = 38 → 0 ≤ B (cAt B f + p + 1) := fun z => I1 (by rw [z]; decide)
  have eb := bZ_p (B := B) (i := cAt B f + p) I6
  have vzr := bZ_r hT (cAt B f + p + 1)
  have vze : oprn (B (cAt B f + p)) ≠ 0 → bZ B (cAt B f + p + 1) = B (cAt B f + p + 1) := fun z => bZ_p (I1 z)
  generalize hop : B (cAt B f + p) = op at *
  generalize hvz : bZ B (cAt B f + p + 1) = vz at *
  have eop : opA B f p = op := hop
  have hts : tstep B f p X = (if op < 20 then tsP op vz p X else if op < 32 then tsH B f op vz p X else tsL B f op vz p X) := by
    unfold tstep
    rw [eop]
    by_cases z : oprn op = 0
    · obtain ⟨a1, a2, a3, a4⟩ := opr_0 op I6 I7 z
      rw [tsP_v (v' := vz) a1 a2, tsH_v (v' := vz) a3, tsL_v (v' := vz) a4]
    · rw [show agA B f p = vz from (vze z).symm]
  have hn : op ≠ 20 → op ≠ 21 → op ≠ 38 → ∀ q Y, tstep B f p X = some [(q, Y)] → q = p + ilen B (cAt B f + p) := fun n1 n2 n3 q Y e => by
    have := ts_tgt (by rw [eop]; exact I6) (by rw [eop]; exact I7) e (q, Y) (List.mem_singleton.mpr rfl)
    rw [eop] at this
    rcases this with z | ⟨z, -⟩ | ⟨z, -⟩
    · exact z
    · omega
    · omega
  have NX : ∀ x hi1 l2, op ≠ 20 → op ≠ 21 → op ≠ 38 → VF (tstep B f p X) x hi1 → FW wV hi hi1 → Wp d 169 130 [vR (some 8), vI p, vI l2, vI x] [] al hi1 hr Q := by
    intro x hi1 l2 n1 n2 n3 s1 g1
    refine v_next h (by omega) (hM.wv g1) hT hN hk hV (hR.wv t119 g1) hl hc p0 (by rw [hop]; exact ⟨I6, I7⟩) (by rw [hop]; exact h38) (hm.wv hV g1) hvA hO (hn n1 n2 n3) s1 (fun fl A' h2 y1 y2 y3 y4 y5 y6 => ok fl A' h2 y1 y2 y3 y4 ((wB_v g1).tr y5) ((FS.wv g1).tr y6)) (fun h2 y1 y2 y3 => no h2 y1 y2 ((wB_v g1).tr y3))
  have hp38 : 0 ≤ p ∧ p ≤ 1000 := ⟨p0.1, by omega⟩
  have ap := il_gt hT.rg (cAt B f)
  -- 0 to 6
  have T23 : op ≤ 6 → Wp d 169 23 [vR (some 8), vI p, vI op, none] [] al hi hr Q := by
    intro c
    have hts : tstep B f p X = tsP op vz p X := by rw [hts, if_pos (by omega)]
    refine s169_23.mpr (s169_24.mpr (s169_25.mpr (s169_26.mpr ?_)))
    refine (s169_27 (by first | decide | assumption | omega) (by first | decide | assumption | omega)).mpr ?_
    refine v_operandOf h (by omega) hM hT hN hk hR hc hp38 ?_
    rw [hvz]
    refine (s169_30 (by first | decide | assumption | omega) (by first | decide | assumption | omega)).mpr ?_
    skip
    refine v_followMove h (by omega) hs hv ⟨I6, c⟩ (fun z => ?_) p (fun hi1 s1 g1 => ?_)
    · have := hOp.1 (by rw [eop]; exact z)
      rw [show agA B f p = vz from (vze (by rcases z with z | z <;> rw [z] <;> decide)).symm] at this
      exact this
    · simp only [kon, knt_some, knt_none, Option.toList_some, Option.toList_none, List.cons_append, List.nil_append]
      refine s169_33.mpr (s169_34.mpr ?_)
      exact NX _ _ _ (by omega) (by omega) (by omega) (by rw [hts]; exact VF.ofP s1) g1
  sorry
end EV0
