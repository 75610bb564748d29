section EV0
variable {d : Nat} {al : AL} {hi : HI} {hr : HR} {Q : QQ} {B : Int → Int} {N : Nat} {n : Int} {f : Int} {t H C : Nat} {l : Int}
theorem v_jump {v : Int} {X : Tst} {A : Asg} (h : VR al hr) (hd : 4 ≤ d) (hk : hr 8 8 = some (t + 1)) (hV : RV al hr t H C l) (hl4 : hi (t + 1) 4 = l) (v0 : 0 ≤ v ∧ v ≤ 255) (hs : VS (some X) hi) (hv : vX B X) (hm : MC A hi t H C l) (hvA : vA B A)
    (ok : ∀ A' hi', v < l → ArrR A v X A' → VS (some X) hi' → MC A' hi' t H C l → FW (wA t H C) hi hi' → AF A hi v A' hi' → Q (some (some (vI 0))) al hi' hr)
    (no : ∀ hi', (¬ v < l ∨ ArrX A v X) → VS none hi' → FW (wA t H C) hi hi' → Q (some (some (vI 0))) al hi' hr) : Ev d 172 [vR (some 8), vI 20, vI v] al hi hr Q := by
  have k8 := h.k8; have k11 := h.k11; have k12 := h.k12; have l11 := h.l11; have l12 := h.l12; have r1 := h.2.2.1; have r2 := h.2.2.2.1
  rw [e172]
  refine s172_0.mpr ?_
  refine g172_1 (fun c1 => ?_) (fun c1 => ?_) (fun c1 => ?_) (fun c1 => ?_)
  · skip
    have c1 := List.mem_singleton.mp c1
    exfalso; omega
  · skip
    have c1 := List.mem_singleton.mp c1
    refine s172_46.mpr (s172_47.mpr ?_)
    refine (s172_48 (by first | decide | assumption | omega) (by first | decide | assumption | omega)).mpr ?_
    refine v_arrive h hV hk hl4 (by omega) v0.1 (by omega) hs hm hv hvA (fun A2 h6 y1 y2 y3 y4 y5 y6 => ?_) (fun h6 y1 y2 y3 => ?_)
    · skip
      refine s172_51.mpr ?_
      refine (s172_52 (by first | assumption | omega)).mpr ?_
      first | exact ok A2 h6 y1 y2 y3 y4 y5 y6 | exact no h6 y1 y2 y3
    · skip
      refine s172_51.mpr ?_
      refine (s172_52 (by first | assumption | omega)).mpr ?_
      first | exact ok A2 h6 y1 y2 y3 y4 y5 y6 | exact no h6 y1 y2 y3
  · skip
    have c1 := List.mem_singleton.mp c1
    exfalso; omega
  · skip
    exact absurd c1 (by simp)
theorem v_zero {v : Int} {X : Tst} {A : Asg} (h : VR al hr) (hd : 4 ≤ d) (hk : hr 8 8 = some (t + 1)) (hV : RV al hr t H C l) (hl4 : hi (t + 1) 4 = l) (v0 : 0 ≤ v ∧ v ≤ 255) (hs : VS (some X) hi) (hv : vX B X) (hm : MC A hi t H C l) (hvA : vA B A)
    (ok : ∀ A' hi', (0 < X.1 ∧ X.2.1 (X.1 - 1) = 0) → v < l → ArrR A v (X.1 - 1, X.2.1, X.2.2) A' → VS (some (X.1 - 1, X.2.1, X.2.2)) hi' → MC A' hi' t H C l → FW (wB t H C) hi hi' → FS A hi A' hi' → Q (some (some (vI 1))) al hi' hr)
    (no : ∀ hi', (¬ (0 < X.1 ∧ X.2.1 (X.1 - 1) = 0) ∨ ¬ v < l ∨ ArrX A v (X.1 - 1, X.2.1, X.2.2)) → VS none hi' → FW (wB t H C) hi hi' → Q (some (some (vI 1))) al hi' hr) : Ev d 172 [vR (some 8), vI 21, vI v] al hi hr Q := by
  have k8 := h.k8; have k11 := h.k11; have k12 := h.k12; have l11 := h.l11; have l12 := h.l12; have r1 := h.2.2.1; have r2 := h.2.2.2.1
  have t119 : 119 ≤ t := hV.2.2.2.2.1
  have l240 : l ≤ 240 := hV.2.2.2.2.2.2.2.2
  rw [e172]
  by_cases c : 0 < X.1 ∧ X.2.1 (X.1 - 1) = 0
  · have e := popI_y (X := X) c.1 c.2
    refine s172_0.mpr ?_
    refine g172_1 (fun c1 => ?_) (fun c1 => ?_) (fun c1 => ?_) (fun c1 => ?_)
    · skip
      have c1 := List.mem_singleton.mp c1
      exfalso; omega
    · skip
      have c1 := List.mem_singleton.mp c1
      exfalso; omega
    · skip
      have c1 := List.mem_singleton.mp c1
      refine s172_53.mpr ?_
      refine (s172_54 (by first | decide | assumption | omega) (by first | decide | assumption | omega)).mpr ?_
      refine v_popInt h (by omega) hs (fun Z e => by cases e; exact hv) (fun hi0 s0 g0 => ?_)
      rw [e] at s0
      refine s172_57.mpr (s172_58.mpr ?_)
      refine (s172_59 (by first | decide | assumption | omega) (by first | decide | assumption | omega)).mpr ?_
      refine v_arrive h hV hk (by rw [g0 _ _ (wV_a (by omega))]; exact hl4) (by omega) v0.1 (by omega) s0 (hm.wv hV g0) (hv.pop c.1) hvA (fun A2 h6 y1 y2 y3 y4 y5 y6 => ?_) (fun h6 y1 y2 y3 => ?_)
      · skip
        refine s172_62.mpr ?_
        refine (s172_63 (by first | assumption | omega)).mpr ?_
        first | exact ok A2 h6 c y1 y2 y3 y4 ((wB_v g0).tr (wB_a y5)) ((FS.wv g0).tr (FS.of hvA y2 v0.1 (by omega) y6)) | exact no h6 (Or.inr y1) y2 ((wB_v g0).tr (wB_a y3))
      · skip
        refine s172_62.mpr ?_
        refine (s172_63 (by first | assumption | omega)).mpr ?_
        first | exact ok A2 h6 c y1 y2 y3 y4 ((wB_v g0).tr (wB_a y5)) ((FS.wv g0).tr (FS.of hvA y2 v0.1 (by omega) y6)) | exact no h6 (Or.inr y1) y2 ((wB_v g0).tr (wB_a y3))
    · skip
      exact absurd c1 (by simp)
  · have e := popI_n (X := X) c
    refine s172_0.mpr ?_
    refine g172_1 (fun c1 => ?_) (fun c1 => ?_) (fun c1 => ?_) (fun c1 => ?_)
    · skip
      have c1 := List.mem_singleton.mp c1
      exfalso; omega
    · skip
      have c1 := List.mem_singleton.mp c1
      exfalso; omega
    · skip
      have c1 := List.mem_singleton.mp c1
      refine s172_53.mpr ?_
      refine (s172_54 (by first | decide | assumption | omega) (by first | decide | assumption | omega)).mpr ?_
      refine v_popInt h (by omega) hs (fun Z e => by cases e; exact hv) (fun hi0 s0 g0 => ?_)
      rw [e] at s0
      refine s172_57.mpr (s172_58.mpr ?_)
      refine (s172_59 (by first | decide | assumption | omega) (by first | decide | assumption | omega)).mpr ?_
      refine v_arriveW (t := t) (H := H) (C := C) h s0 (fun h6 y2 y3 => ?_)
      refine s172_62.mpr ?_
      refine (s172_63 (by first | assumption | omega)).mpr ?_
      exact no h6 (Or.inl c) y2 ((wB_v g0).tr (wB_a y3))
    · skip
      exact absurd c1 (by simp)
set_option maxHeartbeats 1000000 in
theorem v_follow {p : Int} {X : Tst} {A : Asg} {M : Nat} (h : VR al hr) (hd : 6 ≤ d) (hM : ModV al hi hr N n B M) (hT : TxV B n) (hN : hr 8 7 = some N) (hk : hr 8 8 = some (t + 1)) (hV : RV al hr t H C l) (hH : M ≤ H) (hC : M ≤ C) (hR : RoutOK al hi hr B f t) (htM : t + 2 < M) (f0 : 0 ≤ f) (f1 : f < nFn B) (hl : l = cLen B f) (hc : 0 ≤ cAt B f ∧ cAt B f ≤ 3000) (p0 : 0 ≤ p ∧ p ≤ 300) (hI : InsI B (cAt B f + cLen B f) (nLoc B f) (cAt B f + p)) (hIV : InsV B f p) (hOp : Opk B f p) (hs : VS (some X) hi) (hv : vX B X) (hm : MC A hi t H C l) (hvA : vA B A)
    (ok : ∀ fl A' hi', tstep B f p X = some fl → FlR l A fl A' → hi' 8 5 = 0 → MC A' hi' t H C l → FW (wB t H C) hi hi' → FS A hi A' hi' → Q (some none) al hi' hr)
    (no : ∀ hi', (tstep B f p X = none ∨ ∃ fl, tstep B f p X = some fl ∧ FlX l A fl) → VS none hi' → FW (wB t H C) hi hi' → Q (some none) al hi' hr) : Ev d 169 [vR (some 8), vI p] al hi hr Q := by
  have k8 := h.k8; have k11 := h.k11; have k12 := h.k12; have l11 := h.l11; have l12 := h.l12; have r1 := h.2.2.1; have r2 := h.2.2.2.1
  have kT := hR.1.1
  have kN := hM.1.1.1
  have c16 := hs.2.2.2.1
  have t119 : 119 ≤ t := hV.2.2.2.2.1
  have l240 : l ≤ 240 := hV.2.2.2.2.2.2.2.2
  have e5 : hi (t + 1) 5 = cAt B f := hR.2.2.2.2.2.2.2.1
  have hl4 : hi (t + 1) 4 = l := by rw [hR.2.2.2.2.2.2.1]; exact hl.symm
  obtain ⟨I1, I2, I3, I4, I5, I6, I7, I8⟩ := hI
  have hrg := hT.rg (cAt B f + p + 1)
  have hO : ∀ fl, tstep B f p X = some fl → ∀ q ∈ fl, 0 ≤ q.1 ∧ vX B q.2 := fun fl e => hOp.2.2 X fl hv e
  have h38 : B (cAt B f + p) = 38 → 0 ≤ B (cAt B f + p + 1) := fun z => I1 (by rw [z]; decide)
  have eb := bZ_p (B := B) (i := cAt B f + p) I6
  have vzr := bZ_r hT (cAt B f + p + 1)
  have vze : oprn (B (cAt B f + p)) ≠ 0 → bZ B (cAt B f + p + 1) = B (cAt B f + p + 1) := fun z => bZ_p (I1 z)
  generalize hop : B (cAt B f + p) = op at *
  generalize hvz : bZ B (cAt B f + p + 1) = vz at *
  have eop : opA B f p = op := hop
  have hts : tstep B f p X = (if op < 20 then tsP op vz p X else if op < 32 then tsH B f op vz p X else tsL B f op vz p X) := by
    unfold tstep
    rw [eop]
    by_cases z : oprn op = 0
    · obtain ⟨a1, a2, a3, a4⟩ := opr_0 op I6 I7 z
      rw [tsP_v (v' := vz) a1 a2, tsH_v (v' := vz) a3, tsL_v (v' := vz) a4]
    · rw [show agA B f p = vz from (vze z).symm]
  have hn : op ≠ 20 → op ≠ 21 → op ≠ 38 → ∀ q Y, tstep B f p X = some [(q, Y)] → q = p + ilen B (cAt B f + p) := fun n1 n2 n3 q Y e => by
    have := ts_tgt (by rw [eop]; exact I6) (by rw [eop]; exact I7) e (q, Y) (List.mem_singleton.mpr rfl)
    rw [eop] at this
    rcases this with z | ⟨z, -⟩ | ⟨z, -⟩
    · exact z
    · omega
    · omega
  have NX : ∀ x hi1 l2, op ≠ 20 → op ≠ 21 → op ≠ 38 → VF (tstep B f p X) x hi1 → FW wV hi hi1 → Wp d 169 130 [vR (some 8), vI p, vI l2, vI x] [] al hi1 hr Q := by
    intro x hi1 l2 n1 n2 n3 s1 g1
    refine v_next h (by omega) (hM.wv g1) hT hN hk hV (hR.wv t119 g1) hl hc p0 (by rw [hop]; exact ⟨I6, I7⟩) (by rw [hop]; exact h38) (hm.wv hV g1) hvA hO (hn n1 n2 n3) s1 (fun fl A' h2 y1 y2 y3 y4 y5 y6 => ok fl A' h2 y1 y2 y3 y4 ((wB_v g1).tr y5) ((FS.wv g1).tr y6)) (fun h2 y1 y2 y3 => no h2 y1 y2 ((wB_v g1).tr y3))
  have hp38 : 0 ≤ p ∧ p ≤ 1000 := ⟨p0.1, by omega⟩
  have ap := il_gt hT.rg (cAt B f)
  -- 0 to 6
  have T23 : op ≤ 6 → Wp d 169 23 [vR (some 8), vI p, vI op, none] [] al hi hr Q := by
    intro c
    have hts : tstep B f p X = tsP op vz p X := by rw [hts, if_pos (by omega)]
    refine s169_23.mpr (s169_24.mpr (s169_25.mpr (s169_26.mpr ?_)))
    refine (s169_27 (by first | decide | assumption | omega) (by first | decide | assumption | omega)).mpr ?_
    refine v_operandOf h (by omega) hM hT hN hk hR hc hp38 ?_
    rw [hvz]
    refine (s169_30 (by first | decide | assumption | omega) (by first | decide | assumption | omega)).mpr ?_
    skip
    refine v_followMove h (by omega) hs hv ⟨I6, c⟩ (fun z => ?_) p (fun hi1 s1 g1 => ?_)
    · have := hOp.1 (by rw [eop]; exact z)
      rw [show agA B f p = vz from (vze (by rcases z with z | z <;> rw [z] <;> decide)).symm] at this
      exact this
    · simp only [kon, knt_some, knt_none, Option.toList_some, Option.toList_none, List.cons_append, List.nil_append]
      refine s169_33.mpr (s169_34.mpr ?_)
      exact NX _ _ _ (by omega) (by omega) (by omega) (by rw [hts]; exact VF.ofP s1) g1
  -- 7 to 21
  have E130 : ∀ hi1 l2, Q (some none) al hi1 hr → Wp d 169 130 [vR (some 8), vI p, vI l2, vI 0] [] al hi1 hr Q := by
    intro hi1 l2 E
    refine s169_130.mpr ?_
    refine s169_131.mpr (wif (fun c131 => ?_) (fun c131 => ?_))
    · skip
      refine (s169_156).mpr ?_
      exact E
    · skip
      exfalso; omega
  have T43 : 7 ≤ op → op ≤ 21 → Wp d 169 43 [vR (some 8), vI p, vI op, none] [] al hi hr Q := by
    intro c1 c2
    by_cases c20 : op = 20
    · subst c20
      have hts : tstep B f p X = some [(vz, X)] := by rw [hts]; exact onw_p trivial
      refine s169_43.mpr (s169_44.mpr (s169_45.mpr (s169_46.mpr ?_)))
      refine (s169_47 (by first | decide | assumption | omega) (by first | decide | assumption | omega)).mpr ?_
      refine v_operandOf h (by omega) hM hT hN hk hR hc hp38 ?_
      rw [hvz]
      refine (s169_50 (by first | decide | assumption | omega) (by first | decide | assumption | omega)).mpr ?_
      skip
      refine v_jump h (by omega) hk hV hl4 vzr hs hv hm hvA (fun A2 h6 y1 y2 y3 y4 y5 y6 => ?_) (fun h6 y1 y2 y3 => ?_)
      · simp only [kon, knt_some, knt_none, Option.toList_some, Option.toList_none, List.cons_append, List.nil_append]
        refine s169_53.mpr (s169_54.mpr ?_)
        exact E130 _ _ (ok _ A2 h6 hts ⟨y1, c16, A2, y2, fun _ _ => rfl⟩ y3.1 y4 (wB_a y5) (FS.of hvA y2 vzr.1 (by omega) y6))
      · simp only [kon, knt_some, knt_none, Option.toList_some, Option.toList_none, List.cons_append, List.nil_append]
        refine s169_53.mpr (s169_54.mpr ?_)
        refine E130 _ _ (no h6 (Or.inr ⟨_, hts, ?_⟩) y2 (wB_a y3))
        rcases y1 with z | z
        · exact Or.inl (fun w => z w.1)
        · exact Or.inr (Or.inl z)
    · by_cases c21 : op = 21
      · subst c21
        have hts : tstep B f p X = onw (0 < X.1 ∧ X.2.1 (X.1 - 1) = 0) [(vz, (X.1 - 1, X.2.1, X.2.2)), (p + 2, (X.1 - 1, X.2.1, X.2.2))] := hts
        have il : ilen B (cAt B f + p) = 2 := il_2 (by rw [hop]; simp)
        have Z : ∀ A2 h6, (0 < X.1 ∧ X.2.1 (X.1 - 1) = 0) → vz < l → ArrR A vz (X.1 - 1, X.2.1, X.2.2) A2 → VS (some (X.1 - 1, X.2.1, X.2.2)) h6 → MC A2 h6 t H C l → FW (wB t H C) hi h6 → FS A hi A2 h6 → Wp d 169 130 [vR (some 8), vI p, vI 21, vI 1] [] al h6 hr Q := by
          intro A2 h6 y0 y1 y2 y3 y4 y5 y6
          have hM6 := hM.wb hV hH hC y5
          have hR6 := hR.wb t119 htM hV hH hC y5
          have e56 : h6 (t + 1) 5 = cAt B f := hR6.2.2.2.2.2.2.2.1
          have hl6 : h6 (t + 1) 4 = l := by rw [hR6.2.2.2.2.2.2.1]; exact hl.symm
          rw [onw_p y0] at hts
          have hvY := hv.pop y0.1
          have gv2 := arr_v y2 hvA vzr.1 hvY
          refine s169_130.mpr ?_
          refine s169_131.mpr (wif (fun c131 => ?_) (fun c131 => ?_))
          · first
            | (exfalso; omega)
            | skip
              exfalso; omega
          · first
            | (exfalso; omega)
            | skip
              refine s169_134.mpr (s169_135.mpr (s169_136.mpr ?_))
              refine (s169_137 (by first | decide | assumption | omega)).mpr ?_
              refine s169_140.mpr ?_
              try simp (disch := first | decide | assumption | omega) only [kon, knt_some, knt_none, Option.toList_some, Option.toList_none, List.cons_append, List.nil_append, hN, hk, e56, fAdd_id]
              refine (s169_141 (by first | decide | assumption | omega)).mpr ?_
              try simp (disch := first | decide | assumption | omega) only [kon, knt_some, knt_none, Option.toList_some, Option.toList_none, List.cons_append, List.nil_append, hN, hk, e56, fAdd_id]
              refine (s169_144 (by first | decide | assumption | omega)).mpr ?_
              refine s169_147.mpr (s169_148.mpr ?_)
              try simp (disch := first | decide | assumption | omega) only [kon, knt_some, knt_none, Option.toList_some, Option.toList_none, List.cons_append, List.nil_append, hN, hk, e56, fAdd_id]
              refine (s169_149 (by first | decide | assumption | omega) (by first | decide | assumption | omega)).mpr ?_
              refine t_lengthOf hM6 hT (by omega) ⟨by omega, by omega⟩ (by rw [hop]; decide) (by rw [hop]; exact fun z => absurd z (by decide)) ?_
              simp only [kon, knt_some, knt_none, Option.toList_some, Option.toList_none, List.cons_append, List.nil_append, il]
              refine s169_152.mpr ?_
              try simp (disch := first | decide | assumption | omega) only [kon, knt_some, knt_none, Option.toList_some, Option.toList_none, List.cons_append, List.nil_append, hN, hk, e56, fAdd_id]
              refine (s169_153 (by first | decide | assumption | omega) (by first | decide | assumption | omega)).mpr ?_
              skip
              refine v_arrive h hV hk hl6 (by omega) (by omega) (by omega) y3 y4 hvY gv2 (fun A3 h7 x1 x2 x3 x4 x5 x6 => ?_) (fun h7 x1 x2 x3 => ?_)
              · simp only [kon, knt_some, knt_none, Option.toList_some, Option.toList_none, List.cons_append, List.nil_append]
                refine s169_156.mpr ?_
                exact ok _ A3 h7 hts ⟨y1, by show X.1 - 1 ≤ 16; omega, A2, y2, x1, by show X.1 - 1 ≤ 16; omega, A3, x2, fun _ _ => rfl⟩ x3.1 x4 (y5.tr (wB_a x5)) (y6.tr (FS.of gv2 x2 (by omega) (by omega) x6))
              · simp only [kon, knt_some, knt_none, Option.toList_some, Option.toList_none, List.cons_append, List.nil_append]
                refine s169_156.mpr ?_
                refine no h7 (Or.inr ⟨_, hts, Or.inr (Or.inr ⟨A2, y2, ?_⟩)⟩) x2 (y5.tr (wB_a x3))
                rcases x1 with z | z
                · exact Or.inl (fun w => z w.1)
                · exact Or.inr (Or.inl z)
        have ZN : ∀ h6, (¬ (0 < X.1 ∧ X.2.1 (X.1 - 1) = 0) ∨ ¬ vz < l ∨ ArrX A vz (X.1 - 1, X.2.1, X.2.2)) → VS none h6 → FW (wB t H C) hi h6 → Wp d 169 130 [vR (some 8), vI p, vI 21, vI 1] [] al h6 hr Q := by
          intro h6 y1 y3 y5
          have hM6 := hM.wb hV hH hC y5
          have hR6 := hR.wb t119 htM hV hH hC y5
          have e56 : h6 (t + 1) 5 = cAt B f := hR6.2.2.2.2.2.2.2.1
          have NO : ∀ h7, VS none h7 → FW (wB t H C) hi h7 → Q (some none) al h7 hr := fun h7 s7 g7 => no h7 (by
            by_cases c : 0 < X.1 ∧ X.2.1 (X.1 - 1) = 0
            · rw [onw_p c] at hts
              refine Or.inr ⟨_, hts, ?_⟩
              rcases y1 with z | z | z
              · exact absurd c z
              · exact Or.inl (fun w => z w.1)
              · exact Or.inr (Or.inl z)
            · exact Or.inl (by rw [hts, onw_n c])) s7 g7
          refine s169_130.mpr ?_
          refine s169_131.mpr (wif (fun c131 => ?_) (fun c131 => ?_))
          · first
            | (exfalso; omega)
            | skip
              exfalso; omega
          · first
            | (exfalso; omega)
            | skip
              refine s169_134.mpr (s169_135.mpr (s169_136.mpr ?_))
              refine (s169_137 (by first | decide | assumption | omega)).mpr ?_
              refine s169_140.mpr ?_
              try simp (disch := first | decide | assumption | omega) only [kon, knt_some, knt_none, Option.toList_some, Option.toList_none, List.cons_append, List.nil_append, hN, hk, e56, fAdd_id]
              refine (s169_141 (by first | decide | assumption | omega)).mpr ?_
              try simp (disch := first | decide | assumption | omega) only [kon, knt_some, knt_none, Option.toList_some, Option.toList_none, List.cons_append, List.nil_append, hN, hk, e56, fAdd_id]
              refine (s169_144 (by first | decide | assumption | omega)).mpr ?_
              refine s169_147.mpr (s169_148.mpr ?_)
              try simp (disch := first | decide | assumption | omega) only [kon, knt_some, knt_none, Option.toList_some, Option.toList_none, List.cons_append, List.nil_append, hN, hk, e56, fAdd_id]
              refine (s169_149 (by first | decide | assumption | omega) (by first | decide | assumption | omega)).mpr ?_
              refine t_lengthOf hM6 hT (by omega) ⟨by omega, by omega⟩ (by rw [hop]; decide) (by rw [hop]; exact fun z => absurd z (by decide)) ?_
              refine s169_152.mpr ?_
              try simp (disch := first | decide | assumption | omega) only [kon, knt_some, knt_none, Option.toList_some, Option.toList_none, List.cons_append, List.nil_append, hN, hk, e56, fAdd_id]
              refine (s169_153 (by first | decide | assumption | omega) (by first | decide | assumption | omega)).mpr ?_
              skip
              refine v_arriveW (t := t) (H := H) (C := C) h y3 (fun h7 x2 x3 => ?_)
              simp only [kon, knt_some, knt_none, Option.toList_some, Option.toList_none, List.cons_append, List.nil_append]
              refine s169_156.mpr ?_
              exact NO h7 x2 (y5.tr (wB_a x3))
        refine s169_43.mpr (s169_44.mpr (s169_45.mpr (s169_46.mpr ?_)))
        refine (s169_47 (by first | decide | assumption | omega) (by first | decide | assumption | omega)).mpr ?_
        refine v_operandOf h (by omega) hM hT hN hk hR hc hp38 ?_
        rw [hvz]
        refine (s169_50 (by first | decide | assumption | omega) (by first | decide | assumption | omega)).mpr ?_
        skip
        refine v_zero h (by omega) hk hV hl4 vzr hs hv hm hvA (fun A2 h6 y0 y1 y2 y3 y4 y5 y6 => ?_) (fun h6 y1 y2 y3 => ?_)
        · simp only [kon, knt_some, knt_none, Option.toList_some, Option.toList_none, List.cons_append, List.nil_append]
          refine s169_53.mpr (s169_54.mpr ?_)
          exact Z A2 h6 y0 y1 y2 y3 y4 y5 y6
        · simp only [kon, knt_some, knt_none, Option.toList_some, Option.toList_none, List.cons_append, List.nil_append]
          refine s169_53.mpr (s169_54.mpr ?_)
          exact ZN h6 y1 y2 y3
      · have hts : tstep B f p X = tsP op vz p X := by rw [hts, if_pos (by omega)]
        have W : ∀ hi1, VF (tsP op vz p X) 1 hi1 → FW wV hi hi1 → kon d 169 50 53 [vR (some 8), vI p, vI op, none] [] Q (some (some (vI 1))) al hi1 hr := fun hi1 s1 g1 => by
          simp only [kon, knt_some, knt_none, Option.toList_some, Option.toList_none, List.cons_append, List.nil_append]
          refine s169_53.mpr (s169_54.mpr ?_)
          exact NX _ _ _ (by omega) (by omega) (by omega) (by rw [hts]; exact s1) g1
        by_cases c19 : op = 19
        · subst c19
          refine s169_43.mpr (s169_44.mpr (s169_45.mpr (s169_46.mpr ?_)))
          refine (s169_47 (by first | decide | assumption | omega) (by first | decide | assumption | omega)).mpr ?_
          refine v_operandOf h (by omega) hM hT hN hk hR hc hp38 ?_
          rw [hvz]
          refine (s169_50 (by first | decide | assumption | omega) (by first | decide | assumption | omega)).mpr ?_
          exact v_int19 h (by omega) hs hv W
        · skip
          refine s169_43.mpr (s169_44.mpr (s169_45.mpr (s169_46.mpr ?_)))
          refine (s169_47 (by first | decide | assumption | omega) (by first | decide | assumption | omega)).mpr ?_
          refine v_operandOf h (by omega) hM hT hN hk hR hc hp38 ?_
          rw [hvz]
          refine (s169_50 (by first | decide | assumption | omega) (by first | decide | assumption | omega)).mpr ?_
          exact v_intD h (by omega) hs hv (by omega) W
  have T63 : 22 ≤ op → op ≤ 29 → Wp d 169 63 [vR (some 8), vI p, vI op, none] [] al hi hr Q := by
    intro c1 c2
    have hts : tstep B f p X = tsH B f op vz p X := by rw [hts, if_neg (by omega), if_pos (by omega)]
    refine s169_63.mpr (s169_64.mpr (s169_65.mpr (s169_66.mpr ?_)))
    refine (s169_67 (by first | decide | assumption | omega) (by first | decide | assumption | omega)).mpr ?_
    refine v_operandOf h (by omega) hM hT hN hk hR hc hp38 ?_
    rw [hvz]
    refine (s169_70 (by first | decide | assumption | omega) (by first | decide | assumption | omega)).mpr ?_
    skip
    refine v_followHeap (f := f) (p := p) h (by omega) hM hT hN hs hv ⟨c1, c2⟩ (fun _ => vzr) (fun x hi1 hx s1 g1 => ?_)
    simp only [kon, knt_some, knt_none, Option.toList_some, Option.toList_none, List.cons_append, List.nil_append]
    refine s169_73.mpr (s169_74.mpr ?_)
    exact NX _ _ _ (by omega) (by omega) (by omega) (by rw [hts]; exact s1) g1
  have T89 : op = 30 ∨ op = 31 ∨ 40 ≤ op → Wp d 169 89 [vR (some 8), vI p, vI op, none] [] al hi hr Q := by
    intro c1
    have hts : tstep B f p X = (if op < 32 then tsH B f op vz p X else tsL B f op vz p X) := by rw [hts, if_neg (by omega)]
    refine s169_89.mpr (s169_90.mpr (s169_91.mpr (s169_92.mpr ?_)))
    refine (s169_93 (by first | decide | assumption | omega) (by first | decide | assumption | omega)).mpr ?_
    refine v_operandOf h (by omega) hM hT hN hk hR hc hp38 ?_
    rw [hvz]
    refine (s169_96 (by first | decide | assumption | omega) (by first | decide | assumption | omega)).mpr ?_
    skip
    refine v_followFlow (f := f) (p := p) h (by omega) hM hT hN hk hR t119 f0 f1 hs hv (by omega) (fun z => ?_) (fun x hi1 hx s1 g1 => ?_)
    · have := hIV.2.2.2.2.1 (by rw [eop]; exact z)
      rw [show agA B f p = vz from (vze (by rcases z with z | z <;> rw [z] <;> decide)).symm] at this
      exact ⟨vzr.1, this⟩
    · simp only [kon, knt_some, knt_none, Option.toList_some, Option.toList_none, List.cons_append, List.nil_append]
      refine s169_99.mpr (s169_100.mpr ?_)
      exact NX _ _ _ (by omega) (by omega) (by omega) (by rw [hts]; exact s1) g1
  have T109 : 32 ≤ op → op ≤ 35 → Wp d 169 109 [vR (some 8), vI p, vI op, none] [] al hi hr Q := by
    intro c1 c2
    have hts : tstep B f p X = tsL B f op vz p X := by rw [hts, if_neg (by omega), if_neg (by omega)]
    have W : ∀ hi1, VF (tsL B f op vz p X) 1 hi1 → FW wV hi hi1 → kon d 169 116 119 [vR (some 8), vI p, vI op, none] [] Q (some (some (vI 1))) al hi1 hr := fun hi1 s1 g1 => by
      simp only [kon, knt_some, knt_none, Option.toList_some, Option.toList_none, List.cons_append, List.nil_append]
      refine s169_119.mpr (s169_120.mpr ?_)
      exact NX _ _ _ (by omega) (by omega) (by omega) (by rw [hts]; exact s1) g1
    have co : op = 32 ∨ op = 33 ∨ op = 34 ∨ op = 35 := by omega
    refine s169_109.mpr (s169_110.mpr (s169_111.mpr (s169_112.mpr ?_)))
    refine (s169_113 (by first | decide | assumption | omega) (by first | decide | assumption | omega)).mpr ?_
    refine v_operandOf h (by omega) hM hT hN hk hR hc hp38 ?_
    rw [hvz]
    refine (s169_116 (by first | decide | assumption | omega) (by first | decide | assumption | omega)).mpr ?_
    skip
    rcases co with rfl | rfl | rfl | rfl
    · exact v_blk32 h (by omega) hs vzr W
    · exact v_blk33 h (by omega) hM hT hN hs hv W
    · exact v_blk34 h (by omega) hM hT hN hs hv W
    · exact v_blk35 h (by omega) hs hv W
  have T123 : 36 ≤ op → op ≤ 39 → Wp d 169 123 [vR (some 8), vI p, vI op, none] [] al hi hr Q := by
    intro c1 c2
    have hts : tstep B f p X = tsL B f op vz p X := by rw [hts, if_neg (by omega), if_neg (by omega)]
    have W : op ≠ 38 → ∀ hi1, VF (tsL B f op vz p X) 1 hi1 → FW wV hi hi1 → kon d 169 126 129 [vR (some 8), vI p, vI op, none] [] Q (some (some (vI 1))) al hi1 hr := fun n3 hi1 s1 g1 => by
      simp only [kon, knt_some, knt_none, Option.toList_some, Option.toList_none, List.cons_append, List.nil_append]
      refine s169_129.mpr ?_
      exact NX _ _ _ (by omega) (by omega) n3 (by rw [hts]; exact s1) g1
    have co : op = 36 ∨ op = 37 ∨ op = 38 ∨ op = 39 := by omega
    refine s169_123.mpr (s169_124.mpr (s169_125.mpr ?_))
    refine (s169_126 (by first | decide | assumption | omega) (by first | decide | assumption | omega)).mpr ?_
    skip
    rcases co with rfl | rfl | rfl | rfl
    · exact v_channel h (by omega) hM hT hN hk hR t119 hc hp38 (vze (by decide)) vzr hs (W (by decide))
    · have v3 : 0 ≤ vz ∧ vz ≤ 3 := ⟨vzr.1, by rw [vze (by decide)]; exact I4 (by decide)⟩
      have W := W (by decide)
      rw [e181]
      refine s181_0.mpr ?_
      refine g181_1 (fun c => absurd c (by decide)) (fun _ => ?_) (fun c => absurd c (by decide)) (fun c => absurd c (by simp))
      refine s181_58.mpr (s181_59.mpr (s181_60.mpr ?_))
      refine (s181_61 (by omega) k8).mpr ?_
      refine v_operandOf h (by omega) hM hT hN hk hR hc hp38 ?_
      rw [hvz]
      simp only [kon, knt_some, knt_none, Option.toList_some, Option.toList_none, List.cons_append, List.nil_append]
      refine (s181_64 (by omega) k8).mpr ?_
      refine v_followSend (f := f) (p := p) h (by omega) hM hT hN hs hv v3 (fun hi1 s1 g1 => ?_)
      simp only [kon, knt_some, knt_none, Option.toList_some, Option.toList_none, List.cons_append, List.nil_append]
      refine s181_67.mpr ?_
      refine (s181_68 (by decide)).mpr ?_
      exact W hi1 s1 g1
    · have I5 := I5 (by decide)
      have v9 := vze (by decide)
      rw [e181]
      refine s181_0.mpr ?_
      refine g181_1 (fun c => absurd c (by decide)) (fun c => absurd c (by decide)) (fun _ => ?_) (fun c => absurd c (by simp))
      refine s181_69.mpr (s181_70.mpr ?_)
      refine (s181_71 (by omega) k8).mpr ?_
      refine v_followReceive (v := vz) (A := A) h (by omega) hM hT hN hk hV hH hC hR htM hl hc p0 v9 (by rw [v9]; omega) hs hv hm hvA (fun fl e => hO fl (hts.trans e)) (fun fl A' h2 y1 y2 y3 y4 y5 y6 => ?_) (fun h2 y1 y2 y3 => ?_)
      · simp only [kon, knt_some, knt_none, Option.toList_some, Option.toList_none, List.cons_append, List.nil_append]
        refine s181_74.mpr ?_
        refine (s181_75 (by decide)).mpr ?_
        simp only [kon, knt_some, knt_none, Option.toList_some, Option.toList_none, List.cons_append, List.nil_append]
        refine s169_129.mpr ?_
        exact E130 _ _ (ok fl A' h2 (hts.trans y1) y2 y3 y4 y5 y6)
      · simp only [kon, knt_some, knt_none, Option.toList_some, Option.toList_none, List.cons_append, List.nil_append]
        refine s181_74.mpr ?_
        refine (s181_75 (by decide)).mpr ?_
        simp only [kon, knt_some, knt_none, Option.toList_some, Option.toList_none, List.cons_append, List.nil_append]
        refine s169_129.mpr ?_
        exact E130 _ _ (no h2 (by rw [hts]; exact y1) y2 y3)
    · exact v_close h (by omega) hM hT hN hs hv (W (by decide))
  rw [e169]
  refine s169_0.mpr ?_
  refine (s169_1 (by first | decide | assumption | omega)).mpr ?_
  refine s169_4.mpr ?_
  try simp (disch := first | decide | assumption | omega) only [kon, knt_some, knt_none, Option.toList_some, Option.toList_none, List.cons_append, List.nil_append, hN, hk, e5, fAdd_id]
  refine (s169_5 (by first | decide | assumption | omega)).mpr ?_
  try simp (disch := first | decide | assumption | omega) only [kon, knt_some, knt_none, Option.toList_some, Option.toList_none, List.cons_append, List.nil_append, hN, hk, e5, fAdd_id]
  refine (s169_8 (by first | decide | assumption | omega)).mpr ?_
  refine s169_11.mpr (s169_12.mpr ?_)
  try simp (disch := first | decide | assumption | omega) only [kon, knt_some, knt_none, Option.toList_some, Option.toList_none, List.cons_append, List.nil_append, hN, hk, e5, fAdd_id]
  refine (s169_13 (by first | decide | assumption | omega) (by first | decide | assumption | omega)).mpr ?_
  refine t_byteAt hM hT ?_
  simp only [kon, knt_some, knt_none, Option.toList_some, Option.toList_none, List.cons_append, List.nil_append, eb]
  refine s169_16.mpr (s169_17.mpr (s169_18.mpr ?_))
  refine s169_20.mpr (wif (fun c20 => ?_) (fun c20 => ?_))
  · skip
    refine s169_37.mpr (s169_38.mpr ?_)
    refine s169_40.mpr (wif (fun c40 => ?_) (fun c40 => ?_))
    · skip
      refine s169_57.mpr (s169_58.mpr ?_)
      refine s169_60.mpr (wif (fun c60 => ?_) (fun c60 => ?_))
      · skip
        refine s169_77.mpr (s169_78.mpr ?_)
        refine s169_80.mpr (wif (fun c80 => ?_) (fun c80 => ?_))
        · skip
          refine s169_83.mpr (s169_84.mpr ?_)
          refine s169_86.mpr (wif (fun c86 => ?_) (fun c86 => ?_))
          · skip
            refine s169_103.mpr (s169_104.mpr ?_)
            refine s169_106.mpr (wif (fun c106 => ?_) (fun c106 => ?_))
            · skip
              exact T123 (by omega) (by omega)
            · skip
              exact T109 (by omega) (by omega)
          · skip
            exact T89 (by omega)
        · skip
          exact T89 (by omega)
      · skip
        exact T63 (by omega) (by omega)
    · skip
      exact T43 (by omega) (by omega)
  · skip
    exact T23 (by omega)
end EV0
