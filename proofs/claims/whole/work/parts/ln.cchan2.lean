/-! RUNNING, the class: a channel is opened -/
section CN3
variable {d : Nat} {Q : QQ} {T : TXs} {al al' : AL} {hi hi' : HI} {hr hr' : HR} {s s' u sx sm : HI} {A A' : Int → Int → Int} {NN : Int → Option Nat} {E E' : Int → Prop} {p m f o q v w x y n k g qx cv i r P e fr ty : Int} {B : Int → Int} {X Y : Tst} {t t' N M c b : Nat} {al0 : AL} {hi0 : HI} {hr0 : HR} {V W ws : Int → Int}
theorem psh_up {a : Nat} (h : a ≠ 94 ∧ a ≠ 97 ∧ a ≠ 98 ∧ a ≠ 99) : psh (upI s a i x) p v w = upI (psh s p v w) a i x := by
  have e1 : ai (upI s a i x) p = ai s p := by unfold ai; rw [upI_a (by omega)]
  have e2 : hg (upI s a i x) p = hg s p := by unfold hg; rw [e1, upI_a (by omega)]
  have e3 : ∀ k, sk (upI s a i x) p k = sk s p k := fun k => by unfold sk; rw [e1]
  unfold psh st2
  rw [e1, e2, e3]
  funext b j
  by_cases z : b = a
  · subst z
    rw [upI_a (show b ≠ 97 by omega), upI_a (show b ≠ 99 by omega), upI_a (show b ≠ 98 by omega)]
    by_cases y : j = i
    · subst y; rw [upI_eq, upI_eq]
    · rw [upI_i y, upI_i y, upI_a (show b ≠ 97 by omega), upI_a (show b ≠ 99 by omega), upI_a (show b ≠ 98 by omega)]
  · rw [upI_a z]
    unfold upI
    simp only [z, false_and, if_false]
theorem enS_psh : enS (psh s p v w) e k n = psh (enS s e k n) p v w := by
  unfold enS
  rw [psh_up (by decide), psh_up (by decide), psh_up (by decide), psh_up (by decide)]
theorem RelC.chn (hR : RelC T NN al0 hi0 hr0 (fun _ => False) A al hi hr s) (hO : OnP hr s p t) (hP : AllP s) (hBs : Bs T NN al0 hi0 hr0) (k0 : 0 ≤ k ∧ k < 12) (h0 : s 112 (2 * k) = -1) (h1 : s 112 (2 * k + 1) = -1) (hN : NN m = some N) (v0 : 0 ≤ v ∧ v < nCtr (T m)) (v4 : v < 4) (ho : hr (N + 4) v = some b) (hAl : Alk (T m) (T m) v v) : RelC T NN al0 hi0 hr0 (fun _ => False) A al (enK (enK hi (2 * k) p) (2 * k + 1) p) (upR hr 37 k (some b)) (enS (enS s (2 * k) p (4 * m + v)) (2 * k + 1) p (4 * m + v)) ∧ OnP (upR hr 37 k (some b)) (enS (enS s (2 * k) p (4 * m + v)) (2 * k + 1) p (4 * m + v)) p t ∧ AllP (enS (enS s (2 * k) p (4 * m + v)) (2 * k + 1) p (4 * m + v)) := by
  obtain ⟨R1, R2⟩ := hR.rs_
  obtain ⟨s2, hs2⟩ : ∃ s2, enS (enS s (2 * k) p (4 * m + v)) (2 * k + 1) p (4 * m + v) = s2 := ⟨_, rfl⟩
  obtain ⟨h2, hh2⟩ : ∃ h2, enK (enK hi (2 * k) p) (2 * k + 1) p = h2 := ⟨_, rfl⟩
  have si : ∀ (a : Nat) i, i ≠ 2 * k → i ≠ 2 * k + 1 → s2 a i = s a i := fun a i z1 z2 => by rw [← hs2, enS_i z2, enS_i z1]
  have sn : ∀ (a : Nat) i, a ≠ 112 ∧ a ≠ 113 ∧ a ≠ 114 ∧ a ≠ 118 → s2 a i = s a i := fun a i z => by rw [← hs2, enS_n z, enS_n z]
  have hi9 : ∀ (a : Nat) i, i ≠ 2 * k → i ≠ 2 * k + 1 → h2 a i = hi a i := fun a i z1 z2 => by rw [← hh2, enK_i z2, enK_i z1]
  have hn9 : ∀ (a : Nat) i, a ≠ 34 ∧ a ≠ 35 ∧ a ≠ 36 ∧ a ≠ 38 → h2 a i = hi a i := fun a i z => by rw [← hh2, enK_n z, enK_n z]
  have se : ∀ x, x = 2 * k ∨ x = 2 * k + 1 → s2 112 x = 0 ∧ s2 113 x = p ∧ s2 114 x = 0 ∧ s2 118 x = 4 * m + v := fun x z => by
    rw [← hs2]
    rcases z with rfl | rfl
    · have z9 : 2 * k ≠ 2 * k + 1 := by omega
      rw [enS_i z9, enS_i z9, enS_i z9, enS_i z9]; exact enS_e
    · exact enS_e
  have he : ∀ x, x = 2 * k ∨ x = 2 * k + 1 → h2 34 x = 1 ∧ h2 35 x = 0 ∧ h2 36 x = p ∧ h2 38 x = 0 := fun x z => by
    rw [← hh2]
    rcases z with rfl | rfl
    · have z9 : 2 * k ≠ 2 * k + 1 := by omega
      rw [enK_i z9, enK_i z9, enK_i z9, enK_i z9]; exact enK_e
    · exact enK_e
  rw [hs2, hh2]
  have op : ∀ x, x ≠ 2 * k → x ≠ 2 * k + 1 → (opn s2 x ↔ opn s x) := fun x z1 z2 => by unfold opn; rw [si _ _ z1 z2]
  have opk : ∀ x, x = 2 * k ∨ x = 2 * k + 1 → opn s2 x := fun x z => ⟨by omega, by omega, by rw [(se x z).1]; decide⟩
  have gs : ∀ a i, ¬ gS a → s2 a i = s a i := fun a i z => sn a i (by unfold gS at z; omega)
  have rr : ∀ (a : Nat) i, a ≠ 37 → upR hr 37 k (some b) a i = hr a i := fun a i z => upR_a z
  have n0 := R1.2.2.2.1
  have n119 : ∀ {m N}, NN m = some N → 119 ≤ N := fun h => (hR.gm hBs h).1.ms.2.1
  have EN : EnC0 T h2 (upR hr 37 k (some b)) NN (fun _ => False) s2 := by
    refine ⟨fun _ z => z.elim, fun x x0 x1 => ?_, fun c c0 c1 hc => ?_⟩
    · by_cases z : x = 2 * k ∨ x = 2 * k + 1
      · obtain ⟨y1, y2, y3, y4⟩ := he x z
        obtain ⟨w1, w2, w3, w4⟩ := se x z
        rw [y1, y2, y3, y4, w1, w2, w3]
        exact ⟨Or.inr rfl, ⟨fun _ => ⟨opk x z, id⟩, fun _ => rfl⟩, rfl, fun _ => ⟨fun _ => ⟨rfl, rfl⟩, fun k k0 k1 => by exfalso; omega⟩⟩
      · have z1 : x ≠ 2 * k := fun y => z (Or.inl y)
        have z2 : x ≠ 2 * k + 1 := fun y => z (Or.inr y)
        obtain ⟨y1, y2, y3, y4⟩ := n0.2.1 x x0 x1
        rw [hi9 _ _ z1 z2, hi9 _ _ z1 z2, hi9 _ _ z1 z2, hi9 _ _ z1 z2, op x z1 z2, si _ _ z1 z2, si _ _ z1 z2, si _ _ z1 z2]
        refine ⟨y1, y2, y3, fun ho => ⟨(y4 ho).1, fun k k0 k1 => ?_⟩⟩
        rw [hn9 _ _ (by decide), hn9 _ _ (by decide), hn9 _ _ (by decide), sn _ _ (by decide), sn _ _ (by decide), sn _ _ (by decide)]
        exact (y4 ho).2 k k0 k1
    · by_cases z : c = k
      · subst z
        refine ⟨m, v, N, b, hN, v0, by rw [rr _ _ (by have := n119 hN; omega)]; exact ho, upR_eq, fun x _ xc => ?_⟩
        rw [(se x (by omega)).2.2.2, show (4 * m + v) / 4 = m by omega, show (4 * m + v) % 4 = v by omega]
        exact hAl
      · rw [op _ (by omega) (by omega), op _ (by omega) (by omega)] at hc
        obtain ⟨m', cc, N', o, y1, y2, y3, y4, y5⟩ := n0.2.2 c c0 c1 hc
        refine ⟨m', cc, N', o, y1, y2, by rw [rr _ _ (by have := n119 y1; omega)]; exact y3, (upR_i z).trans y4, fun x hx xc => ?_⟩
        rw [op _ (by omega) (by omega)] at hx
        rw [si _ _ (by omega) (by omega)]
        exact y5 x hx xc
  have cz : hi 33 10 = 0 := by
    obtain ⟨⟨l0, -⟩, l2, -⟩ := R2
    apply Classical.byContradiction
    intro y
    exact l2 0 (Int.le_refl _) (by omega)
  have R := R1.glo (hi' := h2) (hr' := upR hr 37 k (some b)) (s' := s2) hP (fun a i y => hn9 a i (by unfold gC at y; omega)) rr gs (sn _ _ (by decide)) (R1.2.1.cg (fun a i y => hn9 a i (by omega)) (fun a i y => sn a i (by omega))) (R1.2.2.1.cg (fun a i y1 y2 => hn9 a i (by omega)) (fun b _ _ => sn _ _ (by decide)) (fun b _ _ _ => ⟨sn _ _ (by decide), fun j _ _ => sn _ _ (by decide)⟩)) EN
  have c10 : h2 33 10 = 0 := (hn9 _ _ (by decide)).trans cz
  have ob := (opc_b (hi := h2) 24).2
  exact ⟨R.rc_ ⟨⟨by omega, by rw [c10]; omega⟩, fun j j0 j1 => by exfalso; omega, fun j j' j0 j1 j2 => by exfalso; omega, fun _ z => z.elim⟩, hO.glo rr gs (sn _ _ (by decide)), hP.glo gs (sn _ _ (by decide))⟩
theorem x5_chan (hR : RelC T NN al0 hi0 hr0 (fun _ => False) A al hi hr s) (hO : OnP hr s p t) (hP : AllP s) (hBQ : BQ s) (hBs : Bs T NN al0 hi0 hr0) (hm : s 91 p = m) (ho : o = 36) (hcv : cv = v) (v0 : 0 ≤ v ∧ v < nCtr (T m)) (c4 : nCtr (T m) ≤ 4) (hNV : NV (T m)) (h15 : hg s p < 15) (hd : 3 ≤ d) (q : ∀ v' al' hi' hr', Pf T NN al0 hi0 hr0 p t (exS (T m) f s p o v qx) v' al' hi' hr' → Q (some (some (vI v'))) al' hi' hr') : Ev d 94 [vR (some 26), vR (some t), vI cv] al hi hr Q := by
  obtain ⟨⟨p0, p1⟩, ht, h89, ⟨a1, a16⟩, ⟨r0, r1⟩, h97, h56⟩ := id hO
  have hg16 := h97 _ (by unfold ai; omega) (Int.le_refl _); have hg16 : 0 ≤ hg s p ∧ hg s p ≤ 16 := hg16
  subst hcv
  have hA := hR.1.1
  have hC := hR.1.2.1
  have k26 : isK al 26 6 := hA.k (by decide) (by decide) rfl
  have k33 : isK al 33 5 := hA.k (by decide) (by decide) rfl
  have g4 := cr_26_4 hC
  have k9 := (hR.tf hO).1.1.2
  have e0 : hi t 0 = p := (hR.tf hO).2.2.1
  obtain ⟨N, n, M, e1, hNN, hM, hT, -, kN⟩ := hR.cod hO hBs
  rw [hm] at hM hT hNN
  obtain ⟨b, hb, -, -, hcb⟩ := hM.2.2.2.2.1 cv v0.1 v0.2
  have kb : isK al b 3 := hcb.1.1
  have ect : ctA hi hr N cv = some b := by unfold ctA; rw [if_pos ⟨v0.1, by rw [hM.2.2.1.2.1]; exact v0.2, by omega⟩]; exact hb
  rw [exq_36 ho, hm] at q
  have n0 := hR.2.2.2.1.1
  have h01 : ∀ e, 0 ≤ e → e < 24 → hi 34 e = 0 ∨ hi 34 e = 1 := fun e e0 e1 => (n0.2.1 e e0 e1).1
  have h1 : ∀ e, 0 ≤ e → e < 24 → (hi 34 e = 1 ↔ s 112 e ≠ -1) := fun e e0 e1 => (n0.2.1 e e0 e1).2.1.trans ⟨fun z => z.1.2.2, fun z => ⟨⟨e0, e1, z⟩, id⟩⟩
  unfold chnS at q
  simp only [] at q
  have MK := e_make (d := d - 1) (b := b) (p := p) (Q := kon d 94 16 19 [vR (some 26), vR (some t), vI cv, none] [] Q) kb hA hC h01 (by omega) (fun no => by
    have ef : frCh s = 12 := by
      unfold frCh
      have := frL_b (g := fun k => decide (s 112 (2 * k) ≠ -1 ∨ s 112 (2 * k + 1) ≠ -1)) 12 0
      apply Classical.byContradiction
      intro z
      have y := (frL_f (f := fun k => decide (s 112 (2 * k) ≠ -1 ∨ s 112 (2 * k + 1) ≠ -1)) 12 0 (by omega)).2
      obtain ⟨k, hk⟩ : ∃ k, frL (fun k => decide (s 112 (2 * k) ≠ -1 ∨ s 112 (2 * k + 1) ≠ -1)) 12 0 = k := ⟨_, rfl⟩
      rw [hk] at y z this
      have := no k (by omega) (by omega)
      rw [h1 _ (by omega) (by omega), h1 _ (by omega) (by omega)] at this
      rw [decide_eq_true this] at y
      cases y
    rw [if_pos ef] at q
    have E0 := q 7 _ _ _ (Pf.tr hR hO hP hBQ (by decide) rfl)
    simp only [kon, knt_some, knt_none, Option.toList_some, Option.toList_none, List.cons_append, List.nil_append]
    refine s94_19.mpr (s94_20.mpr (s94_21.mpr ?_))
    refine s94_22.mpr (wif (fun c22 => ?_) (fun c22 => ?_))
    · skip
      refine s94_25.mpr ?_
      refine (s94_27).mpr ?_
      exact E0
    · skip
      exact absurd rfl (by assumption)
    ) (fun k k0 k1 c1 c2 hj => by
    have z1 : s 112 (2 * k) = -1 := Classical.byContradiction (fun y => by have := (h1 _ (by omega) (by omega)).mpr y; omega)
    have z2 : s 112 (2 * k + 1) = -1 := Classical.byContradiction (fun y => by have := (h1 _ (by omega) (by omega)).mpr y; omega)
    have ef : frCh s = k := frL_l 12 0 k k0 (by omega) (decide_eq_false (by omega)) (fun j j0 j1 => decide_eq_true (by
      have := hj j j0 j1
      rw [h1 _ (by omega) (by omega), h1 _ (by omega) (by omega)] at this
      exact this))
    rw [ef, if_neg (by omega)] at q
    obtain ⟨y1, y2, y3⟩ := hR.chn hO hP hBs ⟨k0, k1⟩ z1 z2 hNN v0 (by omega) hb (Alk.rf hNV v0.1 v0.2)
    have hBQ' : BQ (enS (enS s (2 * k) p (4 * m + cv)) (2 * k + 1) p (4 * m + cv)) := by
      refine ⟨fun b b0 b1 => by rw [enS_n (by decide), enS_n (by decide)]; exact hBQ.1 b b0 b1, fun x hx => ?_⟩
      by_cases u2 : x = 2 * k + 1
      · subst u2; rw [enS_e.2.2.1]; exact ⟨by decide, fun j j0 j1 => by exfalso; omega⟩
      · rw [enS_i u2]
        by_cases u1 : x = 2 * k
        · subst u1; rw [enS_e.2.2.1]; exact ⟨by decide, fun j j0 j1 => by exfalso; omega⟩
        · rw [enS_i u1]
          have ho : opn s x := by
            obtain ⟨w0, w1, w2⟩ := hx
            rw [enS_i u2, enS_i u1] at w2
            exact ⟨w0, w1, w2⟩
          obtain ⟨w1, w2⟩ := hBQ.2 x ho
          refine ⟨w1, fun j j0 j1 => ?_⟩
          rw [enS_n (by decide), enS_n (by decide), enS_n (by decide), enS_n (by decide)]
          exact w2 j j0 j1
    have q : ∀ v' al' hi' hr', Pf T NN al0 hi0 hr0 p t (psh (psh (enS (enS s (2 * k) p (4 * m + cv)) (2 * k + 1) p (4 * m + cv)) p (2 * k) 3) p (2 * k + 1) 3) v' al' hi' hr' → Q (some (some (vI v'))) al' hi' hr' := by
      rw [← enS_psh]; exact q
    obtain ⟨s2, hs2⟩ : ∃ s2, enS (enS s (2 * k) p (4 * m + cv)) (2 * k + 1) p (4 * m + cv) = s2 := ⟨_, rfl⟩
    have eh : hg s2 p = hg s p := by rw [← hs2]; exact hg_n (by rw [enS_n (by decide), enS_n (by decide)]) (fun i => by rw [enS_n (by decide), enS_n (by decide)])
    rw [hs2] at y1 y2 y3 hBQ' q
    obtain ⟨hr9, hhr9⟩ : ∃ hr9, upR hr 37 k (some b) = hr9 := ⟨_, rfl⟩
    rw [hhr9] at y1 y2 ⊢
    have PU := t_push (d := d - 1) (Q := kon d 94 33 36 [vR (some 26), vR (some t), vI cv, vI k] [] Q) (v := 2 * k) (w := 3) y1 y2 y3 (by rw [eh]; omega) (fun z => absurd z (by decide)) (fun h4 x1 x2 x3 _ => by
      have PV := t_push (d := d - 1) (Q := kon d 94 43 46 [vR (some 26), vR (some t), vI cv, vI k] [] Q) (v := 2 * k + 1) (w := 3) x1 x2 x3 (by rw [psh_hg, eh]; omega) (fun z => absurd z (by decide)) (fun h5 u1 u2 u3 _ => by
        have E0 := q 0 _ _ _ (Pf.ok u1 u2 u3 hBQ'.psh_.psh_)
        simp only [kon, knt_some, knt_none, Option.toList_some, Option.toList_none, List.cons_append, List.nil_append]
        refine s94_46.mpr ?_
        refine (s94_47).mpr ?_
        exact E0
        )
      simp only [kon, knt_some, knt_none, Option.toList_some, Option.toList_none, List.cons_append, List.nil_append]
      refine s94_36.mpr (s94_37.mpr (s94_38.mpr (s94_39.mpr (s94_40.mpr (s94_41.mpr ?_)))))
      refine s94_42.mpr ?_
      try simp (disch := first | decide | assumption | omega) only [fMul_id, fAdd_id]
      refine (s94_43 (by first | decide | assumption | omega) (by first | decide | assumption | omega)).mpr ?_
      exact PV
      )
    simp only [kon, knt_some, knt_none, Option.toList_some, Option.toList_none, List.cons_append, List.nil_append]
    refine s94_19.mpr (s94_20.mpr (s94_21.mpr ?_))
    refine s94_22.mpr (wif (fun c22 => ?_) (fun c22 => ?_))
    · skip
      exfalso; omega
    · skip
      refine s94_28.mpr (s94_29.mpr (s94_30.mpr (s94_31.mpr (s94_32.mpr ?_))))
      try simp (disch := first | decide | assumption | omega) only [fMul_id, fAdd_id]
      refine (s94_33 (by first | decide | assumption | omega) (by first | decide | assumption | omega)).mpr ?_
      exact PU
    )
  rw [e94]
  refine s94_0.mpr ?_
  refine (s94_1 (by first | decide | assumption | omega)).mpr ?_
  refine s94_4.mpr ?_
  try simp (disch := first | decide | assumption | omega) only [g4, e1, e0, kon, knt_some, knt_none, Option.toList_some, Option.toList_none, List.cons_append, List.nil_append]
  refine (s94_5 (by first | decide | assumption | omega)).mpr ?_
  refine s94_8.mpr ?_
  try simp (disch := first | decide | assumption | omega) only [g4, e1, e0, kon, knt_some, knt_none, Option.toList_some, Option.toList_none, List.cons_append, List.nil_append]
  refine (s94_9 (by first | decide | assumption | omega) (by first | decide | assumption | omega)).mpr ?_
  refine t_contractAt hM.1.1 ?_
  simp only [kon, knt_some, knt_none, Option.toList_some, Option.toList_none, List.cons_append, List.nil_append, ect]
  refine s94_12.mpr ?_
  refine (s94_13 (by first | decide | assumption | omega)).mpr ?_
  try simp (disch := first | decide | assumption | omega) only [g4, e1, e0, kon, knt_some, knt_none, Option.toList_some, Option.toList_none, List.cons_append, List.nil_append]
  refine (s94_16 (by first | decide | assumption | omega) (by first | decide | assumption | omega)).mpr ?_
  exact MK
end CN3
