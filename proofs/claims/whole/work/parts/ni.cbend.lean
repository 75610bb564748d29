/-! BOOT, the class: an end of the manifest -/
section CB1
variable {d : Nat} {Q : QQ} {T : TXs} {al al' : AL} {hi hi' h1 h : HI} {hr hr' r1 : HR} {s s' s1 s0 : HI} {A A' : Int → Int → Int} {NN : Int → Option Nat} {E : Int → Prop} {p m k n i e c P K ct v kn : Int} {t N b : Nat} {al0 : AL} {hi0 : HI} {hr0 : HR} {S : Int → Option (Int → Int)} {G : HI}
/-- which numbers have a channel, as the class keeps it -/
def CO (G : HI) (c : Int) (hi : HI) : Prop := (∀ c', 0 ≤ c' → c' < c → hi 46 (G 85 c') = c') ∧ ∀ e, 0 ≤ e → e < 8 → (∀ c', 0 ≤ c' → c' < c → G 85 c' ≠ e) → hi 46 e = -1
theorem CO.fr (h : CO G c hi) (e : ∀ i, hi' 46 i = hi 46 i) : CO G c hi' := ⟨fun c' z0 z1 => (e _).trans (h.1 c' z0 z1), fun x x0 x1 z => (e _).trans (h.2 x x0 x1 z)⟩
/-- an end has another owner, and a contract that is alike -/
theorem RelC.giv (hR : RelC T NN al0 hi0 hr0 (fun _ => False) A al hi hr s) (hP : AllP s) (ho : opn s e) (hAl : Alk (T (s 118 e / 4)) (T (ct / 4)) (s 118 e % 4) (ct % 4)) (h36 : hi' 36 e = v) (hf : ∀ (a : Nat) i, ¬ (a = 36 ∧ i = e) → hi' a i = hi a i) : RelC T NN al0 hi0 hr0 (fun _ => False) A al hi' hr (upI (upI s 113 e v) 118 e ct) ∧ AllP (upI (upI s 113 e v) 118 e ct) := by
  obtain ⟨R1, R2⟩ := hR.rs_
  obtain ⟨s2, hs2⟩ : ∃ s2, upI (upI s 113 e v) 118 e ct = s2 := ⟨_, rfl⟩
  have sn : ∀ (a : Nat) i, a ≠ 113 → a ≠ 118 → s2 a i = s a i := fun a i z1 z2 => by rw [← hs2, upI_a z2, upI_a z1]
  have si : ∀ (a : Nat) i, i ≠ e → s2 a i = s a i := fun a i z => by rw [← hs2, upI_ne (by omega), upI_ne (by omega)]
  have s3 : s2 113 e = v ∧ s2 118 e = ct := by rw [← hs2]; exact ⟨by rw [upI_a (by decide), upI_eq], upI_eq⟩
  rw [hs2]
  have op : ∀ x, opn s2 x ↔ opn s x := fun x => by unfold opn; rw [sn _ _ (by decide) (by decide)]
  have gs : ∀ a i, ¬ gS a → s2 a i = s a i := fun a i z => sn a i (by unfold gS at z; omega) (by unfold gS at z; omega)
  have n0 := R1.2.2.2.1
  have hn : ∀ (a : Nat) i, a ≠ 36 → hi' a i = hi a i := fun a i z => hf a i (by omega)
  have EN : EnC0 T hi' hr NN (fun _ => False) s2 := by
    refine ⟨fun _ z => z.elim, fun x x0 x1 => ?_, fun c c0 c1 hc => ?_⟩
    · obtain ⟨y1, y2, y3, y4⟩ := n0.2.1 x x0 x1
      rw [hn 34 _ (by decide), hn 35 _ (by decide), hn 38 _ (by decide), op, sn 112 _ (by decide) (by decide), sn 114 _ (by decide) (by decide)]
      refine ⟨y1, y2, y3, fun ho => ⟨fun z => ⟨((y4 ho).1 z).1, ?_⟩, fun k k0 k1 => ?_⟩⟩
      · by_cases z : x = e
        · subst z; rw [h36, s3.1]
        · rw [hf 36 x (by omega), si _ _ z]; exact ((y4 ho).1 (by assumption)).2
      · rw [hn _ _ (by decide), hn _ _ (by decide), hn _ _ (by decide), sn _ _ (by decide) (by decide), sn _ _ (by decide) (by decide), sn _ _ (by decide) (by decide)]
        exact (y4 ho).2 k k0 k1
    · rw [op, op] at hc
      obtain ⟨m', cc, N', o, y1, y2, y3, y4, y5⟩ := n0.2.2 c c0 c1 hc
      refine ⟨m', cc, N', o, y1, y2, y3, y4, fun x hx xc => ?_⟩
      rw [op] at hx
      by_cases z : x = e
      · subst z
        rw [s3.2]
        exact (y5 x hx xc).tr hAl
      · rw [si _ _ z]; exact y5 x hx xc
  have R := R1.glo (hi' := hi') (hr' := hr) (s' := s2) hP (fun a i y => hn a i (by unfold gC at y; omega)) (fun _ _ _ => rfl) gs (sn _ _ (by decide) (by decide)) (R1.2.1.cg (fun a i y => hn a i (by omega)) (fun a i y => sn a i (by omega) (by omega))) (R1.2.2.1.cg (fun a i y1 y2 => hn a i (by omega)) (fun b _ _ => sn _ _ (by decide) (by decide)) (fun b _ _ _ => ⟨sn _ _ (by decide) (by decide), fun j _ _ => sn _ _ (by decide) (by decide)⟩)) EN
  exact ⟨R.rc_ (R2.cg (fun a i y => hn a i (by omega))), hP.glo gs (sn _ _ (by decide) (by decide))⟩
theorem OnP.s2 (hO : OnP hr s p t) (hs : ∀ a i, ¬ gS a → s' a i = s a i) (e56 : s' 49 56 = s 49 56) : OnP hr s' p t := hO.glo (fun _ _ _ => rfl) hs e56
/-- what a parameter's end leaves -/
def BE (T : TXs) (NN : Int → Option Nat) (al0 : AL) (hi0 : HI) (hr0 : HR) (S : Int → Option (Int → Int)) (G s0 : HI) (A : Int → Int → Int) (al : AL) (P K : Int) (t : Nat) (hr : HR) (hi' : HI) (hr' : HR) : Prop := ∃ s' c', RelC T NN al0 hi0 hr0 (fun _ => False) A al hi' hr' s' ∧ OnP hr' s' P t ∧ AllP s' ∧ BP S G (P + 1) (P + 1) (4 * P + K + 1) c' s0 (st2 s' (416 * P + K) (gvV S G P K) 3) ∧ CC G (4 * P + K + 1) c' ∧ CO G c' hi' ∧ ai s' P = 16 * P
set_option maxRecDepth 4000 in
theorem x5_bEnd (hR : RelC T NN al0 hi0 hr0 (fun _ => False) A al hi hr s) (hO : OnP hr s P t) (hP : AllP s) (hBs : Bs T NN al0 hi0 hr0) (hG : GF S G n) (hb : BP S G (P + 1) (P + 1) (4 * P + K) c s0 s) (hc : CC G (4 * P + K) c) (hco : CO G c hi) (P0 : 0 ≤ P ∧ P < n) (n6 : n ≤ 6) (K0 : 0 ≤ K ∧ K < np S G P) (hp : pt S G P K ≠ 0) (hST : ∀ m b, S m = some b → T (6 + m) = b) (hNV : NV (T (6 + G 77 P))) (hN : NN (6 + G 77 P) = some N) (v0 : 0 ≤ whichM (pt S G P K) ∧ whichM (pt S G P K) < nCtr (T (6 + G 77 P))) (v4 : whichM (pt S G P K) < 4) (ho : hr (N + 4) (whichM (pt S G P K)) = some b) (kb : isK al b 3) (hd : 2 ≤ d) (q : ∀ hi' hr', BE T NN al0 hi0 hr0 S G s0 A al P K t hr hi' hr' → Q (some (some (vI (gvV S G P K)))) al hi' hr') : Ev d 65 [vR (some 26), vI (G 80 (4 * P + K)), vI (sideM (pt S G P K)), vR (some b), vI P] al hi hr Q := by
  have hA := hR.1.1
  have hC := hR.1.2.1
  have k26 : isK al 26 6 := hA.k (by decide) (by decide) rfl
  have k46 : isK al 46 15 := hA.k (by decide) (by decide) rfl
  have k33 : isK al 33 5 := hA.k (by decide) (by decide) rfl
  have g4 := cr_26_4 hC
  have g12 := cr_26_12 hC
  have l46 := SA.len (a := 46) (n := 8) hA (by decide) (by decide) rfl
  have sb := sideM_b (pt S G P K)
  have g8 := hG.2.2.2
  have n0 := hR.2.2.2.1.1
  obtain ⟨a1, a2, a3, a4, a5, a6, a7, a8, a9⟩ := id hb
  have e112 : ∀ x, 0 ≤ x → x < 24 → s 112 x = if x / 2 < c then 0 else -1 := fun x x0 x1 => by rw [(a8 x).1, if_pos ⟨x0, x1⟩]
  have eai : ai s P = 16 * P := by
    unfold ai
    rw [(a3 P).2.2.2.2.2, if_pos (by omega)]; omega
  obtain ⟨e, he, e0, u2, hT, hcase⟩ := hG.use P0 K0 hp hc
  rw [he]
  obtain ⟨sd, hsd⟩ : ∃ sd, sideM (pt S G P K) = sd := ⟨_, rfl⟩
  rw [hsd] at sb
  have T38 : ∀ (hx : HI) (rx : HR) (sx : HI) (cx : Int), (0 ≤ cx ∧ cx < 12) → RelC T NN al0 hi0 hr0 (fun _ => False) A al hx rx sx → (hx 46 e = cx) → (∀ h', (h' 36 (2 * cx + sd) = P) → (∀ (a : Nat) i, ¬ (a = 36 ∧ i = 2 * cx + sd) → h' a i = hx a i) → Q (some (some (vI (2 * cx + sd)))) al h' rx) → Wp d 65 38 [vR (some 26), vI e, vI sd, vR (some b), vI P, none] [] al hx rx Q := fun hx rx sx cx c0 R h46 q => by
    have hC' := R.1.2.1
    have f4 := cr_26_4 hC'
    have f12 := cr_26_12 hC'
    refine s65_38.mpr (s65_39.mpr ?_)
    refine (s65_40 (by first | decide | assumption | omega)).mpr ?_
    refine s65_43.mpr ?_
    try simp (disch := first | decide | assumption | omega) only [kon, knt_some, knt_none, Option.toList_some, Option.toList_none, List.cons_append, List.nil_append, f4, f12, h46, fMul_id, fAdd_id]
    refine (s65_44 (by first | decide | assumption | omega) (by first | decide | assumption | omega) (by first | decide | assumption | omega)).mpr ?_
    refine s65_45.mpr (s65_46.mpr (s65_47.mpr (s65_48.mpr (s65_50.mpr ?_))))
    try simp (disch := first | decide | assumption | omega) only [kon, knt_some, knt_none, Option.toList_some, Option.toList_none, List.cons_append, List.nil_append, f4, f12, h46, fMul_id, fAdd_id]
    refine (s65_51 (by first | decide | assumption | omega)).mpr ?_
    refine s65_54.mpr (s65_56.mpr ?_)
    try simp (disch := first | decide | assumption | omega) only [kon, knt_some, knt_none, Option.toList_some, Option.toList_none, List.cons_append, List.nil_append, f4, f12, h46, fMul_id, fAdd_id]
    refine (s65_58 (by first | decide | assumption | omega) (by first | decide | assumption | omega)).mpr ?_
    refine e_give hA hC' (fun h' z1 z2 => ?_)
    simp only [kon, knt_some, knt_none, Option.toList_some, Option.toList_none, List.cons_append, List.nil_append]
    refine s65_61.mpr ?_
    refine (s65_63).mpr ?_
    exact q h' (z1 (by omega) (by omega)) z2
  rcases hcase with ⟨h4, cl, h5, h2, h3, hc'⟩ | ⟨c1, cl, h5, h4, h2, h3, hc'⟩
  · -- the first
    have e46 : hi 46 e = -1 := hco.2 e e0.1 e0.2 (fun c' z0 z1 y => by
      have := hG.1.1.2.2.2.1.2.2.2 c' c z0 z1 cl
      rw [y, h5] at this; omega)
    have h01 : ∀ e, 0 ≤ e → e < 24 → hi 34 e = 0 ∨ hi 34 e = 1 := fun e e0 e1 => (n0.2.1 e e0 e1).1
    have hop : ∀ e, 0 ≤ e → e < 24 → (hi 34 e = 1 ↔ s 112 e ≠ -1) := fun e e0 e1 => (n0.2.1 e e0 e1).2.1.trans ⟨fun z => z.1.2.2, fun z => ⟨⟨e0, e1, z⟩, id⟩⟩
    have c0 := hc.1.1
    obtain ⟨w1, w2, w3⟩ := hR.chn hO hP hBs (k := c) (m := 6 + G 77 P) ⟨c0, by omega⟩ (by rw [e112 _ (by omega) (by omega), if_neg (by omega)]) (by rw [e112 _ (by omega) (by omega), if_neg (by omega)]) hN v0 v4 ho (Alk.rf hNV v0.1 v0.2)
    have ect : 4 * (6 + G 77 P) + whichM (pt S G P K) = ctn S G P K := rfl
    rw [ect] at w1 w2 w3
    obtain ⟨s2, hs2⟩ : ∃ s2, enS (enS s (2 * c) P (ctn S G P K)) (2 * c + 1) P (ctn S G P K) = s2 := ⟨_, rfl⟩
    have NB := BP.fst hG hb hc P0 K0 hp he e0 hT h4 cl h5 h2
    have ev : gvV S G P K = 2 * c + sd := by unfold gvV; rw [if_neg hp, he, hG.cx ⟨c0, cl⟩ h5, hsd]
    have eed : edn S G P K c = gvV S G P K := by unfold edn; rw [ev, hsd]
    unfold fs2S at NB
    rw [eed] at NB
    rw [hs2] at w1 w2 w3 NB
    obtain ⟨h2', hh2⟩ : ∃ h2', enK (enK hi (2 * c) P) (2 * c + 1) P = h2' := ⟨_, rfl⟩
    rw [hh2] at w1
    have h36 : h2' 36 (2 * c + sd) = P := by
      rw [← hh2]
      have : 2 * c + sd = 2 * c ∨ 2 * c + sd = 2 * c + 1 := by omega
      rcases this with z | z
      · rw [z, enK_i (by omega)]; exact enK_e.2.2.1
      · rw [z]; exact enK_e.2.2.1
    have n46 : ∀ i, h2' 46 i = hi 46 i := fun i => by rw [← hh2, enK_n (by decide), enK_n (by decide)]
    have w4 : RelC T NN al0 hi0 hr0 (fun _ => False) A al (upI h2' 46 e c) (upR hr 37 c (some b)) s2 := w1.m46 w3 (fun a i z => upI_a z)
    have eai2 : ai s2 P = 16 * P := by
      rw [← hs2]
      unfold ai at eai ⊢
      rw [enS_n (by decide), enS_n (by decide)]; exact eai
    have co2 : CO G (c + 1) (upI h2' 46 e c) := by
      refine ⟨fun c' z0 z1 => ?_, fun x x0 x1 z => ?_⟩
      · by_cases y : c' = c
        · subst y; rw [h5, upI_eq]
        · rw [upI_i (fun w => by
            have := hG.1.1.2.2.2.1.2.2.2 c' c z0 (by omega) cl
            rw [w, h5] at this; omega), n46]
          exact hco.1 c' z0 (by omega)
      · have ne : x ≠ e := fun w => z c c0 (by omega) (h5.trans w.symm)
        rw [upI_i ne, n46]
        exact hco.2 x x0 x1 (fun c' z0 z1 => z c' z0 (by omega))
    have T37 := T38 (upI h2' 46 e c) (upR hr 37 c (some b)) s2 c ⟨c0, by omega⟩ w4 upI_eq (fun h' z1 z2 => by
      have eh : h' = upI h2' 46 e c := by
        funext a i
        by_cases y : a = 36 ∧ i = 2 * c + sd
        · obtain ⟨rfl, rfl⟩ := y
          rw [z1, upI_a (by decide), h36]
        · exact z2 a i y
      rw [eh, ← ev]
      exact q _ _ ⟨s2, c + 1, w4, w2, w3, NB, hc', co2, eai2⟩)
    have MK := e_make (d := d - 1) (b := b) (p := P) (Q := kon d 65 34 37 [vR (some 26), vI e, vI sd, vR (some b), vI P, none] [vI e, vR (some 46)] Q) kb hA hC h01 (by omega) (fun no => by
      exfalso
      have := no c (by omega) (by omega)
      rw [hop _ (by omega) (by omega), hop _ (by omega) (by omega), e112 _ (by omega) (by omega), e112 _ (by omega) (by omega), if_neg (by omega), if_neg (by omega)] at this
      omega) (fun k k0 k1 c1 c2 hj => by
      have kc : k = c := by
        have kc1 : ¬ k < c := fun y => by
          have := (hop (2 * k) (by omega) (by omega)).mpr (by rw [e112 _ (by omega) (by omega), if_pos (by omega)]; decide)
          omega
        have kc2 : ¬ c < k := fun y => by
          have := hj c c0 y
          rw [hop _ (by omega) (by omega), hop _ (by omega) (by omega), e112 _ (by omega) (by omega), e112 _ (by omega) (by omega), if_neg (by omega), if_neg (by omega)] at this
          omega
        omega
      subst kc
      rw [hh2]
      simp only [kon, knt_some, knt_none, Option.toList_some, Option.toList_none, List.cons_append, List.nil_append]
      refine (s65_37 (by first | decide | assumption | omega) (by first | decide | assumption | omega) (by first | decide | assumption | omega)).mpr ?_
      exact T37
      )
    rw [hsd]
    rw [e65]
    refine s65_0.mpr ?_
    refine s65_1.mpr (wif (fun c1 => ?_) (fun c1 => ?_))
    · skip
      exfalso; omega
    · skip
      refine s65_4.mpr (s65_5.mpr ?_)
      refine s65_7.mpr (wif (fun c7 => ?_) (fun c7 => ?_))
      · skip
        refine s65_12.mpr ?_
        refine (s65_13 (by first | decide | assumption | omega)).mpr ?_
        refine s65_16.mpr ?_
        try simp (disch := first | decide | assumption | omega) only [g4, g12, e46]
        refine (s65_17 (by first | decide | assumption | omega) (by first | decide | assumption | omega) (by first | decide | assumption | omega)).mpr ?_
        refine s65_18.mpr ?_
        try simp (disch := first | decide | assumption | omega) only [g4, g12, e46]
        refine s65_19.mpr (wif (fun c19 => ?_) (fun c19 => ?_))
        · skip
          refine s65_22.mpr ?_
          refine (s65_23 (by first | decide | assumption | omega)).mpr ?_
          refine s65_26.mpr (s65_27.mpr ?_)
          try simp (disch := first | decide | assumption | omega) only [g4, g12, e46]
          refine (s65_28 (by first | decide | assumption | omega)).mpr ?_
          refine s65_31.mpr (s65_32.mpr ?_)
          try simp (disch := first | decide | assumption | omega) only [g4, g12, e46]
          refine (s65_34 (by first | decide | assumption | omega) (by first | decide | assumption | omega)).mpr ?_
          exact MK
        · skip
          exact absurd rfl (by assumption)
      · skip
        exfalso; omega
  · -- the second
    have e46 : hi 46 e = c1 := by rw [← h5]; exact hco.1 c1 cl.1 cl.2
    have c0 := hc.1
    have ev : gvV S G P K = 2 * c1 + sd := by unfold gvV; rw [if_neg hp, he, hG.cx ⟨cl.1, by omega⟩ h5, hsd]
    have eed : edn S G P K c1 = gvV S G P K := by unfold edn; rw [ev, hsd]
    have hop : opn s (2 * c1 + sd) := ⟨by omega, by omega, by rw [e112 _ (by omega) (by omega), if_pos (by omega)]; decide⟩
    have NB := BP.snd hG hb hc P0 K0 hp he e0 hT cl h5 h4 h2 h3
    unfold sn2S at NB
    rw [eed, ev] at NB
    have eu : uS G (4 * P + K) (2 * c1 + sd) = 2 * e := by
      unfold uS
      rw [show (2 * c1 + sd) / 2 = c1 by omega, h5, if_neg (fun y => by omega)]
    have e118 : s 118 (2 * c1 + sd) = G 82 (2 * e) + 24 := by rw [(a8 _).2.2.2, if_pos (by omega), eu]
    have hAl : Alk (T (s 118 (2 * c1 + sd) / 4)) (T (ctn S G P K / 4)) (s 118 (2 * c1 + sd) % 4) (ctn S G P K % 4) := by
      obtain ⟨-, ⟨b0, b1, f1, f2, f3⟩, -⟩ := hT
      rw [e118, show (G 82 (2 * e) + 24) / 4 = 6 + G 82 (2 * e) / 4 by omega, show (G 82 (2 * e) + 24) % 4 = G 82 (2 * e) % 4 by omega, hST _ _ f1]
      have ec : ctn S G P K = G 82 (2 * e + 1) + 24 := by unfold ctn; omega
      rw [ec, show (G 82 (2 * e + 1) + 24) / 4 = 6 + G 82 (2 * e + 1) / 4 by omega, show (G 82 (2 * e + 1) + 24) % 4 = G 82 (2 * e + 1) % 4 by omega, hST _ _ f2]
      exact f3
    have T37 := T38 hi hr s c1 ⟨cl.1, by omega⟩ hR e46 (fun h' z1 z2 => by
      obtain ⟨w1, w2⟩ := hR.giv hP hop hAl z1 z2
      rw [← ev] at z1 z2 w1 w2 ⊢
      have gs : ∀ a i, ¬ gS a → upI (upI s 113 (gvV S G P K) P) 118 (gvV S G P K) (ctn S G P K) a i = s a i := fun a i z => by rw [upI_a (by unfold gS at z; omega), upI_a (by unfold gS at z; omega)]
      have e56 : upI (upI s 113 (gvV S G P K) P) 118 (gvV S G P K) (ctn S G P K) 49 56 = s 49 56 := by rw [upI_a (by decide), upI_a (by decide)]
      refine q _ _ ⟨_, c, w1, hO.s2 gs e56, w2, by rw [← ev] at NB; exact NB, hc', hco.fr (fun i => z2 46 i (by omega)), ?_⟩
      unfold ai at eai ⊢
      rw [gs 94 P (by unfold gS; decide)]; exact eai)
    rw [hsd]
    rw [e65]
    refine s65_0.mpr ?_
    refine s65_1.mpr (wif (fun c1 => ?_) (fun c1 => ?_))
    · skip
      exfalso; omega
    · skip
      refine s65_4.mpr (s65_5.mpr ?_)
      refine s65_7.mpr (wif (fun c7 => ?_) (fun c7 => ?_))
      · skip
        refine s65_12.mpr ?_
        refine (s65_13 (by first | decide | assumption | omega)).mpr ?_
        refine s65_16.mpr ?_
        try simp (disch := first | decide | assumption | omega) only [g4, g12, e46]
        refine (s65_17 (by first | decide | assumption | omega) (by first | decide | assumption | omega) (by first | decide | assumption | omega)).mpr ?_
        refine s65_18.mpr ?_
        try simp (disch := first | decide | assumption | omega) only [g4, g12, e46]
        refine s65_19.mpr (wif (fun c19 => ?_) (fun c19 => ?_))
        · skip
          exfalso; omega
        · skip
          exact T37
      · skip
        exfalso; omega
end CB1
