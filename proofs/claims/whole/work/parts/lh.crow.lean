/-! RUNNING, the class: rows -/
section CM6
variable {d : Nat} {Q : QQ} {T : TXs} {al al' : AL} {hi hi' : HI} {hr hr' : HR} {s s' s2 sx sm : HI} {A A' : Int → Int → Int} {NN : Int → Option Nat} {E E' : Int → Prop} {p m f o q v w x y n k qx cv i r a P b : Int} {B : Int → Int} {X Y : Tst} {t t' N M c : Nat} {al0 : AL} {hi0 : HI} {hr0 : HR}
theorem PJ.itk (hJ : PJ T s p m f X) (b0 : 1 ≤ b ∧ b ≤ 1024) (hb : 1 ≤ s 100 (1025 * p + b)) (hk : kindM (s 302 (1025 * p + b)) = 2 ∨ kindM (s 302 (1025 * p + b)) = 3) (i0 : 0 ≤ i) (i1 : i < s 100 (1025 * p + b) - 1) : (if 589824 ≤ hdr (s 302 (1025 * p + b)) (s 100 (1025 * p + b)) then (1 : Int) else 0) = kmp (s 301 (hx p b i)) := by
  obtain ⟨h1, h2, h3⟩ := hJ.its b0 hb
  rw [h3 i i0 i1]
  obtain ⟨t, ht⟩ : ∃ t, s 302 (1025 * p + b) = t := ⟨_, rfl⟩
  obtain ⟨n, hn⟩ : ∃ n, s 100 (1025 * p + b) = n := ⟨_, rfl⟩
  rw [ht] at hk ⊢
  rw [hn] at h2 hb ⊢
  rcases hk with k | k
  · have eh : hdr t n = 524288 + (n - 1) := by unfold hdr; rw [if_neg (by omega), if_pos k]
    have ei : itT (T m) t i = 0 := by unfold itT; rw [if_neg (by omega)]; unfold itm; rw [if_pos k]
    rw [eh, ei, if_neg (by omega), if_neg (by decide)]
    rfl
  · have eh : hdr t n = 589824 + (n - 1) := by unfold hdr; rw [if_neg (by omega), if_neg (by omega)]
    have ei : itT (T m) t i = 1 + 8 * whichM t := by unfold itT; rw [if_neg (by omega)]; unfold itm; rw [if_neg (by omega)]
    rw [eh, ei, if_pos (by omega), if_pos (by
      have := kM18 (c := 1) (v := whichM t) (wM_b (t := t)).1 (by decide)
      unfold heapT; omega)]
    rfl
theorem x5_len (hR : RelC T NN al0 hi0 hr0 (fun _ => False) A al hi hr s) (hO : OnP hr s p t) (hP : AllP s) (hBQ : BQ s) (ho : o = 27) (h1 : 1 ≤ hg s p) (k0 : ts s p 0 = 1) (hd : 3 ≤ d) (q : ∀ v' al' hi' hr', Pf T NN al0 hi0 hr0 p t (exS (T m) f s p o v qx) v' al' hi' hr' → Q (some (some (vI v'))) al' hi' hr') : Ev d 92 [vR (some 26), vR (some t), vI o] al hi hr Q := by
  have k9 := (hR.tf hO).1.1.2
  obtain ⟨⟨p0, p1⟩, ht, h89, ⟨a1, a16⟩, ⟨r0, r1⟩, h97, h56⟩ := id hO
  have hg16 := h97 _ (by unfold ai; omega) (Int.le_refl _); have hg16 : 0 ≤ hg s p ∧ hg s p ≤ 16 := hg16
  rw [exq_27 ho] at q
  have hrt := fun z => hR.rtv hO (k := 0) (by decide) (by omega) k0 z
  obtain ⟨b, hb⟩ : ∃ b, tv s p 0 = b := ⟨_, rfl⟩
  rw [hb] at q hrt
  have T35 : ∀ h3 l5 l6, RelC T NN al0 hi0 hr0 (fun _ => False) A al h3 hr (pp s p 1) → OnP hr (pp s p 1) p t → AllP (pp s p 1) → Wp d 92 35 [vR (some 26), vR (some t), vI o, vI 0, vI 0, l5, l6] [vI (vm A p (tv s p 0) (ts s p 0))] al h3 hr Q := by
    intro h3 l5 l6 w1 w2 w3
    rw [hb, k0]
    by_cases c : b = 0
    · rw [if_pos c] at q
      rw [vm_n rfl c]
      have E0 := q 1 _ _ _ (Pf.tr w1 w2 w3 hBQ.pp_ (by decide) rfl)
      refine s92_35.mpr (s92_37.mpr ?_)
      refine s92_39.mpr (wif (fun c39 => ?_) (fun c39 => ?_))
      · skip
        refine s92_42.mpr ?_
        refine (s92_43).mpr ?_
        exact E0
      · skip
        exact absurd rfl (by assumption)
    · rw [if_neg c] at q
      rw [vm_1 rfl c]
      have hA0 := hrt c
      obtain ⟨c9, e15, kc, k9, b1, b2, b3, b4, b5⟩ := w1.bx w2 hA0
      have e100 : ∀ x, pp s p 1 100 x = s 100 x := fun x => ppz_n (by decide)
      rw [e100] at b2 b3 b4
      have hd9 := hdr_b (t := pp s p 1 302 (1025 * p + b)) (n := s 100 (1025 * p + b)) (by omega)
      rw [← b4] at hd9
      have PU := t_push0 (d := d - 1) (Q := kon d 92 62 65 [vR (some 26), vR (some t), vI o, vI 0, vI 0, vI (A p b), vI (s 100 (1025 * p + b) - 1)] [] Q) (v := s 100 (1025 * p + b) - 1) w1 w2 w3 (by rw [ppz_hg]; omega) (fun h4 y1 y2 y3 _ => by
        have E0 := q 0 _ _ _ (Pf.ok y1 y2 y3 hBQ.pp_.psh_)
        simp only [kon, knt_some, knt_none, Option.toList_some, Option.toList_none, List.cons_append, List.nil_append]
        refine s92_65.mpr ?_
        refine (s92_66).mpr ?_
        exact E0
        )
      refine s92_35.mpr (s92_37.mpr ?_)
      refine s92_39.mpr (wif (fun c39 => ?_) (fun c39 => ?_))
      · skip
        exact absurd (by assumption) hA0
      · skip
        refine s92_44.mpr (s92_45.mpr ?_)
        refine (s92_47 (by first | decide | assumption | omega) (by first | decide | assumption | omega)).mpr ?_
        refine c_lengthOf k9 e15 kc (by omega) (by omega) hd9.2 ?_
        simp only [kon, knt_some, knt_none, Option.toList_some, Option.toList_none, List.cons_append, List.nil_append]
        refine s92_50.mpr (s92_52.mpr (s92_53.mpr ?_))
        refine s92_55.mpr (wif (fun c55 => ?_) (fun c55 => ?_))
        · skip
          refine s92_58.mpr (s92_59.mpr (s92_60.mpr ?_))
          refine (s92_62 (by first | decide | assumption | omega) (by first | decide | assumption | omega)).mpr ?_
          exact PU
        · skip
          exfalso; omega
  rw [e92]
  refine s92_0.mpr (s92_1.mpr ?_)
  refine s92_3.mpr (wif (fun c3 => ?_) (fun c3 => ?_))
  · skip
    exfalso; omega
  · skip
    refine s92_13.mpr (s92_14.mpr (s92_15.mpr (s92_16.mpr ?_)))
    refine s92_18.mpr (wif (fun c18 => ?_) (fun c18 => ?_))
    · skip
      refine s92_21.mpr (s92_22.mpr (s92_29.mpr (s92_31.mpr ?_)))
      refine (s92_32 (by first | decide | assumption | omega) (by first | decide | assumption | omega)).mpr ?_
      refine t_pop hR hO hP (by omega) (fun h4 y1 y2 y3 y4 => ?_)
      simp only [kon, knt_some, knt_none, Option.toList_some, Option.toList_none, List.cons_append, List.nil_append]
      exact T35 _ _ _ y1 y2 y3
    · skip
      exfalso; omega
theorem x5_take (hR : RelC T NN al0 hi0 hr0 (fun _ => False) A al hi hr s) (hO : OnP hr s p t) (hP : AllP s) (hBQ : BQ s) (hJ : PJ T s p m f X) (ho : o = 28) (h2 : 2 ≤ hg s p) (k0 : ts s p 0 = 0) (k1 : ts s p 1 = 1) (kk : tv s p 1 ≠ 0 → kindM (s 302 (1025 * p + tv s p 1)) = 2 ∨ kindM (s 302 (1025 * p + tv s p 1)) = 3) (hd : 3 ≤ d) (q : ∀ v' al' hi' hr', Pf T NN al0 hi0 hr0 p t (exS (T m) f s p o v qx) v' al' hi' hr' → Q (some (some (vI v'))) al' hi' hr') : Ev d 92 [vR (some 26), vR (some t), vI o] al hi hr Q := by
  have k9 := (hR.tf hO).1.1.2
  obtain ⟨⟨p0, p1⟩, ht, h89, ⟨a1, a16⟩, ⟨r0, r1⟩, h97, h56⟩ := id hO
  have hg16 := h97 _ (by unfold ai; omega) (Int.le_refl _); have hg16 : 0 ≤ hg s p ∧ hg s p ≤ 16 := hg16
  rw [exq_28 ho] at q
  have hrt := fun z => hR.rtv hO (k := 1) (by decide) (by omega) k1 z
  obtain ⟨b, hb⟩ : ∃ b, tv s p 1 = b := ⟨_, rfl⟩
  obtain ⟨ix, hix⟩ : ∃ ix, tv s p 0 = ix := ⟨_, rfl⟩
  rw [hb] at q hrt kk
  rw [hix] at q
  have T35 : ∀ h3 l5 l6, RelC T NN al0 hi0 hr0 (fun _ => False) A al h3 hr (pp s p 2) → OnP hr (pp s p 2) p t → AllP (pp s p 2) → Wp d 92 35 [vR (some 26), vR (some t), vI o, vI 0, vI ix, l5, l6] [vI (vm A p (tv s p 1) (ts s p 1))] al h3 hr Q := by
    intro h3 l5 l6 w1 w2 w3
    rw [hb, k1]
    by_cases c : b = 0
    · rw [if_pos c] at q
      rw [vm_n rfl c]
      have E0 := q 1 _ _ _ (Pf.tr w1 w2 w3 hBQ.pp_ (by decide) rfl)
      refine s92_35.mpr (s92_37.mpr ?_)
      refine s92_39.mpr (wif (fun c39 => ?_) (fun c39 => ?_))
      · skip
        refine s92_42.mpr ?_
        refine (s92_43).mpr ?_
        exact E0
      · skip
        exact absurd rfl (by assumption)
    · rw [if_neg c] at q
      rw [vm_1 rfl c]
      have hA0 := hrt c
      obtain ⟨c9, e15, kc, k9, b1, b2, b3, b4, b5⟩ := w1.bx w2 hA0
      have e100 : ∀ x, pp s p 2 100 x = s 100 x := fun x => ppz_n (by decide)
      have e302 : ∀ x, pp s p 2 302 x = s 302 x := fun x => ppz_n (by decide)
      have e300 : ∀ x, pp s p 2 300 x = s 300 x := fun x => ppz_n (by decide)
      have e301 : ∀ x, pp s p 2 301 x = s 301 x := fun x => ppz_n (by decide)
      rw [e100] at b2 b3 b4
      rw [e302] at b4
      have hd9 := hdr_b (t := s 302 (1025 * p + b)) (n := s 100 (1025 * p + b)) (by omega)
      rw [← b4] at hd9
      by_cases ci : 0 ≤ ix ∧ ix < s 100 (1025 * p + b) - 1
      · rw [if_pos ci] at q
        obtain ⟨z1, z2⟩ := b5 ix ci.1 (by rw [e100]; exact ci.2)
        rw [e300, e301] at z1 z2
        have ek := hJ.itk b1 b2 (kk c) ci.1 ci.2
        rw [← b4] at ek
        have PU := t_push (d := d - 1) (Q := kon d 92 120 123 [vR (some 26), vR (some t), vI o, vI 0, vI ix, vI (A p b), vI (s 100 (1025 * p + b) - 1)] [] Q) (v := s 300 (hx p b ix)) (w := s 301 (hx p b ix)) w1 w2 w3 (by rw [ppz_hg]; omega) z2 (fun h4 y1 y2 y3 _ => by
          have E0 := q 0 _ _ _ (Pf.ok y1 y2 y3 hBQ.pp_.psh_)
          simp only [kon, knt_some, knt_none, Option.toList_some, Option.toList_none, List.cons_append, List.nil_append]
          refine s92_123.mpr ?_
          refine (s92_124).mpr ?_
          exact E0
          )
        refine s92_35.mpr (s92_37.mpr ?_)
        refine s92_39.mpr (wif (fun c39 => ?_) (fun c39 => ?_))
        · skip
          exact absurd (by assumption) hA0
        · skip
          refine s92_44.mpr (s92_45.mpr ?_)
          refine (s92_47 (by first | decide | assumption | omega) (by first | decide | assumption | omega)).mpr ?_
          refine c_lengthOf k9 e15 kc (by omega) (by omega) hd9.2 ?_
          simp only [kon, knt_some, knt_none, Option.toList_some, Option.toList_none, List.cons_append, List.nil_append]
          refine s92_50.mpr (s92_52.mpr (s92_53.mpr ?_))
          refine s92_55.mpr (wif (fun c55 => ?_) (fun c55 => ?_))
          · skip
            exfalso; omega
          · skip
            refine s92_67.mpr ?_
            refine s92_69.mpr (wif (fun c69 => ?_) (fun c69 => ?_))
            · skip
              exfalso; omega
            · skip
              refine s92_72.mpr (s92_74.mpr ?_)
              refine s92_76.mpr (wif (fun c76 => ?_) (fun c76 => ?_))
              · skip
                refine s92_81.mpr (s92_82.mpr ?_)
                refine s92_84.mpr (wif (fun c84 => ?_) (fun c84 => ?_))
                · skip
                  exfalso; omega
                · skip
                  refine s92_102.mpr (s92_103.mpr (s92_104.mpr ?_))
                  refine (s92_106 (by first | decide | assumption | omega) (by first | decide | assumption | omega)).mpr ?_
                  refine c_kindOfItem k9 e15 kc (by omega) (by omega) ?_
                  simp only [kon, knt_some, knt_none, Option.toList_some, Option.toList_none, List.cons_append, List.nil_append, ek]
                  refine s92_109.mpr (s92_110.mpr (s92_112.mpr (s92_113.mpr (s92_114.mpr (s92_116.mpr ?_)))))
                  try simp (disch := first | decide | assumption | omega) only [fAdd_id]
                  refine (s92_117 (by first | decide | assumption | omega) (by first | decide | assumption | omega)).mpr ?_
                  refine c_cellAt k9 e15 kc (by omega) ?_
                  simp only [kon, knt_some, knt_none, Option.toList_some, Option.toList_none, List.cons_append, List.nil_append, z1]
                  refine (s92_120 (by first | decide | assumption | omega) (by first | decide | assumption | omega)).mpr ?_
                  exact PU
              · skip
                exfalso; omega
      · rw [if_neg ci] at q
        have E0 := q 2 _ _ _ (Pf.tr w1 w2 w3 hBQ.pp_ (by decide) rfl)
        refine s92_35.mpr (s92_37.mpr ?_)
        refine s92_39.mpr (wif (fun c39 => ?_) (fun c39 => ?_))
        · skip
          exact absurd (by assumption) hA0
        · skip
          refine s92_44.mpr (s92_45.mpr ?_)
          refine (s92_47 (by first | decide | assumption | omega) (by first | decide | assumption | omega)).mpr ?_
          refine c_lengthOf k9 e15 kc (by omega) (by omega) hd9.2 ?_
          simp only [kon, knt_some, knt_none, Option.toList_some, Option.toList_none, List.cons_append, List.nil_append]
          refine s92_50.mpr (s92_52.mpr (s92_53.mpr ?_))
          refine s92_55.mpr (wif (fun c55 => ?_) (fun c55 => ?_))
          · skip
            exfalso; omega
          · skip
            refine s92_67.mpr ?_
            refine s92_69.mpr (wif (fun c69 => ?_) (fun c69 => ?_))
            · skip
              refine s92_79.mpr ?_
              refine (s92_80).mpr ?_
              exact E0
            · skip
              refine s92_72.mpr (s92_74.mpr ?_)
              refine s92_76.mpr (wif (fun c76 => ?_) (fun c76 => ?_))
              · skip
                exfalso; omega
              · skip
                refine s92_79.mpr ?_
                refine (s92_80).mpr ?_
                exact E0
  have T29 : ∀ h3 l4 l5 l6, RelC T NN al0 hi0 hr0 (fun _ => False) A al h3 hr (pp s p 1) → OnP hr (pp s p 1) p t → AllP (pp s p 1) → Wp d 92 29 [vR (some 26), vR (some t), vI o, vI 0, l4, l5, l6] [vI ix] al h3 hr Q := by
    intro h3 l4 l5 l6 w1 w2 w3
    refine s92_29.mpr (s92_31.mpr ?_)
    refine (s92_32 (by first | decide | assumption | omega) (by first | decide | assumption | omega)).mpr ?_
    refine t_pop w1 w2 w3 (by rw [ppz_hg]; omega) (fun h4 y1 y2 y3 y4 => ?_)
    rw [pp_pp] at y1 y2 y3; simp only [kon, knt_some, knt_none, Option.toList_some, Option.toList_none, List.cons_append, List.nil_append, tv_pp, ts_pp]; rw [show (0 : Int) + 1 = 1 by rfl]
    exact T35 _ _ _ y1 y2 y3
  rw [e92]
  refine s92_0.mpr (s92_1.mpr ?_)
  refine s92_3.mpr (wif (fun c3 => ?_) (fun c3 => ?_))
  · skip
    exfalso; omega
  · skip
    refine s92_13.mpr (s92_14.mpr (s92_15.mpr (s92_16.mpr ?_)))
    refine s92_18.mpr (wif (fun c18 => ?_) (fun c18 => ?_))
    · skip
      exfalso; omega
    · skip
      refine s92_25.mpr ?_
      refine (s92_26 (by first | decide | assumption | omega) (by first | decide | assumption | omega)).mpr ?_
      refine t_pop hR hO hP (by omega) (fun h4 y1 y2 y3 y4 => ?_)
      simp only [kon, knt_some, knt_none, Option.toList_some, Option.toList_none, List.cons_append, List.nil_append]; rw [vm_0 (show ts s p 0 ≠ 1 by omega), hix]
      exact T29 _ _ _ _ y1 y2 y3
theorem x5_layr (hR : RelC T NN al0 hi0 hr0 (fun _ => False) A al hi hr s) (hO : OnP hr s p t) (hP : AllP s) (hBQ : BQ s) (ho : o = 29) (h3 : 3 ≤ hg s p) (k1 : ts s p 1 = 0) (k2 : ts s p 2 = 1) (kk : tv s p 2 ≠ 0 → 0 ≤ tv s p 1 → tv s p 1 < s 100 (1025 * p + tv s p 2) - 1 → ts s p 0 = s 301 (hx p (tv s p 2) (tv s p 1))) (hd : 3 ≤ d) (q : ∀ v' al' hi' hr', Pf T NN al0 hi0 hr0 p t (exS (T m) f s p o v qx) v' al' hi' hr' → Q (some (some (vI v'))) al' hi' hr') : Ev d 92 [vR (some 26), vR (some t), vI o] al hi hr Q := by
  have k9 := (hR.tf hO).1.1.2
  obtain ⟨⟨p0, p1⟩, ht, h89, ⟨a1, a16⟩, ⟨r0, r1⟩, h97, h56⟩ := id hO
  have hg16 := h97 _ (by unfold ai; omega) (Int.le_refl _); have hg16 : 0 ≤ hg s p ∧ hg s p ≤ 16 := hg16
  rw [exq_29 ho] at q
  have hrt := fun z => hR.rtv hO (k := 2) (by decide) (by omega) k2 z
  have hrt0 := fun z1 z2 => hR.rtv hO (k := 0) (by decide) (by omega) z1 z2
  obtain ⟨b, hb⟩ : ∃ b, tv s p 2 = b := ⟨_, rfl⟩
  obtain ⟨ix, hix⟩ : ∃ ix, tv s p 1 = ix := ⟨_, rfl⟩
  rw [hb] at q hrt kk
  rw [hix] at q kk
  have T35 : ∀ h3 l5 l6, RelC T NN al0 hi0 hr0 (fun _ => False) A al h3 hr (pp s p 3) → OnP hr (pp s p 3) p t → AllP (pp s p 3) → Wp d 92 35 [vR (some 26), vR (some t), vI o, vI (vm A p (tv s p 0) (ts s p 0)), vI ix, l5, l6] [vI (vm A p (tv s p 2) (ts s p 2))] al h3 hr Q := by
    intro h3 l5 l6 w1 w2 w3
    rw [hb, k2]
    by_cases c : b = 0
    · rw [if_pos c] at q
      rw [vm_n rfl c]
      have E0 := q 1 _ _ _ (Pf.tr w1 w2 w3 hBQ.pp_ (by decide) rfl)
      refine s92_35.mpr (s92_37.mpr ?_)
      refine s92_39.mpr (wif (fun c39 => ?_) (fun c39 => ?_))
      · skip
        refine s92_42.mpr ?_
        refine (s92_43).mpr ?_
        exact E0
      · skip
        exact absurd rfl (by assumption)
    · rw [if_neg c] at q
      rw [vm_1 rfl c]
      have hA0 := hrt c
      obtain ⟨c9, e15, kc, k9, b1, b2, b3, b4, b5⟩ := w1.bx w2 hA0
      have e100 : ∀ x, pp s p 3 100 x = s 100 x := fun x => ppz_n (by decide)
      have e301 : ∀ x, pp s p 3 301 x = s 301 x := fun x => ppz_n (by decide)
      rw [e100] at b2 b3 b4
      have hd9 := hdr_b (t := pp s p 3 302 (1025 * p + b)) (n := s 100 (1025 * p + b)) (by omega)
      rw [← b4] at hd9
      by_cases ci : 0 ≤ ix ∧ ix < s 100 (1025 * p + b) - 1
      · rw [if_pos ci] at q
        obtain ⟨y1, y2, y3⟩ := w1.wr (v := tv s p 0) (w := ts s p 0) w2 w3 hA0 ci.1 (by rw [e100]; exact ci.2) (by rw [e301]; exact (kk c ci.1 ci.2).symm) hrt0 e15
        have E0 := q 0 _ _ _ (Pf.ok y1 y2 y3 ((hBQ.pp_ (p := p) (n := 3)).eq (fun a i z => upI_a (by omega))))
        have SC := c_setCell (d := d - 1) (Q := kon d 92 96 99 [vR (some 26), vR (some t), vI o, vI (vm A p (tv s p 0) (ts s p 0)), vI ix, vI (A p b), vI (s 100 (1025 * p + b) - 1)] [] Q) (x := A p b + 1 + ix) (v := vm A p (tv s p 0) (ts s p 0)) (hi := h3) k9 e15 kc (by omega) (by
          simp only [kon, knt_some, knt_none, Option.toList_some, Option.toList_none, List.cons_append, List.nil_append]
          refine s92_99.mpr (s92_123.mpr ?_)
          refine (s92_124).mpr ?_
          exact E0
          )
        refine s92_35.mpr (s92_37.mpr ?_)
        refine s92_39.mpr (wif (fun c39 => ?_) (fun c39 => ?_))
        · skip
          exact absurd (by assumption) hA0
        · skip
          refine s92_44.mpr (s92_45.mpr ?_)
          refine (s92_47 (by first | decide | assumption | omega) (by first | decide | assumption | omega)).mpr ?_
          refine c_lengthOf k9 e15 kc (by omega) (by omega) hd9.2 ?_
          simp only [kon, knt_some, knt_none, Option.toList_some, Option.toList_none, List.cons_append, List.nil_append]
          refine s92_50.mpr (s92_52.mpr (s92_53.mpr ?_))
          refine s92_55.mpr (wif (fun c55 => ?_) (fun c55 => ?_))
          · skip
            exfalso; omega
          · skip
            refine s92_67.mpr ?_
            refine s92_69.mpr (wif (fun c69 => ?_) (fun c69 => ?_))
            · skip
              exfalso; omega
            · skip
              refine s92_72.mpr (s92_74.mpr ?_)
              refine s92_76.mpr (wif (fun c76 => ?_) (fun c76 => ?_))
              · skip
                refine s92_81.mpr (s92_82.mpr ?_)
                refine s92_84.mpr (wif (fun c84 => ?_) (fun c84 => ?_))
                · skip
                  refine s92_87.mpr (s92_88.mpr (s92_90.mpr (s92_91.mpr (s92_92.mpr (s92_94.mpr ?_)))))
                  refine s92_95.mpr ?_
                  try simp (disch := first | decide | assumption | omega) only [fAdd_id]
                  refine (s92_96 (by first | decide | assumption | omega) (by first | decide | assumption | omega)).mpr ?_
                  exact SC
                · skip
                  exfalso; omega
              · skip
                exfalso; omega
      · rw [if_neg ci] at q
        have E0 := q 2 _ _ _ (Pf.tr w1 w2 w3 hBQ.pp_ (by decide) rfl)
        refine s92_35.mpr (s92_37.mpr ?_)
        refine s92_39.mpr (wif (fun c39 => ?_) (fun c39 => ?_))
        · skip
          exact absurd (by assumption) hA0
        · skip
          refine s92_44.mpr (s92_45.mpr ?_)
          refine (s92_47 (by first | decide | assumption | omega) (by first | decide | assumption | omega)).mpr ?_
          refine c_lengthOf k9 e15 kc (by omega) (by omega) hd9.2 ?_
          simp only [kon, knt_some, knt_none, Option.toList_some, Option.toList_none, List.cons_append, List.nil_append]
          refine s92_50.mpr (s92_52.mpr (s92_53.mpr ?_))
          refine s92_55.mpr (wif (fun c55 => ?_) (fun c55 => ?_))
          · skip
            exfalso; omega
          · skip
            refine s92_67.mpr ?_
            refine s92_69.mpr (wif (fun c69 => ?_) (fun c69 => ?_))
            · skip
              refine s92_79.mpr ?_
              refine (s92_80).mpr ?_
              exact E0
            · skip
              refine s92_72.mpr (s92_74.mpr ?_)
              refine s92_76.mpr (wif (fun c76 => ?_) (fun c76 => ?_))
              · skip
                exfalso; omega
              · skip
                refine s92_79.mpr ?_
                refine (s92_80).mpr ?_
                exact E0
  have T29 : ∀ h3 l4 l5 l6, RelC T NN al0 hi0 hr0 (fun _ => False) A al h3 hr (pp s p 2) → OnP hr (pp s p 2) p t → AllP (pp s p 2) → Wp d 92 29 [vR (some 26), vR (some t), vI o, vI (vm A p (tv s p 0) (ts s p 0)), l4, l5, l6] [vI ix] al h3 hr Q := by
    intro h3 l4 l5 l6 w1 w2 w3
    refine s92_29.mpr (s92_31.mpr ?_)
    refine (s92_32 (by first | decide | assumption | omega) (by first | decide | assumption | omega)).mpr ?_
    refine t_pop w1 w2 w3 (by rw [ppz_hg]; omega) (fun h4 y1 y2 y3 y4 => ?_)
    rw [pp_pp] at y1 y2 y3; simp only [kon, knt_some, knt_none, Option.toList_some, Option.toList_none, List.cons_append, List.nil_append, tv_pp, ts_pp]; rw [show (0 : Int) + 2 = 2 by rfl]
    exact T35 _ _ _ y1 y2 y3
  have T10 : ∀ h3 l3 l4 l5 l6, RelC T NN al0 hi0 hr0 (fun _ => False) A al h3 hr (pp s p 1) → OnP hr (pp s p 1) p t → AllP (pp s p 1) → Wp d 92 10 [vR (some 26), vR (some t), vI o, l3, l4, l5, l6] [vI (vm A p (tv s p 0) (ts s p 0))] al h3 hr Q := by
    intro h3 l3 l4 l5 l6 w1 w2 w3
    refine s92_10.mpr (s92_14.mpr (s92_15.mpr (s92_16.mpr ?_)))
    refine s92_18.mpr (wif (fun c18 => ?_) (fun c18 => ?_))
    · skip
      exfalso; omega
    · skip
      refine s92_25.mpr ?_
      refine (s92_26 (by first | decide | assumption | omega) (by first | decide | assumption | omega)).mpr ?_
      refine t_pop w1 w2 w3 (by rw [ppz_hg]; omega) (fun h4 y1 y2 y3 y4 => ?_)
      rw [pp_pp] at y1 y2 y3; simp only [kon, knt_some, knt_none, Option.toList_some, Option.toList_none, List.cons_append, List.nil_append, tv_pp, ts_pp]; rw [show (0 : Int) + 1 = 1 by rfl, vm_0 (show ts s p 1 ≠ 1 by omega), hix]
      exact T29 _ _ _ _ y1 y2 y3
  rw [e92]
  refine s92_0.mpr (s92_1.mpr ?_)
  refine s92_3.mpr (wif (fun c3 => ?_) (fun c3 => ?_))
  · skip
    refine s92_6.mpr ?_
    refine (s92_7 (by first | decide | assumption | omega) (by first | decide | assumption | omega)).mpr ?_
    refine t_pop hR hO hP (by omega) (fun h4 y1 y2 y3 y4 => ?_)
    simp only [kon, knt_some, knt_none, Option.toList_some, Option.toList_none, List.cons_append, List.nil_append]
    exact T10 _ _ _ _ _ y1 y2 y3
  · skip
    exfalso; omega
end CM6
