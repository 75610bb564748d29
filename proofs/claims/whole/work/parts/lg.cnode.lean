/-! RUNNING, the class: nodes and rows -/
section CM5
variable {d : Nat} {Q : QQ} {T : TXs} {al al' : AL} {hi hi' : HI} {hr hr' : HR} {s s' s2 sx sm : HI} {A A' : Int → Int → Int} {NN : Int → Option Nat} {E E' : Int → Prop} {p m f o q v w x y n k qx cv i r a P b : Int} {B : Int → Int} {X Y : Tst} {t t' N M c : Nat} {al0 : AL} {hi0 : HI} {hr0 : HR}
theorem upI_ne {h : HI} {a a' : Nat} {i i' x : Int} (z : ¬ (a' = a ∧ i' = i)) : upI h a i x a' i' = h a' i' := if_neg z
/-- what a box's cells hold -/
theorem RelC.bx (hR : RelC T NN al0 hi0 hr0 E A al hi hr s) (hO : OnP hr s p t) (hb : A p b ≠ 0) : ∃ c, hr t 15 = some c ∧ (isK al c 15 ∧ aln al c = 1025) ∧ isK al t 9 ∧ (1 ≤ b ∧ b ≤ 1024) ∧ 1 ≤ s 100 (1025 * p + b) ∧ (1 ≤ A p b ∧ A p b + s 100 (1025 * p + b) ≤ 1025) ∧ hi c (A p b) = hdr (s 302 (1025 * p + b)) (s 100 (1025 * p + b)) ∧ ∀ i, 0 ≤ i → i < s 100 (1025 * p + b) - 1 → hi c (A p b + 1 + i) = vm A p (s 300 (hx p b i)) (s 301 (hx p b i)) ∧ (s 301 (hx p b i) = 1 → s 300 (hx p b i) ≠ 0 → A p (s 300 (hx p b i)) ≠ 0) := by
  obtain ⟨⟨p0, p1⟩, ht, h89, ⟨a1, a16⟩, ⟨r0, r1⟩, h97, h56⟩ := id hO
  obtain ⟨k9, ⟨c, e15, kc, hH⟩, -⟩ := hR.pk hO
  obtain ⟨y1, y2, y3, y4, y5⟩ := hH.2.1 b hb
  have := hH.1
  exact ⟨c, e15, kc, k9, y1, y2, ⟨y3.1, by omega⟩, y4, y5⟩
/-- a cell of a box is written -/
theorem RelC.wr (hR : RelC T NN al0 hi0 hr0 E A al hi hr s) (hO : OnP hr s p t) (hP : AllP s) (hb : A p b ≠ 0) (i0 : 0 ≤ i) (i1 : i < s 100 (1025 * p + b) - 1) (hw : s 301 (hx p b i) = w) (hc : w = 1 → v ≠ 0 → A p v ≠ 0) (e15 : hr t 15 = some c) : RelC T NN al0 hi0 hr0 E A al (upI hi c (A p b + 1 + i) (vm A p v w)) hr (upI s 300 (hx p b i) v) ∧ OnP hr (upI s 300 (hx p b i) v) p t ∧ AllP (upI s 300 (hx p b i) v) := by
  obtain ⟨⟨p0, p1⟩, ht, h89, ⟨a1, a16⟩, ⟨r0, r1⟩, h97, h56⟩ := id hO
  obtain ⟨c', e15', kc, k9, z1, z2, z3, -⟩ := hR.bx hO hb
  rw [e15] at e15'; cases e15'
  have nct : c ≠ t := by
    obtain ⟨-, c', v1, v2, -⟩ := hR.2.2.2.2.1.1 p t p0 p1 ht
    rw [e15] at v1; cases v1
    have := hR.2.2.2.2.1.c v2 p0 p1 ht
    omega
  refine hR.hp hO hP (fun _ _ _ => rfl) (fun a i z => upI_ne (fun y => z ⟨by omega, by obtain ⟨y1, y2⟩ := y; unfold ownC hx at *; omega⟩)) (fun a i z1 z2 => upI_a (fun y => z1 (by rw [y]; exact e15))) (fun _ _ => rfl) (fun c' c1 h8 => ?_)
  rw [e15] at c1; cases c1
  rw [upI_a (fun e => nct e.symm)]
  obtain ⟨b1, b2, b3, b4⟩ := h8
  have e1 : ∀ x, upI s 300 (hx p b i) v 100 x = s 100 x := fun x => upI_a (by decide)
  have e2 : ∀ x, upI s 300 (hx p b i) v 302 x = s 302 x := fun x => upI_a (by decide)
  have e3 : ∀ x, upI s 300 (hx p b i) v 301 x = s 301 x := fun x => upI_a (by decide)
  obtain ⟨-, -, y3, -⟩ := b2 b hb
  refine ⟨by rw [upI_a (by decide)]; exact b1, fun b' hb' => ?_, fun b' b'' hb' hb'' hne => by rw [e1, e1]; exact b3 b' b'' hb' hb'' hne, fun j hj => ?_⟩
  · obtain ⟨x1, x2, x3, x4, x5⟩ := b2 b' hb'
    have dj : b' ≠ b → A p b' + s 100 (1025 * p + b') ≤ A p b ∨ A p b + s 100 (1025 * p + b) ≤ A p b' := fun z => b3 b' b hb' hb z
    rw [e1, e2]
    refine ⟨x1, x2, x3, ?_, fun j j0 j1 => ?_⟩
    · rw [upI_i (by
        by_cases z : b' = b
        · subst z; omega
        · have := dj z; omega)]
      exact x4
    · rw [e3]
      by_cases z : b' = b ∧ j = i
      · obtain ⟨rfl, rfl⟩ := z
        rw [upI_eq, upI_eq, hw]
        exact ⟨rfl, hc⟩
      · have nx : hx p b' j ≠ hx p b i := fun u => z (by unfold hx at u; omega)
        rw [upI_i nx, upI_i (by
          by_cases u : b' = b
          · subst u; omega
          · have := dj u; omega)]
        exact x5 j j0 j1
  · have e4 : ∀ x, upI s 300 (hx p b i) v 98 x = s 98 x := fun x => upI_a (by decide)
    have e5 : ∀ x, upI s 300 (hx p b i) v 99 x = s 99 x := fun x => upI_a (by decide)
    rw [e4, e5]
    refine b4 j ?_
    obtain ⟨x, k, u1, u2, u3, u4, u5⟩ := hj
    have ea : ai (upI s 300 (hx p b i) v) p = ai s p := by unfold ai; rw [upI_a (by decide)]
    rw [ea] at u2
    rw [upI_a (by decide)] at u4
    exact ⟨x, k, u1, u2, u3, u4, u5⟩
theorem PJ.its (hJ : PJ T s p m f X) (b0 : 1 ≤ b ∧ b ≤ 1024) (hb : 1 ≤ s 100 (1025 * p + b)) : tyB (T m) (s 302 (1025 * p + b)) (s 100 (1025 * p + b)) ∧ s 100 (1025 * p + b) ≤ 1024 ∧ ∀ i, 0 ≤ i → i < s 100 (1025 * p + b) - 1 → s 301 (hx p b i) = if heapT (itT (T m) (s 302 (1025 * p + b)) i) then 1 else 0 := by
  obtain ⟨y1, y2⟩ := hJ.2.1 b b0.1 b0.2
  have hM : Mg T s m := hJ.1.2.2.2.1
  refine ⟨(y2 hb).1, y1.2, fun i i0 i1 => ?_⟩
  have hv := (y2 hb).2 i i0 i1
  by_cases c : heapT (itT (T m) (s 302 (1025 * p + b)) i)
  · rw [if_pos c]; exact (hv.kh c).1
  · rw [if_neg c]
    exact (hv.k0 ((itT_k hM.2.1.2.2.1 (y2 hb).1 i0 i1).resolve_right c)).1
theorem c_lengthOf (k9 : isK al t 9) (e15 : hr t 15 = some c) (kc : isK al c 15 ∧ aln al c = 1025) (b : 1 ≤ x ∧ x ≤ 1024) (hd : 1 ≤ d) (e : hi c x % 65536 = n) (q : Q (some (some (vI n))) al hi hr) : Ev d 138 [vR (some t), vI x] al hi hr Q := by
  rw [e138]
  refine s138_0.mpr (s138_1.mpr ?_)
  refine (s138_2 (by first | decide | assumption | omega) (by first | decide | assumption | omega)).mpr ?_
  refine c_cellAt k9 e15 kc b ?_
  simp only [kon, knt_some, knt_none, Option.toList_some, Option.toList_none, List.cons_append, List.nil_append]
  refine s138_5.mpr (s138_7.mpr ?_)
  try simp (disch := first | decide | assumption | omega) only [fAnd_65535, e]
  refine (s138_8).mpr ?_
  exact q
theorem c_kindOfItem (k9 : isK al t 9) (e15 : hr t 15 = some c) (kc : isK al c 15 ∧ aln al c = 1025) (b : 1 ≤ x ∧ x ≤ 1024) (hd : 1 ≤ d) (q : Q (some (some (vI (if 589824 ≤ hi c x then 1 else 0)))) al hi hr) : Ev d 139 [vR (some t), vI x] al hi hr Q := by
  rw [e139]
  by_cases z : 589824 ≤ hi c x
  · rw [if_pos z] at q
    refine s139_0.mpr (s139_1.mpr ?_)
    refine (s139_2 (by first | decide | assumption | omega) (by first | decide | assumption | omega)).mpr ?_
    refine c_cellAt k9 e15 kc b ?_
    simp only [kon, knt_some, knt_none, Option.toList_some, Option.toList_none, List.cons_append, List.nil_append]
    refine s139_5.mpr ?_
    refine s139_7.mpr (wif (fun c7 => ?_) (fun c7 => ?_))
    · skip
      exfalso; omega
    · skip
      refine s139_10.mpr (s139_11.mpr ?_)
      refine (s139_15).mpr ?_
      exact q
  · rw [if_neg z] at q
    refine s139_0.mpr (s139_1.mpr ?_)
    refine (s139_2 (by first | decide | assumption | omega) (by first | decide | assumption | omega)).mpr ?_
    refine c_cellAt k9 e15 kc b ?_
    simp only [kon, knt_some, knt_none, Option.toList_some, Option.toList_none, List.cons_append, List.nil_append]
    refine s139_5.mpr ?_
    refine s139_7.mpr (wif (fun c7 => ?_) (fun c7 => ?_))
    · skip
      refine s139_14.mpr ?_
      refine (s139_15).mpr ?_
      exact q
    · skip
      exfalso; omega
theorem c_kindOfField (k9 : isK al t 9) (e15 : hr t 15 = some c) (kc : isK al c 15 ∧ aln al c = 1025) (ha : 1 ≤ a ∧ a ≤ 1024) (hH : hi c a / 65536 = r ∧ 0 ≤ hi c a ∧ hi c a < 20000000) (e1 : hr t 1 = some N) (hMS : MS al hr N) (hPt : hi (N + 3) r = P) (r0 : 0 ≤ r ∧ r < 8) (P64 : 0 ≤ P ∧ P < 64) (v0 : 0 ≤ v ∧ v < 6) (hd : 1 ≤ d) (q : Q (some (some (vI (if P / 2 ^ v.toNat % 2 = 1 then 1 else 0)))) al hi hr) : Ev d 140 [vR (some t), vI a, vI v] al hi hr Q := by
  have kN := hMS.1
  have eN5 : hr N 5 = some (N + 3) := hMS.2.2.2.1.1
  have kN3 : isK al (N + 3) 15 := hMS.2.2.2.1.2.1
  have lN3 : aln al (N + 3) = 8 := hMS.2.2.2.1.2.2
  have esh : fShr (hi c a) 16 = hi c a / 65536 := fShr_k 16 (by decide) (x := hi c a) ⟨by omega, by omega⟩
  have shf : fShr P v = P / 2 ^ v.toNat := by
    have := fShr_k v.toNat (by omega) (x := P) ⟨by omega, by omega⟩
    rw [Int.toNat_of_nonneg v0.1] at this
    exact this
  obtain ⟨W, hW⟩ : ∃ W, P / 2 ^ v.toNat = W := ⟨_, rfl⟩
  rw [hW] at shf q
  rw [hH.1] at esh
  have eB : fAnd W 1 = W % 2 := fAnd_1
  have X154 : ∀ Q' : QQ, Q' (some (some (vI P))) al hi hr → Ev (d - 1) 154 [vR (some N), vI r] al hi hr Q' := fun Q' u => by
    rw [e154]
    refine s154_0.mpr ?_
    refine s154_1.mpr (wif (fun c1 => ?_) (fun c1 => ?_))
    · first
      | (exfalso; omega)
      | skip
        exfalso; omega
    · first
      | (exfalso; omega)
      | skip
        refine s154_4.mpr (s154_5.mpr ?_)
        refine s154_7.mpr (wif (fun c7 => ?_) (fun c7 => ?_))
        · first
          | (exfalso; omega)
          | skip
            refine s154_14.mpr ?_
            refine (s154_15 (by first | decide | assumption | omega)).mpr ?_
            refine s154_18.mpr ?_
            try simp (disch := first | decide | assumption | omega) only [eN5, hPt]
            refine (s154_19 (by first | decide | assumption | omega) (by first | decide | assumption | omega) (by first | decide | assumption | omega)).mpr ?_
            try simp (disch := first | decide | assumption | omega) only [eN5, hPt]
            refine (s154_20).mpr ?_
            exact u
        · first
          | (exfalso; omega)
          | skip
            exfalso; omega
  rw [e140]
  by_cases z : W % 2 = 1
  · rw [if_pos z] at q
    rw [z] at eB
    refine s140_0.mpr ?_
    refine (s140_1 (by first | decide | assumption | omega)).mpr ?_
    refine s140_4.mpr (s140_5.mpr ?_)
    try simp (disch := first | decide | assumption | omega) only [kon, knt_some, knt_none, Option.toList_some, Option.toList_none, List.cons_append, List.nil_append, e1, esh, shf, eB]
    refine (s140_6 (by first | decide | assumption | omega) (by first | decide | assumption | omega)).mpr ?_
    refine c_cellAt k9 e15 kc ha ?_
    simp only [kon, knt_some, knt_none, Option.toList_some, Option.toList_none, List.cons_append, List.nil_append]
    refine s140_9.mpr (s140_11.mpr ?_)
    try simp (disch := first | decide | assumption | omega) only [kon, knt_some, knt_none, Option.toList_some, Option.toList_none, List.cons_append, List.nil_append, e1, esh, shf, eB]
    refine (s140_12 (by first | decide | assumption | omega) (by first | decide | assumption | omega)).mpr ?_
    refine X154 _ ?_
    simp only [kon, knt_some, knt_none, Option.toList_some, Option.toList_none, List.cons_append, List.nil_append]
    refine s140_15.mpr (s140_16.mpr (s140_17.mpr (s140_18.mpr (s140_19.mpr (s140_20.mpr ?_)))))
    refine s140_21.mpr ?_
    try simp (disch := first | decide | assumption | omega) only [kon, knt_some, knt_none, Option.toList_some, Option.toList_none, List.cons_append, List.nil_append, e1, esh, shf, eB]
    refine s140_22.mpr (wif (fun c22 => ?_) (fun c22 => ?_))
    · first
      | (exfalso; omega)
      | skip
        refine s140_25.mpr (s140_26.mpr ?_)
        refine (s140_30).mpr ?_
        exact q
    · first
      | (exfalso; omega)
      | skip
        exfalso; omega
  · rw [if_neg z] at q
    refine s140_0.mpr ?_
    refine (s140_1 (by first | decide | assumption | omega)).mpr ?_
    refine s140_4.mpr (s140_5.mpr ?_)
    try simp (disch := first | decide | assumption | omega) only [kon, knt_some, knt_none, Option.toList_some, Option.toList_none, List.cons_append, List.nil_append, e1, esh, shf, eB]
    refine (s140_6 (by first | decide | assumption | omega) (by first | decide | assumption | omega)).mpr ?_
    refine c_cellAt k9 e15 kc ha ?_
    simp only [kon, knt_some, knt_none, Option.toList_some, Option.toList_none, List.cons_append, List.nil_append]
    refine s140_9.mpr (s140_11.mpr ?_)
    try simp (disch := first | decide | assumption | omega) only [kon, knt_some, knt_none, Option.toList_some, Option.toList_none, List.cons_append, List.nil_append, e1, esh, shf, eB]
    refine (s140_12 (by first | decide | assumption | omega) (by first | decide | assumption | omega)).mpr ?_
    refine X154 _ ?_
    simp only [kon, knt_some, knt_none, Option.toList_some, Option.toList_none, List.cons_append, List.nil_append]
    refine s140_15.mpr (s140_16.mpr (s140_17.mpr (s140_18.mpr (s140_19.mpr (s140_20.mpr ?_)))))
    refine s140_21.mpr ?_
    try simp (disch := first | decide | assumption | omega) only [kon, knt_some, knt_none, Option.toList_some, Option.toList_none, List.cons_append, List.nil_append, e1, esh, shf, eB]
    refine s140_22.mpr (wif (fun c22 => ?_) (fun c22 => ?_))
    · first
      | (exfalso; omega)
      | skip
        exfalso; omega
    · first
      | (exfalso; omega)
      | skip
        refine s140_29.mpr ?_
        refine (s140_30).mpr ?_
        exact q
theorem vm_1 (h : w = 1) (z : v ≠ 0) : vm A p v w = A p v := by unfold vm; rw [if_pos h, if_neg z]
theorem vm_n (h : w = 1) (z : v = 0) : vm A p v w = 0 := by unfold vm; rw [if_pos h, if_pos z]
theorem kmp01 {c : Prop} [Decidable c] : kmp (if c then 1 else 0) = if c then 1 else 0 := by split <;> rfl
theorem x5_get (hR : RelC T NN al0 hi0 hr0 (fun _ => False) A al hi hr s) (hO : OnP hr s p t) (hP : AllP s) (hBQ : BQ s) (hBs : Bs T NN al0 hi0 hr0) (hJ : PJ T s p m f X) (ho : o = 23) (h1 : 1 ≤ hg s p) (k0 : ts s p 0 = 1) (kk : tv s p 0 ≠ 0 → kindM (s 302 (1025 * p + tv s p 0)) = 1 ∧ 0 ≤ v ∧ v < s 100 (1025 * p + tv s p 0) - 1) (hcv : cv = v) (hd : 3 ≤ d) (q : ∀ v' al' hi' hr', Pf T NN al0 hi0 hr0 p t (exS (T m) f s p o v qx) v' al' hi' hr' → Q (some (some (vI v'))) al' hi' hr') : Ev d 91 [vR (some 26), vR (some t), vI o, vI cv] al hi hr Q := by
  have k9 := (hR.tf hO).1.1.2
  obtain ⟨⟨p0, p1⟩, ht, h89, ⟨a1, a16⟩, ⟨r0, r1⟩, h97, h56⟩ := id hO
  have hg16 := h97 _ (by unfold ai; omega) (Int.le_refl _); have hg16 : 0 ≤ hg s p ∧ hg s p ≤ 16 := hg16
  subst hcv
  rw [exq_23 ho] at q
  have hrt := fun z => hR.rtv hO (k := 0) (by decide) (by omega) k0 z
  obtain ⟨b, hb⟩ : ∃ b, tv s p 0 = b := ⟨_, rfl⟩
  rw [hb] at q kk hrt
  have T20 : ∀ h3 l5, RelC T NN al0 hi0 hr0 (fun _ => False) A al h3 hr (pp s p 1) → OnP hr (pp s p 1) p t → AllP (pp s p 1) → Wp d 91 20 [vR (some 26), vR (some t), vI o, vI cv, vI 0, l5] [vI (vm A p (tv s p 0) (ts s p 0))] al h3 hr Q := by
    intro h3 l5 w1 w2 w3
    rw [hb, k0]
    by_cases c : b = 0
    · rw [if_pos c] at q
      rw [vm_n rfl c]
      have E0 := q 1 _ _ _ (Pf.tr w1 w2 w3 hBQ.pp_ (by decide) rfl)
      refine s91_20.mpr (s91_22.mpr ?_)
      refine s91_24.mpr (wif (fun c24 => ?_) (fun c24 => ?_))
      · skip
        refine s91_27.mpr ?_
        refine (s91_28).mpr ?_
        exact E0
      · skip
        exact absurd rfl (by assumption)
    · rw [if_neg c] at q
      rw [vm_1 rfl c]
      have hA0 := hrt c
      obtain ⟨ky, v0, v1⟩ := kk c
      obtain ⟨c9, e15, kc, k9, b1, b2, b3, b4, b5⟩ := w1.bx w2 hA0
      have e100 : ∀ x, pp s p 1 100 x = s 100 x := fun x => ppz_n (by decide)
      have e302 : ∀ x, pp s p 1 302 x = s 302 x := fun x => ppz_n (by decide)
      have e300 : ∀ x, pp s p 1 300 x = s 300 x := fun x => ppz_n (by decide)
      have e301 : ∀ x, pp s p 1 301 x = s 301 x := fun x => ppz_n (by decide)
      rw [e100] at b2 b3 b4
      rw [e302] at b4
      obtain ⟨z1, z2⟩ := b5 cv v0 (by rw [e100]; exact v1)
      rw [e300, e301] at z1 z2
      obtain ⟨i1, i2, i3⟩ := hJ.its b1 b2
      obtain ⟨g1, g2, g3, g4⟩ := i1.resolve_right (by omega) |> fun (u : kindM (s 302 (1025 * p + b)) = 1 ∧ whichM (s 302 (1025 * p + b)) < nRec (T m) ∧ s 100 (1025 * p + b) = nFld (T m) (whichM (s 302 (1025 * p + b))) + 1) => (⟨u.1, u.2.1, u.2.2, trivial⟩ : _ ∧ _ ∧ _ ∧ True)
      have w0 := (wM_b (t := s 302 (1025 * p + b)))
      have i4 := i3 cv v0 v1
      have hM : Mg T s m := hJ.1.2.2.2.1
      have hrg : ∀ k, -1 ≤ (T m) k ∧ (T m) k ≤ 255 := fun k => by rw [← hM.2.1.1.2.2.2.1]; exact bAt_rng m k
      have f6 := (hM.2.1.2.1.2.2.1 _ w0.1 g2).2.1
      have r8 : nRec (T m) ≤ 8 := hM.2.1.2.1.2.1
      have pt := ptF hM.2.1.2.1 hM.2.1.2.2.1 hrg w0.1 g2 (j := cv.toNat) (by omega)
      rw [Int.toNat_of_nonneg v0] at pt
      obtain ⟨tS, ⟨⟨N, hNN, e1⟩, -⟩, -⟩ := w1.tf w2
      have hm91 : pp s p 1 91 p = m := (ppz_n (by decide)).trans hJ.1.2.2.1
      rw [hm91] at hNN
      obtain ⟨ms, -, -, np, -⟩ := (w1.gm hBs hNN).1.ms
      have np9 := np _ w0.1 g2
      obtain ⟨R, hRe⟩ : ∃ R, whichM (s 302 (1025 * p + b)) = R := ⟨_, rfl⟩
      rw [hRe] at g2 g3 w0 f6 pt np9
      have eh : hdr (s 302 (1025 * p + b)) (s 100 (1025 * p + b)) = 65536 * R + (s 100 (1025 * p + b) - 1) := by unfold hdr; rw [if_pos g1, hRe]
      rw [eh] at b4
      have P64 := ptB_b (T m) R (nFld (T m) R).toNat
      have P64' : ptB (T m) R (nFld (T m) R).toNat < 64 := Int.lt_of_lt_of_le P64.2 (p2le (j := 6) (by omega))
      have eit : itT (T m) (s 302 (1025 * p + b)) cv = fTy (T m) R cv := by unfold itT; rw [if_pos g1, hRe]
      rw [eit] at i4
      have i5 : (if ptB (T m) R (nFld (T m) R).toNat / 2 ^ cv.toNat % 2 = 1 then (1 : Int) else 0) = kmp (s 301 (hx p b cv)) := by
        rw [pt, i4]
        by_cases u : heapT (fTy (T m) R cv)
        · rw [if_pos u]; rfl
        · rw [if_neg u]; rfl
      have PU := t_push (d := d - 1) (Q := kon d 91 68 71 [vR (some 26), vR (some t), vI o, vI cv, vI 0, vI (A p b)] [] Q) (v := s 300 (hx p b cv)) (w := s 301 (hx p b cv)) w1 w2 w3 (by rw [ppz_hg]; omega) z2 (fun h4 y1 y2 y3 _ => by
        have E0 := q 0 _ _ _ (Pf.ok y1 y2 y3 hBQ.pp_.psh_)
        simp only [kon, knt_some, knt_none, Option.toList_some, Option.toList_none, List.cons_append, List.nil_append]
        refine s91_71.mpr ?_
        refine (s91_72).mpr ?_
        exact E0
        )
      refine s91_20.mpr (s91_22.mpr ?_)
      refine s91_24.mpr (wif (fun c24 => ?_) (fun c24 => ?_))
      · skip
        exact absurd (by assumption) hA0
      · skip
        refine s91_29.mpr (s91_30.mpr ?_)
        refine s91_32.mpr (wif (fun c32 => ?_) (fun c32 => ?_))
        · skip
          exfalso; omega
        · skip
          refine s91_50.mpr (s91_51.mpr (s91_52.mpr (s91_54.mpr ?_)))
          refine (s91_55 (by first | decide | assumption | omega) (by first | decide | assumption | omega)).mpr ?_
          refine c_kindOfField k9 e15 kc (by omega) ⟨by rw [b4]; omega, by omega, by omega⟩ e1 ms np9 (by omega) ⟨P64.1, P64'⟩ (by omega) (by omega) ?_
          simp only [kon, knt_some, knt_none, Option.toList_some, Option.toList_none, List.cons_append, List.nil_append, i5]
          refine s91_58.mpr (s91_59.mpr (s91_61.mpr (s91_62.mpr (s91_63.mpr (s91_64.mpr ?_)))))
          try simp (disch := first | decide | assumption | omega) only [fAdd_id]
          refine (s91_65 (by first | decide | assumption | omega) (by first | decide | assumption | omega)).mpr ?_
          refine c_cellAt k9 e15 kc (by omega) ?_
          simp only [kon, knt_some, knt_none, Option.toList_some, Option.toList_none, List.cons_append, List.nil_append, z1]
          refine (s91_68 (by first | decide | assumption | omega) (by first | decide | assumption | omega)).mpr ?_
          exact PU
  rw [e91]
  refine s91_0.mpr (s91_1.mpr ?_)
  refine s91_3.mpr (wif (fun c3 => ?_) (fun c3 => ?_))
  · skip
    exfalso; omega
  · skip
    refine s91_13.mpr (s91_14.mpr (s91_16.mpr ?_))
    refine (s91_17 (by first | decide | assumption | omega) (by first | decide | assumption | omega)).mpr ?_
    refine t_pop hR hO hP h1 (fun h4 y1 y2 y3 y4 => ?_)
    simp only [kon, knt_some, knt_none, Option.toList_some, Option.toList_none, List.cons_append, List.nil_append]
    exact T20 _ _ y1 y2 y3
theorem x5_put (hR : RelC T NN al0 hi0 hr0 (fun _ => False) A al hi hr s) (hO : OnP hr s p t) (hP : AllP s) (hBQ : BQ s) (ho : o = 24) (h2 : 2 ≤ hg s p) (k1 : ts s p 1 = 1) (kk : tv s p 1 ≠ 0 → (0 ≤ v ∧ v < s 100 (1025 * p + tv s p 1) - 1) ∧ ts s p 0 = s 301 (hx p (tv s p 1) v)) (hcv : cv = v) (hd : 3 ≤ d) (q : ∀ v' al' hi' hr', Pf T NN al0 hi0 hr0 p t (exS (T m) f s p o v qx) v' al' hi' hr' → Q (some (some (vI v'))) al' hi' hr') : Ev d 91 [vR (some 26), vR (some t), vI o, vI cv] al hi hr Q := by
  have k9 := (hR.tf hO).1.1.2
  obtain ⟨⟨p0, p1⟩, ht, h89, ⟨a1, a16⟩, ⟨r0, r1⟩, h97, h56⟩ := id hO
  have hg16 := h97 _ (by unfold ai; omega) (Int.le_refl _); have hg16 : 0 ≤ hg s p ∧ hg s p ≤ 16 := hg16
  subst hcv
  rw [exq_24 ho] at q
  have hrt := fun z => hR.rtv hO (k := 1) (by decide) (by omega) k1 z
  have hrt0 := fun z1 z2 => hR.rtv hO (k := 0) (by decide) (by omega) z1 z2
  obtain ⟨b, hb⟩ : ∃ b, tv s p 1 = b := ⟨_, rfl⟩
  rw [hb] at q kk hrt
  have T20 : ∀ h3 l5, RelC T NN al0 hi0 hr0 (fun _ => False) A al h3 hr (pp s p 2) → OnP hr (pp s p 2) p t → AllP (pp s p 2) → Wp d 91 20 [vR (some 26), vR (some t), vI o, vI cv, vI (vm A p (tv s p 0) (ts s p 0)), l5] [vI (vm A p (tv s p 1) (ts s p 1))] al h3 hr Q := by
    intro h3 l5 w1 w2 w3
    rw [hb, k1]
    by_cases c : b = 0
    · rw [if_pos c] at q
      rw [vm_n rfl c]
      have E0 := q 1 _ _ _ (Pf.tr w1 w2 w3 hBQ.pp_ (by decide) rfl)
      refine s91_20.mpr (s91_22.mpr ?_)
      refine s91_24.mpr (wif (fun c24 => ?_) (fun c24 => ?_))
      · skip
        refine s91_27.mpr ?_
        refine (s91_28).mpr ?_
        exact E0
      · skip
        exact absurd rfl (by assumption)
    · rw [if_neg c] at q
      rw [vm_1 rfl c]
      have hA0 := hrt c
      obtain ⟨⟨v0, v1⟩, kw⟩ := kk c
      obtain ⟨c9, e15, kc, k9, b1, b2, b3, b4, b5⟩ := w1.bx w2 hA0
      have e100 : ∀ x, pp s p 2 100 x = s 100 x := fun x => ppz_n (by decide)
      have e301 : ∀ x, pp s p 2 301 x = s 301 x := fun x => ppz_n (by decide)
      rw [e100] at b2 b3 b4
      obtain ⟨y1, y2, y3⟩ := w1.wr (v := tv s p 0) (w := ts s p 0) w2 w3 hA0 v0 (by rw [e100]; exact v1) (by rw [e301]; exact kw.symm) hrt0 e15
      have E0 := q 0 _ _ _ (Pf.ok y1 y2 y3 ((hBQ.pp_ (p := p) (n := 2)).eq (fun a i z => upI_a (by omega))))
      have SC := c_setCell (d := d - 1) (Q := kon d 91 44 47 [vR (some 26), vR (some t), vI o, vI cv, vI (vm A p (tv s p 0) (ts s p 0)), vI (A p b)] [] Q) (x := A p b + 1 + cv) (v := vm A p (tv s p 0) (ts s p 0)) (hi := h3) k9 e15 kc (by omega) (by
        simp only [kon, knt_some, knt_none, Option.toList_some, Option.toList_none, List.cons_append, List.nil_append]
        refine s91_47.mpr (s91_71.mpr ?_)
        refine (s91_72).mpr ?_
        exact E0
        )
      refine s91_20.mpr (s91_22.mpr ?_)
      refine s91_24.mpr (wif (fun c24 => ?_) (fun c24 => ?_))
      · skip
        exact absurd (by assumption) hA0
      · skip
        refine s91_29.mpr (s91_30.mpr ?_)
        refine s91_32.mpr (wif (fun c32 => ?_) (fun c32 => ?_))
        · skip
          refine s91_35.mpr (s91_36.mpr (s91_38.mpr (s91_39.mpr (s91_40.mpr (s91_41.mpr ?_)))))
          refine s91_42.mpr ?_
          try simp (disch := first | decide | assumption | omega) only [fAdd_id]
          refine (s91_44 (by first | decide | assumption | omega) (by first | decide | assumption | omega)).mpr ?_
          exact SC
        · skip
          exfalso; omega
  have T10 : ∀ h3 l4 l5, RelC T NN al0 hi0 hr0 (fun _ => False) A al h3 hr (pp s p 1) → OnP hr (pp s p 1) p t → AllP (pp s p 1) → Wp d 91 10 [vR (some 26), vR (some t), vI o, vI cv, l4, l5] [vI (vm A p (tv s p 0) (ts s p 0))] al h3 hr Q := by
    intro h3 l4 l5 w1 w2 w3
    refine s91_10.mpr (s91_14.mpr (s91_16.mpr ?_))
    refine (s91_17 (by first | decide | assumption | omega) (by first | decide | assumption | omega)).mpr ?_
    refine t_pop w1 w2 w3 (by rw [ppz_hg]; omega) (fun h4 y1 y2 y3 y4 => ?_)
    rw [pp_pp] at y1 y2 y3; simp only [kon, knt_some, knt_none, Option.toList_some, Option.toList_none, List.cons_append, List.nil_append, tv_pp, ts_pp]; rw [show (0 : Int) + 1 = 1 by rfl]
    exact T20 _ _ y1 y2 y3
  rw [e91]
  refine s91_0.mpr (s91_1.mpr ?_)
  refine s91_3.mpr (wif (fun c3 => ?_) (fun c3 => ?_))
  · skip
    refine s91_6.mpr ?_
    refine (s91_7 (by first | decide | assumption | omega) (by first | decide | assumption | omega)).mpr ?_
    refine t_pop hR hO hP (by omega) (fun h4 y1 y2 y3 y4 => ?_)
    simp only [kon, knt_some, knt_none, Option.toList_some, Option.toList_none, List.cons_append, List.nil_append]
    exact T10 _ _ _ y1 y2 y3
  · skip
    exfalso; omega
end CM5
