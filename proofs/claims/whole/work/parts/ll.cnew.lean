/-! RUNNING, the class: nodes and rows are made -/
section CN1
variable {d : Nat} {Q : QQ} {T : TXs} {al al' : AL} {hi hi' : HI} {hr hr' : HR} {s s' u sx sm : HI} {A A' : Int → Int → Int} {NN : Int → Option Nat} {E E' : Int → Prop} {p m f o q v w x y n k g qx cv i r a P b fr ty : Int} {B : Int → Int} {X Y : Tst} {t t' N M c : Nat} {al0 : AL} {hi0 : HI} {hr0 : HR} {V W ws : Int → Int}
/-- a box, or no room -/
theorem x5_mk (hR : RelC T NN al0 hi0 hr0 (fun _ => False) A al hi hr s) (hO : OnP hr s p t) (hP : AllP s) (hBQ : BQ s) (hBs : Bs T NN al0 hi0 hr0) (hJ : PJ T s p m f X) (hd : 3 ≤ d) (hx9 : 0 ≤ n → n < 1024 → x + n = hdr ty (n + 1)) (xb : 0 ≤ x ∧ x ≤ 589824) (h16 : 0 ≤ hg s p ∧ hg s p < 16) (n0 : 0 ≤ n) (q : ∀ v' al' hi' hr', Pf T NN al0 hi0 hr0 p t (mkS s p n ty ws) v' al' hi' hr' → Q (some (some (vI v'))) al' hi' hr') : Ev d 90 [vR (some 26), vR (some t), vI x, vI n] al hi hr Q := by
  unfold mkS at q
  refine m_lay (ws := ws) hR hO hP hBs hJ hd hx9 xb h16 (fun z => by exfalso; omega) (fun A' hi' hr' _ nF w1 w2 => ?_) (fun A' hi' hr' _ hF w1 w2 w3 => ?_)
  · rw [cif_n nF] at q
    exact q 5 _ _ _ (Pf.tr w1 w2 hP hBQ (by decide) rfl)
  · rw [cif_y hF] at q
    exact q 0 _ _ _ (Pf.ok w1 w2 w3 (BQ.psh_ (hBQ.eq (fun a i z => by rw [newB_o (by omega), gcS_CE (by omega)]))))
theorem pf_22 {l5} (hR : RelC T NN al0 hi0 hr0 (fun _ => False) A al hi hr s) (hO : OnP hr s p t) (hP : AllP s) (hBQ : BQ s) (hBs : Bs T NN al0 hi0 hr0) (hJ : PJ T s p m f X) (hm : s 91 p = m) (ho : o = 22) (hcv : cv = v) (v0 : 0 ≤ v ∧ v < nRec (T m)) (r8 : nRec (T m) ≤ 8) (hn : 0 ≤ nFld (T m) v ∧ nFld (T m) v ≤ 6) (h16 : hg s p < 16) (hd : 4 ≤ d) (q : ∀ v' al' hi' hr', Pf T NN al0 hi0 hr0 p t (exS (T m) f s p o v qx) v' al' hi' hr' → Q (some (some (vI v'))) al' hi' hr') : Wp d 78 156 [vR (some 26), vR (some t), vI o, vI qx, vI cv, l5] [] al hi hr Q := by
  obtain ⟨⟨p0, p1⟩, ht, h89, ⟨a1, a16⟩, ⟨r0, r1⟩, h97, h56⟩ := id hO
  have hg16 := h97 _ (by unfold ai; omega) (Int.le_refl _); have hg16 : 0 ≤ hg s p ∧ hg s p ≤ 16 := hg16
  subst hcv
  have hA := hR.1.1
  have k26 : isK al 26 6 := hA.k (by decide) (by decide) rfl
  have k9 := (hR.tf hO).1.1.2
  obtain ⟨N, n', M, e1, -, hM, hT, -, kN⟩ := hR.cod hO hBs
  rw [hm] at hM hT
  have esz : szR hi N cv = nFld (T m) cv := by unfold szR; rw [if_neg (by omega)]; exact ((hM.2.2.2.1 cv v0.1 v0.2).1).1
  rw [exq_22 ho] at q
  obtain ⟨n, hn9⟩ : ∃ n, nFld (T m) cv = n := ⟨_, rfl⟩
  rw [hn9] at esz hn q
  have esh : fShl cv 16 = 65536 * cv := by
    rw [show (16 : Int) = ((16 : Nat) : Int) from rfl, fShl_k 16 (by decide)]
    rw [show cv * 2 ^ 16 = 65536 * cv by omega]
    exact wr_id ⟨by omega, by omega⟩
  have ML := x5_mk (d := d - 1) (x := 65536 * cv) (Q := kon d 78 176 179 [vR (some 26), vR (some t), vI o, vI qx, vI cv, vI n] [] Q) hR hO hP hBQ hBs hJ (by omega) (fun _ z => by
    unfold hdr
    rw [if_pos (kM18 v0.1 (by decide)), wM18 (by omega) (by decide)]; omega) (by omega) ⟨hg16.1, h16⟩ hn.1 (fun v' al' hi' hr' z => by
    have E0 := q v' al' hi' hr' z
    simp only [kon, knt_some, knt_none, Option.toList_some, Option.toList_none, List.cons_append, List.nil_append]
    refine (s78_179).mpr ?_
    exact E0
    )
  refine s78_156.mpr ?_
  refine (s78_157 (by first | decide | assumption | omega)).mpr ?_
  refine s78_160.mpr ?_
  try simp (disch := first | decide | assumption | omega) only [e1, esh]
  refine (s78_162 (by first | decide | assumption | omega) (by first | decide | assumption | omega)).mpr ?_
  refine t_sizeOfRecord hM.1.1 ?_
  simp only [kon, knt_some, knt_none, Option.toList_some, Option.toList_none, List.cons_append, List.nil_append, esz]
  refine s78_165.mpr (s78_167.mpr (s78_168.mpr (s78_169.mpr (s78_171.mpr (s78_173.mpr ?_)))))
  refine s78_174.mpr ?_
  try simp (disch := first | decide | assumption | omega) only [e1, esh]
  refine (s78_176 (by first | decide | assumption | omega) (by first | decide | assumption | omega)).mpr ?_
  exact ML
theorem pf_25 {l5} (hR : RelC T NN al0 hi0 hr0 (fun _ => False) A al hi hr s) (hO : OnP hr s p t) (hP : AllP s) (hBQ : BQ s) (hBs : Bs T NN al0 hi0 hr0) (hJ : PJ T (pp s p 1) p m f X) (ho : o = 25) (k0 : ts s p 0 = 0) (h1 : 1 ≤ hg s p) (hd : 4 ≤ d) (q : ∀ v' al' hi' hr', Pf T NN al0 hi0 hr0 p t (exS (T m) f s p o v qx) v' al' hi' hr' → Q (some (some (vI v'))) al' hi' hr') : Wp d 78 180 [vR (some 26), vR (some t), vI o, vI qx, vI cv, l5] [] al hi hr Q := by
  obtain ⟨⟨p0, p1⟩, ht, h89, ⟨a1, a16⟩, ⟨r0, r1⟩, h97, h56⟩ := id hO
  have hg16 := h97 _ (by unfold ai; omega) (Int.le_refl _); have hg16 : 0 ≤ hg s p ∧ hg s p ≤ 16 := hg16
  have hA := hR.1.1
  have k26 : isK al 26 6 := hA.k (by decide) (by decide) rfl
  have k9 := (hR.tf hO).1.1.2
  rw [exq_25 ho] at q
  have eh : hg (pp s p 1) p = hg s p - 1 := ppz_hg
  have T189 : ∀ h3, RelC T NN al0 hi0 hr0 (fun _ => False) A al h3 hr (pp s p 1) → OnP hr (pp s p 1) p t → AllP (pp s p 1) → Wp d 78 189 [vR (some 26), vR (some t), vI o, vI qx, vI cv, l5] [vI (tv s p 0), vI 524288, vR (some t), vR (some 26)] al h3 hr Q := by
    intro h3 w1 w2 w3
    have ML : Ev (d - 1) 90 [vR (some 26), vR (some t), vI 524288, vI (tv s p 0)] al h3 hr (kon d 78 189 192 [vR (some 26), vR (some t), vI o, vI qx, vI cv, l5] [] Q) := by
      have hx9 : 0 ≤ tv s p 0 → tv s p 0 < 1024 → 524288 + tv s p 0 = hdr 2 (tv s p 0 + 1) := fun _ _ => by
        have k2 : kindM 2 = 2 := rfl
        unfold hdr
        rw [if_neg (by omega), if_pos k2]; omega
      by_cases c : tv s p 0 < 0
      · rw [if_pos c] at q
        refine m_lay (n := tv s p 0) (ty := 2) (ws := fun _ => 0) w1 w2 w3 hBs hJ (by omega) hx9 (by decide) (by omega) (fun _ => ?_) (fun A' hi' hr' z _ _ _ => by exfalso; omega) (fun A' hi' hr' z _ _ _ _ => by exfalso; omega)
        have E0 := q 4 _ _ _ (Pf.tr w1 w2 w3 hBQ.pp_ (by decide) rfl)
        simp only [kon, knt_some, knt_none, Option.toList_some, Option.toList_none, List.cons_append, List.nil_append]
        refine (s78_192).mpr ?_
        exact E0
      · rw [if_neg c] at q
        refine x5_mk (ws := fun _ => 0) w1 w2 w3 hBQ.pp_ hBs hJ (by omega) hx9 (by decide) (by omega) (by omega) (fun v' al' hi' hr' z => ?_)
        have E0 := q v' al' hi' hr' z
        simp only [kon, knt_some, knt_none, Option.toList_some, Option.toList_none, List.cons_append, List.nil_append]
        refine (s78_192).mpr ?_
        exact E0
    refine (s78_189 (by first | decide | assumption | omega) (by first | decide | assumption | omega)).mpr ?_
    exact ML
  refine s78_180.mpr (s78_181.mpr (s78_182.mpr (s78_185.mpr ?_)))
  refine (s78_186 (by first | decide | assumption | omega) (by first | decide | assumption | omega)).mpr ?_
  refine t_pop hR hO hP h1 (fun h4 y1 y2 y3 y4 => ?_)
  simp only [kon, knt_some, knt_none, Option.toList_some, Option.toList_none, List.cons_append, List.nil_append]; rw [vm_0 (show ts s p 0 ≠ 1 by omega)]
  exact T189 _ y1 y2 y3
theorem pf_26 {l5} (hR : RelC T NN al0 hi0 hr0 (fun _ => False) A al hi hr s) (hO : OnP hr s p t) (hP : AllP s) (hBQ : BQ s) (hBs : Bs T NN al0 hi0 hr0) (hJ : PJ T (pp s p 1) p m f X) (ho : o = 26) (v0 : 0 ≤ v) (k0 : ts s p 0 = 0) (h1 : 1 ≤ hg s p) (hd : 4 ≤ d) (q : ∀ v' al' hi' hr', Pf T NN al0 hi0 hr0 p t (exS (T m) f s p o v qx) v' al' hi' hr' → Q (some (some (vI v'))) al' hi' hr') : Wp d 78 193 [vR (some 26), vR (some t), vI o, vI qx, vI cv, l5] [] al hi hr Q := by
  obtain ⟨⟨p0, p1⟩, ht, h89, ⟨a1, a16⟩, ⟨r0, r1⟩, h97, h56⟩ := id hO
  have hg16 := h97 _ (by unfold ai; omega) (Int.le_refl _); have hg16 : 0 ≤ hg s p ∧ hg s p ≤ 16 := hg16
  have hA := hR.1.1
  have k26 : isK al 26 6 := hA.k (by decide) (by decide) rfl
  have k9 := (hR.tf hO).1.1.2
  rw [exq_26 ho] at q
  have eh : hg (pp s p 1) p = hg s p - 1 := ppz_hg
  have T202 : ∀ h3, RelC T NN al0 hi0 hr0 (fun _ => False) A al h3 hr (pp s p 1) → OnP hr (pp s p 1) p t → AllP (pp s p 1) → Wp d 78 202 [vR (some 26), vR (some t), vI o, vI qx, vI cv, l5] [vI (tv s p 0), vI 589824, vR (some t), vR (some 26)] al h3 hr Q := by
    intro h3 w1 w2 w3
    have ML : Ev (d - 1) 90 [vR (some 26), vR (some t), vI 589824, vI (tv s p 0)] al h3 hr (kon d 78 202 205 [vR (some 26), vR (some t), vI o, vI qx, vI cv, l5] [] Q) := by
      have hx9 : 0 ≤ tv s p 0 → tv s p 0 < 1024 → 589824 + tv s p 0 = hdr (3 + 8 * v) (tv s p 0 + 1) := fun _ _ => by
        have k2 : kindM (3 + 8 * v) = 3 := kM18 v0 (by decide)
        unfold hdr
        rw [if_neg (by omega), if_neg (by omega)]; omega
      by_cases c : tv s p 0 < 0
      · rw [if_pos c] at q
        refine m_lay (n := tv s p 0) (ty := 3 + 8 * v) (ws := fun _ => 1) w1 w2 w3 hBs hJ (by omega) hx9 (by decide) (by omega) (fun _ => ?_) (fun A' hi' hr' z _ _ _ => by exfalso; omega) (fun A' hi' hr' z _ _ _ _ => by exfalso; omega)
        have E0 := q 4 _ _ _ (Pf.tr w1 w2 w3 hBQ.pp_ (by decide) rfl)
        simp only [kon, knt_some, knt_none, Option.toList_some, Option.toList_none, List.cons_append, List.nil_append]
        refine (s78_205).mpr ?_
        exact E0
      · rw [if_neg c] at q
        refine x5_mk (ws := fun _ => 1) w1 w2 w3 hBQ.pp_ hBs hJ (by omega) hx9 (by decide) (by omega) (by omega) (fun v' al' hi' hr' z => ?_)
        have E0 := q v' al' hi' hr' z
        simp only [kon, knt_some, knt_none, Option.toList_some, Option.toList_none, List.cons_append, List.nil_append]
        refine (s78_205).mpr ?_
        exact E0
    refine (s78_202 (by first | decide | assumption | omega) (by first | decide | assumption | omega)).mpr ?_
    exact ML
  refine s78_193.mpr (s78_194.mpr (s78_195.mpr (s78_198.mpr ?_)))
  refine (s78_199 (by first | decide | assumption | omega) (by first | decide | assumption | omega)).mpr ?_
  refine t_pop hR hO hP h1 (fun h4 y1 y2 y3 y4 => ?_)
  simp only [kon, knt_some, knt_none, Option.toList_some, Option.toList_none, List.cons_append, List.nil_append]; rw [vm_0 (show ts s p 0 ≠ 1 by omega)]
  exact T202 _ y1 y2 y3
end CN1
