/-! RUNNING, the class: layInHeap -/
section CM2
variable {d : Nat} {Q : QQ} {T : TXs} {al al' : AL} {hi hi' : HI} {hr hr' : HR} {s s' : HI} {A A' : Int → Int → Int} {NN : Int → Option Nat} {E : Int → Prop} {p q m f v w x n k ty : Int} {B : Int → Int} {X Y : Tst} {t t' N c : Nat} {al0 : AL} {hi0 : HI} {hr0 : HR} {fr H : Int} {ws : Int → Int}
theorem RelC.pk (hR : RelC T NN al0 hi0 hr0 E A al hi hr s) (hO : OnP hr s p t) : isK al t 9 ∧ (∃ c, hr t 15 = some c ∧ (isK al c 15 ∧ aln al c = 1025) ∧ HpC A hi c (hi t 16) s p) ∧ hi t 3 = s 92 p := by
  obtain ⟨⟨⟨t119, k9⟩, ⟨e9, K1, L1⟩, ⟨e10, K2, L2⟩, ⟨e11, K3, L3⟩, ⟨e12, K4, L4⟩, ⟨e13, K5, L5⟩, K6, L6⟩, ⟨⟨N, hNN, e1⟩, ⟨e7, e8⟩, h5, h6, c, e15, hH⟩, tH⟩ := hR.tf hO
  obtain ⟨⟨p0, p1⟩, ht, h89, ⟨a1, a16⟩, ⟨r0, r1⟩, h97, h56⟩ := id hO
  have b4 := hR.2.2.2.2.1
  obtain ⟨-, c', v1, v2, -⟩ := b4.1 p t p0 p1 ht
  rw [e15] at v1; cases v1
  exact ⟨k9, ⟨c, e15, b4.pk hR.1.1 v2, hH⟩, tH.2.2.1⟩
theorem m_lay (hR : RelC T NN al0 hi0 hr0 E A al hi hr s) (hO : OnP hr s p t) (hP : AllP s) (hBs : Bs T NN al0 hi0 hr0) (hJ : PJ T s p m f X) (hd : 3 ≤ d) (hx9 : 0 ≤ n → n < 1024 → x + n = hdr ty (n + 1)) (xb : 0 ≤ x ∧ x ≤ 589824) (h16 : 0 ≤ hg s p ∧ hg s p < 16)
    (q4 : n < 0 → Q (some (some (vI 4))) al hi hr)
    (q5 : ∀ A' hi' hr', 0 ≤ n → ¬ mkF s p n → RelC T NN al0 hi0 hr0 E A' al hi' hr' s → OnP hr' s p t → Q (some (some (vI 5))) al hi' hr')
    (q0 : ∀ A' hi' hr', 0 ≤ n → mkF s p n → RelC T NN al0 hi0 hr0 E A' al hi' hr' (psh (newB (gcS s p) p (mkB s p) n ty ws) p (mkB s p) 1) → OnP hr' (psh (newB (gcS s p) p (mkB s p) n ty ws) p (mkB s p) 1) p t → AllP (psh (newB (gcS s p) p (mkB s p) n ty ws) p (mkB s p) 1) → Q (some (some (vI 0))) al hi' hr') : Ev d 90 [vR (some 26), vR (some t), vI x, vI n] al hi hr Q := by
  have k26 : isK al 26 6 := hR.1.1.k (by decide) (by decide) rfl
  obtain ⟨⟨p0, p1⟩, ht, h89, ⟨a1, a16⟩, ⟨r0, r1⟩, h97, h56⟩ := id hO
  have hbd := hJ.hbd
  -- a box is made when there is room
  have MK : ∀ A1 h1 hr1 hF c1 l4, RelC T NN al0 hi0 hr0 E A1 al h1 hr1 s → OnP hr1 s p t → hr1 t 15 = some c1 → (isK al c1 15 ∧ aln al c1 = 1025) → HpC A1 h1 c1 (h1 t 16) s p → h1 t 16 = hF → 0 ≤ n → n < 1024 → (s 92 p < hF + n → ¬ mkF s p n) → Wp d 90 36 [vR (some 26), vR (some t), vI x, vI n, l4] [] al h1 hr1 Q := by
    intro A1 h1 hr1 hF c1 l4 z1 z2 z3 z4 z5 z6 n0 n1 zn
    obtain ⟨k9, -, e3⟩ := z1.pk z2
    have hb := hdr_b (t := ty) (n := n + 1) (by omega)
    have z5' := z5
    rw [z6] at z5'
    have b5 := z5'.1
    have r5 := (z5'.rsm_ hbd).2
    have ex := hx9 n0 n1
    have YES : ∀ h2, hF + n ≤ s 92 p → nbM h1 t c1 hF n (hdr ty (n + 1)) h2 → Wp d 90 43 [vR (some 26), vR (some t), vI x, vI n, l4] [vI hF] al h2 hr1 Q := by
      intro h2 yes hM
      have hF9 : mkF s p n := by unfold mkF; omega
      obtain ⟨kb, kf⟩ := mkB_k hF9 hbd r1 n0
      obtain ⟨y1, y2, y3⟩ := z1.rs z2 hP
      obtain ⟨u1, u2, u3⟩ := y1.nb (ws := ws) y2 y3 z3 z6 (by rw [gcS_CE (by decide)]; exact yes) n0 kb kf hM
      have eA : (fun q b => if q = p ∧ b = mkB s p then hF else rsA A1 s p q b) p (mkB s p) = hF := if_pos ⟨rfl, rfl⟩
      have ev : vm (fun q b => if q = p ∧ b = mkB s p then hF else rsA A1 s p q b) p (mkB s p) 1 = hF := by
        unfold vm; rw [if_pos rfl, if_neg (by omega)]; exact eA
      have eh : hg (newB (gcS s p) p (mkB s p) n ty ws) p = hg s p := by
        unfold hg ai; rw [newB_o (by decide), newB_o (by decide), gcS_CE (by decide), gcS_CE (by decide)]
      have hF1 := b5.1
      have PU : Ev (d - 1) 127 [vR (some t), vI 1, vI hF] al h2 hr1 (kon d 90 56 59 [vR (some 26), vR (some t), vI x, vI n, vI hF] [] Q) := by
        have := t_push (d := d - 1) (Q := kon d 90 56 59 [vR (some 26), vR (some t), vI x, vI n, vI hF] [] Q) (v := mkB s p) (w := 1) u1 u2 u3 (by rw [eh]; exact h16) (fun _ _ => by rw [if_pos ⟨rfl, rfl⟩]; omega) (fun h3 w1 w2 w3 _ => by
          have E0 := q0 _ _ _ n0 hF9 w1 w2 w3
          simp only [kon, knt_some, knt_none, Option.toList_some, Option.toList_none, List.cons_append, List.nil_append]
          refine s90_59.mpr ?_
          refine (s90_60).mpr ?_
          exact E0
          )
        rw [ev] at this
        exact this
      refine s90_43.mpr (s90_45.mpr ?_)
      refine s90_47.mpr (wif (fun c47 => ?_) (fun c47 => ?_))
      · first
        | (exfalso; omega)
        | skip
          exfalso; omega
      · first
        | (exfalso; omega)
        | skip
          refine s90_52.mpr (s90_53.mpr (s90_54.mpr ?_))
          refine (s90_56 (by first | decide | assumption | omega) (by first | decide | assumption | omega)).mpr ?_
          exact PU
    have hm := hb.2
    rw [← ex] at hb YES hm
    obtain ⟨y, hy⟩ : ∃ y, x + n = y := ⟨_, rfl⟩
    have hxn : fAdd x n = y := by rw [fAdd_id (by omega) (by omega)]; exact hy
    rw [hy] at YES hb hm
    have CM := c_make (d := d - 1) (Q := kon d 90 40 43 [vR (some 26), vR (some t), vI x, vI n, l4] [] Q) k9 z3 z4 e3 z6 ⟨b5.1, b5.2, r1⟩ ⟨hb.1.1, hm.trans (show n + 1 - 1 = n by omega), by omega⟩ (by omega) (fun no => by
      have E5 := q5 A1 h1 hr1 n0 (zn no) z1 z2
      simp only [kon, knt_some, knt_none, Option.toList_some, Option.toList_none, List.cons_append, List.nil_append]
      refine s90_43.mpr (s90_45.mpr ?_)
      refine s90_47.mpr (wif (fun c47 => ?_) (fun c47 => ?_))
      · first
        | (exfalso; omega)
        | skip
          refine s90_50.mpr ?_
          refine (s90_51).mpr ?_
          exact E5
      · first
        | (exfalso; omega)
        | skip
          exfalso; omega
      ) (fun h2 yes hM => by
      have Y := YES h2 yes hM
      simp only [kon, knt_some, knt_none, Option.toList_some, Option.toList_none, List.cons_append, List.nil_append]
      exact Y)
    refine s90_36.mpr (s90_37.mpr (s90_38.mpr (s90_39.mpr ?_)))
    try simp (disch := first | decide | assumption | omega) only [hxn]
    refine (s90_40 (by first | decide | assumption | omega) (by first | decide | assumption | omega)).mpr ?_
    exact CM
  obtain ⟨k9, ⟨c, e15, kc, hH⟩, e3⟩ := hR.pk hO
  obtain ⟨fr, hfr⟩ : ∃ fr, hi t 16 = fr := ⟨_, rfl⟩
  have hH' := hH
  rw [hfr] at hH'
  have b5 := hH'.1
  have r5 := (hH'.rsm_ hbd).2
  rw [e90]
  by_cases n0 : n < 0
  · have E4 := q4 n0
    refine s90_0.mpr ?_
    refine s90_1.mpr (wif (fun c1 => ?_) (fun c1 => ?_))
    · first
      | (exfalso; omega)
      | skip
        refine s90_4.mpr ?_
        refine (s90_5).mpr ?_
        exact E4
    · first
      | (exfalso; omega)
      | skip
        exfalso; omega
  · by_cases nh : s 92 p ≤ n
    · have E5 := q5 A hi hr (by omega) (by unfold mkF; omega) hR hO
      refine s90_0.mpr ?_
      refine s90_1.mpr (wif (fun c1 => ?_) (fun c1 => ?_))
      · first
        | (exfalso; omega)
        | skip
          exfalso; omega
      · first
        | (exfalso; omega)
        | skip
          refine s90_6.mpr (s90_7.mpr ?_)
          refine (s90_8 (by first | decide | assumption | omega)).mpr ?_
          try simp (disch := first | decide | assumption | omega) only [e3]
          refine s90_11.mpr (wif (fun c11 => ?_) (fun c11 => ?_))
          · first
            | (exfalso; omega)
            | skip
              exfalso; omega
          · first
            | (exfalso; omega)
            | skip
              refine s90_14.mpr ?_
              refine (s90_15).mpr ?_
              exact E5
    · by_cases nr : s 92 p + 1 - fr ≤ n
      · obtain ⟨N, c0, c1, hN, s1, pc0, pc1⟩ := hR.cln hO hBs hJ
        have M : ∀ a' fr1 hi' l4, CI A s p c0 c1 a' fr1 fr1 0 hi' → VRo A s p t a' (s 94 p) 0 hi' → hi' t 16 = fr1 → FW (wCo t c0 c1) hi hi' → Wp d 90 36 [vR (some 26), vR (some t), vI x, vI n, l4] [] al hi' (swp hr t c0 c1) Q := by
          intro a' fr1 hi' l4 hC hV e16 hw
          have hCB := hH.cb hbd r1
          have hal := hC.all hV hCB
          have R := hR.gc hO hP hBs hN s1 pc0 pc1 hC hV e16 hw (by omega)
          obtain ⟨kk9, ⟨c9, e15', kc', hH9⟩, e3'⟩ := R.1.pk R.2
          exact MK _ _ _ fr1 c9 l4 R.1 R.2 e15' kc' hH9 e16 (by omega) (by omega) (fun z => by unfold mkF; omega)
        refine s90_0.mpr ?_
        refine s90_1.mpr (wif (fun c1 => ?_) (fun c1 => ?_))
        · first
          | (exfalso; omega)
          | skip
            exfalso; omega
        · first
          | (exfalso; omega)
          | skip
            refine s90_6.mpr (s90_7.mpr ?_)
            refine (s90_8 (by first | decide | assumption | omega)).mpr ?_
            try simp (disch := first | decide | assumption | omega) only [e3, s1]
            refine s90_11.mpr (wif (fun c11 => ?_) (fun c11 => ?_))
            · first
              | (exfalso; omega)
              | skip
                refine s90_16.mpr (s90_17.mpr ?_)
                refine (s90_18 (by first | decide | assumption | omega) (by first | decide | assumption | omega)).mpr ?_
                refine c_room k9 e3 hfr ⟨b5.1, b5.2, r1⟩ ?_
                try simp only [kon, knt_some, knt_none, Option.toList_some, Option.toList_none, List.cons_append, List.nil_append]
                refine s90_21.mpr (wif (fun c21 => ?_) (fun c21 => ?_))
                · first
                  | (exfalso; omega)
                  | skip
                    first | exact M _ _ _ _ ‹_› ‹_› ‹_› ‹_› | (exfalso; omega)
                · first
                  | (exfalso; omega)
                  | skip
                    refine s90_24.mpr (s90_25.mpr (s90_26.mpr ?_))
                    refine (s90_27 (by first | decide | assumption | omega)).mpr ?_
                    try simp (disch := first | decide | assumption | omega) only [e3, s1]
                    refine (s90_30 (by first | decide | assumption | omega) (by first | decide | assumption | omega)).mpr ?_
                    refine c_collect hN (by omega) (fun a' fr1 hi' hC hV e16 hw => ?_)
                    try simp only [kon, knt_some, knt_none, Option.toList_some, Option.toList_none, List.cons_append, List.nil_append]
                    refine (s90_33 (by first | decide | assumption | omega)).mpr ?_
                    first | exact M _ _ _ _ ‹_› ‹_› ‹_› ‹_› | (exfalso; omega)
            · first
              | (exfalso; omega)
              | skip
                exfalso; omega
      · have M := fun l4 => MK A hi hr fr c l4 hR hO e15 kc hH hfr (by omega) (by omega) (fun z => by omega)
        refine s90_0.mpr ?_
        refine s90_1.mpr (wif (fun c1 => ?_) (fun c1 => ?_))
        · first
          | (exfalso; omega)
          | skip
            exfalso; omega
        · first
          | (exfalso; omega)
          | skip
            refine s90_6.mpr (s90_7.mpr ?_)
            refine (s90_8 (by first | decide | assumption | omega)).mpr ?_
            try simp (disch := first | decide | assumption | omega) only [e3]
            refine s90_11.mpr (wif (fun c11 => ?_) (fun c11 => ?_))
            · first
              | (exfalso; omega)
              | skip
                refine s90_16.mpr (s90_17.mpr ?_)
                refine (s90_18 (by first | decide | assumption | omega) (by first | decide | assumption | omega)).mpr ?_
                refine c_room k9 e3 hfr ⟨b5.1, b5.2, r1⟩ ?_
                try simp only [kon, knt_some, knt_none, Option.toList_some, Option.toList_none, List.cons_append, List.nil_append]
                refine s90_21.mpr (wif (fun c21 => ?_) (fun c21 => ?_))
                · first
                  | (exfalso; omega)
                  | skip
                    exact M _
                · first
                  | (exfalso; omega)
                  | skip
                    exfalso; omega
            · first
              | (exfalso; omega)
              | skip
                exfalso; omega
end CM2
