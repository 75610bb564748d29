/-! FACES: process, value, block, channel, output; the reference -/
section FA1
variable {d : Nat} {al : AL} {hi : HI} {hr : HR} {Q : QQ} {s : HI} {T : TXs} {p w v v' i b c : Int}
noncomputable def prF (s : HI) (p w : Int) : Int := if w = 0 then s 89 p else if w = 1 then s 90 p else if w = 2 then s 91 p - 6 else if w = 8 then s 92 p else if w = 9 then s 93 p else if ¬ s 89 p < 4 ∧ 3 ≤ w ∧ w ≤ 7 then 0 else if w = 3 then s 95 (ai s p) else if w = 4 then s 96 (ai s p) else if w = 5 then s 94 p else if w = 6 then hg s p else if w = 7 then (rsm s p : Int) else -1
theorem prF_0 (h : w = 0) : prF s p w = s 89 p := by unfold prF; rw [if_pos h]
theorem prF_1 (h : w = 1) : prF s p w = s 90 p := by unfold prF; rw [if_neg (by omega), if_pos h]
theorem prF_2 (h : w = 2) : prF s p w = s 91 p - 6 := by unfold prF; rw [if_neg (by omega), if_neg (by omega), if_pos h]
theorem prF_8 (h : w = 8) : prF s p w = s 92 p := by unfold prF; rw [if_neg (by omega), if_neg (by omega), if_neg (by omega), if_pos h]
theorem prF_9 (h : w = 9) : prF s p w = s 93 p := by unfold prF; rw [if_neg (by omega), if_neg (by omega), if_neg (by omega), if_neg (by omega), if_pos h]
theorem prF_o (h : 3 ≤ w ∧ w ≤ 7) (c : ¬ s 89 p < 4) : prF s p w = 0 := by unfold prF; rw [if_neg (by omega), if_neg (by omega), if_neg (by omega), if_neg (by omega), if_neg (by omega), if_pos ⟨c, h⟩]
theorem prF_3 (h : w = 3) (c : s 89 p < 4) : prF s p w = s 95 (ai s p) := by unfold prF; rw [if_neg (by omega), if_neg (by omega), if_neg (by omega), if_neg (by omega), if_neg (by omega), if_neg (fun y => y.1 c), if_pos h]
theorem prF_4 (h : w = 4) (c : s 89 p < 4) : prF s p w = s 96 (ai s p) := by unfold prF; rw [if_neg (by omega), if_neg (by omega), if_neg (by omega), if_neg (by omega), if_neg (by omega), if_neg (fun y => y.1 c), if_neg (by omega), if_pos h]
theorem prF_5 (h : w = 5) (c : s 89 p < 4) : prF s p w = s 94 p := by unfold prF; rw [if_neg (by omega), if_neg (by omega), if_neg (by omega), if_neg (by omega), if_neg (by omega), if_neg (fun y => y.1 c), if_neg (by omega), if_neg (by omega), if_pos h]
theorem prF_6 (h : w = 6) (c : s 89 p < 4) : prF s p w = hg s p := by unfold prF; rw [if_neg (by omega), if_neg (by omega), if_neg (by omega), if_neg (by omega), if_neg (by omega), if_neg (fun y => y.1 c), if_neg (by omega), if_neg (by omega), if_neg (by omega), if_pos h]
theorem prF_7 (h : w = 7) (c : s 89 p < 4) : prF s p w = (rsm s p : Int) := by unfold prF; rw [if_neg (by omega), if_neg (by omega), if_neg (by omega), if_neg (by omega), if_neg (by omega), if_neg (fun y => y.1 c), if_neg (by omega), if_neg (by omega), if_neg (by omega), if_neg (by omega), if_pos h]
theorem prF_n (h : w ∉ ([0, 1, 2, 3, 4, 5, 6, 7, 8, 9] : List Int)) : prF s p w = -1 := by
  simp only [List.mem_cons, List.not_mem_nil, or_false, not_or] at h
  unfold prF; rw [if_neg (by omega), if_neg (by omega), if_neg (by omega), if_neg (by omega), if_neg (by omega), if_neg (by omega), if_neg (by omega), if_neg (by omega), if_neg (by omega), if_neg (by omega), if_neg (by omega)]
theorem RelR.nt {h' : HI} (h : RelR hi s) (w : FW wNt hi h') : RelR h' s := by
  refine ⟨fun a i z => ?_, fun p p0 p1 => ?_⟩
  · rw [w a i (by unfold wNt; omega)]; exact h.1 a i z
  · have := h.2 p p0 p1
    unfold LR at this ⊢
    simp only [w 101 _ (show ¬ wNt 101 _ by unfold wNt; omega), w 103 _ (show ¬ wNt 103 _ by unfold wNt; omega), w 104 _ (show ¬ wNt 104 _ by unfold wNt; omega)]
    exact this
set_option maxRecDepth 8000 in
theorem r_process (hA : SA al) (hR : MR hr) (hd : 12 ≤ d) (hE : RelR hi s) (hb : hi 49 51 = 0 ∨ hi 49 51 = 1) (hI : hi 49 51 = 1 → INV T s) (h91 : hi 49 51 = 1 → R91 s)
    (q : ∀ v hi', v = (if hi 49 51 = 1 ∧ 0 ≤ p ∧ p < s 49 56 then prF s p w else -1) → FW wNt (upI hi 49 0 0) hi' → Q (some (some (vI v))) al hi' hr) : Ev d 323 [vR (some 49), vI p, vI w] al hi hr Q := by
  have kM : isK al 49 13 := hA.k (by decide) (by decide) rfl
  have l89 := SA.len (a := 89) (n := 12) hA (by decide) (by decide) rfl
  have l90 := SA.len (a := 90) (n := 12) hA (by decide) (by decide) rfl
  have l91 := SA.len (a := 91) (n := 12) hA (by decide) (by decide) rfl
  have l95 := SA.len (a := 95) (n := 192) hA (by decide) (by decide) rfl
  have l96 := SA.len (a := 96) (n := 192) hA (by decide) (by decide) rfl
  have l94 := SA.len (a := 94) (n := 12) hA (by decide) (by decide) rfl
  have l97 := SA.len (a := 97) (n := 192) hA (by decide) (by decide) rfl
  have l92 := SA.len (a := 92) (n := 12) hA (by decide) (by decide) rfl
  have l93 := SA.len (a := 93) (n := 12) hA (by decide) (by decide) rfl
  obtain ⟨h, hh⟩ : ∃ h, upI hi 49 0 0 = h := ⟨_, rfl⟩
  have e51 : h 49 51 = hi 49 51 := by rw [← hh]; exact upI_i (by decide)
  have hE1 : RelR h s := by rw [← hh]; exact hE.y (by omega)
  have H := Sm.rf hE1.1
  have e56 : h 49 56 = s 49 56 := H.e49 (by omega)
  rw [hh] at q
  rw [e323]
  by_cases cb : hi 49 51 = 1 ∧ 0 ≤ p ∧ p < s 49 56
  case neg =>
    have E0 := q (-1) h (by rw [if_neg cb]) FW.rf
    refine s323_0.mpr (s323_1.mpr ?_)
    refine (s323_2 kM).mpr ?_
    refine s323_5.mpr ?_
    try simp (disch := first | decide | assumption | omega) only [hh, e51, e56]
    refine (s323_6 kM).mpr ?_
    try simp (disch := first | decide | assumption | omega) only [hh, e51, e56]
    refine s323_9.mpr (wif (fun c9 => ?_) (fun c9 => ?_))
    · skip
      refine s323_24.mpr ?_
      refine (s323_25).mpr ?_
      exact E0
    · skip
      refine s323_12.mpr ?_
      refine s323_13.mpr (wif (fun c13 => ?_) (fun c13 => ?_))
      · skip
        refine s323_24.mpr ?_
        refine (s323_25).mpr ?_
        exact E0
      · skip
        refine s323_16.mpr (s323_17.mpr ?_)
        refine (s323_18 kM).mpr ?_
        try simp (disch := first | decide | assumption | omega) only [hh, e51, e56]
        refine s323_21.mpr (wif (fun c21 => ?_) (fun c21 => ?_))
        · skip
          exfalso; omega
        · skip
          refine s323_24.mpr ?_
          refine (s323_25).mpr ?_
          exact E0
  simp only [if_pos cb] at q
  obtain ⟨cb1, p0, p56⟩ := cb
  have hI := hI cb1
  have h91 := h91 cb1
  have g5 := hI.2.1.2.2.2.2.1
  have p1 : p < 12 := by omega
  have e89 : h 89 p = s 89 p := H.e (by omega)
  have e90 : h 90 p = s 90 p := H.e (by omega)
  have e91 : h 91 p = s 91 p := H.e (by omega)
  have e92 : h 92 p = s 92 p := H.e (by omega)
  have e93 : h 93 p = s 93 p := H.e (by omega)
  have e94 : h 94 p = s 94 p := H.e (by omega)
  have r91 := h91 p p0 p56
  have s91 : fSub (s 91 p) 6 = s 91 p - 6 := fSub_id (by omega) (by omega)
  by_cases c : s 89 p < 4
  · obtain ⟨m, f, X, x, fl, L, ⟨l1, l2, l3, l4, l5, l6, l7, l8, l9, l10, l11, l12, l13⟩, -⟩ := lkp_of hI ⟨p0, p1⟩ c
    have ea : ai h p = ai s p := H.ai_
    have hap : AP h p := l1.n e94
    have hab := hap.b
    rw [ea] at hab
    have k95 : isK al 95 15 := hA.k (by decide) (by decide) rfl
    have l95 : aln al 95 = 192 := hA.len (by decide) (by decide) rfl
    have k96 : isK al 96 15 := hA.k (by decide) (by decide) rfl
    have l96 : aln al 96 = 192 := hA.len (by decide) (by decide) rfl
    have k97 : isK al 97 15 := hA.k (by decide) (by decide) rfl
    have l97 : aln al 97 = 192 := hA.len (by decide) (by decide) rfl
    have ACT : ∀ Q' : QQ, Q' (some (some (vI (ai s p)))) al h hr → Ev (d - 1) 282 [vR (some 49), vI p] al h hr Q' := fun Q' z => r_act hA hR hap (by rw [ea]; exact z)
    have x95 : h 95 (ai s p) = s 95 (ai s p) := H.e (by omega)
    have x96 : h 96 (ai s p) = s 96 (ai s p) := H.e (by omega)
    have x97 : h 97 (ai s p) = hg s p := H.e (by omega)
    have RE : w = 7 → Ev (d - 1) 289 [vR (some 49), vI p] al h hr (kon d 323 198 201 [vR (some 49), vI p, vI w, vI 1] [] Q) := fun hw => by
      refine r_reach hA hR (by omega) hE1.1 (hE1.2 p p0 p1) L.1.2.hbd l1 (fun h' y1 _ => ?_)
      have E0 := q _ h' (prF_7 hw c).symm y1
      simp only [kon, knt_some, knt_none, Option.toList_some, Option.toList_none, List.cons_append, List.nil_append]
      refine s323_201.mpr ?_
      refine (s323_205).mpr ?_
      exact E0
    refine s323_0.mpr (s323_1.mpr ?_)
    refine (s323_2 kM).mpr ?_
    refine s323_5.mpr ?_
    try simp (disch := first | decide | assumption | omega) only [hh, e51, e56, e89, e90, e91, e92, e93, e94, s91, x95, x96, x97]
    refine (s323_6 kM).mpr ?_
    try simp (disch := first | decide | assumption | omega) only [hh, e51, e56, e89, e90, e91, e92, e93, e94, s91, x95, x96, x97]
    refine s323_9.mpr (wif (fun c9 => ?_) (fun c9 => ?_))
    · first
      | (exfalso; omega)
      | skip
        exfalso; omega
    · first
      | (exfalso; omega)
      | skip
        refine s323_12.mpr ?_
        refine s323_13.mpr (wif (fun c13 => ?_) (fun c13 => ?_))
        · first
          | (exfalso; omega)
          | skip
            exfalso; omega
        · first
          | (exfalso; omega)
          | skip
            refine s323_16.mpr (s323_17.mpr ?_)
            refine (s323_18 kM).mpr ?_
            try simp (disch := first | decide | assumption | omega) only [hh, e51, e56, e89, e90, e91, e92, e93, e94, s91, x95, x96, x97]
            refine s323_21.mpr (wif (fun c21 => ?_) (fun c21 => ?_))
            · first
              | (exfalso; omega)
              | skip
                refine s323_26.mpr ((s323_27 kM).mpr ?_)
                rw [mr_59 hR]
                refine s323_30.mpr ?_
                refine (s323_31 (hA.k (by decide) (by decide) rfl) (by first | assumption | omega) (by first | assumption | omega)).mpr ?_
                refine s323_32.mpr ?_
                try simp (disch := first | decide | assumption | omega) only [hh, e51, e56, e89, e90, e91, e92, e93, e94, s91, x95, x96, x97]
                refine s323_33.mpr (wif (fun c33 => ?_) (fun c33 => ?_))
                · first
                  | (exfalso; omega)
                  | skip
                    refine s323_36.mpr (s323_37.mpr (s323_41.mpr (s323_42.mpr ?_)))
                    refine g323_43 (fun c43 => ?_) (fun c43 => ?_) (fun c43 => ?_) (fun c43 => ?_) (fun c43 => ?_) (fun c43 => ?_) (fun c43 => ?_) (fun c43 => ?_) (fun c43 => ?_) (fun c43 => ?_) (fun c43 => ?_)
                    · skip
                      have c43 := List.mem_singleton.mp c43
                      refine s323_96.mpr ((s323_97 kM).mpr ?_)
                      rw [mr_59 hR]
                      refine s323_100.mpr ?_
                      refine (s323_101 (hA.k (by decide) (by decide) rfl) (by first | assumption | omega) (by first | assumption | omega)).mpr ?_
                      try simp (disch := first | decide | assumption | omega) only [hh, e51, e56, e89, e90, e91, e92, e93, e94, s91, x95, x96, x97]
                      refine (s323_102).mpr ?_
                      first | exact q _ h (prF_0 c43).symm FW.rf | exact q _ h (prF_1 c43).symm FW.rf | exact q _ h (prF_2 c43).symm FW.rf | exact q _ h (prF_3 c43 c).symm FW.rf | exact q _ h (prF_4 c43 c).symm FW.rf | exact q _ h (prF_5 c43 c).symm FW.rf | exact q _ h (prF_6 c43 c).symm FW.rf | exact q _ h (prF_8 c43).symm FW.rf | exact q _ h (prF_9 c43).symm FW.rf | exact q _ h (prF_n c43).symm FW.rf
                    · skip
                      have c43 := List.mem_singleton.mp c43
                      refine s323_103.mpr ((s323_104 kM).mpr ?_)
                      rw [mr_60 hR]
                      refine s323_107.mpr ?_
                      refine (s323_108 (hA.k (by decide) (by decide) rfl) (by first | assumption | omega) (by first | assumption | omega)).mpr ?_
                      try simp (disch := first | decide | assumption | omega) only [hh, e51, e56, e89, e90, e91, e92, e93, e94, s91, x95, x96, x97]
                      refine (s323_109).mpr ?_
                      first | exact q _ h (prF_0 c43).symm FW.rf | exact q _ h (prF_1 c43).symm FW.rf | exact q _ h (prF_2 c43).symm FW.rf | exact q _ h (prF_3 c43 c).symm FW.rf | exact q _ h (prF_4 c43 c).symm FW.rf | exact q _ h (prF_5 c43 c).symm FW.rf | exact q _ h (prF_6 c43 c).symm FW.rf | exact q _ h (prF_8 c43).symm FW.rf | exact q _ h (prF_9 c43).symm FW.rf | exact q _ h (prF_n c43).symm FW.rf
                    · skip
                      have c43 := List.mem_singleton.mp c43
                      refine s323_110.mpr ((s323_111 kM).mpr ?_)
                      rw [mr_61 hR]
                      refine s323_114.mpr ?_
                      refine (s323_115 (hA.k (by decide) (by decide) rfl) (by first | assumption | omega) (by first | assumption | omega)).mpr ?_
                      refine s323_116.mpr (s323_118.mpr ?_)
                      try simp (disch := first | decide | assumption | omega) only [hh, e51, e56, e89, e90, e91, e92, e93, e94, s91, x95, x96, x97]
                      refine (s323_119).mpr ?_
                      first | exact q _ h (prF_0 c43).symm FW.rf | exact q _ h (prF_1 c43).symm FW.rf | exact q _ h (prF_2 c43).symm FW.rf | exact q _ h (prF_3 c43 c).symm FW.rf | exact q _ h (prF_4 c43 c).symm FW.rf | exact q _ h (prF_5 c43 c).symm FW.rf | exact q _ h (prF_6 c43 c).symm FW.rf | exact q _ h (prF_8 c43).symm FW.rf | exact q _ h (prF_9 c43).symm FW.rf | exact q _ h (prF_n c43).symm FW.rf
                    · skip
                      have c43 := List.mem_singleton.mp c43
                      refine s323_120.mpr ?_
                      refine s323_121.mpr (wif (fun c121 => ?_) (fun c121 => ?_))
                      · first
                        | (exfalso; omega)
                        | skip
                          exact absurd ‹(1 : Int) = 0› (by decide)
                      · first
                        | (exfalso; omega)
                        | skip
                          refine s323_124.mpr ((s323_125 kM).mpr ?_)
                          rw [mr_65 hR]
                          refine s323_128.mpr (s323_129.mpr ?_)
                          refine (s323_130 (by omega) kM).mpr ?_
                          refine ACT _ ?_
                          simp only [kon, knt_some, knt_none, Option.toList_some, Option.toList_none, List.cons_append, List.nil_append, x95, x96, x97]
                          refine (s323_133 (hA.k (by decide) (by decide) rfl) (by first | assumption | omega) (by first | assumption | omega)).mpr ?_
                          refine s323_134.mpr ?_
                          try simp (disch := first | decide | assumption | omega) only [hh, e51, e56, e89, e90, e91, e92, e93, e94, s91, x95, x96, x97]
                          refine (s323_138).mpr ?_
                          first | exact q _ h (prF_0 c43).symm FW.rf | exact q _ h (prF_1 c43).symm FW.rf | exact q _ h (prF_2 c43).symm FW.rf | exact q _ h (prF_3 c43 c).symm FW.rf | exact q _ h (prF_4 c43 c).symm FW.rf | exact q _ h (prF_5 c43 c).symm FW.rf | exact q _ h (prF_6 c43 c).symm FW.rf | exact q _ h (prF_8 c43).symm FW.rf | exact q _ h (prF_9 c43).symm FW.rf | exact q _ h (prF_n c43).symm FW.rf
                    · skip
                      have c43 := List.mem_singleton.mp c43
                      refine s323_139.mpr ?_
                      refine s323_140.mpr (wif (fun c140 => ?_) (fun c140 => ?_))
                      · first
                        | (exfalso; omega)
                        | skip
                          exact absurd ‹(1 : Int) = 0› (by decide)
                      · first
                        | (exfalso; omega)
                        | skip
                          refine s323_143.mpr ((s323_144 kM).mpr ?_)
                          rw [mr_66 hR]
                          refine s323_147.mpr (s323_148.mpr ?_)
                          refine (s323_149 (by omega) kM).mpr ?_
                          refine ACT _ ?_
                          simp only [kon, knt_some, knt_none, Option.toList_some, Option.toList_none, List.cons_append, List.nil_append, x95, x96, x97]
                          refine (s323_152 (hA.k (by decide) (by decide) rfl) (by first | assumption | omega) (by first | assumption | omega)).mpr ?_
                          refine s323_153.mpr ?_
                          try simp (disch := first | decide | assumption | omega) only [hh, e51, e56, e89, e90, e91, e92, e93, e94, s91, x95, x96, x97]
                          refine (s323_157).mpr ?_
                          first | exact q _ h (prF_0 c43).symm FW.rf | exact q _ h (prF_1 c43).symm FW.rf | exact q _ h (prF_2 c43).symm FW.rf | exact q _ h (prF_3 c43 c).symm FW.rf | exact q _ h (prF_4 c43 c).symm FW.rf | exact q _ h (prF_5 c43 c).symm FW.rf | exact q _ h (prF_6 c43 c).symm FW.rf | exact q _ h (prF_8 c43).symm FW.rf | exact q _ h (prF_9 c43).symm FW.rf | exact q _ h (prF_n c43).symm FW.rf
                    · skip
                      have c43 := List.mem_singleton.mp c43
                      refine s323_158.mpr ?_
                      refine s323_159.mpr (wif (fun c159 => ?_) (fun c159 => ?_))
                      · first
                        | (exfalso; omega)
                        | skip
                          exact absurd ‹(1 : Int) = 0› (by decide)
                      · first
                        | (exfalso; omega)
                        | skip
                          refine s323_162.mpr ((s323_163 kM).mpr ?_)
                          rw [mr_64 hR]
                          refine s323_166.mpr ?_
                          refine (s323_167 (hA.k (by decide) (by decide) rfl) (by first | assumption | omega) (by first | assumption | omega)).mpr ?_
                          refine s323_168.mpr ?_
                          try simp (disch := first | decide | assumption | omega) only [hh, e51, e56, e89, e90, e91, e92, e93, e94, s91, x95, x96, x97]
                          refine (s323_172).mpr ?_
                          first | exact q _ h (prF_0 c43).symm FW.rf | exact q _ h (prF_1 c43).symm FW.rf | exact q _ h (prF_2 c43).symm FW.rf | exact q _ h (prF_3 c43 c).symm FW.rf | exact q _ h (prF_4 c43 c).symm FW.rf | exact q _ h (prF_5 c43 c).symm FW.rf | exact q _ h (prF_6 c43 c).symm FW.rf | exact q _ h (prF_8 c43).symm FW.rf | exact q _ h (prF_9 c43).symm FW.rf | exact q _ h (prF_n c43).symm FW.rf
                    · skip
                      have c43 := List.mem_singleton.mp c43
                      refine s323_173.mpr ?_
                      refine s323_174.mpr (wif (fun c174 => ?_) (fun c174 => ?_))
                      · first
                        | (exfalso; omega)
                        | skip
                          exact absurd ‹(1 : Int) = 0› (by decide)
                      · first
                        | (exfalso; omega)
                        | skip
                          refine s323_177.mpr ((s323_178 kM).mpr ?_)
                          rw [mr_67 hR]
                          refine s323_181.mpr (s323_182.mpr ?_)
                          refine (s323_183 (by omega) kM).mpr ?_
                          refine ACT _ ?_
                          simp only [kon, knt_some, knt_none, Option.toList_some, Option.toList_none, List.cons_append, List.nil_append, x95, x96, x97]
                          refine (s323_186 (hA.k (by decide) (by decide) rfl) (by first | assumption | omega) (by first | assumption | omega)).mpr ?_
                          refine s323_187.mpr ?_
                          try simp (disch := first | decide | assumption | omega) only [hh, e51, e56, e89, e90, e91, e92, e93, e94, s91, x95, x96, x97]
                          refine (s323_191).mpr ?_
                          first | exact q _ h (prF_0 c43).symm FW.rf | exact q _ h (prF_1 c43).symm FW.rf | exact q _ h (prF_2 c43).symm FW.rf | exact q _ h (prF_3 c43 c).symm FW.rf | exact q _ h (prF_4 c43 c).symm FW.rf | exact q _ h (prF_5 c43 c).symm FW.rf | exact q _ h (prF_6 c43 c).symm FW.rf | exact q _ h (prF_8 c43).symm FW.rf | exact q _ h (prF_9 c43).symm FW.rf | exact q _ h (prF_n c43).symm FW.rf
                    · skip
                      have c43 := List.mem_singleton.mp c43
                      refine s323_192.mpr ?_
                      refine s323_193.mpr (wif (fun c193 => ?_) (fun c193 => ?_))
                      · first
                        | (exfalso; omega)
                        | skip
                          exact absurd ‹(1 : Int) = 0› (by decide)
                      · first
                        | (exfalso; omega)
                        | skip
                          refine s323_196.mpr (s323_197.mpr ?_)
                          refine (s323_198 (by omega) kM).mpr ?_
                          exact RE c43
                    · skip
                      have c43 := List.mem_singleton.mp c43
                      refine s323_206.mpr ((s323_207 kM).mpr ?_)
                      rw [mr_62 hR]
                      refine s323_210.mpr ?_
                      refine (s323_211 (hA.k (by decide) (by decide) rfl) (by first | assumption | omega) (by first | assumption | omega)).mpr ?_
                      try simp (disch := first | decide | assumption | omega) only [hh, e51, e56, e89, e90, e91, e92, e93, e94, s91, x95, x96, x97]
                      refine (s323_212).mpr ?_
                      first | exact q _ h (prF_0 c43).symm FW.rf | exact q _ h (prF_1 c43).symm FW.rf | exact q _ h (prF_2 c43).symm FW.rf | exact q _ h (prF_3 c43 c).symm FW.rf | exact q _ h (prF_4 c43 c).symm FW.rf | exact q _ h (prF_5 c43 c).symm FW.rf | exact q _ h (prF_6 c43 c).symm FW.rf | exact q _ h (prF_8 c43).symm FW.rf | exact q _ h (prF_9 c43).symm FW.rf | exact q _ h (prF_n c43).symm FW.rf
                    · skip
                      have c43 := List.mem_singleton.mp c43
                      refine s323_213.mpr ((s323_214 kM).mpr ?_)
                      rw [mr_63 hR]
                      refine s323_217.mpr ?_
                      refine (s323_218 (hA.k (by decide) (by decide) rfl) (by first | assumption | omega) (by first | assumption | omega)).mpr ?_
                      try simp (disch := first | decide | assumption | omega) only [hh, e51, e56, e89, e90, e91, e92, e93, e94, s91, x95, x96, x97]
                      refine (s323_219).mpr ?_
                      first | exact q _ h (prF_0 c43).symm FW.rf | exact q _ h (prF_1 c43).symm FW.rf | exact q _ h (prF_2 c43).symm FW.rf | exact q _ h (prF_3 c43 c).symm FW.rf | exact q _ h (prF_4 c43 c).symm FW.rf | exact q _ h (prF_5 c43 c).symm FW.rf | exact q _ h (prF_6 c43 c).symm FW.rf | exact q _ h (prF_8 c43).symm FW.rf | exact q _ h (prF_9 c43).symm FW.rf | exact q _ h (prF_n c43).symm FW.rf
                    · skip
                      refine s323_220.mpr ?_
                      refine (s323_221).mpr ?_
                      first | exact q _ h (prF_0 c43).symm FW.rf | exact q _ h (prF_1 c43).symm FW.rf | exact q _ h (prF_2 c43).symm FW.rf | exact q _ h (prF_3 c43 c).symm FW.rf | exact q _ h (prF_4 c43 c).symm FW.rf | exact q _ h (prF_5 c43 c).symm FW.rf | exact q _ h (prF_6 c43 c).symm FW.rf | exact q _ h (prF_8 c43).symm FW.rf | exact q _ h (prF_9 c43).symm FW.rf | exact q _ h (prF_n c43).symm FW.rf
                · first
                  | (exfalso; omega)
                  | skip
                    exfalso; omega
            · first
              | (exfalso; omega)
              | skip
                exfalso; omega
  · skip
    refine s323_0.mpr (s323_1.mpr ?_)
    refine (s323_2 kM).mpr ?_
    refine s323_5.mpr ?_
    try simp (disch := first | decide | assumption | omega) only [hh, e51, e56, e89, e90, e91, e92, e93, e94, s91]
    refine (s323_6 kM).mpr ?_
    try simp (disch := first | decide | assumption | omega) only [hh, e51, e56, e89, e90, e91, e92, e93, e94, s91]
    refine s323_9.mpr (wif (fun c9 => ?_) (fun c9 => ?_))
    · first
      | (exfalso; omega)
      | skip
        exfalso; omega
    · first
      | (exfalso; omega)
      | skip
        refine s323_12.mpr ?_
        refine s323_13.mpr (wif (fun c13 => ?_) (fun c13 => ?_))
        · first
          | (exfalso; omega)
          | skip
            exfalso; omega
        · first
          | (exfalso; omega)
          | skip
            refine s323_16.mpr (s323_17.mpr ?_)
            refine (s323_18 kM).mpr ?_
            try simp (disch := first | decide | assumption | omega) only [hh, e51, e56, e89, e90, e91, e92, e93, e94, s91]
            refine s323_21.mpr (wif (fun c21 => ?_) (fun c21 => ?_))
            · first
              | (exfalso; omega)
              | skip
                refine s323_26.mpr ((s323_27 kM).mpr ?_)
                rw [mr_59 hR]
                refine s323_30.mpr ?_
                refine (s323_31 (hA.k (by decide) (by decide) rfl) (by first | assumption | omega) (by first | assumption | omega)).mpr ?_
                refine s323_32.mpr ?_
                try simp (disch := first | decide | assumption | omega) only [hh, e51, e56, e89, e90, e91, e92, e93, e94, s91]
                refine s323_33.mpr (wif (fun c33 => ?_) (fun c33 => ?_))
                · first
                  | (exfalso; omega)
                  | skip
                    exfalso; omega
                · first
                  | (exfalso; omega)
                  | skip
                    refine s323_40.mpr (s323_41.mpr (s323_42.mpr ?_))
                    refine g323_43 (fun c43 => ?_) (fun c43 => ?_) (fun c43 => ?_) (fun c43 => ?_) (fun c43 => ?_) (fun c43 => ?_) (fun c43 => ?_) (fun c43 => ?_) (fun c43 => ?_) (fun c43 => ?_) (fun c43 => ?_)
                    · skip
                      have c43 := List.mem_singleton.mp c43
                      refine s323_96.mpr ((s323_97 kM).mpr ?_)
                      rw [mr_59 hR]
                      refine s323_100.mpr ?_
                      refine (s323_101 (hA.k (by decide) (by decide) rfl) (by first | assumption | omega) (by first | assumption | omega)).mpr ?_
                      try simp (disch := first | decide | assumption | omega) only [hh, e51, e56, e89, e90, e91, e92, e93, e94, s91]
                      refine (s323_102).mpr ?_
                      first | exact q _ h (prF_0 c43).symm FW.rf | exact q _ h (prF_1 c43).symm FW.rf | exact q _ h (prF_2 c43).symm FW.rf | exact q _ h (prF_8 c43).symm FW.rf | exact q _ h (prF_9 c43).symm FW.rf | exact q _ h (prF_n c43).symm FW.rf | exact q _ h (prF_o (by omega) c).symm FW.rf
                    · skip
                      have c43 := List.mem_singleton.mp c43
                      refine s323_103.mpr ((s323_104 kM).mpr ?_)
                      rw [mr_60 hR]
                      refine s323_107.mpr ?_
                      refine (s323_108 (hA.k (by decide) (by decide) rfl) (by first | assumption | omega) (by first | assumption | omega)).mpr ?_
                      try simp (disch := first | decide | assumption | omega) only [hh, e51, e56, e89, e90, e91, e92, e93, e94, s91]
                      refine (s323_109).mpr ?_
                      first | exact q _ h (prF_0 c43).symm FW.rf | exact q _ h (prF_1 c43).symm FW.rf | exact q _ h (prF_2 c43).symm FW.rf | exact q _ h (prF_8 c43).symm FW.rf | exact q _ h (prF_9 c43).symm FW.rf | exact q _ h (prF_n c43).symm FW.rf | exact q _ h (prF_o (by omega) c).symm FW.rf
                    · skip
                      have c43 := List.mem_singleton.mp c43
                      refine s323_110.mpr ((s323_111 kM).mpr ?_)
                      rw [mr_61 hR]
                      refine s323_114.mpr ?_
                      refine (s323_115 (hA.k (by decide) (by decide) rfl) (by first | assumption | omega) (by first | assumption | omega)).mpr ?_
                      refine s323_116.mpr (s323_118.mpr ?_)
                      try simp (disch := first | decide | assumption | omega) only [hh, e51, e56, e89, e90, e91, e92, e93, e94, s91]
                      refine (s323_119).mpr ?_
                      first | exact q _ h (prF_0 c43).symm FW.rf | exact q _ h (prF_1 c43).symm FW.rf | exact q _ h (prF_2 c43).symm FW.rf | exact q _ h (prF_8 c43).symm FW.rf | exact q _ h (prF_9 c43).symm FW.rf | exact q _ h (prF_n c43).symm FW.rf | exact q _ h (prF_o (by omega) c).symm FW.rf
                    · skip
                      have c43 := List.mem_singleton.mp c43
                      refine s323_120.mpr ?_
                      refine s323_121.mpr (wif (fun c121 => ?_) (fun c121 => ?_))
                      · first
                        | (exfalso; omega)
                        | skip
                          refine s323_137.mpr ?_
                          refine (s323_138).mpr ?_
                          first | exact q _ h (prF_0 c43).symm FW.rf | exact q _ h (prF_1 c43).symm FW.rf | exact q _ h (prF_2 c43).symm FW.rf | exact q _ h (prF_8 c43).symm FW.rf | exact q _ h (prF_9 c43).symm FW.rf | exact q _ h (prF_n c43).symm FW.rf | exact q _ h (prF_o (by omega) c).symm FW.rf
                      · first
                        | (exfalso; omega)
                        | skip
                          exact absurd rfl (by assumption)
                    · skip
                      have c43 := List.mem_singleton.mp c43
                      refine s323_139.mpr ?_
                      refine s323_140.mpr (wif (fun c140 => ?_) (fun c140 => ?_))
                      · first
                        | (exfalso; omega)
                        | skip
                          refine s323_156.mpr ?_
                          refine (s323_157).mpr ?_
                          first | exact q _ h (prF_0 c43).symm FW.rf | exact q _ h (prF_1 c43).symm FW.rf | exact q _ h (prF_2 c43).symm FW.rf | exact q _ h (prF_8 c43).symm FW.rf | exact q _ h (prF_9 c43).symm FW.rf | exact q _ h (prF_n c43).symm FW.rf | exact q _ h (prF_o (by omega) c).symm FW.rf
                      · first
                        | (exfalso; omega)
                        | skip
                          exact absurd rfl (by assumption)
                    · skip
                      have c43 := List.mem_singleton.mp c43
                      refine s323_158.mpr ?_
                      refine s323_159.mpr (wif (fun c159 => ?_) (fun c159 => ?_))
                      · first
                        | (exfalso; omega)
                        | skip
                          refine s323_171.mpr ?_
                          refine (s323_172).mpr ?_
                          first | exact q _ h (prF_0 c43).symm FW.rf | exact q _ h (prF_1 c43).symm FW.rf | exact q _ h (prF_2 c43).symm FW.rf | exact q _ h (prF_8 c43).symm FW.rf | exact q _ h (prF_9 c43).symm FW.rf | exact q _ h (prF_n c43).symm FW.rf | exact q _ h (prF_o (by omega) c).symm FW.rf
                      · first
                        | (exfalso; omega)
                        | skip
                          exact absurd rfl (by assumption)
                    · skip
                      have c43 := List.mem_singleton.mp c43
                      refine s323_173.mpr ?_
                      refine s323_174.mpr (wif (fun c174 => ?_) (fun c174 => ?_))
                      · first
                        | (exfalso; omega)
                        | skip
                          refine s323_190.mpr ?_
                          refine (s323_191).mpr ?_
                          first | exact q _ h (prF_0 c43).symm FW.rf | exact q _ h (prF_1 c43).symm FW.rf | exact q _ h (prF_2 c43).symm FW.rf | exact q _ h (prF_8 c43).symm FW.rf | exact q _ h (prF_9 c43).symm FW.rf | exact q _ h (prF_n c43).symm FW.rf | exact q _ h (prF_o (by omega) c).symm FW.rf
                      · first
                        | (exfalso; omega)
                        | skip
                          exact absurd rfl (by assumption)
                    · skip
                      have c43 := List.mem_singleton.mp c43
                      refine s323_192.mpr ?_
                      refine s323_193.mpr (wif (fun c193 => ?_) (fun c193 => ?_))
                      · first
                        | (exfalso; omega)
                        | skip
                          refine s323_204.mpr ?_
                          refine (s323_205).mpr ?_
                          first | exact q _ h (prF_0 c43).symm FW.rf | exact q _ h (prF_1 c43).symm FW.rf | exact q _ h (prF_2 c43).symm FW.rf | exact q _ h (prF_8 c43).symm FW.rf | exact q _ h (prF_9 c43).symm FW.rf | exact q _ h (prF_n c43).symm FW.rf | exact q _ h (prF_o (by omega) c).symm FW.rf
                      · first
                        | (exfalso; omega)
                        | skip
                          exact absurd rfl (by assumption)
                    · skip
                      have c43 := List.mem_singleton.mp c43
                      refine s323_206.mpr ((s323_207 kM).mpr ?_)
                      rw [mr_62 hR]
                      refine s323_210.mpr ?_
                      refine (s323_211 (hA.k (by decide) (by decide) rfl) (by first | assumption | omega) (by first | assumption | omega)).mpr ?_
                      try simp (disch := first | decide | assumption | omega) only [hh, e51, e56, e89, e90, e91, e92, e93, e94, s91]
                      refine (s323_212).mpr ?_
                      first | exact q _ h (prF_0 c43).symm FW.rf | exact q _ h (prF_1 c43).symm FW.rf | exact q _ h (prF_2 c43).symm FW.rf | exact q _ h (prF_8 c43).symm FW.rf | exact q _ h (prF_9 c43).symm FW.rf | exact q _ h (prF_n c43).symm FW.rf | exact q _ h (prF_o (by omega) c).symm FW.rf
                    · skip
                      have c43 := List.mem_singleton.mp c43
                      refine s323_213.mpr ((s323_214 kM).mpr ?_)
                      rw [mr_63 hR]
                      refine s323_217.mpr ?_
                      refine (s323_218 (hA.k (by decide) (by decide) rfl) (by first | assumption | omega) (by first | assumption | omega)).mpr ?_
                      try simp (disch := first | decide | assumption | omega) only [hh, e51, e56, e89, e90, e91, e92, e93, e94, s91]
                      refine (s323_219).mpr ?_
                      first | exact q _ h (prF_0 c43).symm FW.rf | exact q _ h (prF_1 c43).symm FW.rf | exact q _ h (prF_2 c43).symm FW.rf | exact q _ h (prF_8 c43).symm FW.rf | exact q _ h (prF_9 c43).symm FW.rf | exact q _ h (prF_n c43).symm FW.rf | exact q _ h (prF_o (by omega) c).symm FW.rf
                    · skip
                      refine s323_220.mpr ?_
                      refine (s323_221).mpr ?_
                      first | exact q _ h (prF_0 c43).symm FW.rf | exact q _ h (prF_1 c43).symm FW.rf | exact q _ h (prF_2 c43).symm FW.rf | exact q _ h (prF_8 c43).symm FW.rf | exact q _ h (prF_9 c43).symm FW.rf | exact q _ h (prF_n c43).symm FW.rf | exact q _ h (prF_o (by omega) c).symm FW.rf
            · first
              | (exfalso; omega)
              | skip
                exfalso; omega
/-- value's place and answer -/
def vaP (s : HI) (p w i : Int) : Int := if w = 0 then sk s p i else 26 * ai s p + i
def vaF (s : HI) (p w i : Int) : Int := if s 99 (vaP s p w i) = 1 then (if 0 < s 98 (vaP s p w i) then 1 else 0) else s 98 (vaP s p w i)
def VaO (T : TXs) (s : HI) (p w i : Int) : Prop := (0 ≤ p ∧ p < s 49 56) ∧ s 89 p < 4 ∧ (w = 0 ∨ w = 1) ∧ 0 ≤ i ∧ (w = 0 → i < hg s p) ∧ (w = 1 → i < nLoc (T (s 91 p)) (s 95 (ai s p)))
set_option maxRecDepth 8000 in
theorem r_value (hA : SA al) (hR : MR hr) (hd : 12 ≤ d) (hE : RelR hi s) (hb : hi 49 51 = 0 ∨ hi 49 51 = 1) (hI : hi 49 51 = 1 → INV T s)
    (q : ∀ v, (hi 49 51 = 1 ∧ VaO T s p w i → v = vaF s p w i) → (¬ (hi 49 51 = 1 ∧ VaO T s p w i) → v = -2147483648) → Q (some (some (vI v))) al (upI hi 49 0 0) hr) : Ev d 324 [vR (some 49), vI p, vI w, vI i] al hi hr Q := by
  have kM : isK al 49 13 := hA.k (by decide) (by decide) rfl
  have l89 := SA.len (a := 89) (n := 12) hA (by decide) (by decide) rfl
  have l97 := SA.len (a := 97) (n := 192) hA (by decide) (by decide) rfl
  have l67 := SA.len (a := 67) (n := 130) hA (by decide) (by decide) rfl
  have l99 := SA.len (a := 99) (n := 4992) hA (by decide) (by decide) rfl
  have l98 := SA.len (a := 98) (n := 4992) hA (by decide) (by decide) rfl
  obtain ⟨h, hh⟩ : ∃ h, upI hi 49 0 0 = h := ⟨_, rfl⟩
  have e51 : h 49 51 = hi 49 51 := by rw [← hh]; exact upI_i (by decide)
  have hE1 : RelR h s := by rw [← hh]; exact hE.y (by omega)
  have H := Sm.rf hE1.1
  have e56 : h 49 56 = s 49 56 := H.e49 (by omega)
  rw [hh] at q
  rw [e324]
  by_cases cb : hi 49 51 = 1 ∧ 0 ≤ p ∧ p < s 49 56
  case neg =>
    have E0 := q (-2147483648) (fun z => absurd ⟨z.1, z.2.1⟩ cb) (fun _ => rfl)
    refine s324_0.mpr (s324_1.mpr ?_)
    refine (s324_2 kM).mpr ?_
    refine s324_5.mpr (s324_8.mpr (s324_10.mpr ?_))
    try simp (disch := first | decide | assumption | omega) only [hh, e51, e56]
    refine (s324_11 kM).mpr ?_
    try simp (disch := first | decide | assumption | omega) only [hh, e51, e56]
    refine s324_14.mpr (wif (fun c14 => ?_) (fun c14 => ?_))
    · skip
      refine s324_52.mpr ?_
      refine (s324_54).mpr ?_
      exact E0
    · skip
      refine s324_17.mpr ?_
      refine s324_18.mpr (wif (fun c18 => ?_) (fun c18 => ?_))
      · skip
        refine s324_52.mpr ?_
        refine (s324_54).mpr ?_
        exact E0
      · skip
        refine s324_21.mpr (s324_22.mpr ?_)
        refine (s324_23 kM).mpr ?_
        try simp (disch := first | decide | assumption | omega) only [hh, e51, e56]
        refine s324_26.mpr (wif (fun c26 => ?_) (fun c26 => ?_))
        · skip
          exfalso; omega
        · skip
          refine s324_52.mpr ?_
          refine (s324_54).mpr ?_
          exact E0
  obtain ⟨cb1, p0, p56⟩ := cb
  have hI := hI cb1
  have g5 := hI.2.1.2.2.2.2.1
  have p1 : p < 12 := by omega
  have e89 : h 89 p = s 89 p := H.e (by omega)
  by_cases c : s 89 p < 4 ∧ (w = 0 ∨ w = 1) ∧ 0 ≤ i
  case neg =>
    have E0 := q (-2147483648) (fun z => absurd ⟨z.2.2.1, z.2.2.2.1, z.2.2.2.2.1⟩ c) (fun _ => rfl)
    refine s324_0.mpr (s324_1.mpr ?_)
    refine (s324_2 kM).mpr ?_
    refine s324_5.mpr (s324_8.mpr (s324_10.mpr ?_))
    try simp (disch := first | decide | assumption | omega) only [hh, e51, e56, e89]
    refine (s324_11 kM).mpr ?_
    try simp (disch := first | decide | assumption | omega) only [hh, e51, e56, e89]
    refine s324_14.mpr (wif (fun c14 => ?_) (fun c14 => ?_))
    · first
      | (exfalso; omega)
      | skip
        refine s324_52.mpr ?_
        refine (s324_54).mpr ?_
        exact E0
    · first
      | (exfalso; omega)
      | skip
        refine s324_17.mpr ?_
        refine s324_18.mpr (wif (fun c18 => ?_) (fun c18 => ?_))
        · first
          | (exfalso; omega)
          | skip
            refine s324_52.mpr ?_
            refine (s324_54).mpr ?_
            exact E0
        · first
          | (exfalso; omega)
          | skip
            refine s324_21.mpr (s324_22.mpr ?_)
            refine (s324_23 kM).mpr ?_
            try simp (disch := first | decide | assumption | omega) only [hh, e51, e56, e89]
            refine s324_26.mpr (wif (fun c26 => ?_) (fun c26 => ?_))
            · first
              | (exfalso; omega)
              | skip
                refine s324_29.mpr ((s324_30 kM).mpr ?_)
                rw [mr_59 hR]
                refine s324_33.mpr ?_
                refine (s324_34 (hA.k (by decide) (by decide) rfl) (by first | assumption | omega) (by first | assumption | omega)).mpr ?_
                refine s324_35.mpr ?_
                try simp (disch := first | decide | assumption | omega) only [hh, e51, e56, e89]
                refine s324_36.mpr (wif (fun c36 => ?_) (fun c36 => ?_))
                · first
                  | (exfalso; omega)
                  | skip
                    refine s324_39.mpr ?_
                    refine s324_40.mpr (wif (fun c40 => ?_) (fun c40 => ?_))
                    · first
                      | (exfalso; omega)
                      | skip
                        refine s324_48.mpr ?_
                        refine s324_49.mpr (wif (fun c49 => ?_) (fun c49 => ?_))
                        · first
                          | (exfalso; omega)
                          | skip
                            refine s324_52.mpr ?_
                            refine (s324_54).mpr ?_
                            exact E0
                        · first
                          | (exfalso; omega)
                          | skip
                            exfalso; omega
                    · first
                      | (exfalso; omega)
                      | skip
                        refine s324_43.mpr (s324_44.mpr ?_)
                        refine s324_45.mpr (wif (fun c45 => ?_) (fun c45 => ?_))
                        · first
                          | (exfalso; omega)
                          | skip
                            refine s324_48.mpr ?_
                            refine s324_49.mpr (wif (fun c49 => ?_) (fun c49 => ?_))
                            · first
                              | (exfalso; omega)
                              | skip
                                refine s324_52.mpr ?_
                                refine (s324_54).mpr ?_
                                exact E0
                            · first
                              | (exfalso; omega)
                              | skip
                                exfalso; omega
                        · first
                          | (exfalso; omega)
                          | skip
                            refine s324_52.mpr ?_
                            refine (s324_54).mpr ?_
                            exact E0
                · first
                  | (exfalso; omega)
                  | skip
                    refine s324_52.mpr ?_
                    refine (s324_54).mpr ?_
                    exact E0
            · first
              | (exfalso; omega)
              | skip
                refine s324_52.mpr ?_
                refine (s324_54).mpr ?_
                exact E0
  obtain ⟨c1, c2, i0⟩ := c
  obtain ⟨m, f, X, x, fl, L, ⟨l1, l2, l3, l4, l5, l6, l7, l8, l9, l10, l11, l12, l13⟩, -⟩ := lkp_of hI ⟨p0, p1⟩ c1
  have hS := L.1.mg.2.1.2.1
  have f0 := L.1.2.2.2.2.1.1
  have hMD := L.1.mg.2.1.1.2.2.2.2
  have n10 : nLoc (T m) f ≤ 10 := (hS.2.2.2.2.2.2.2.2.2.2 f f0.1 f0.2).2.2.2.2.2.2.2.2.1
  obtain ⟨d1, d2, d3, d4, d5, d6⟩ := hMD.2.2.2.2.2 f f0.1 f0.2
  have d4 : s 67 (10 * m + f) = nLoc (T m) f := d4
  have hh9 := L.1.2.hg_
  have hX := L.1.2.2.2.2.2.1
  have ea : ai h p = ai s p := H.ai_
  have hap : AP h p := l1.n (H.e (by omega))
  have hab := hap.b
  rw [ea] at hab
  have k67 : isK al 67 15 := hA.k (by decide) (by decide) rfl
  have l67 : aln al 67 = 130 := hA.len (by decide) (by decide) rfl
  have k97 : isK al 97 15 := hA.k (by decide) (by decide) rfl
  have l97 : aln al 97 = 192 := hA.len (by decide) (by decide) rfl
  have ACT : ∀ Q' : QQ, Q' (some (some (vI (ai s p)))) al h hr → Ev (d - 1) 282 [vR (some 49), vI p] al h hr Q' := fun Q' z => r_act hA hR hap (by rw [ea]; exact z)
  have FUN : ∀ Q' : QQ, Q' (some (some (vI (10 * m + f)))) al h hr → Ev (d - 1) 301 [vR (some 49), vI p] al h hr Q' := fun Q' z => r_function hA hR (by omega) hap ((H.e (by omega)).trans l2) (by rw [ea]; exact (H.e (by omega)).trans l4) l3 l5 z
  have x97 : h 97 (ai s p) = hg s p := H.e (by omega)
  have x67 : h 67 (10 * m + f) = nLoc (T m) f := (H.e (by omega)).trans d4
  have eV : VaO T s p w i ↔ (w = 0 → i < hg s p) ∧ (w = 1 → i < nLoc (T m) f) := by
    unfold VaO
    rw [l2, l4]
    exact ⟨fun z => z.2.2.2.2, fun z => ⟨⟨p0, p56⟩, c1, c2, i0, z⟩⟩
  have T114 : (w = 0 → i < hg s p) → (w = 1 → i < nLoc (T m) f) → Wp d 324 114 [vR (some 49), vI p, vI w, vI i, vI (-2147483648), vI (vaP s p w i)] [] al h hr Q := by
    intro z0 z1
    have x99 : ∀ i, h 99 i = s 99 i := fun i => H.e (by omega)
    have x98 : ∀ i, h 98 i = s 98 i := fun i => H.e (by omega)
    have E := fun v e => q v (fun _ => e) (fun z => absurd ⟨cb1, eV.mpr ⟨z0, z1⟩⟩ z)
    have bb : 0 ≤ vaP s p w i ∧ vaP s p w i < 4992 := by
      unfold vaP sk
      rcases c2 with z | z
      · rw [if_pos z]; have := z0 z; omega
      · rw [if_neg (by omega)]; have := z1 z; omega
    unfold vaF at E
    obtain ⟨y, hy⟩ : ∃ y, vaP s p w i = y := ⟨_, rfl⟩
    rw [hy] at E bb
    rw [hy]
    by_cases k1 : s 99 y = 1
    · rw [if_pos k1] at E
      by_cases k2 : 0 < s 98 y
      · rw [if_pos k2] at E
        have E0 := E 1 rfl
        refine s324_114.mpr ((s324_115 kM).mpr ?_)
        rw [mr_69 hR]
        refine s324_118.mpr ?_
        refine (s324_120 (hA.k (by decide) (by decide) rfl) (by first | assumption | omega) (by first | assumption | omega)).mpr ?_
        refine s324_121.mpr ?_
        try simp (disch := first | decide | assumption | omega) only [x98, x99, k1]
        refine s324_122.mpr (wif (fun c122 => ?_) (fun c122 => ?_))
        · first
          | (exfalso; omega)
          | skip
            refine s324_125.mpr ((s324_126 kM).mpr ?_)
            rw [mr_68 hR]
            refine s324_129.mpr ?_
            refine (s324_131 (hA.k (by decide) (by decide) rfl) (by first | assumption | omega) (by first | assumption | omega)).mpr ?_
            try simp (disch := first | decide | assumption | omega) only [x98, x99, k1]
            refine s324_132.mpr (wif (fun c132 => ?_) (fun c132 => ?_))
            · first
              | (exfalso; omega)
              | skip
                refine s324_135.mpr (s324_136.mpr ?_)
                refine (s324_150).mpr ?_
                exact E0
            · first
              | (exfalso; omega)
              | skip
                exfalso; omega
        · first
          | (exfalso; omega)
          | skip
            exact absurd rfl (by assumption)
      · rw [if_neg k2] at E
        have E0 := E 0 rfl
        refine s324_114.mpr ((s324_115 kM).mpr ?_)
        rw [mr_69 hR]
        refine s324_118.mpr ?_
        refine (s324_120 (hA.k (by decide) (by decide) rfl) (by first | assumption | omega) (by first | assumption | omega)).mpr ?_
        refine s324_121.mpr ?_
        try simp (disch := first | decide | assumption | omega) only [x98, x99, k1]
        refine s324_122.mpr (wif (fun c122 => ?_) (fun c122 => ?_))
        · first
          | (exfalso; omega)
          | skip
            refine s324_125.mpr ((s324_126 kM).mpr ?_)
            rw [mr_68 hR]
            refine s324_129.mpr ?_
            refine (s324_131 (hA.k (by decide) (by decide) rfl) (by first | assumption | omega) (by first | assumption | omega)).mpr ?_
            try simp (disch := first | decide | assumption | omega) only [x98, x99, k1]
            refine s324_132.mpr (wif (fun c132 => ?_) (fun c132 => ?_))
            · first
              | (exfalso; omega)
              | skip
                exfalso; omega
            · first
              | (exfalso; omega)
              | skip
                refine s324_139.mpr (s324_140.mpr ?_)
                refine (s324_150).mpr ?_
                exact E0
        · first
          | (exfalso; omega)
          | skip
            exact absurd rfl (by assumption)
    · rw [if_neg k1] at E
      have E0 := E _ rfl
      refine s324_114.mpr ((s324_115 kM).mpr ?_)
      rw [mr_69 hR]
      refine s324_118.mpr ?_
      refine (s324_120 (hA.k (by decide) (by decide) rfl) (by first | assumption | omega) (by first | assumption | omega)).mpr ?_
      refine s324_121.mpr ?_
      try simp (disch := first | decide | assumption | omega) only [x98, x99]
      refine s324_122.mpr (wif (fun c122 => ?_) (fun c122 => ?_))
      · first
        | (exfalso; omega)
        | skip
          exact absurd (by assumption) k1
      · first
        | (exfalso; omega)
        | skip
          refine s324_143.mpr ((s324_144 kM).mpr ?_)
          rw [mr_68 hR]
          refine s324_147.mpr ?_
          refine (s324_149 (hA.k (by decide) (by decide) rfl) (by first | assumption | omega) (by first | assumption | omega)).mpr ?_
          try simp (disch := first | decide | assumption | omega) only [x98, x99]
          refine (s324_150).mpr ?_
          exact E0
  rcases c2 with z | z
  · by_cases k : i < hg s p
    · have E := T114 (fun _ => k) (fun y => by omega)
      have eP : vaP s p w i = sk s p i := if_pos z
      rw [eP] at E
      have STK : ∀ Q' : QQ, Q' (some (some (vI (sk s p i)))) al h hr → Ev (d - 1) 284 [vR (some 49), vI p, vI i] al h hr Q' := fun Q' y => r_stack hA hR (by omega) hap (by omega) (by rw [show sk h p i = sk s p i by unfold sk; rw [ea]]; exact y)
      refine s324_0.mpr (s324_1.mpr ?_)
      refine (s324_2 kM).mpr ?_
      refine s324_5.mpr (s324_8.mpr (s324_10.mpr ?_))
      try simp (disch := first | decide | assumption | omega) only [hh, e51, e56, e89]
      refine (s324_11 kM).mpr ?_
      try simp (disch := first | decide | assumption | omega) only [hh, e51, e56, e89]
      refine s324_14.mpr (wif (fun c14 => ?_) (fun c14 => ?_))
      · first
        | (exfalso; omega)
        | skip
          exfalso; omega
      · first
        | (exfalso; omega)
        | skip
          refine s324_17.mpr ?_
          refine s324_18.mpr (wif (fun c18 => ?_) (fun c18 => ?_))
          · first
            | (exfalso; omega)
            | skip
              exfalso; omega
          · first
            | (exfalso; omega)
            | skip
              refine s324_21.mpr (s324_22.mpr ?_)
              refine (s324_23 kM).mpr ?_
              try simp (disch := first | decide | assumption | omega) only [hh, e51, e56, e89]
              refine s324_26.mpr (wif (fun c26 => ?_) (fun c26 => ?_))
              · first
                | (exfalso; omega)
                | skip
                  refine s324_29.mpr ((s324_30 kM).mpr ?_)
                  rw [mr_59 hR]
                  refine s324_33.mpr ?_
                  refine (s324_34 (hA.k (by decide) (by decide) rfl) (by first | assumption | omega) (by first | assumption | omega)).mpr ?_
                  refine s324_35.mpr ?_
                  try simp (disch := first | decide | assumption | omega) only [hh, e51, e56, e89]
                  refine s324_36.mpr (wif (fun c36 => ?_) (fun c36 => ?_))
                  · first
                    | (exfalso; omega)
                    | skip
                      refine s324_39.mpr ?_
                      refine s324_40.mpr (wif (fun c40 => ?_) (fun c40 => ?_))
                      · first
                        | (exfalso; omega)
                        | skip
                          refine s324_48.mpr ?_
                          refine s324_49.mpr (wif (fun c49 => ?_) (fun c49 => ?_))
                          · first
                            | (exfalso; omega)
                            | skip
                              exfalso; omega
                          · first
                            | (exfalso; omega)
                            | skip
                              refine s324_55.mpr (s324_56.mpr ?_)
                              refine s324_57.mpr (wif (fun c57 => ?_) (fun c57 => ?_))
                              · first
                                | (exfalso; omega)
                                | skip
                                  refine s324_60.mpr ((s324_61 kM).mpr ?_)
                                  rw [mr_67 hR]
                                  refine s324_64.mpr (s324_65.mpr ?_)
                                  refine (s324_66 (by omega) kM).mpr ?_
                                  refine ACT _ ?_
                                  simp only [kon, knt_some, knt_none, Option.toList_some, Option.toList_none, List.cons_append, List.nil_append, x97]
                                  refine (s324_69 (hA.k (by decide) (by decide) rfl) (by first | assumption | omega) (by first | assumption | omega)).mpr ?_
                                  refine s324_70.mpr ?_
                                  try simp (disch := first | decide | assumption | omega) only [hh, e51, e56, e89]
                                  refine s324_83.mpr (wif (fun c83 => ?_) (fun c83 => ?_))
                                  · first
                                    | (exfalso; omega)
                                    | skip
                                      refine s324_89.mpr ?_
                                      refine s324_90.mpr (wif (fun c90 => ?_) (fun c90 => ?_))
                                      · first
                                        | (exfalso; omega)
                                        | skip
                                          refine s324_93.mpr (s324_94.mpr (s324_95.mpr ?_))
                                          refine (s324_96 (by omega) kM).mpr ?_
                                          refine STK _ ?_
                                          simp only [kon, knt_some, knt_none, Option.toList_some, Option.toList_none, List.cons_append, List.nil_append]
                                          refine s324_99.mpr (s324_112.mpr ?_)
                                          exact E
                                      · first
                                        | (exfalso; omega)
                                        | skip
                                          refine s324_102.mpr (s324_104.mpr (s324_105.mpr ?_))
                                          refine (s324_106 (by omega) kM).mpr ?_
                                          refine ACT _ ?_
                                          simp only [kon, knt_some, knt_none, Option.toList_some, Option.toList_none, List.cons_append, List.nil_append, x97]
                                          refine s324_109.mpr (s324_110.mpr (s324_111.mpr (s324_112.mpr ?_)))
                                          try simp (disch := first | decide | assumption | omega) only [hh, e51, e56, e89]
                                          exact E
                                  · first
                                    | (exfalso; omega)
                                    | skip
                                      exfalso; omega
                              · first
                                | (exfalso; omega)
                                | skip
                                  refine s324_73.mpr ((s324_74 kM).mpr ?_)
                                  rw [mr_19 hR]
                                  refine s324_77.mpr (s324_78.mpr ?_)
                                  refine (s324_79 (by omega) kM).mpr ?_
                                  exfalso; omega
                      · first
                        | (exfalso; omega)
                        | skip
                          refine s324_43.mpr (s324_44.mpr ?_)
                          refine s324_45.mpr (wif (fun c45 => ?_) (fun c45 => ?_))
                          · first
                            | (exfalso; omega)
                            | skip
                              refine s324_48.mpr ?_
                              refine s324_49.mpr (wif (fun c49 => ?_) (fun c49 => ?_))
                              · first
                                | (exfalso; omega)
                                | skip
                                  exfalso; omega
                              · first
                                | (exfalso; omega)
                                | skip
                                  refine s324_55.mpr (s324_56.mpr ?_)
                                  refine s324_57.mpr (wif (fun c57 => ?_) (fun c57 => ?_))
                                  · first
                                    | (exfalso; omega)
                                    | skip
                                      refine s324_60.mpr ((s324_61 kM).mpr ?_)
                                      rw [mr_67 hR]
                                      refine s324_64.mpr (s324_65.mpr ?_)
                                      refine (s324_66 (by omega) kM).mpr ?_
                                      refine ACT _ ?_
                                      simp only [kon, knt_some, knt_none, Option.toList_some, Option.toList_none, List.cons_append, List.nil_append, x97]
                                      refine (s324_69 (hA.k (by decide) (by decide) rfl) (by first | assumption | omega) (by first | assumption | omega)).mpr ?_
                                      refine s324_70.mpr ?_
                                      try simp (disch := first | decide | assumption | omega) only [hh, e51, e56, e89]
                                      refine s324_83.mpr (wif (fun c83 => ?_) (fun c83 => ?_))
                                      · first
                                        | (exfalso; omega)
                                        | skip
                                          refine s324_89.mpr ?_
                                          refine s324_90.mpr (wif (fun c90 => ?_) (fun c90 => ?_))
                                          · first
                                            | (exfalso; omega)
                                            | skip
                                              refine s324_93.mpr (s324_94.mpr (s324_95.mpr ?_))
                                              refine (s324_96 (by omega) kM).mpr ?_
                                              refine STK _ ?_
                                              simp only [kon, knt_some, knt_none, Option.toList_some, Option.toList_none, List.cons_append, List.nil_append]
                                              refine s324_99.mpr (s324_112.mpr ?_)
                                              exact E
                                          · first
                                            | (exfalso; omega)
                                            | skip
                                              refine s324_102.mpr (s324_104.mpr (s324_105.mpr ?_))
                                              refine (s324_106 (by omega) kM).mpr ?_
                                              refine ACT _ ?_
                                              simp only [kon, knt_some, knt_none, Option.toList_some, Option.toList_none, List.cons_append, List.nil_append, x97]
                                              refine s324_109.mpr (s324_110.mpr (s324_111.mpr (s324_112.mpr ?_)))
                                              try simp (disch := first | decide | assumption | omega) only [hh, e51, e56, e89]
                                              exact E
                                      · first
                                        | (exfalso; omega)
                                        | skip
                                          exfalso; omega
                                  · first
                                    | (exfalso; omega)
                                    | skip
                                      refine s324_73.mpr ((s324_74 kM).mpr ?_)
                                      rw [mr_19 hR]
                                      refine s324_77.mpr (s324_78.mpr ?_)
                                      refine (s324_79 (by omega) kM).mpr ?_
                                      exfalso; omega
                          · first
                            | (exfalso; omega)
                            | skip
                              exfalso; omega
                  · first
                    | (exfalso; omega)
                    | skip
                      exfalso; omega
              · first
                | (exfalso; omega)
                | skip
                  exfalso; omega
    · have E0 := q (-2147483648) (fun y => absurd ((eV.mp y.2).1 z) k) (fun _ => rfl)
      refine s324_0.mpr (s324_1.mpr ?_)
      refine (s324_2 kM).mpr ?_
      refine s324_5.mpr (s324_8.mpr (s324_10.mpr ?_))
      try simp (disch := first | decide | assumption | omega) only [hh, e51, e56, e89]
      refine (s324_11 kM).mpr ?_
      try simp (disch := first | decide | assumption | omega) only [hh, e51, e56, e89]
      refine s324_14.mpr (wif (fun c14 => ?_) (fun c14 => ?_))
      · first
        | (exfalso; omega)
        | skip
          exfalso; omega
      · first
        | (exfalso; omega)
        | skip
          refine s324_17.mpr ?_
          refine s324_18.mpr (wif (fun c18 => ?_) (fun c18 => ?_))
          · first
            | (exfalso; omega)
            | skip
              exfalso; omega
          · first
            | (exfalso; omega)
            | skip
              refine s324_21.mpr (s324_22.mpr ?_)
              refine (s324_23 kM).mpr ?_
              try simp (disch := first | decide | assumption | omega) only [hh, e51, e56, e89]
              refine s324_26.mpr (wif (fun c26 => ?_) (fun c26 => ?_))
              · first
                | (exfalso; omega)
                | skip
                  refine s324_29.mpr ((s324_30 kM).mpr ?_)
                  rw [mr_59 hR]
                  refine s324_33.mpr ?_
                  refine (s324_34 (hA.k (by decide) (by decide) rfl) (by first | assumption | omega) (by first | assumption | omega)).mpr ?_
                  refine s324_35.mpr ?_
                  try simp (disch := first | decide | assumption | omega) only [hh, e51, e56, e89]
                  refine s324_36.mpr (wif (fun c36 => ?_) (fun c36 => ?_))
                  · first
                    | (exfalso; omega)
                    | skip
                      refine s324_39.mpr ?_
                      refine s324_40.mpr (wif (fun c40 => ?_) (fun c40 => ?_))
                      · first
                        | (exfalso; omega)
                        | skip
                          refine s324_48.mpr ?_
                          refine s324_49.mpr (wif (fun c49 => ?_) (fun c49 => ?_))
                          · first
                            | (exfalso; omega)
                            | skip
                              exfalso; omega
                          · first
                            | (exfalso; omega)
                            | skip
                              refine s324_55.mpr (s324_56.mpr ?_)
                              refine s324_57.mpr (wif (fun c57 => ?_) (fun c57 => ?_))
                              · first
                                | (exfalso; omega)
                                | skip
                                  refine s324_60.mpr ((s324_61 kM).mpr ?_)
                                  rw [mr_67 hR]
                                  refine s324_64.mpr (s324_65.mpr ?_)
                                  refine (s324_66 (by omega) kM).mpr ?_
                                  refine ACT _ ?_
                                  simp only [kon, knt_some, knt_none, Option.toList_some, Option.toList_none, List.cons_append, List.nil_append, x97]
                                  refine (s324_69 (hA.k (by decide) (by decide) rfl) (by first | assumption | omega) (by first | assumption | omega)).mpr ?_
                                  refine s324_70.mpr ?_
                                  try simp (disch := first | decide | assumption | omega) only [hh, e51, e56, e89]
                                  refine s324_83.mpr (wif (fun c83 => ?_) (fun c83 => ?_))
                                  · first
                                    | (exfalso; omega)
                                    | skip
                                      exfalso; omega
                                  · first
                                    | (exfalso; omega)
                                    | skip
                                      refine s324_86.mpr ?_
                                      refine (s324_88).mpr ?_
                                      exact E0
                              · first
                                | (exfalso; omega)
                                | skip
                                  refine s324_73.mpr ((s324_74 kM).mpr ?_)
                                  rw [mr_19 hR]
                                  refine s324_77.mpr (s324_78.mpr ?_)
                                  refine (s324_79 (by omega) kM).mpr ?_
                                  exfalso; omega
                      · first
                        | (exfalso; omega)
                        | skip
                          refine s324_43.mpr (s324_44.mpr ?_)
                          refine s324_45.mpr (wif (fun c45 => ?_) (fun c45 => ?_))
                          · first
                            | (exfalso; omega)
                            | skip
                              refine s324_48.mpr ?_
                              refine s324_49.mpr (wif (fun c49 => ?_) (fun c49 => ?_))
                              · first
                                | (exfalso; omega)
                                | skip
                                  exfalso; omega
                              · first
                                | (exfalso; omega)
                                | skip
                                  refine s324_55.mpr (s324_56.mpr ?_)
                                  refine s324_57.mpr (wif (fun c57 => ?_) (fun c57 => ?_))
                                  · first
                                    | (exfalso; omega)
                                    | skip
                                      refine s324_60.mpr ((s324_61 kM).mpr ?_)
                                      rw [mr_67 hR]
                                      refine s324_64.mpr (s324_65.mpr ?_)
                                      refine (s324_66 (by omega) kM).mpr ?_
                                      refine ACT _ ?_
                                      simp only [kon, knt_some, knt_none, Option.toList_some, Option.toList_none, List.cons_append, List.nil_append, x97]
                                      refine (s324_69 (hA.k (by decide) (by decide) rfl) (by first | assumption | omega) (by first | assumption | omega)).mpr ?_
                                      refine s324_70.mpr ?_
                                      try simp (disch := first | decide | assumption | omega) only [hh, e51, e56, e89]
                                      refine s324_83.mpr (wif (fun c83 => ?_) (fun c83 => ?_))
                                      · first
                                        | (exfalso; omega)
                                        | skip
                                          exfalso; omega
                                      · first
                                        | (exfalso; omega)
                                        | skip
                                          refine s324_86.mpr ?_
                                          refine (s324_88).mpr ?_
                                          exact E0
                                  · first
                                    | (exfalso; omega)
                                    | skip
                                      refine s324_73.mpr ((s324_74 kM).mpr ?_)
                                      rw [mr_19 hR]
                                      refine s324_77.mpr (s324_78.mpr ?_)
                                      refine (s324_79 (by omega) kM).mpr ?_
                                      exfalso; omega
                          · first
                            | (exfalso; omega)
                            | skip
                              exfalso; omega
                  · first
                    | (exfalso; omega)
                    | skip
                      exfalso; omega
              · first
                | (exfalso; omega)
                | skip
                  exfalso; omega
  · by_cases k : i < nLoc (T m) f
    · have E := T114 (fun y => by omega) (fun _ => k)
      have eP : vaP s p w i = 26 * ai s p + i := if_neg (by omega)
      rw [eP] at E
      have ev : fAdd (fMul 26 (ai s p)) i = 26 * ai s p + i := by rw [fMul_id (by omega) (by omega), fAdd_id (by omega) (by omega)]
      refine s324_0.mpr (s324_1.mpr ?_)
      refine (s324_2 kM).mpr ?_
      refine s324_5.mpr (s324_8.mpr (s324_10.mpr ?_))
      try simp (disch := first | decide | assumption | omega) only [hh, e51, e56, e89, ev]
      refine (s324_11 kM).mpr ?_
      try simp (disch := first | decide | assumption | omega) only [hh, e51, e56, e89, ev]
      refine s324_14.mpr (wif (fun c14 => ?_) (fun c14 => ?_))
      · first
        | (exfalso; omega)
        | skip
          exfalso; omega
      · first
        | (exfalso; omega)
        | skip
          refine s324_17.mpr ?_
          refine s324_18.mpr (wif (fun c18 => ?_) (fun c18 => ?_))
          · first
            | (exfalso; omega)
            | skip
              exfalso; omega
          · first
            | (exfalso; omega)
            | skip
              refine s324_21.mpr (s324_22.mpr ?_)
              refine (s324_23 kM).mpr ?_
              try simp (disch := first | decide | assumption | omega) only [hh, e51, e56, e89, ev]
              refine s324_26.mpr (wif (fun c26 => ?_) (fun c26 => ?_))
              · first
                | (exfalso; omega)
                | skip
                  refine s324_29.mpr ((s324_30 kM).mpr ?_)
                  rw [mr_59 hR]
                  refine s324_33.mpr ?_
                  refine (s324_34 (hA.k (by decide) (by decide) rfl) (by first | assumption | omega) (by first | assumption | omega)).mpr ?_
                  refine s324_35.mpr ?_
                  try simp (disch := first | decide | assumption | omega) only [hh, e51, e56, e89, ev]
                  refine s324_36.mpr (wif (fun c36 => ?_) (fun c36 => ?_))
                  · first
                    | (exfalso; omega)
                    | skip
                      refine s324_39.mpr ?_
                      refine s324_40.mpr (wif (fun c40 => ?_) (fun c40 => ?_))
                      · first
                        | (exfalso; omega)
                        | skip
                          refine s324_48.mpr ?_
                          refine s324_49.mpr (wif (fun c49 => ?_) (fun c49 => ?_))
                          · first
                            | (exfalso; omega)
                            | skip
                              exfalso; omega
                          · first
                            | (exfalso; omega)
                            | skip
                              refine s324_55.mpr (s324_56.mpr ?_)
                              refine s324_57.mpr (wif (fun c57 => ?_) (fun c57 => ?_))
                              · first
                                | (exfalso; omega)
                                | skip
                                  refine s324_60.mpr ((s324_61 kM).mpr ?_)
                                  rw [mr_67 hR]
                                  refine s324_64.mpr (s324_65.mpr ?_)
                                  refine (s324_66 (by omega) kM).mpr ?_
                                  refine ACT _ ?_
                                  simp only [kon, knt_some, knt_none, Option.toList_some, Option.toList_none, List.cons_append, List.nil_append, ev]
                                  refine (s324_69 (hA.k (by decide) (by decide) rfl) (by first | assumption | omega) (by first | assumption | omega)).mpr ?_
                                  refine s324_70.mpr ?_
                                  try simp (disch := first | decide | assumption | omega) only [hh, e51, e56, e89, ev]
                                  refine s324_83.mpr (wif (fun c83 => ?_) (fun c83 => ?_))
                                  · first
                                    | (exfalso; omega)
                                    | skip
                                      refine s324_89.mpr ?_
                                      refine s324_90.mpr (wif (fun c90 => ?_) (fun c90 => ?_))
                                      · first
                                        | (exfalso; omega)
                                        | skip
                                          refine s324_93.mpr (s324_94.mpr (s324_95.mpr ?_))
                                          refine (s324_96 (by omega) kM).mpr ?_
                                          exfalso; omega
                                      · first
                                        | (exfalso; omega)
                                        | skip
                                          refine s324_102.mpr (s324_104.mpr (s324_105.mpr ?_))
                                          refine (s324_106 (by omega) kM).mpr ?_
                                          refine ACT _ ?_
                                          simp only [kon, knt_some, knt_none, Option.toList_some, Option.toList_none, List.cons_append, List.nil_append, ev]
                                          refine s324_109.mpr (s324_110.mpr (s324_111.mpr (s324_112.mpr ?_)))
                                          try simp (disch := first | decide | assumption | omega) only [hh, e51, e56, e89, ev]
                                          exact E
                                  · first
                                    | (exfalso; omega)
                                    | skip
                                      exfalso; omega
                              · first
                                | (exfalso; omega)
                                | skip
                                  refine s324_73.mpr ((s324_74 kM).mpr ?_)
                                  rw [mr_19 hR]
                                  refine s324_77.mpr (s324_78.mpr ?_)
                                  refine (s324_79 (by omega) kM).mpr ?_
                                  refine FUN _ ?_
                                  simp only [kon, knt_some, knt_none, Option.toList_some, Option.toList_none, List.cons_append, List.nil_append, x67]
                                  refine (s324_82 (hA.k (by decide) (by decide) rfl) (by first | assumption | omega) (by first | assumption | omega)).mpr ?_
                                  try simp (disch := first | decide | assumption | omega) only [hh, e51, e56, e89, ev]
                                  refine s324_83.mpr (wif (fun c83 => ?_) (fun c83 => ?_))
                                  · first
                                    | (exfalso; omega)
                                    | skip
                                      refine s324_89.mpr ?_
                                      refine s324_90.mpr (wif (fun c90 => ?_) (fun c90 => ?_))
                                      · first
                                        | (exfalso; omega)
                                        | skip
                                          refine s324_93.mpr (s324_94.mpr (s324_95.mpr ?_))
                                          refine (s324_96 (by omega) kM).mpr ?_
                                          exfalso; omega
                                      · first
                                        | (exfalso; omega)
                                        | skip
                                          refine s324_102.mpr (s324_104.mpr (s324_105.mpr ?_))
                                          refine (s324_106 (by omega) kM).mpr ?_
                                          refine ACT _ ?_
                                          simp only [kon, knt_some, knt_none, Option.toList_some, Option.toList_none, List.cons_append, List.nil_append, ev]
                                          refine s324_109.mpr (s324_110.mpr (s324_111.mpr (s324_112.mpr ?_)))
                                          try simp (disch := first | decide | assumption | omega) only [hh, e51, e56, e89, ev]
                                          exact E
                                  · first
                                    | (exfalso; omega)
                                    | skip
                                      exfalso; omega
                      · first
                        | (exfalso; omega)
                        | skip
                          refine s324_43.mpr (s324_44.mpr ?_)
                          refine s324_45.mpr (wif (fun c45 => ?_) (fun c45 => ?_))
                          · first
                            | (exfalso; omega)
                            | skip
                              refine s324_48.mpr ?_
                              refine s324_49.mpr (wif (fun c49 => ?_) (fun c49 => ?_))
                              · first
                                | (exfalso; omega)
                                | skip
                                  exfalso; omega
                              · first
                                | (exfalso; omega)
                                | skip
                                  refine s324_55.mpr (s324_56.mpr ?_)
                                  refine s324_57.mpr (wif (fun c57 => ?_) (fun c57 => ?_))
                                  · first
                                    | (exfalso; omega)
                                    | skip
                                      refine s324_60.mpr ((s324_61 kM).mpr ?_)
                                      rw [mr_67 hR]
                                      refine s324_64.mpr (s324_65.mpr ?_)
                                      refine (s324_66 (by omega) kM).mpr ?_
                                      refine ACT _ ?_
                                      simp only [kon, knt_some, knt_none, Option.toList_some, Option.toList_none, List.cons_append, List.nil_append, ev]
                                      refine (s324_69 (hA.k (by decide) (by decide) rfl) (by first | assumption | omega) (by first | assumption | omega)).mpr ?_
                                      refine s324_70.mpr ?_
                                      try simp (disch := first | decide | assumption | omega) only [hh, e51, e56, e89, ev]
                                      refine s324_83.mpr (wif (fun c83 => ?_) (fun c83 => ?_))
                                      · first
                                        | (exfalso; omega)
                                        | skip
                                          refine s324_89.mpr ?_
                                          refine s324_90.mpr (wif (fun c90 => ?_) (fun c90 => ?_))
                                          · first
                                            | (exfalso; omega)
                                            | skip
                                              refine s324_93.mpr (s324_94.mpr (s324_95.mpr ?_))
                                              refine (s324_96 (by omega) kM).mpr ?_
                                              exfalso; omega
                                          · first
                                            | (exfalso; omega)
                                            | skip
                                              refine s324_102.mpr (s324_104.mpr (s324_105.mpr ?_))
                                              refine (s324_106 (by omega) kM).mpr ?_
                                              refine ACT _ ?_
                                              simp only [kon, knt_some, knt_none, Option.toList_some, Option.toList_none, List.cons_append, List.nil_append, ev]
                                              refine s324_109.mpr (s324_110.mpr (s324_111.mpr (s324_112.mpr ?_)))
                                              try simp (disch := first | decide | assumption | omega) only [hh, e51, e56, e89, ev]
                                              exact E
                                      · first
                                        | (exfalso; omega)
                                        | skip
                                          exfalso; omega
                                  · first
                                    | (exfalso; omega)
                                    | skip
                                      refine s324_73.mpr ((s324_74 kM).mpr ?_)
                                      rw [mr_19 hR]
                                      refine s324_77.mpr (s324_78.mpr ?_)
                                      refine (s324_79 (by omega) kM).mpr ?_
                                      refine FUN _ ?_
                                      simp only [kon, knt_some, knt_none, Option.toList_some, Option.toList_none, List.cons_append, List.nil_append, x67]
                                      refine (s324_82 (hA.k (by decide) (by decide) rfl) (by first | assumption | omega) (by first | assumption | omega)).mpr ?_
                                      try simp (disch := first | decide | assumption | omega) only [hh, e51, e56, e89, ev]
                                      refine s324_83.mpr (wif (fun c83 => ?_) (fun c83 => ?_))
                                      · first
                                        | (exfalso; omega)
                                        | skip
                                          refine s324_89.mpr ?_
                                          refine s324_90.mpr (wif (fun c90 => ?_) (fun c90 => ?_))
                                          · first
                                            | (exfalso; omega)
                                            | skip
                                              refine s324_93.mpr (s324_94.mpr (s324_95.mpr ?_))
                                              refine (s324_96 (by omega) kM).mpr ?_
                                              exfalso; omega
                                          · first
                                            | (exfalso; omega)
                                            | skip
                                              refine s324_102.mpr (s324_104.mpr (s324_105.mpr ?_))
                                              refine (s324_106 (by omega) kM).mpr ?_
                                              refine ACT _ ?_
                                              simp only [kon, knt_some, knt_none, Option.toList_some, Option.toList_none, List.cons_append, List.nil_append, ev]
                                              refine s324_109.mpr (s324_110.mpr (s324_111.mpr (s324_112.mpr ?_)))
                                              try simp (disch := first | decide | assumption | omega) only [hh, e51, e56, e89, ev]
                                              exact E
                                      · first
                                        | (exfalso; omega)
                                        | skip
                                          exfalso; omega
                          · first
                            | (exfalso; omega)
                            | skip
                              exfalso; omega
                  · first
                    | (exfalso; omega)
                    | skip
                      exfalso; omega
              · first
                | (exfalso; omega)
                | skip
                  exfalso; omega
    · have E0 := q (-2147483648) (fun y => absurd ((eV.mp y.2).2 z) k) (fun _ => rfl)
      refine s324_0.mpr (s324_1.mpr ?_)
      refine (s324_2 kM).mpr ?_
      refine s324_5.mpr (s324_8.mpr (s324_10.mpr ?_))
      try simp (disch := first | decide | assumption | omega) only [hh, e51, e56, e89]
      refine (s324_11 kM).mpr ?_
      try simp (disch := first | decide | assumption | omega) only [hh, e51, e56, e89]
      refine s324_14.mpr (wif (fun c14 => ?_) (fun c14 => ?_))
      · first
        | (exfalso; omega)
        | skip
          exfalso; omega
      · first
        | (exfalso; omega)
        | skip
          refine s324_17.mpr ?_
          refine s324_18.mpr (wif (fun c18 => ?_) (fun c18 => ?_))
          · first
            | (exfalso; omega)
            | skip
              exfalso; omega
          · first
            | (exfalso; omega)
            | skip
              refine s324_21.mpr (s324_22.mpr ?_)
              refine (s324_23 kM).mpr ?_
              try simp (disch := first | decide | assumption | omega) only [hh, e51, e56, e89]
              refine s324_26.mpr (wif (fun c26 => ?_) (fun c26 => ?_))
              · first
                | (exfalso; omega)
                | skip
                  refine s324_29.mpr ((s324_30 kM).mpr ?_)
                  rw [mr_59 hR]
                  refine s324_33.mpr ?_
                  refine (s324_34 (hA.k (by decide) (by decide) rfl) (by first | assumption | omega) (by first | assumption | omega)).mpr ?_
                  refine s324_35.mpr ?_
                  try simp (disch := first | decide | assumption | omega) only [hh, e51, e56, e89]
                  refine s324_36.mpr (wif (fun c36 => ?_) (fun c36 => ?_))
                  · first
                    | (exfalso; omega)
                    | skip
                      refine s324_39.mpr ?_
                      refine s324_40.mpr (wif (fun c40 => ?_) (fun c40 => ?_))
                      · first
                        | (exfalso; omega)
                        | skip
                          refine s324_48.mpr ?_
                          refine s324_49.mpr (wif (fun c49 => ?_) (fun c49 => ?_))
                          · first
                            | (exfalso; omega)
                            | skip
                              exfalso; omega
                          · first
                            | (exfalso; omega)
                            | skip
                              refine s324_55.mpr (s324_56.mpr ?_)
                              refine s324_57.mpr (wif (fun c57 => ?_) (fun c57 => ?_))
                              · first
                                | (exfalso; omega)
                                | skip
                                  refine s324_60.mpr ((s324_61 kM).mpr ?_)
                                  rw [mr_67 hR]
                                  refine s324_64.mpr (s324_65.mpr ?_)
                                  refine (s324_66 (by omega) kM).mpr ?_
                                  exfalso; omega
                              · first
                                | (exfalso; omega)
                                | skip
                                  refine s324_73.mpr ((s324_74 kM).mpr ?_)
                                  rw [mr_19 hR]
                                  refine s324_77.mpr (s324_78.mpr ?_)
                                  refine (s324_79 (by omega) kM).mpr ?_
                                  refine FUN _ ?_
                                  simp only [kon, knt_some, knt_none, Option.toList_some, Option.toList_none, List.cons_append, List.nil_append, x67]
                                  refine (s324_82 (hA.k (by decide) (by decide) rfl) (by first | assumption | omega) (by first | assumption | omega)).mpr ?_
                                  try simp (disch := first | decide | assumption | omega) only [hh, e51, e56, e89]
                                  refine s324_83.mpr (wif (fun c83 => ?_) (fun c83 => ?_))
                                  · first
                                    | (exfalso; omega)
                                    | skip
                                      exfalso; omega
                                  · first
                                    | (exfalso; omega)
                                    | skip
                                      refine s324_86.mpr ?_
                                      refine (s324_88).mpr ?_
                                      exact E0
                      · first
                        | (exfalso; omega)
                        | skip
                          refine s324_43.mpr (s324_44.mpr ?_)
                          refine s324_45.mpr (wif (fun c45 => ?_) (fun c45 => ?_))
                          · first
                            | (exfalso; omega)
                            | skip
                              refine s324_48.mpr ?_
                              refine s324_49.mpr (wif (fun c49 => ?_) (fun c49 => ?_))
                              · first
                                | (exfalso; omega)
                                | skip
                                  exfalso; omega
                              · first
                                | (exfalso; omega)
                                | skip
                                  refine s324_55.mpr (s324_56.mpr ?_)
                                  refine s324_57.mpr (wif (fun c57 => ?_) (fun c57 => ?_))
                                  · first
                                    | (exfalso; omega)
                                    | skip
                                      refine s324_60.mpr ((s324_61 kM).mpr ?_)
                                      rw [mr_67 hR]
                                      refine s324_64.mpr (s324_65.mpr ?_)
                                      refine (s324_66 (by omega) kM).mpr ?_
                                      exfalso; omega
                                  · first
                                    | (exfalso; omega)
                                    | skip
                                      refine s324_73.mpr ((s324_74 kM).mpr ?_)
                                      rw [mr_19 hR]
                                      refine s324_77.mpr (s324_78.mpr ?_)
                                      refine (s324_79 (by omega) kM).mpr ?_
                                      refine FUN _ ?_
                                      simp only [kon, knt_some, knt_none, Option.toList_some, Option.toList_none, List.cons_append, List.nil_append, x67]
                                      refine (s324_82 (hA.k (by decide) (by decide) rfl) (by first | assumption | omega) (by first | assumption | omega)).mpr ?_
                                      try simp (disch := first | decide | assumption | omega) only [hh, e51, e56, e89]
                                      refine s324_83.mpr (wif (fun c83 => ?_) (fun c83 => ?_))
                                      · first
                                        | (exfalso; omega)
                                        | skip
                                          exfalso; omega
                                      · first
                                        | (exfalso; omega)
                                        | skip
                                          refine s324_86.mpr ?_
                                          refine (s324_88).mpr ?_
                                          exact E0
                          · first
                            | (exfalso; omega)
                            | skip
                              exfalso; omega
                  · first
                    | (exfalso; omega)
                    | skip
                      exfalso; omega
              · first
                | (exfalso; omega)
                | skip
                  exfalso; omega
/-- block -/
def blF (s : HI) (b w : Int) : Int := if ¬ ((0 ≤ b ∧ b < 128) ∧ s 109 b ≠ -1) then -1 else if w = 0 then s 109 b else if w = 1 then s 110 b else if 10 ≤ w ∧ w < 10 + s 109 b then s 111 (6 * b + (w - 10)) else -1
theorem r_block (hA : SA al) (hR : MR hr) (hd : 12 ≤ d) (hE : RelR hi s) (hb : hi 49 51 = 0 ∨ hi 49 51 = 1) (hI : hi 49 51 = 1 → INV T s)
    (q : ∀ v, v = (if hi 49 51 = 1 then blF s b w else -1) → Q (some (some (vI v))) al (upI hi 49 0 0) hr) : Ev d 325 [vR (some 49), vI b, vI w] al hi hr Q := by
  have kM : isK al 49 13 := hA.k (by decide) (by decide) rfl
  have l109 := SA.len (a := 109) (n := 128) hA (by decide) (by decide) rfl
  have l110 := SA.len (a := 110) (n := 128) hA (by decide) (by decide) rfl
  have l111 := SA.len (a := 111) (n := 768) hA (by decide) (by decide) rfl
  obtain ⟨h, hh⟩ : ∃ h, upI hi 49 0 0 = h := ⟨_, rfl⟩
  have e51 : h 49 51 = hi 49 51 := by rw [← hh]; exact upI_i (by decide)
  have hE1 : RelR h s := by rw [← hh]; exact hE.y (by omega)
  have H := Sm.rf hE1.1
  rw [hh] at q
  rw [e325]
  have e109 : ∀ i, h 109 i = s 109 i := fun i => H.e (by omega)
  have e110 : ∀ i, h 110 i = s 110 i := fun i => H.e (by omega)
  have e111 : ∀ i, h 111 i = s 111 i := fun i => H.e (by omega)
  by_cases cb : hi 49 51 = 1
  case neg =>
    have E0 := q (-1) (by rw [if_neg cb])
    refine s325_0.mpr (s325_1.mpr ?_)
    refine (s325_2 kM).mpr ?_
    refine s325_5.mpr ?_
    try simp (disch := first | decide | assumption | omega) only [hh, e51]
    refine (s325_6 kM).mpr ?_
    try simp (disch := first | decide | assumption | omega) only [hh, e51]
    refine s325_9.mpr (wif (fun c9 => ?_) (fun c9 => ?_))
    · skip
      refine s325_33.mpr ?_
      refine (s325_34).mpr ?_
      exact E0
    · skip
      exfalso; omega
  simp only [if_pos cb] at q
  unfold blF at q
  by_cases c : (0 ≤ b ∧ b < 128) ∧ s 109 b ≠ -1
  case neg =>
    have E0 := q (-1) (by rw [if_pos c])
    refine s325_0.mpr (s325_1.mpr ?_)
    refine (s325_2 kM).mpr ?_
    refine s325_5.mpr ?_
    try simp (disch := first | decide | assumption | omega) only [hh, e51, e109]
    refine (s325_6 kM).mpr ?_
    try simp (disch := first | decide | assumption | omega) only [hh, e51, e109]
    refine s325_9.mpr (wif (fun c9 => ?_) (fun c9 => ?_))
    · first
      | (exfalso; omega)
      | skip
        refine s325_33.mpr ?_
        refine (s325_34).mpr ?_
        exact E0
    · first
      | (exfalso; omega)
      | skip
        refine s325_12.mpr ?_
        refine s325_13.mpr (wif (fun c13 => ?_) (fun c13 => ?_))
        · first
          | (exfalso; omega)
          | skip
            refine s325_33.mpr ?_
            refine (s325_34).mpr ?_
            exact E0
        · first
          | (exfalso; omega)
          | skip
            refine s325_16.mpr (s325_17.mpr ?_)
            refine s325_20.mpr (wif (fun c20 => ?_) (fun c20 => ?_))
            · first
              | (exfalso; omega)
              | skip
                refine s325_23.mpr ((s325_24 kM).mpr ?_)
                rw [mr_79 hR]
                refine s325_27.mpr ?_
                refine (s325_28 (hA.k (by decide) (by decide) rfl) (by first | assumption | omega) (by first | assumption | omega)).mpr ?_
                refine s325_29.mpr ?_
                try simp (disch := first | decide | assumption | omega) only [hh, e51, e109]
                refine s325_30.mpr (wif (fun c30 => ?_) (fun c30 => ?_))
                · first
                  | (exfalso; omega)
                  | skip
                    refine s325_33.mpr ?_
                    refine (s325_34).mpr ?_
                    exact E0
                · first
                  | (exfalso; omega)
                  | skip
                    exfalso; omega
            · first
              | (exfalso; omega)
              | skip
                refine s325_33.mpr ?_
                refine (s325_34).mpr ?_
                exact E0
  rw [if_neg (fun z => z c)] at q
  have g := (hI cb).2.1.2.2.2.2.2.2.1 b c.1.1 c.1.2
  have k79 := g
  obtain ⟨⟨b0, b1⟩, c9⟩ := c
  by_cases w0 : w = 0
  · have E0 := q _ (by rw [if_pos w0])
    refine s325_0.mpr (s325_1.mpr ?_)
    refine (s325_2 kM).mpr ?_
    refine s325_5.mpr ?_
    try simp (disch := first | decide | assumption | omega) only [hh, e51, e109]
    refine (s325_6 kM).mpr ?_
    try simp (disch := first | decide | assumption | omega) only [hh, e51, e109]
    refine s325_9.mpr (wif (fun c9 => ?_) (fun c9 => ?_))
    · first
      | (exfalso; omega)
      | skip
        exfalso; omega
    · first
      | (exfalso; omega)
      | skip
        refine s325_12.mpr ?_
        refine s325_13.mpr (wif (fun c13 => ?_) (fun c13 => ?_))
        · first
          | (exfalso; omega)
          | skip
            exfalso; omega
        · first
          | (exfalso; omega)
          | skip
            refine s325_16.mpr (s325_17.mpr ?_)
            refine s325_20.mpr (wif (fun c20 => ?_) (fun c20 => ?_))
            · first
              | (exfalso; omega)
              | skip
                refine s325_23.mpr ((s325_24 kM).mpr ?_)
                rw [mr_79 hR]
                refine s325_27.mpr ?_
                refine (s325_28 (hA.k (by decide) (by decide) rfl) (by first | assumption | omega) (by first | assumption | omega)).mpr ?_
                refine s325_29.mpr ?_
                try simp (disch := first | decide | assumption | omega) only [hh, e51, e109]
                refine s325_30.mpr (wif (fun c30 => ?_) (fun c30 => ?_))
                · first
                  | (exfalso; omega)
                  | skip
                    exfalso; omega
                · first
                  | (exfalso; omega)
                  | skip
                    refine s325_35.mpr ?_
                    refine s325_36.mpr (wif (fun c36 => ?_) (fun c36 => ?_))
                    · first
                      | (exfalso; omega)
                      | skip
                        refine s325_39.mpr ((s325_40 kM).mpr ?_)
                        rw [mr_79 hR]
                        refine s325_43.mpr ?_
                        refine (s325_44 (hA.k (by decide) (by decide) rfl) (by first | assumption | omega) (by first | assumption | omega)).mpr ?_
                        try simp (disch := first | decide | assumption | omega) only [hh, e51, e109]
                        refine (s325_45).mpr ?_
                        exact E0
                    · first
                      | (exfalso; omega)
                      | skip
                        exfalso; omega
            · first
              | (exfalso; omega)
              | skip
                exfalso; omega
  rw [if_neg w0] at q
  by_cases w1 : w = 1
  · have E0 := q _ (by rw [if_pos w1])
    refine s325_0.mpr (s325_1.mpr ?_)
    refine (s325_2 kM).mpr ?_
    refine s325_5.mpr ?_
    try simp (disch := first | decide | assumption | omega) only [hh, e51, e109, e110]
    refine (s325_6 kM).mpr ?_
    try simp (disch := first | decide | assumption | omega) only [hh, e51, e109, e110]
    refine s325_9.mpr (wif (fun c9 => ?_) (fun c9 => ?_))
    · first
      | (exfalso; omega)
      | skip
        exfalso; omega
    · first
      | (exfalso; omega)
      | skip
        refine s325_12.mpr ?_
        refine s325_13.mpr (wif (fun c13 => ?_) (fun c13 => ?_))
        · first
          | (exfalso; omega)
          | skip
            exfalso; omega
        · first
          | (exfalso; omega)
          | skip
            refine s325_16.mpr (s325_17.mpr ?_)
            refine s325_20.mpr (wif (fun c20 => ?_) (fun c20 => ?_))
            · first
              | (exfalso; omega)
              | skip
                refine s325_23.mpr ((s325_24 kM).mpr ?_)
                rw [mr_79 hR]
                refine s325_27.mpr ?_
                refine (s325_28 (hA.k (by decide) (by decide) rfl) (by first | assumption | omega) (by first | assumption | omega)).mpr ?_
                refine s325_29.mpr ?_
                try simp (disch := first | decide | assumption | omega) only [hh, e51, e109, e110]
                refine s325_30.mpr (wif (fun c30 => ?_) (fun c30 => ?_))
                · first
                  | (exfalso; omega)
                  | skip
                    exfalso; omega
                · first
                  | (exfalso; omega)
                  | skip
                    refine s325_35.mpr ?_
                    refine s325_36.mpr (wif (fun c36 => ?_) (fun c36 => ?_))
                    · first
                      | (exfalso; omega)
                      | skip
                        exfalso; omega
                    · first
                      | (exfalso; omega)
                      | skip
                        refine s325_46.mpr (s325_47.mpr ?_)
                        refine s325_48.mpr (wif (fun c48 => ?_) (fun c48 => ?_))
                        · first
                          | (exfalso; omega)
                          | skip
                            refine s325_51.mpr ((s325_52 kM).mpr ?_)
                            rw [mr_80 hR]
                            refine s325_55.mpr ?_
                            refine (s325_56 (hA.k (by decide) (by decide) rfl) (by first | assumption | omega) (by first | assumption | omega)).mpr ?_
                            try simp (disch := first | decide | assumption | omega) only [hh, e51, e109, e110]
                            refine (s325_57).mpr ?_
                            exact E0
                        · first
                          | (exfalso; omega)
                          | skip
                            exfalso; omega
            · first
              | (exfalso; omega)
              | skip
                exfalso; omega
  rw [if_neg w1] at q
  have fa : fAdd 10 (s 109 b) = 10 + s 109 b := fAdd_id (by omega) (by omega)
  by_cases cw : 10 ≤ w ∧ w < 10 + s 109 b
  · have E0 := q _ (by rw [if_pos cw])
    have fe : fSub (fAdd (fMul 6 b) w) 10 = 6 * b + (w - 10) := by rw [fMul_id (by omega) (by omega), fAdd_id (by omega) (by omega), fSub_id (by omega) (by omega)]; omega
    refine s325_0.mpr (s325_1.mpr ?_)
    refine (s325_2 kM).mpr ?_
    refine s325_5.mpr ?_
    try simp (disch := first | decide | assumption | omega) only [hh, e51, e109, e111, fa, fe]
    refine (s325_6 kM).mpr ?_
    try simp (disch := first | decide | assumption | omega) only [hh, e51, e109, e111, fa, fe]
    refine s325_9.mpr (wif (fun c9 => ?_) (fun c9 => ?_))
    · first
      | (exfalso; omega)
      | skip
        exfalso; omega
    · first
      | (exfalso; omega)
      | skip
        refine s325_12.mpr ?_
        refine s325_13.mpr (wif (fun c13 => ?_) (fun c13 => ?_))
        · first
          | (exfalso; omega)
          | skip
            exfalso; omega
        · first
          | (exfalso; omega)
          | skip
            refine s325_16.mpr (s325_17.mpr ?_)
            refine s325_20.mpr (wif (fun c20 => ?_) (fun c20 => ?_))
            · first
              | (exfalso; omega)
              | skip
                refine s325_23.mpr ((s325_24 kM).mpr ?_)
                rw [mr_79 hR]
                refine s325_27.mpr ?_
                refine (s325_28 (hA.k (by decide) (by decide) rfl) (by first | assumption | omega) (by first | assumption | omega)).mpr ?_
                refine s325_29.mpr ?_
                try simp (disch := first | decide | assumption | omega) only [hh, e51, e109, e111, fa, fe]
                refine s325_30.mpr (wif (fun c30 => ?_) (fun c30 => ?_))
                · first
                  | (exfalso; omega)
                  | skip
                    exfalso; omega
                · first
                  | (exfalso; omega)
                  | skip
                    refine s325_35.mpr ?_
                    refine s325_36.mpr (wif (fun c36 => ?_) (fun c36 => ?_))
                    · first
                      | (exfalso; omega)
                      | skip
                        exfalso; omega
                    · first
                      | (exfalso; omega)
                      | skip
                        refine s325_46.mpr (s325_47.mpr ?_)
                        refine s325_48.mpr (wif (fun c48 => ?_) (fun c48 => ?_))
                        · first
                          | (exfalso; omega)
                          | skip
                            exfalso; omega
                        · first
                          | (exfalso; omega)
                          | skip
                            refine s325_58.mpr (s325_59.mpr ?_)
                            refine s325_61.mpr (wif (fun c61 => ?_) (fun c61 => ?_))
                            · first
                              | (exfalso; omega)
                              | skip
                                exfalso; omega
                            · first
                              | (exfalso; omega)
                              | skip
                                refine s325_64.mpr (s325_65.mpr (s325_67.mpr ((s325_68 kM).mpr ?_)))
                                rw [mr_79 hR]
                                refine s325_71.mpr ?_
                                refine (s325_72 (hA.k (by decide) (by decide) rfl) (by first | assumption | omega) (by first | assumption | omega)).mpr ?_
                                refine s325_73.mpr ?_
                                try simp (disch := first | decide | assumption | omega) only [hh, e51, e109, e111, fa, fe]
                                refine s325_74.mpr (wif (fun c74 => ?_) (fun c74 => ?_))
                                · first
                                  | (exfalso; omega)
                                  | skip
                                    refine s325_77.mpr ((s325_78 kM).mpr ?_)
                                    rw [mr_81 hR]
                                    refine s325_81.mpr (s325_83.mpr (s325_84.mpr (s325_85.mpr (s325_86.mpr (s325_87.mpr ?_)))))
                                    refine s325_89.mpr ?_
                                    try simp (disch := first | decide | assumption | omega) only [hh, e51, e109, e111, fa, fe]
                                    refine (s325_90 (hA.k (by decide) (by decide) rfl) (by first | assumption | omega) (by first | assumption | omega)).mpr ?_
                                    refine s325_91.mpr ?_
                                    try simp (disch := first | decide | assumption | omega) only [hh, e51, e109, e111, fa, fe]
                                    refine (s325_95).mpr ?_
                                    exact E0
                                · first
                                  | (exfalso; omega)
                                  | skip
                                    exfalso; omega
            · first
              | (exfalso; omega)
              | skip
                exfalso; omega
  · have E0 := q (-1) (by rw [if_neg cw])
    refine s325_0.mpr (s325_1.mpr ?_)
    refine (s325_2 kM).mpr ?_
    refine s325_5.mpr ?_
    try simp (disch := first | decide | assumption | omega) only [hh, e51, e109, fa]
    refine (s325_6 kM).mpr ?_
    try simp (disch := first | decide | assumption | omega) only [hh, e51, e109, fa]
    refine s325_9.mpr (wif (fun c9 => ?_) (fun c9 => ?_))
    · first
      | (exfalso; omega)
      | skip
        exfalso; omega
    · first
      | (exfalso; omega)
      | skip
        refine s325_12.mpr ?_
        refine s325_13.mpr (wif (fun c13 => ?_) (fun c13 => ?_))
        · first
          | (exfalso; omega)
          | skip
            exfalso; omega
        · first
          | (exfalso; omega)
          | skip
            refine s325_16.mpr (s325_17.mpr ?_)
            refine s325_20.mpr (wif (fun c20 => ?_) (fun c20 => ?_))
            · first
              | (exfalso; omega)
              | skip
                refine s325_23.mpr ((s325_24 kM).mpr ?_)
                rw [mr_79 hR]
                refine s325_27.mpr ?_
                refine (s325_28 (hA.k (by decide) (by decide) rfl) (by first | assumption | omega) (by first | assumption | omega)).mpr ?_
                refine s325_29.mpr ?_
                try simp (disch := first | decide | assumption | omega) only [hh, e51, e109, fa]
                refine s325_30.mpr (wif (fun c30 => ?_) (fun c30 => ?_))
                · first
                  | (exfalso; omega)
                  | skip
                    exfalso; omega
                · first
                  | (exfalso; omega)
                  | skip
                    refine s325_35.mpr ?_
                    refine s325_36.mpr (wif (fun c36 => ?_) (fun c36 => ?_))
                    · first
                      | (exfalso; omega)
                      | skip
                        exfalso; omega
                    · first
                      | (exfalso; omega)
                      | skip
                        refine s325_46.mpr (s325_47.mpr ?_)
                        refine s325_48.mpr (wif (fun c48 => ?_) (fun c48 => ?_))
                        · first
                          | (exfalso; omega)
                          | skip
                            exfalso; omega
                        · first
                          | (exfalso; omega)
                          | skip
                            refine s325_58.mpr (s325_59.mpr ?_)
                            refine s325_61.mpr (wif (fun c61 => ?_) (fun c61 => ?_))
                            · first
                              | (exfalso; omega)
                              | skip
                                refine s325_94.mpr ?_
                                refine (s325_95).mpr ?_
                                exact E0
                            · first
                              | (exfalso; omega)
                              | skip
                                refine s325_64.mpr (s325_65.mpr (s325_67.mpr ((s325_68 kM).mpr ?_)))
                                rw [mr_79 hR]
                                refine s325_71.mpr ?_
                                refine (s325_72 (hA.k (by decide) (by decide) rfl) (by first | assumption | omega) (by first | assumption | omega)).mpr ?_
                                refine s325_73.mpr ?_
                                try simp (disch := first | decide | assumption | omega) only [hh, e51, e109, fa]
                                refine s325_74.mpr (wif (fun c74 => ?_) (fun c74 => ?_))
                                · first
                                  | (exfalso; omega)
                                  | skip
                                    exfalso; omega
                                · first
                                  | (exfalso; omega)
                                  | skip
                                    refine s325_94.mpr ?_
                                    refine (s325_95).mpr ?_
                                    exact E0
            · first
              | (exfalso; omega)
              | skip
                exfalso; omega
/-- channel -/
def ceF (s : HI) (c e w : Int) : Int := if ¬ ((0 ≤ c ∧ c < 12) ∧ (e = 0 ∨ e = 1) ∧ s 112 (2 * c + e) ≠ -1) then -1 else if w = 0 then s 112 (2 * c + e) else if w = 1 then s 113 (2 * c + e) else if w = 2 then s 114 (2 * c + e) else -1
theorem r_channel_ {e : Int} (hA : SA al) (hR : MR hr) (hd : 12 ≤ d) (hE : RelR hi s) (hb : hi 49 51 = 0 ∨ hi 49 51 = 1) (hI : hi 49 51 = 1 → INV T s)
    (q : ∀ v, v = (if hi 49 51 = 1 then ceF s c e w else -1) → Q (some (some (vI v))) al (upI hi 49 0 0) hr) : Ev d 326 [vR (some 49), vI c, vI e, vI w] al hi hr Q := by
  have kM : isK al 49 13 := hA.k (by decide) (by decide) rfl
  have l112 := SA.len (a := 112) (n := 24) hA (by decide) (by decide) rfl
  have l113 := SA.len (a := 113) (n := 24) hA (by decide) (by decide) rfl
  have l114 := SA.len (a := 114) (n := 24) hA (by decide) (by decide) rfl
  obtain ⟨h, hh⟩ : ∃ h, upI hi 49 0 0 = h := ⟨_, rfl⟩
  have e51 : h 49 51 = hi 49 51 := by rw [← hh]; exact upI_i (by decide)
  have hE1 : RelR h s := by rw [← hh]; exact hE.y (by omega)
  have H := Sm.rf hE1.1
  rw [hh] at q
  rw [e326]
  have e112 : ∀ i, h 112 i = s 112 i := fun i => H.e (by omega)
  have e113 : ∀ i, h 113 i = s 113 i := fun i => H.e (by omega)
  have e114 : ∀ i, h 114 i = s 114 i := fun i => H.e (by omega)
  by_cases cb : hi 49 51 = 1
  case neg =>
    have E0 := q (-1) (by rw [if_neg cb])
    refine s326_0.mpr (s326_1.mpr ?_)
    refine (s326_2 kM).mpr ?_
    refine s326_5.mpr ?_
    try simp (disch := first | decide | assumption | omega) only [hh, e51]
    refine (s326_6 kM).mpr ?_
    try simp (disch := first | decide | assumption | omega) only [hh, e51]
    refine s326_9.mpr (wif (fun c9 => ?_) (fun c9 => ?_))
    · skip
      refine s326_45.mpr ?_
      refine (s326_46).mpr ?_
      exact E0
    · skip
      exfalso; omega
  simp only [if_pos cb] at q
  unfold ceF at q
  by_cases k : (0 ≤ c ∧ c < 12) ∧ (e = 0 ∨ e = 1)
  case neg =>
    have E0 := q (-1) (by rw [if_pos (fun z => k ⟨z.1, z.2.1⟩)])
    refine s326_0.mpr (s326_1.mpr ?_)
    refine (s326_2 kM).mpr ?_
    refine s326_5.mpr ?_
    try simp (disch := first | decide | assumption | omega) only [hh, e51]
    refine (s326_6 kM).mpr ?_
    try simp (disch := first | decide | assumption | omega) only [hh, e51]
    refine s326_9.mpr (wif (fun c9 => ?_) (fun c9 => ?_))
    · first
      | (exfalso; omega)
      | skip
        refine s326_45.mpr ?_
        refine (s326_46).mpr ?_
        exact E0
    · first
      | (exfalso; omega)
      | skip
        refine s326_12.mpr ?_
        refine s326_13.mpr (wif (fun c13 => ?_) (fun c13 => ?_))
        · first
          | (exfalso; omega)
          | skip
            refine s326_45.mpr ?_
            refine (s326_46).mpr ?_
            exact E0
        · first
          | (exfalso; omega)
          | skip
            refine s326_16.mpr (s326_17.mpr ?_)
            refine s326_19.mpr (wif (fun c19 => ?_) (fun c19 => ?_))
            · first
              | (exfalso; omega)
              | skip
                refine s326_22.mpr ?_
                refine s326_23.mpr (wif (fun c23 => ?_) (fun c23 => ?_))
                · first
                  | (exfalso; omega)
                  | skip
                    exfalso; omega
                · first
                  | (exfalso; omega)
                  | skip
                    refine s326_26.mpr (s326_27.mpr ?_)
                    refine s326_28.mpr (wif (fun c28 => ?_) (fun c28 => ?_))
                    · first
                      | (exfalso; omega)
                      | skip
                        exfalso; omega
                    · first
                      | (exfalso; omega)
                      | skip
                        refine s326_45.mpr ?_
                        refine (s326_46).mpr ?_
                        exact E0
            · first
              | (exfalso; omega)
              | skip
                refine s326_45.mpr ?_
                refine (s326_46).mpr ?_
                exact E0
  obtain ⟨⟨c0, c1⟩, k1⟩ := k
  have fe : fAdd (fMul 2 c) e = 2 * c + e := by rw [fMul_id (by omega) (by omega), fAdd_id (by omega) (by omega)]
  obtain ⟨x, hx⟩ : ∃ x, 2 * c + e = x := ⟨_, rfl⟩
  have xb : 0 ≤ x ∧ x < 24 := by omega
  rw [hx] at fe q
  by_cases k2 : s 112 x ≠ -1
  case neg =>
    have E0 := q (-1) (by rw [if_pos (fun z => k2 z.2.2)])
    refine s326_0.mpr (s326_1.mpr ?_)
    refine (s326_2 kM).mpr ?_
    refine s326_5.mpr ?_
    try simp (disch := first | decide | assumption | omega) only [hh, e51, fe, e112]
    refine (s326_6 kM).mpr ?_
    try simp (disch := first | decide | assumption | omega) only [hh, e51, fe, e112]
    refine s326_9.mpr (wif (fun c9 => ?_) (fun c9 => ?_))
    · first
      | (exfalso; omega)
      | skip
        refine s326_45.mpr ?_
        refine (s326_46).mpr ?_
        exact E0
    · first
      | (exfalso; omega)
      | skip
        refine s326_12.mpr ?_
        refine s326_13.mpr (wif (fun c13 => ?_) (fun c13 => ?_))
        · first
          | (exfalso; omega)
          | skip
            refine s326_45.mpr ?_
            refine (s326_46).mpr ?_
            exact E0
        · first
          | (exfalso; omega)
          | skip
            refine s326_16.mpr (s326_17.mpr ?_)
            refine s326_19.mpr (wif (fun c19 => ?_) (fun c19 => ?_))
            · first
              | (exfalso; omega)
              | skip
                refine s326_22.mpr ?_
                refine s326_23.mpr (wif (fun c23 => ?_) (fun c23 => ?_))
                · first
                  | (exfalso; omega)
                  | skip
                    refine s326_31.mpr ((s326_32 kM).mpr ?_)
                    rw [mr_82 hR]
                    refine s326_35.mpr (s326_36.mpr (s326_37.mpr (s326_38.mpr (s326_39.mpr ?_))))
                    try simp (disch := first | decide | assumption | omega) only [hh, e51, fe, e112]
                    refine (s326_40 (hA.k (by decide) (by decide) rfl) (by first | assumption | omega) (by first | assumption | omega)).mpr ?_
                    refine s326_41.mpr ?_
                    try simp (disch := first | decide | assumption | omega) only [hh, e51, fe, e112]
                    refine s326_42.mpr (wif (fun c42 => ?_) (fun c42 => ?_))
                    · first
                      | (exfalso; omega)
                      | skip
                        refine s326_45.mpr ?_
                        refine (s326_46).mpr ?_
                        exact E0
                    · first
                      | (exfalso; omega)
                      | skip
                        exact absurd (by assumption) k2
                · first
                  | (exfalso; omega)
                  | skip
                    refine s326_26.mpr (s326_27.mpr ?_)
                    refine s326_28.mpr (wif (fun c28 => ?_) (fun c28 => ?_))
                    · first
                      | (exfalso; omega)
                      | skip
                        refine s326_31.mpr ((s326_32 kM).mpr ?_)
                        rw [mr_82 hR]
                        refine s326_35.mpr (s326_36.mpr (s326_37.mpr (s326_38.mpr (s326_39.mpr ?_))))
                        try simp (disch := first | decide | assumption | omega) only [hh, e51, fe, e112]
                        refine (s326_40 (hA.k (by decide) (by decide) rfl) (by first | assumption | omega) (by first | assumption | omega)).mpr ?_
                        refine s326_41.mpr ?_
                        try simp (disch := first | decide | assumption | omega) only [hh, e51, fe, e112]
                        refine s326_42.mpr (wif (fun c42 => ?_) (fun c42 => ?_))
                        · first
                          | (exfalso; omega)
                          | skip
                            refine s326_45.mpr ?_
                            refine (s326_46).mpr ?_
                            exact E0
                        · first
                          | (exfalso; omega)
                          | skip
                            exact absurd (by assumption) k2
                    · first
                      | (exfalso; omega)
                      | skip
                        refine s326_45.mpr ?_
                        refine (s326_46).mpr ?_
                        exact E0
            · first
              | (exfalso; omega)
              | skip
                refine s326_45.mpr ?_
                refine (s326_46).mpr ?_
                exact E0
  rw [if_neg (fun z => z ⟨⟨c0, c1⟩, k1, k2⟩)] at q
  have T54 : Wp d 326 54 [vR (some 49), vI c, vI e, vI w, vI x] [] al h hr Q := by
    by_cases w0 : w = 0
    · have E0 := q _ (by rw [if_pos w0])
      refine s326_54.mpr ?_
      refine s326_55.mpr (wif (fun c55 => ?_) (fun c55 => ?_))
      · first
        | (exfalso; omega)
        | skip
          refine s326_58.mpr ((s326_59 kM).mpr ?_)
          rw [mr_82 hR]
          refine s326_62.mpr ?_
          refine (s326_64 (hA.k (by decide) (by decide) rfl) (by first | assumption | omega) (by first | assumption | omega)).mpr ?_
          refine s326_65.mpr ?_
          try simp (disch := first | decide | assumption | omega) only [e112]
          refine (s326_99).mpr ?_
          exact E0
      · first
        | (exfalso; omega)
        | skip
          exfalso; omega
    rw [if_neg w0] at q
    by_cases w1 : w = 1
    · have E0 := q _ (by rw [if_pos w1])
      refine s326_54.mpr ?_
      refine s326_55.mpr (wif (fun c55 => ?_) (fun c55 => ?_))
      · first
        | (exfalso; omega)
        | skip
          exfalso; omega
      · first
        | (exfalso; omega)
        | skip
          refine s326_68.mpr (s326_69.mpr ?_)
          refine s326_70.mpr (wif (fun c70 => ?_) (fun c70 => ?_))
          · first
            | (exfalso; omega)
            | skip
              refine s326_73.mpr ((s326_74 kM).mpr ?_)
              rw [mr_83 hR]
              refine s326_77.mpr ?_
              refine (s326_79 (hA.k (by decide) (by decide) rfl) (by first | assumption | omega) (by first | assumption | omega)).mpr ?_
              refine s326_80.mpr ?_
              try simp (disch := first | decide | assumption | omega) only [e113]
              refine (s326_99).mpr ?_
              exact E0
          · first
            | (exfalso; omega)
            | skip
              exfalso; omega
    rw [if_neg w1] at q
    by_cases w2 : w = 2
    · have E0 := q _ (by rw [if_pos w2])
      refine s326_54.mpr ?_
      refine s326_55.mpr (wif (fun c55 => ?_) (fun c55 => ?_))
      · first
        | (exfalso; omega)
        | skip
          exfalso; omega
      · first
        | (exfalso; omega)
        | skip
          refine s326_68.mpr (s326_69.mpr ?_)
          refine s326_70.mpr (wif (fun c70 => ?_) (fun c70 => ?_))
          · first
            | (exfalso; omega)
            | skip
              exfalso; omega
          · first
            | (exfalso; omega)
            | skip
              refine s326_83.mpr (s326_84.mpr ?_)
              refine s326_85.mpr (wif (fun c85 => ?_) (fun c85 => ?_))
              · first
                | (exfalso; omega)
                | skip
                  refine s326_88.mpr ((s326_89 kM).mpr ?_)
                  rw [mr_84 hR]
                  refine s326_92.mpr ?_
                  refine (s326_94 (hA.k (by decide) (by decide) rfl) (by first | assumption | omega) (by first | assumption | omega)).mpr ?_
                  refine s326_95.mpr ?_
                  try simp (disch := first | decide | assumption | omega) only [e114]
                  refine (s326_99).mpr ?_
                  exact E0
              · first
                | (exfalso; omega)
                | skip
                  exfalso; omega
    · have E0 := q _ (by rw [if_neg w2])
      refine s326_54.mpr ?_
      refine s326_55.mpr (wif (fun c55 => ?_) (fun c55 => ?_))
      · first
        | (exfalso; omega)
        | skip
          exfalso; omega
      · first
        | (exfalso; omega)
        | skip
          refine s326_68.mpr (s326_69.mpr ?_)
          refine s326_70.mpr (wif (fun c70 => ?_) (fun c70 => ?_))
          · first
            | (exfalso; omega)
            | skip
              exfalso; omega
          · first
            | (exfalso; omega)
            | skip
              refine s326_83.mpr (s326_84.mpr ?_)
              refine s326_85.mpr (wif (fun c85 => ?_) (fun c85 => ?_))
              · first
                | (exfalso; omega)
                | skip
                  exfalso; omega
              · first
                | (exfalso; omega)
                | skip
                  refine s326_98.mpr ?_
                  refine (s326_99).mpr ?_
                  exact E0
  refine s326_0.mpr (s326_1.mpr ?_)
  refine (s326_2 kM).mpr ?_
  refine s326_5.mpr ?_
  try simp (disch := first | decide | assumption | omega) only [hh, e51, fe, e112]
  refine (s326_6 kM).mpr ?_
  try simp (disch := first | decide | assumption | omega) only [hh, e51, fe, e112]
  refine s326_9.mpr (wif (fun c9 => ?_) (fun c9 => ?_))
  · first
    | (exfalso; omega)
    | skip
      first | (exfalso; omega) | exact absurd (by assumption) k2
  · first
    | (exfalso; omega)
    | skip
      refine s326_12.mpr ?_
      refine s326_13.mpr (wif (fun c13 => ?_) (fun c13 => ?_))
      · first
        | (exfalso; omega)
        | skip
          first | (exfalso; omega) | exact absurd (by assumption) k2
      · first
        | (exfalso; omega)
        | skip
          refine s326_16.mpr (s326_17.mpr ?_)
          refine s326_19.mpr (wif (fun c19 => ?_) (fun c19 => ?_))
          · first
            | (exfalso; omega)
            | skip
              refine s326_22.mpr ?_
              refine s326_23.mpr (wif (fun c23 => ?_) (fun c23 => ?_))
              · first
                | (exfalso; omega)
                | skip
                  refine s326_31.mpr ((s326_32 kM).mpr ?_)
                  rw [mr_82 hR]
                  refine s326_35.mpr (s326_36.mpr (s326_37.mpr (s326_38.mpr (s326_39.mpr ?_))))
                  try simp (disch := first | decide | assumption | omega) only [hh, e51, fe, e112]
                  refine (s326_40 (hA.k (by decide) (by decide) rfl) (by first | assumption | omega) (by first | assumption | omega)).mpr ?_
                  refine s326_41.mpr ?_
                  try simp (disch := first | decide | assumption | omega) only [hh, e51, fe, e112]
                  refine s326_42.mpr (wif (fun c42 => ?_) (fun c42 => ?_))
                  · first
                    | (exfalso; omega)
                    | skip
                      first | (exfalso; omega) | exact absurd (by assumption) k2
                  · first
                    | (exfalso; omega)
                    | skip
                      refine s326_47.mpr (s326_48.mpr (s326_49.mpr (s326_50.mpr (s326_51.mpr (s326_52.mpr ?_)))))
                      try simp (disch := first | decide | assumption | omega) only [hh, e51, fe, e112]
                      exact T54
              · first
                | (exfalso; omega)
                | skip
                  refine s326_26.mpr (s326_27.mpr ?_)
                  refine s326_28.mpr (wif (fun c28 => ?_) (fun c28 => ?_))
                  · first
                    | (exfalso; omega)
                    | skip
                      refine s326_31.mpr ((s326_32 kM).mpr ?_)
                      rw [mr_82 hR]
                      refine s326_35.mpr (s326_36.mpr (s326_37.mpr (s326_38.mpr (s326_39.mpr ?_))))
                      try simp (disch := first | decide | assumption | omega) only [hh, e51, fe, e112]
                      refine (s326_40 (hA.k (by decide) (by decide) rfl) (by first | assumption | omega) (by first | assumption | omega)).mpr ?_
                      refine s326_41.mpr ?_
                      try simp (disch := first | decide | assumption | omega) only [hh, e51, fe, e112]
                      refine s326_42.mpr (wif (fun c42 => ?_) (fun c42 => ?_))
                      · first
                        | (exfalso; omega)
                        | skip
                          first | (exfalso; omega) | exact absurd (by assumption) k2
                      · first
                        | (exfalso; omega)
                        | skip
                          refine s326_47.mpr (s326_48.mpr (s326_49.mpr (s326_50.mpr (s326_51.mpr (s326_52.mpr ?_)))))
                          try simp (disch := first | decide | assumption | omega) only [hh, e51, fe, e112]
                          exact T54
                  · first
                    | (exfalso; omega)
                    | skip
                      first | (exfalso; omega) | exact absurd (by assumption) k2
          · first
            | (exfalso; omega)
            | skip
              first | (exfalso; omega) | exact absurd (by assumption) k2
/-- output -/
def ouF (s : HI) (i w : Int) : Int := if ¬ (0 ≤ i ∧ i < s 49 55) then -1 else if w = 0 then s 87 i else if w = 1 then s 88 i else -1
theorem r_output (hA : SA al) (hR : MR hr) (hd : 12 ≤ d) (hE : RelR hi s) (hb : hi 49 51 = 0 ∨ hi 49 51 = 1) (hI : hi 49 51 = 1 → INV T s)
    (q : ∀ v, v = (if hi 49 51 = 1 then ouF s i w else -1) → Q (some (some (vI v))) al (upI hi 49 0 0) hr) : Ev d 327 [vR (some 49), vI i, vI w] al hi hr Q := by
  have kM : isK al 49 13 := hA.k (by decide) (by decide) rfl
  have l87 := SA.len (a := 87) (n := 500) hA (by decide) (by decide) rfl
  have l88 := SA.len (a := 88) (n := 500) hA (by decide) (by decide) rfl
  obtain ⟨h, hh⟩ : ∃ h, upI hi 49 0 0 = h := ⟨_, rfl⟩
  have e51 : h 49 51 = hi 49 51 := by rw [← hh]; exact upI_i (by decide)
  have hE1 : RelR h s := by rw [← hh]; exact hE.y (by omega)
  have H := Sm.rf hE1.1
  have e55 : h 49 55 = s 49 55 := H.e49 (by omega)
  rw [hh] at q
  rw [e327]
  have e87 : ∀ i, h 87 i = s 87 i := fun i => H.e (by omega)
  have e88 : ∀ i, h 88 i = s 88 i := fun i => H.e (by omega)
  by_cases cb : hi 49 51 = 1
  case neg =>
    have E0 := q (-1) (by rw [if_neg cb])
    refine s327_0.mpr (s327_1.mpr ?_)
    refine (s327_2 kM).mpr ?_
    refine s327_5.mpr ?_
    try simp (disch := first | decide | assumption | omega) only [hh, e51]
    refine (s327_6 kM).mpr ?_
    try simp (disch := first | decide | assumption | omega) only [hh, e51]
    refine s327_9.mpr (wif (fun c9 => ?_) (fun c9 => ?_))
    · skip
      refine s327_24.mpr ?_
      refine (s327_25).mpr ?_
      exact E0
    · skip
      exfalso; omega
  simp only [if_pos cb] at q
  unfold ouF at q
  have g4 := (hI cb).2.1.2.2.2.1
  by_cases k : 0 ≤ i ∧ i < s 49 55
  case neg =>
    have E0 := q (-1) (by rw [if_pos k])
    refine s327_0.mpr (s327_1.mpr ?_)
    refine (s327_2 kM).mpr ?_
    refine s327_5.mpr ?_
    try simp (disch := first | decide | assumption | omega) only [hh, e51, e55]
    refine (s327_6 kM).mpr ?_
    try simp (disch := first | decide | assumption | omega) only [hh, e51, e55]
    refine s327_9.mpr (wif (fun c9 => ?_) (fun c9 => ?_))
    · first
      | (exfalso; omega)
      | skip
        refine s327_24.mpr ?_
        refine (s327_25).mpr ?_
        exact E0
    · first
      | (exfalso; omega)
      | skip
        refine s327_12.mpr ?_
        refine s327_13.mpr (wif (fun c13 => ?_) (fun c13 => ?_))
        · first
          | (exfalso; omega)
          | skip
            refine s327_24.mpr ?_
            refine (s327_25).mpr ?_
            exact E0
        · first
          | (exfalso; omega)
          | skip
            refine s327_16.mpr (s327_17.mpr ?_)
            refine (s327_18 kM).mpr ?_
            try simp (disch := first | decide | assumption | omega) only [hh, e51, e55]
            refine s327_21.mpr (wif (fun c21 => ?_) (fun c21 => ?_))
            · first
              | (exfalso; omega)
              | skip
                exfalso; omega
            · first
              | (exfalso; omega)
              | skip
                refine s327_24.mpr ?_
                refine (s327_25).mpr ?_
                exact E0
  rw [if_neg (fun z => z k)] at q
  by_cases w0 : w = 0
  · have E0 := q _ (by rw [if_pos w0])
    refine s327_0.mpr (s327_1.mpr ?_)
    refine (s327_2 kM).mpr ?_
    refine s327_5.mpr ?_
    try simp (disch := first | decide | assumption | omega) only [hh, e51, e55, e87]
    refine (s327_6 kM).mpr ?_
    try simp (disch := first | decide | assumption | omega) only [hh, e51, e55, e87]
    refine s327_9.mpr (wif (fun c9 => ?_) (fun c9 => ?_))
    · first
      | (exfalso; omega)
      | skip
        exfalso; omega
    · first
      | (exfalso; omega)
      | skip
        refine s327_12.mpr ?_
        refine s327_13.mpr (wif (fun c13 => ?_) (fun c13 => ?_))
        · first
          | (exfalso; omega)
          | skip
            exfalso; omega
        · first
          | (exfalso; omega)
          | skip
            refine s327_16.mpr (s327_17.mpr ?_)
            refine (s327_18 kM).mpr ?_
            try simp (disch := first | decide | assumption | omega) only [hh, e51, e55, e87]
            refine s327_21.mpr (wif (fun c21 => ?_) (fun c21 => ?_))
            · first
              | (exfalso; omega)
              | skip
                refine s327_26.mpr ?_
                refine s327_27.mpr (wif (fun c27 => ?_) (fun c27 => ?_))
                · first
                  | (exfalso; omega)
                  | skip
                    refine s327_30.mpr ((s327_31 kM).mpr ?_)
                    rw [mr_57 hR]
                    refine s327_34.mpr ?_
                    refine (s327_35 (hA.k (by decide) (by decide) rfl) (by first | assumption | omega) (by first | assumption | omega)).mpr ?_
                    refine s327_36.mpr ?_
                    try simp (disch := first | decide | assumption | omega) only [hh, e51, e55, e87]
                    refine (s327_54).mpr ?_
                    exact E0
                · first
                  | (exfalso; omega)
                  | skip
                    exfalso; omega
            · first
              | (exfalso; omega)
              | skip
                exfalso; omega
  rw [if_neg w0] at q
  by_cases w1 : w = 1
  · have E0 := q _ (by rw [if_pos w1])
    refine s327_0.mpr (s327_1.mpr ?_)
    refine (s327_2 kM).mpr ?_
    refine s327_5.mpr ?_
    try simp (disch := first | decide | assumption | omega) only [hh, e51, e55, e88]
    refine (s327_6 kM).mpr ?_
    try simp (disch := first | decide | assumption | omega) only [hh, e51, e55, e88]
    refine s327_9.mpr (wif (fun c9 => ?_) (fun c9 => ?_))
    · first
      | (exfalso; omega)
      | skip
        exfalso; omega
    · first
      | (exfalso; omega)
      | skip
        refine s327_12.mpr ?_
        refine s327_13.mpr (wif (fun c13 => ?_) (fun c13 => ?_))
        · first
          | (exfalso; omega)
          | skip
            exfalso; omega
        · first
          | (exfalso; omega)
          | skip
            refine s327_16.mpr (s327_17.mpr ?_)
            refine (s327_18 kM).mpr ?_
            try simp (disch := first | decide | assumption | omega) only [hh, e51, e55, e88]
            refine s327_21.mpr (wif (fun c21 => ?_) (fun c21 => ?_))
            · first
              | (exfalso; omega)
              | skip
                refine s327_26.mpr ?_
                refine s327_27.mpr (wif (fun c27 => ?_) (fun c27 => ?_))
                · first
                  | (exfalso; omega)
                  | skip
                    exfalso; omega
                · first
                  | (exfalso; omega)
                  | skip
                    refine s327_39.mpr (s327_40.mpr ?_)
                    refine s327_41.mpr (wif (fun c41 => ?_) (fun c41 => ?_))
                    · first
                      | (exfalso; omega)
                      | skip
                        refine s327_44.mpr ((s327_45 kM).mpr ?_)
                        rw [mr_58 hR]
                        refine s327_48.mpr ?_
                        refine (s327_49 (hA.k (by decide) (by decide) rfl) (by first | assumption | omega) (by first | assumption | omega)).mpr ?_
                        refine s327_50.mpr ?_
                        try simp (disch := first | decide | assumption | omega) only [hh, e51, e55, e88]
                        refine (s327_54).mpr ?_
                        exact E0
                    · first
                      | (exfalso; omega)
                      | skip
                        exfalso; omega
            · first
              | (exfalso; omega)
              | skip
                exfalso; omega
  · have E0 := q _ (by rw [if_neg w1])
    refine s327_0.mpr (s327_1.mpr ?_)
    refine (s327_2 kM).mpr ?_
    refine s327_5.mpr ?_
    try simp (disch := first | decide | assumption | omega) only [hh, e51, e55]
    refine (s327_6 kM).mpr ?_
    try simp (disch := first | decide | assumption | omega) only [hh, e51, e55]
    refine s327_9.mpr (wif (fun c9 => ?_) (fun c9 => ?_))
    · first
      | (exfalso; omega)
      | skip
        exfalso; omega
    · first
      | (exfalso; omega)
      | skip
        refine s327_12.mpr ?_
        refine s327_13.mpr (wif (fun c13 => ?_) (fun c13 => ?_))
        · first
          | (exfalso; omega)
          | skip
            exfalso; omega
        · first
          | (exfalso; omega)
          | skip
            refine s327_16.mpr (s327_17.mpr ?_)
            refine (s327_18 kM).mpr ?_
            try simp (disch := first | decide | assumption | omega) only [hh, e51, e55]
            refine s327_21.mpr (wif (fun c21 => ?_) (fun c21 => ?_))
            · first
              | (exfalso; omega)
              | skip
                refine s327_26.mpr ?_
                refine s327_27.mpr (wif (fun c27 => ?_) (fun c27 => ?_))
                · first
                  | (exfalso; omega)
                  | skip
                    exfalso; omega
                · first
                  | (exfalso; omega)
                  | skip
                    refine s327_39.mpr (s327_40.mpr ?_)
                    refine s327_41.mpr (wif (fun c41 => ?_) (fun c41 => ?_))
                    · first
                      | (exfalso; omega)
                      | skip
                        exfalso; omega
                    · first
                      | (exfalso; omega)
                      | skip
                        refine s327_53.mpr ?_
                        refine (s327_54).mpr ?_
                        exact E0
            · first
              | (exfalso; omega)
              | skip
                exfalso; omega
end FA1
