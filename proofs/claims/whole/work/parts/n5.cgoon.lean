/-! RUNNING, the class: goOn -/
section CQ4
variable {d : Nat} {Q : QQ} {T : TXs} {al al' : AL} {hi hi' h1 : HI} {hr hr' r1 : HR} {s s' : HI} {A A' : Int → Int → Int} {NN : Int → Option Nat} {p m f k j N : Int} {t : Nat} {al0 : AL} {hi0 : HI} {hr0 : HR}
theorem AllP.s89 {y : Int} (h : AllP s) (hp : s 89 p < 4) : AllP (upI s 89 p y) := fun q q0 q1 q2 => by
  have q3 : s 89 q < 4 := by
    by_cases z : q = p
    · rw [z]; exact hp
    · rw [upI_i z] at q2; exact q2
  obtain ⟨y1, y2, y3, y4⟩ := h q q0 q1 q3
  have n : ∀ (a : Nat) i, a ≠ 89 → upI s 89 p y a i = s a i := fun a i z => upI_a z
  rw [n _ _ (by decide), n _ _ (by decide), n _ _ (by decide)]
  refine ⟨y1, y2, fun x x0 x1 => ?_, y4⟩
  rw [n _ _ (by decide)]
  exact y3 x x0 (by rw [← ai_eq (n 94 q (by decide))]; exact x1)
theorem rnF_n {n : Nat} (h : ¬ (k < N ∧ j < 12)) : rnF T (n + 1) s k j N = (s, k) := by
  show (if k < N ∧ j < 12 then _ else (s, k)) = _
  rw [if_neg h]
theorem rnF_y {n : Nat} (h : k < N ∧ j < 12) (h2 : (lkS T s).2 = true) : rnF T (n + 1) s k j N = rnF T n (lkS T s).1 (k + 1) 0 N := by
  show (if k < N ∧ j < 12 then (if (lkS T s).2 = true then _ else _) else (s, k)) = _
  rw [if_pos h, if_pos h2]
theorem rnF_w {n : Nat} (h : k < N ∧ j < 12) (h2 : (lkS T s).2 = false) : rnF T (n + 1) s k j N = rnF T n (lkS T s).1 k (j + 1) N := by
  show (if k < N ∧ j < 12 then (if (lkS T s).2 = true then _ else _) else (s, k)) = _
  rw [if_pos h, if_neg (by rw [h2]; decide)]
theorem x5_goOn (hR : RelC T NN al0 hi0 hr0 (fun _ => False) A al hi hr s) (hP : AllP s) (hBs : Bs T NN al0 hi0 hr0) (hI : INV T s) (hZ : Z90 s) (hN : 0 ≤ N ∧ N ≤ 10000) (h52 : s 49 52 < 1000000000) (hd : 10 ≤ d) (q : ∀ A' al' hi' hr', RelC T NN al0 hi0 hr0 (fun _ => False) A' al' hi' hr' (rnF T ((N + 1) * 13).toNat s 0 0 N).1 → AllP (rnF T ((N + 1) * 13).toNat s 0 0 N).1 → INV T (rnF T ((N + 1) * 13).toNat s 0 0 N).1 → Z90 (rnF T ((N + 1) * 13).toNat s 0 0 N).1 → Q (some (some (vI (rnF T ((N + 1) * 13).toNat s 0 0 N).2))) al' hi' hr') : Ev d 72 [vR (some 26), vI N] al hi hr Q := by
  obtain ⟨M, hM⟩ : ∃ M, (N + 1) * 13 = M := ⟨_, rfl⟩
  rw [hM] at q
  have T15 : ∀ (n : Nat) (s1 : HI) (k j : Int) A1 al1 hi1 hr1 l6, n ≤ M → RelC T NN al0 hi0 hr0 (fun _ => False) A1 al1 hi1 hr1 s1 → AllP s1 → INV T s1 → Z90 s1 → (0 ≤ k ∧ k ≤ N) → (0 ≤ j ∧ j ≤ 12) → s1 49 52 + n < 2000000000 → rnF T n s1 k j N = rnF T M.toNat s 0 0 N → Wp d 72 15 [vR (some 26), vI N, vI k, vI j, vI M, vI (M - n), l6] [] al1 hi1 hr1 Q := by
    intro n
    induction n with
    | zero =>
      intro s1 k j A1 al1 hi1 hr1 l6 nM y1 y2 y3 y4 y5 y6 y7 y8
      have e : rnF T 0 s1 k j N = (s1, k) := rfl
      rw [e] at y8
      rw [← y8] at q
      have E0 := q A1 al1 hi1 hr1 y1 y2 y3 y4
      rw [show M - ((0 : Nat) : Int) = M by omega]
      refine s72_15.mpr (s72_17.mpr ?_)
      refine s72_19.mpr (wif (fun c19 => ?_) (fun c19 => ?_))
      · skip
        exfalso; omega
      · skip
        refine s72_100.mpr ?_
        refine (s72_101).mpr ?_
        exact E0
    | succ n ih =>
      intro s1 k j A1 al1 hi1 hr1 l6 nM y1 y2 y3 y4 y5 y6 y7 y8
      by_cases c : k < N ∧ j < 12
      · obtain ⟨c1, c2⟩ := c
        obtain ⟨il1, il2, il3⟩ := inv_look y3
        have k26 : isK al1 26 6 := y1.1.1.k (by decide) (by decide) rfl
        obtain ⟨p, hp⟩ : ∃ p, s1 49 53 = p := ⟨_, rfl⟩
        have p0 : 0 ≤ p ∧ p < 12 := by rw [← hp]; exact y3.2.1.1
        have h52 := y3.2.1.2.2.1
        have m10 : hi1 26 10 = p := by rw [y1.2.1.2.2.2.1]; exact hp
        have ei : M - ((n + 1 : Nat) : Int) + 1 = M - n := by omega
        -- no step
        have WAIT : ∀ A2 al2 hi2 hr2 s2 l6, RelC T NN al0 hi0 hr0 (fun _ => False) A2 al2 hi2 hr2 s2 → AllP s2 → lkS T s1 = (nxS s2, false) → Z90 s2 → s2 49 53 = p → Wp d 72 87 [vR (some 26), vI N, vI k, vI j, vI M, vI (M - ((n + 1 : Nat) : Int)), l6] [] al2 hi2 hr2 Q := by
          intro A2 al2 hi2 hr2 s2 l6 z1 z2 z3 z4 z5
          have k26' : isK al2 26 6 := z1.1.1.k (by decide) (by decide) rfl
          have PO : Ev (d - 1) 73 [vR (some 26)] al2 hi2 hr2 (kon d 72 91 94 [vR (some 26), vI N, vI k, vI (j + 1), vI M, vI (M - ((n + 1 : Nat) : Int)), l6] [] Q) := by
            refine x5_passOn z1 z2 (by rw [z5]; exact p0) (fun h5 u1 u2 => ?_)
            have eL : (lkS T s1).1 = nxS s2 := by rw [z3]
            have Z := ih (lkS T s1).1 k (j + 1) A2 al2 h5 hr2 l6 (by omega) (by rw [eL]; exact u1) (by rw [eL]; exact u2) il2 (by rw [eL]; exact fun q hq => by unfold nxS at hq ⊢; rw [upI_a (by decide), upI_a (by decide)] at hq ⊢; exact z4 q hq) y5 (by omega) (by omega) (by rw [← y8]; exact (rnF_w ⟨c1, c2⟩ (by rw [z3])).symm)
            rw [← ei] at Z
            simp only [kon, knt_some, knt_none, Option.toList_some, Option.toList_none, List.cons_append, List.nil_append]
            refine s72_94.mpr (s72_97.mpr ?_)
            try simp (disch := first | decide | assumption | omega) only [fAdd_id]
            exact Z
          refine s72_87.mpr (s72_90.mpr ?_)
          try simp (disch := first | decide | assumption | omega) only [fAdd_id]
          refine (s72_91 (by first | decide | assumption | omega) (by first | decide | assumption | omega)).mpr ?_
          exact PO
        have LV : Ev (d - 1) 68 [vR (some 26), vI p] al1 hi1 hr1 (kon d 72 38 41 [vR (some 26), vI N, vI k, vI j, vI M, vI (M - ((n + 1 : Nat) : Int)), l6] [] Q) := by
          refine x5_livingAt y1 y2 p0 (by omega) (fun t h4 hO => ?_) (fun h4 => ?_)
          · obtain ⟨m, f, X, pc, fl, o, v, L⟩ := lk_of y3 hp h4
            have k9 := (y1.tf hO).1.1.2
            have t119 := (y1.tf hO).1.1.1
            have ht := hO.2.1
            have eop : op9 T s1 p = o := by
              obtain ⟨hJ, hpc, pc0, ts9, hvX, ⟨ho, hv⟩, -⟩ := L
              unfold op9 qq9 fn9 pc9
              rw [hJ.2.1.2.2.1, hJ.2.2.2.2.1.2, hpc]; exact ho
            have ST : ∀ y : Int, 1 ≤ y → y < 4 → RelC T NN al0 hi0 hr0 (fun _ => False) A1 al1 (upI hi1 t 4 y) hr1 (upI s1 89 p y) := fun y z1 z2 =>
              y1.st (hi' := upI hi1 t 4 y) (s' := upI s1 89 p y) p0 ht (fun a i z => upI_ne (by omega)) (fun a i z => upI_ne (by omega)) (by rw [upI_eq, upI_eq]) (by rw [upI_i (by decide), upI_a (by decide)]; exact (y1.tf hO).2.2.2.2.2.2.1) (by rw [upI_i (by decide), upI_a (by decide)]; exact (y1.tf hO).2.2.2.2.2.2.2) (fun _ => h4)
            have zy : ∀ y : Int, y < 4 → Z90 (upI s1 89 p y) := fun y _ q hq => by
              rw [upI_a (by decide)]
              by_cases z : q = p
              · rw [z]; exact y4 p h4
              · rw [upI_i z] at hq; exact y4 q hq
            have W2 : ∀ y : Int, ¬ cgO s1 p o v → (y = 2 ∨ y = 3) → (if op9 T s1 p = 38 then (2 : Int) else 3) = y → Wp d 72 56 [vR (some 26), vI N, vI k, vI j, vI M, vI (M - ((n + 1 : Nat) : Int)), vR (some t)] [vI y, vR (some t)] al1 hi1 hr1 Q := fun y z1 z2 z3 => by
              have Z := WAIT A1 al1 (upI hi1 t 4 y) hr1 (upI s1 89 p y) (vR (some t)) (ST y (by omega) (by omega)) (y2.s89 h4) (by
                have := lk_wait (T := T) hp (fun u => z1 (L.cg.mp u.2))
                rw [if_pos h4, z3] at this
                exact this) (zy y (by omega)) (by rw [upI_a (by decide)]; exact hp)
              have r4 : upI hi1 t 4 y t 4 = y := upI_eq
              refine (s72_56 (by first | decide | assumption | omega)).mpr ?_
              refine s72_59.mpr ?_
              try simp (disch := first | decide | assumption | omega) only [r4]
              refine s72_61.mpr (wif (fun c61 => ?_) (fun c61 => ?_))
              · skip
                first | exact Z | (exfalso; simp at c61)
              · skip
                refine s72_64.mpr ?_
                refine (s72_66 (by first | decide | assumption | omega)).mpr ?_
                refine s72_69.mpr ?_
                try simp (disch := first | decide | assumption | omega) only [r4]
                refine s72_70.mpr (wif (fun c70 => ?_) (fun c70 => ?_))
                · skip
                  exfalso; omega
                · skip
                  first | exact Z | (exfalso; simp at c61)
            have OU : Ev (d - 1) 74 [vR (some 26), vR (some t)] al1 hi1 hr1 (kon d 72 53 56 [vR (some 26), vI N, vI k, vI j, vI M, vI (M - ((n + 1 : Nat) : Int)), vR (some t)] [vR (some t)] Q) := by
              refine x5_outlook y1 hO y2 hBs L (by omega) (fun cg => ?_) (fun cg h38 => ?_) (fun cg h37 => ?_)
              · have SP : Ev (d - 1) 77 [vR (some 26), vR (some t)] al1 (upI hi1 t 4 1) hr1 (kon d 72 76 79 [vR (some 26), vI N, vI k, vI j, vI M, vI (M - ((n + 1 : Nat) : Int)), vR (some t)] [] Q) := by
                  refine x5_step (ST 1 (by decide) (by decide)) y2 ht hBs y3 hp h4 y4 L cg (by omega) (by omega) (fun A2 al2 hi2 hr2 u1 u2 u3 => ?_)
                  have e2 : (lkS T s1).2 = true := by rw [lk_step hp h4 (L.cg.mpr cg)]
                  have Z := ih (lkS T s1).1 (k + 1) 0 A2 al2 hi2 hr2 (vR (some t)) (by omega) u1 u2 il2 u3 (by omega) (by omega) (by omega) (by rw [← y8]; exact (rnF_y ⟨c1, c2⟩ e2).symm)
                  rw [← ei] at Z
                  simp only [kon, knt_some, knt_none, Option.toList_some, Option.toList_none, List.cons_append, List.nil_append]
                  refine s72_79.mpr (s72_82.mpr (s72_83.mpr (s72_84.mpr (s72_94.mpr (s72_97.mpr ?_)))))
                  try simp (disch := first | decide | assumption | omega) only [fAdd_id]
                  exact Z
                have r4 : upI hi1 t 4 1 t 4 = 1 := upI_eq
                simp only [kon, knt_some, knt_none, Option.toList_some, Option.toList_none, List.cons_append, List.nil_append]
                refine (s72_56 (by first | decide | assumption | omega)).mpr ?_
                refine s72_59.mpr ?_
                try simp (disch := first | decide | assumption | omega) only [r4]
                refine s72_61.mpr (wif (fun c61 => ?_) (fun c61 => ?_))
                · skip
                  first | (exfalso; omega) | (exfalso; simp at c61)
                · skip
                  refine s72_64.mpr ?_
                  refine (s72_66 (by first | decide | assumption | omega)).mpr ?_
                  refine s72_69.mpr ?_
                  try simp (disch := first | decide | assumption | omega) only [r4]
                  refine s72_70.mpr (wif (fun c70 => ?_) (fun c70 => ?_))
                  · skip
                    refine s72_73.mpr (s72_74.mpr ?_)
                    refine (s72_76 (by first | decide | assumption | omega) (by first | decide | assumption | omega)).mpr ?_
                    exact SP
                  · skip
                    first | (exfalso; omega) | (exfalso; simp at c61)
              · have Z := W2 2 cg (Or.inl rfl) (by rw [eop, if_pos h38])
                simp only [kon, knt_some, knt_none, Option.toList_some, Option.toList_none, List.cons_append, List.nil_append]
                exact Z
              · have Z := W2 3 cg (Or.inr rfl) (by rw [eop, if_neg (by omega)])
                simp only [kon, knt_some, knt_none, Option.toList_some, Option.toList_none, List.cons_append, List.nil_append]
                exact Z
            simp only [kon, knt_some, knt_none, Option.toList_some, Option.toList_none, List.cons_append, List.nil_append]
            refine s72_41.mpr (s72_43.mpr ?_)
            refine s72_45.mpr (wif (fun c45 => ?_) (fun c45 => ?_))
            · skip
              exfalso; simp at c45
            · skip
              refine s72_48.mpr (s72_50.mpr (s72_51.mpr ?_))
              refine (s72_53 (by first | decide | assumption | omega) (by first | decide | assumption | omega)).mpr ?_
              exact OU
          · have Z := WAIT A1 al1 hi1 hr1 s1 (vR none) y1 y2 (by
              have := lk_wait (T := T) hp (fun u => by omega)
              rw [if_neg (by omega)] at this
              exact this) y4 hp
            simp only [kon, knt_some, knt_none, Option.toList_some, Option.toList_none, List.cons_append, List.nil_append]
            refine s72_41.mpr (s72_43.mpr ?_)
            refine s72_45.mpr (wif (fun c45 => ?_) (fun c45 => ?_))
            · skip
              refine s72_59.mpr ?_
              refine s72_61.mpr (wif (fun c61 => ?_) (fun c61 => ?_))
              · skip
                exact Z
              · skip
                exfalso; simp at c61
            · skip
              exfalso; simp at c45
        refine s72_15.mpr (s72_17.mpr ?_)
        refine s72_19.mpr (wif (fun c19 => ?_) (fun c19 => ?_))
        · first
          | (exfalso; omega)
          | skip
            refine s72_22.mpr (s72_23.mpr ?_)
            refine s72_24.mpr (wif (fun c24 => ?_) (fun c24 => ?_))
            · first
              | (exfalso; omega)
              | skip
                refine s72_27.mpr (s72_28.mpr ?_)
                refine s72_30.mpr (wif (fun c30 => ?_) (fun c30 => ?_))
                · first
                  | (exfalso; omega)
                  | skip
                    refine s72_33.mpr (s72_34.mpr ?_)
                    refine (s72_35 (by first | decide | assumption | omega)).mpr ?_
                    try simp (disch := first | decide | assumption | omega) only [m10]
                    refine (s72_38 (by first | decide | assumption | omega) (by first | decide | assumption | omega)).mpr ?_
                    exact LV
                · first
                  | (exfalso; omega)
                  | skip
                    exfalso; omega
            · first
              | (exfalso; omega)
              | skip
                exfalso; omega
        · first
          | (exfalso; omega)
          | skip
            exfalso; omega
      · rw [rnF_n c] at y8
        rw [← y8] at q
        have E0 := q A1 al1 hi1 hr1 y1 y2 y3 y4
        refine s72_15.mpr (s72_17.mpr ?_)
        refine s72_19.mpr (wif (fun c19 => ?_) (fun c19 => ?_))
        · skip
          refine s72_22.mpr (s72_23.mpr ?_)
          refine s72_24.mpr (wif (fun c24 => ?_) (fun c24 => ?_))
          · skip
            refine s72_27.mpr (s72_28.mpr ?_)
            refine s72_30.mpr (wif (fun c30 => ?_) (fun c30 => ?_))
            · skip
              exfalso; omega
            · skip
              refine s72_100.mpr ?_
              refine (s72_101).mpr ?_
              exact E0
          · skip
            refine s72_100.mpr ?_
            refine (s72_101).mpr ?_
            exact E0
        · skip
          refine s72_100.mpr ?_
          refine (s72_101).mpr ?_
          exact E0
  have Z := fun l6 => T15 M.toNat s 0 0 A al hi hr l6 (by omega) hR hP hI hZ (by omega) (by omega) (by omega) rfl
  rw [show M - ((M.toNat : Nat) : Int) = 0 by omega] at Z
  rw [e72]
  refine s72_0.mpr (s72_1.mpr (s72_2.mpr (s72_3.mpr (s72_4.mpr (s72_5.mpr ?_)))))
  refine s72_6.mpr (s72_7.mpr (s72_9.mpr (s72_10.mpr (s72_12.mpr (s72_13.mpr ?_)))))
  try simp (disch := first | decide | assumption | omega) only [fAdd_id, fMul_id, hM]
  exact Z _
end CQ4
