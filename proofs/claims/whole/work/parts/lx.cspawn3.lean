/-! RUNNING, the class: the instruction that begins a process, whole -/
section CO3
variable {d : Nat} {Q : QQ} {T : TXs} {al al' : AL} {hi hi' h1 : HI} {hr hr' r1 : HR} {s s' s1 s2 u sx sm S : HI} {A A' : Int → Int → Int} {NN : Int → Option Nat} {E E' : Int → Prop} {p m f q v w x y n k g qx i P e fr ty kd tt cv o c9 z9 : Int} {B : Int → Int} {X Y : Tst} {t t' N M c b : Nat} {al0 : AL} {hi0 : HI} {hr0 : HR} {V W ws : Int → Int}
def ownL (s : HI) (V W : Int → Int) (o : Int) : Nat → HI
  | 0 => s
  | k + 1 => ownS (ownL s V W o k) (V k) (W k) o
theorem ownL_n {a : Nat} {j : Int} (h : a ≠ 110 ∧ a ≠ 113) : ∀ k, ownL s V W o k a j = s a j
  | 0 => rfl
  | k + 1 => by unfold ownL; rw [ownS_n h, ownL_n h k]
theorem ownS_up {a : Nat} (h : a ≠ 110 ∧ a ≠ 113) : ownS (upI s a i x) v w o = upI (ownS s v w o) a i x := by
  unfold ownS
  split
  · funext b j
    by_cases z : b = a
    · subst z
      rw [upI_a (show b ≠ 110 by omega)]
      by_cases y : j = i
      · subst y; rw [upI_eq, upI_eq]
      · rw [upI_i y, upI_i y, upI_a (show b ≠ 110 by omega)]
    · rw [upI_a z]
      unfold upI
      simp only [z, false_and, if_false]
  · split
    · funext b j
      by_cases z : b = a
      · subst z
        rw [upI_a (show b ≠ 113 by omega)]
        by_cases y : j = i
        · subst y; rw [upI_eq, upI_eq]
        · rw [upI_i y, upI_i y, upI_a (show b ≠ 113 by omega)]
      · rw [upI_a z]
        unfold upI
        simp only [z, false_and, if_false]
    · rfl
theorem ownL_up {a : Nat} (h : a ≠ 110 ∧ a ≠ 113) : ∀ k, ownL (upI s a i x) V W o k = upI (ownL s V W o k) a i x
  | 0 => rfl
  | k + 1 => by unfold ownL; rw [ownL_up h k, ownS_up h]
theorem ownL_st2 (k : Nat) : ownL (st2 s i v w) V W o k = st2 (ownL s V W o k) i v w := by
  unfold st2
  rw [ownL_up (by decide), ownL_up (by decide)]
theorem hnd_eq {n9 : Int} : ∀ k : Nat, (fr + k ≤ i ∨ i + k ≤ fr) → hndS S fr i n9 k = ownL (layS S i (fun j => S 98 (fr + j)) (fun j => S 99 (fr + j)) k) (fun j => S 98 (fr + j)) (fun j => S 99 (fr + j)) n9 k
  | 0, _ => rfl
  | k + 1, h => by
    have ih := hnd_eq (n9 := n9) k (by omega)
    have rd : ∀ (a : Nat), a = 98 ∨ a = 99 → hndS S fr i n9 k a (fr + k) = S a (fr + k) := fun a ha => by
      have a9 := mv98 (s := S) (fr := fr) (i := i) k (by omega) (fr + k)
      rw [if_neg (by omega), if_neg (by omega), mvS_lay k (by omega)] at a9
      rw [ih, ownL_n (by omega)]
      rcases ha with rfl | rfl
      · exact a9.1
      · exact a9.2
    show ownS (st2 (hndS S fr i n9 k) (i + k) (hndS S fr i n9 k 98 (fr + k)) (hndS S fr i n9 k 99 (fr + k))) (hndS S fr i n9 k 98 (fr + k)) (hndS S fr i n9 k 99 (fr + k)) n9 = ownS (ownL (st2 (layS S i (fun j => S 98 (fr + j)) (fun j => S 99 (fr + j)) k) (i + k) (S 98 (fr + k)) (S 99 (fr + k))) (fun j => S 98 (fr + j)) (fun j => S 99 (fr + j)) n9 k) (S 98 (fr + k)) (S 99 (fr + k)) n9
    rw [rd 98 (by decide), rd 99 (by decide), ownL_st2, ih]
theorem st2_up {a : Nat} {j : Int} (h : a ≠ 98 ∧ a ≠ 99) : st2 (upI s a j x) i v w = upI (st2 s i v w) a j x := by
  unfold st2
  funext b l
  by_cases z : b = a
  · subst z
    rw [upI_a (show b ≠ 99 by omega), upI_a (show b ≠ 98 by omega)]
    by_cases y : l = j
    · subst y; rw [upI_eq, upI_eq]
    · rw [upI_i y, upI_i y, upI_a (show b ≠ 99 by omega), upI_a (show b ≠ 98 by omega)]
  · rw [upI_a z]
    unfold upI
    simp only [z, false_and, if_false]
theorem layS_up {a : Nat} {j : Int} (h : a ≠ 98 ∧ a ≠ 99) : ∀ k, layS (upI s a j x) i V W k = upI (layS s i V W k) a j x
  | 0 => rfl
  | k + 1 => by unfold layS; rw [layS_up h k, st2_up h]
theorem layS_cg {V' W' : Int → Int} : ∀ k : Nat, (∀ j : Nat, j < k → V j = V' j ∧ W j = W' j) → layS s i V W k = layS s i V' W' k
  | 0, _ => rfl
  | k + 1, h => by
    unfold layS
    rw [layS_cg k (fun j z => h j (by omega)), (h k (by omega)).1, (h k (by omega)).2]
theorem ownL_cg {V' W' : Int → Int} : ∀ k : Nat, (∀ j : Nat, j < k → V j = V' j ∧ W j = W' j) → ownL s V W o k = ownL s V' W' o k
  | 0, _ => rfl
  | k + 1, h => by
    unfold ownL
    rw [ownL_cg k (fun j z => h j (by omega)), (h k (by omega)).1, (h k (by omega)).2]
theorem kmp45 : (kmp w = 4 ↔ w = 2) ∧ (kmp w = 5 ↔ w = 3) := by unfold kmp; split <;> (try split) <;> (try split) <;> (try split) <;> omega
theorem layS_97 (k : Nat) : ∀ (a : Nat) j, a ≠ 98 → a ≠ 99 → layS s i V W k a j = s a j := fun a j h1 h2 => layS_n ⟨h1, h2⟩ k
set_option maxRecDepth 8000 in
theorem x5_spawn (hR : RelC T NN al0 hi0 hr0 (fun _ => False) A al hi hr s) (hO : OnP hr s p t) (hP : AllP s) (hBQ : BQ s) (hBs : Bs T NN al0 hi0 hr0) (hm : s 91 p = m) (ho : o = 40) (hcv : cv = v) (v0 : 0 ≤ v ∧ v < nFn (T m)) (np4 : 0 ≤ nPar (T m) v ∧ nPar (T m) v ≤ 4) (hn : nPar (T m) v ≤ hg s p) (hg1 : ∀ q, 0 ≤ q → q < 12 → 1 ≤ s 89 q) (h56 : 0 ≤ s 49 56) (hW : ∀ k, 0 ≤ k → k < nPar (T m) v → ts s p k ≠ 1 ∧ (ts s p k = 2 → 0 ≤ tv s p k ∧ tv s p k < 128) ∧ (ts s p k = 3 → 0 ≤ tv s p k ∧ tv s p k < 24)) (hd : 4 ≤ d) (q : ∀ v' al' hi' hr', Pf T NN al0 hi0 hr0 p t (exS (T m) f s p o v qx) v' al' hi' hr' → Q (some (some (vI v'))) al' hi' hr') : Ev d 88 [vR (some 26), vR (some t), vI cv] al hi hr Q := by
  obtain ⟨⟨p0, p1⟩, ht, h89, ⟨a1, a16⟩, ⟨r0, r1⟩, h97, h56⟩ := id hO
  have hg16 := h97 _ (by unfold ai; omega) (Int.le_refl _); have hg16 : 0 ≤ hg s p ∧ hg s p ≤ 16 := hg16
  subst hcv
  rw [exq_40 ho] at q
  have k26 : isK al 26 6 := hR.1.1.k (by decide) (by decide) rfl
  have k9 := (hR.tf hO).1.1.2
  unfold spnS at q
  simp only [] at q
  rw [hm] at q
  obtain ⟨n, hn9⟩ : ∃ n, nPar (T m) cv = n := ⟨_, rfl⟩
  have CP := fun Q' z => c_parametersOf (d := d - 1) (Q := Q') hR hO hP hBs hm v0 np4 (by omega) z
  rw [hn9] at q np4 hn CP hW
  have T12 : ∀ h3, RelC T NN al0 hi0 hr0 (fun _ => False) A al h3 hr (pp s p n) → OnP hr (pp s p n) p t → AllP (pp s p n) → hldM A p (fun k => tv s p (n - 1 - k)) (fun k => ts s p (n - 1 - k)) 0 n h3 → ∀ l4 l5, Wp d 88 12 [vR (some 26), vR (some t), vI cv, vI n, l4, l5] [] al h3 hr Q := by
    intro h3 w1 w2 w3 w4 l4 l5
    obtain ⟨s1, hs1⟩ : ∃ s1, pp s p n = s1 := ⟨_, rfl⟩
    have e1 : ∀ (a : Nat) j, a ≠ 97 → s1 a j = s a j := fun a j z => by rw [← hs1]; exact ppz_n z
    have bq1 : BQ s1 := by rw [← hs1]; exact hBQ.pp_
    rw [hs1] at w1 w2 w3 q
    have hm1 : s1 91 p = m := (e1 _ _ (by decide)).trans hm
    obtain ⟨tS, ⟨⟨N, hNN, eN⟩, -⟩, tH⟩ := w1.tf w2
    rw [hm1] at hNN
    have h2 : h3 t 2 = m - 6 := by rw [tH.2.1, hm1]
    have h33 : h3 t 3 = s 92 p := by rw [tH.2.2.1, e1 _ _ (by decide)]
    have t119 := tS.1.1
    have T15 : ∀ (j : Nat) (k : Int) l5, k + j = 12 → 0 ≤ k → (∀ i, 0 ≤ i → i < k → s 89 i < 4) → Wp d 88 15 [vR (some 26), vR (some t), vI cv, vI n, vI k, l5] [] al h3 hr Q := by
      intro j
      induction j with
      | zero =>
        intro k l5 hk k0 hj
        have ef : frP s = 12 := by
          unfold frP
          have := frL_b (g := fun k => decide (s 89 k < 4)) 12 0
          apply Classical.byContradiction
          intro z
          have y := (frL_f (f := fun k => decide (s 89 k < 4)) 12 0 (by omega)).2
          obtain ⟨x, hx⟩ : ∃ x, frL (fun k => decide (s 89 k < 4)) 12 0 = x := ⟨_, rfl⟩
          rw [hx] at y z this
          rw [decide_eq_true (hj x (by omega) (by omega))] at y
          cases y
        rw [if_pos ef] at q
        have E0 := q 8 _ _ _ (Pf.tr2 w1 w2 w3 bq1 (by decide) (fun a i z => by
          rw [← hs1]; unfold pp; exact (upI_ne (fun y => z (by obtain ⟨rfl, rfl⟩ := y; unfold ownC ai; omega))).symm) rfl)
        refine s88_15.mpr (s88_17.mpr ?_)
        refine s88_19.mpr (wif (fun c19 => ?_) (fun c19 => ?_))
        · skip
          exfalso; omega
        · skip
          refine s88_101.mpr ?_
          refine (s88_103).mpr ?_
          exact E0
      | succ j ih =>
        intro k l5 hk k0 hj
        by_cases c : s 89 k < 4
        · have N15 := ih (k + 1) l5 (by omega) (by omega) (fun i i0 i1 => by
            by_cases z : i = k
            · subst z; exact c
            · exact hj i i0 (by omega))
          have LV : Ev (d - 1) 68 [vR (some 26), vI k] al h3 hr (kon d 88 25 28 [vR (some 26), vR (some t), vI cv, vI n, vI k, l5] [] Q) := by
            refine x5_livingAt w1 w3 (by omega) (by omega) (fun t' _ _ => ?_) (fun z => by rw [e1 _ _ (by decide)] at z; exfalso; omega)
            simp only [kon, knt_some, knt_none, Option.toList_some, Option.toList_none, List.cons_append, List.nil_append]
            refine s88_28.mpr (wif (fun c28 => ?_) (fun c28 => ?_))
            · skip
              exfalso; simp at c28
            · skip
              refine s88_95.mpr (s88_98.mpr ?_)
              try simp (disch := first | decide | assumption | omega) only [fAdd_id]
              exact N15
          refine s88_15.mpr (s88_17.mpr ?_)
          refine s88_19.mpr (wif (fun c19 => ?_) (fun c19 => ?_))
          · skip
            refine s88_22.mpr (s88_23.mpr ?_)
            refine (s88_25 (by first | decide | assumption | omega) (by first | decide | assumption | omega)).mpr ?_
            exact LV
          · skip
            exfalso; omega
        · have ef : frP s = k := frL_l 12 0 k k0 (by omega) (decide_eq_false c) (fun i i0 i1 => decide_eq_true (hj i i0 i1))
          rw [ef, if_neg (by omega)] at q
          have kp : k ≠ p := fun z => c (by rw [z]; exact h89)
          have k56 : k ≤ s1 49 56 := by
            rw [e1 _ _ (by decide)]
            apply Classical.byContradiction
            intro z
            have := (hP (s 49 56) (by omega) (by omega) (hj (s 49 56) (by omega) (by omega))).2.2.2
            omega
          -- what is handed over
          obtain ⟨V, hV⟩ : ∃ V : Int → Int, V = fun j => tv s p (n - 1 - j) := ⟨_, rfl⟩
          obtain ⟨W, hW9⟩ : ∃ W : Int → Int, W = fun j => ts s p (n - 1 - j) := ⟨_, rfl⟩
          have VW : ∀ j, V j = tv s p (n - 1 - j) ∧ W j = ts s p (n - 1 - j) := fun j => by rw [hV, hW9]; exact ⟨rfl, rfl⟩
          rw [← hV, ← hW9] at w4
          have T51 : ∀ t2 al' h4 r4, RelC T NN al0 hi0 hr0 (fun _ => False) (fun q b => if q = k then 0 else A q b) al' h4 r4 (bgS s1 k m cv (s 92 p)) → OnP r4 (bgS s1 k m cv (s 92 p)) k t2 → AllP (bgS s1 k m cv (s 92 p)) → (∀ (a : Nat) i, a = 47 ∨ a = 48 → h4 a i = h3 a i) → r4 27 p = some t → Wp d 88 51 [vR (some 26), vR (some t), vI cv, vI n, vI k, l5] [vR (some t2), vR (some 26)] al' h4 r4 Q := by
            intro t2 al' h4 r4 y1 y2 y3 y4 y5
            obtain ⟨s3, hs3⟩ : ∃ s3, bgS s1 k m cv (s 92 p) = s3 := ⟨_, rfl⟩
            have n3 : ∀ (a : Nat) i, ¬ ownC k a i → ¬ (a = 49 ∧ i = 56) → s3 a i = s1 a i := fun a i z1 z2 => by rw [← hs3]; unfold bgS; rw [upI_ne z2]; exact sta_o z1
            have ai3 : ai s3 k = 16 * k := by
              have : s3 94 k = 1 := by rw [← hs3]; unfold bgS; rw [upI_a (by decide)]; exact sta_94
              unfold ai; rw [this]; omega
            rw [hs3] at y1 y2 y3
            have k26' : isK al' 26 6 := y1.1.1.k (by decide) (by decide) rfl
            have k33' : isK al' 33 5 := y1.1.1.k (by decide) (by decide) rfl
            have K47 : isK al' 47 15 := y1.1.1.k (by decide) (by decide) rfl
            have K48 : isK al' 48 15 := y1.1.1.k (by decide) (by decide) rfl
            have l47 : aln al' 47 = 4 := y1.1.1.len (by decide) (by decide) rfl
            have l48 : aln al' 48 = 4 := y1.1.1.len (by decide) (by decide) rfl
            have f4 := cr_26_4 y1.1.2.1
            have f47 := cr_26_13 y1.1.2.1
            have f48 := cr_26_14 y1.1.2.1
            have hld4 : hldM (fun q b => if q = k then 0 else A q b) k V W 0 n h4 := fun j j0 j1 => by
              obtain ⟨u1, u2⟩ := w4 j j0 j1
              have nw := (hW (n - 1 - j) (by omega) (by omega)).1
              rw [← (VW j).2] at nw
              rw [y4 _ _ (Or.inr rfl), y4 _ _ (Or.inl rfl), u1, u2, vm_0 nw, vm_0 nw]
              exact ⟨rfl, rfl⟩
            have en9 : ((n.toNat : Nat) : Int) = n := Int.toNat_of_nonneg np4.1
            -- the parameters lie there: they get their owner
            have T58 : ∀ h5, RelC T NN al0 hi0 hr0 (fun _ => False) (fun q b => if q = k then 0 else A q b) al' h5 r4 (layS s3 (26 * ai s3 k) V W n.toNat) → AllP (layS s3 (26 * ai s3 k) V W n.toNat) → (∀ (a : Nat) i, a = 47 ∨ a = 48 → h5 a i = h4 a i) → Wp d 88 58 [vR (some 26), vR (some t), vI cv, vI n, vI k, vI 0] [] al' h5 r4 Q := by
              intro h5 x1 x2 x3
              refine wp_cnt (N := n.toNat) (fun j ls h => ls = [vR (some 26), vR (some t), vI cv, vI n, vI k, vI j] ∧ RelC T NN al0 hi0 hr0 (fun _ => False) (fun q b => if q = k then 0 else A q b) al' h r4 (ownL (layS s3 (26 * ai s3 k) V W n.toNat) V W k j) ∧ AllP (ownL (layS s3 (26 * ai s3 k) V W n.toNat) V W k j) ∧ ∀ (a : Nat) i, a = 47 ∨ a = 48 → h a i = h4 a i) ?_ ?_ _ _ ⟨rfl, x1, x2, x3⟩
              · rintro j ls h hj9 ⟨rfl, u1, u2, u3⟩ nx
                obtain ⟨U1, U2⟩ := u1.rs_
                obtain ⟨z1, z2⟩ := hld4 j (by omega) (by omega)
                rw [← u3 _ _ (Or.inr rfl), vm_0 (by rw [(VW j).2]; exact (hW (n - 1 - j) (by omega) (by omega)).1)] at z1
                rw [← u3 _ _ (Or.inl rfl)] at z2
                have hw9 := hW (n - 1 - j) (by omega) (by omega)
                rw [← (VW j).1, ← (VW j).2] at hw9
                have HD := x_hand (d := d - 1) (kd := kmp (W j)) (o := k) (v := V j) (w := W j) (Q := kon d 88 84 87 [vR (some 26), vR (some t), vI cv, vI n, vI k, vI j] [] Q) U1 u2 kmp45 (by omega) hw9.2.1 hw9.2.2 (fun h6 a1 a2 => by
                  have N58 := nx [vR (some 26), vR (some t), vI cv, vI n, vI k, vI ((j : Int) + 1)] h6 ⟨by rw [cast1], a1.rc_ (U2.cg (fun a i z => a2 a i (by omega) (by omega))), u2.glo (fun a i z => ownS_n (by unfold gS at z; omega)) (ownS_n (by decide)), fun a i z => (a2 a i (by omega) (by omega)).trans (u3 a i z)⟩
                  simp only [kon, knt_some, knt_none, Option.toList_some, Option.toList_none, List.cons_append, List.nil_append]
                  refine s88_87.mpr (s88_90.mpr ?_)
                  try simp (disch := first | decide | assumption | omega) only [fAdd_id]
                  exact N58
                  )
                refine s88_58.mpr (s88_60.mpr ?_)
                refine s88_61.mpr (wif (fun c61 => ?_) (fun c61 => ?_))
                · skip
                  refine s88_64.mpr ?_
                  refine (s88_65 (by first | decide | assumption | omega)).mpr ?_
                  refine s88_68.mpr ?_
                  try simp (disch := first | decide | assumption | omega) only [f4, f47, f48, z1, z2]
                  refine (s88_69 (by first | decide | assumption | omega)).mpr ?_
                  refine s88_72.mpr ?_
                  try simp (disch := first | decide | assumption | omega) only [f4, f47, f48, z1, z2]
                  refine (s88_74 (by first | decide | assumption | omega) (by first | decide | assumption | omega) (by first | decide | assumption | omega)).mpr ?_
                  refine s88_75.mpr ?_
                  try simp (disch := first | decide | assumption | omega) only [f4, f47, f48, z1, z2]
                  refine (s88_76 (by first | decide | assumption | omega)).mpr ?_
                  refine s88_79.mpr ?_
                  try simp (disch := first | decide | assumption | omega) only [f4, f47, f48, z1, z2]
                  refine (s88_81 (by first | decide | assumption | omega) (by first | decide | assumption | omega) (by first | decide | assumption | omega)).mpr ?_
                  refine s88_82.mpr ?_
                  try simp (disch := first | decide | assumption | omega) only [f4, f47, f48, z1, z2]
                  refine (s88_84 (by first | decide | assumption | omega) (by first | decide | assumption | omega)).mpr ?_
                  exact HD
                · skip
                  exfalso; omega
              · rintro ls h ⟨rfl, u1, u2, u3⟩
                have eq9 : upI (hndS (staS s1 k m cv (s 92 p)) (sk s p (hg s p - n)) (26 * (16 * k)) k n.toNat) 49 56 (if s 49 56 < k + 1 then k + 1 else s 49 56) = ownL (layS s3 (26 * ai s3 k) V W n.toNat) V W k n.toNat := by
                  have fd : ∀ j : Nat, j < n.toNat → staS s1 k m cv (s 92 p) 98 (sk s p (hg s p - n) + j) = V j ∧ staS s1 k m cv (s 92 p) 99 (sk s p (hg s p - n) + j) = W j := fun j hj => by
                    have nown : ∀ a : Nat, a = 98 ∨ a = 99 → ¬ ownC k a (sk s p (hg s p - n) + j) := fun a ha z => by unfold ownC sk ai at z; omega
                    rw [sta_o (nown 98 (by decide)), sta_o (nown 99 (by decide)), e1 _ _ (by decide), e1 _ _ (by decide), (VW j).1, (VW j).2]
                    unfold tv ts sk
                    rw [show 26 * ai s p + 10 + (hg s p - n) + (j : Int) = 26 * ai s p + 10 + (hg s p - 1 - (n - 1 - j)) by omega]
                    exact ⟨rfl, rfl⟩
                  rw [hnd_eq n.toNat (by unfold sk ai; omega), layS_cg n.toNat fd, ownL_cg n.toNat fd, ai3, ← hs3]
                  unfold bgS
                  rw [e1 49 56 (by decide), layS_up (by decide), ownL_up (by decide)]
                obtain ⟨sF, hsF⟩ : ∃ sF, ownL (layS s3 (26 * ai s3 k) V W n.toNat) V W k n.toNat = sF := ⟨_, rfl⟩
                have nF : ∀ (a : Nat) i, a ≠ 98 → a ≠ 99 → a ≠ 110 → a ≠ 113 → sF a i = s3 a i := fun a i z1 z2 z3 z4 => by rw [← hsF, ownL_n ⟨z3, z4⟩, layS_n ⟨z1, z2⟩]
                rw [hsF] at u1 u2 eq9
                rw [eq9] at q
                have no : ∀ a i, ownC p a i → ¬ ownC k a i := fun a i z y => by unfold ownC hx at z y; omega
                have q3 : ∀ (a : Nat) i, ownC p a i → s3 a i = s1 a i := fun a i z => n3 a i (no a i z) (fun y => by unfold ownC at z; omega)
                have oF : OnP r4 sF p t := by
                  obtain ⟨g0, g1, g2, g3, g4, g5, g6⟩ := w2
                  have e94 : sF 94 p = s1 94 p := by rw [nF _ _ (by decide) (by decide) (by decide) (by decide), q3 _ _ (by unfold ownC; omega)]
                  refine ⟨g0, y5, by rw [nF _ _ (by decide) (by decide) (by decide) (by decide), q3 _ _ (by unfold ownC; omega)]; exact g2, by rw [e94]; exact g3, by rw [nF _ _ (by decide) (by decide) (by decide) (by decide), q3 _ _ (by unfold ownC; omega)]; exact g4, fun x x0 x1 => ?_, ?_⟩
                  · rw [ai_eq e94] at x1
                    rw [nF _ _ (by decide) (by decide) (by decide) (by decide), q3 _ _ (by unfold ownC; unfold ai at x1; omega)]
                    exact g5 x x0 x1
                  · rw [nF _ _ (by decide) (by decide) (by decide) (by decide), ← hs3]
                    unfold bgS
                    rw [upI_eq]
                    split <;> omega
                have E0 := q 0 _ _ _ (Pf.ok u1 oF u2 (bq1.eq (fun a i z => by rw [nF _ _ (by omega) (by omega) (by omega) (by omega), n3 _ _ (by unfold ownC; omega) (by omega)])))
                refine s88_58.mpr (s88_60.mpr ?_)
                refine s88_61.mpr (wif (fun c61 => ?_) (fun c61 => ?_))
                · skip
                  exfalso; omega
                · skip
                  refine s88_93.mpr ?_
                  refine (s88_94).mpr ?_
                  exact E0
            have LP := x5_layP (d := d - 1) (Q := kon d 88 52 55 [vR (some 26), vR (some t), vI cv, vI n, vI k, l5] [] Q) y1 y2 y3 np4 hld4 (fun j j0 j1 z1 _ => absurd ((VW j).2.symm.trans z1) (hW (n - 1 - j) (by omega) (by omega)).1) (by omega) (fun h5 x1 x2 x3 x4 => by
              have Z := T58 h5 x1 x3 x4
              simp only [kon, knt_some, knt_none, Option.toList_some, Option.toList_none, List.cons_append, List.nil_append]
              refine s88_55.mpr (s88_56.mpr ?_)
              exact Z
              )
            refine s88_51.mpr ?_
            refine (s88_52 (by first | decide | assumption | omega) (by first | decide | assumption | omega)).mpr ?_
            exact LP
          have BG : Ev (d - 1) 66 [vR (some 26), vI k, vR (some N), vI (m - 6), vI cv, vI (s 92 p)] al h3 hr (kon d 88 48 51 [vR (some 26), vR (some t), vI cv, vI n, vI k, l5] [vR (some 26)] Q) := by
            refine x5_begin w1.1.1 w1.1.2.1 (by omega) (fun t' e => (w1.2.2.2.2.1.1 k t' k0 (by omega) e).1) ⟨r0, r1⟩ (by omega) (fun t2 al' h5 r5 h6 z1 z2 z3 => ?_)
            have t2119 := z2.1.1
            obtain ⟨y1, y2, y3⟩ := w1.beg w3 hBs ⟨k0, by omega⟩ (by rw [e1 _ _ (by decide)]; omega) k56 hNN ⟨r0, r1⟩ z1 z2 z3
            have zf := z3.2.2.2.2.2.2.2.2.2.2.2.2.2
            have al119 : 119 ≤ al.1 := w1.1.1.1
            have f5 : ∀ (a : Nat) i, a = 47 ∨ a = 48 → h6 a i = h3 a i := fun a i z => by
              rw [zf a i (by omega), upI_a (by omega)]
              rcases z1 with ⟨-, -, hh, -⟩ | ⟨-, tt2, -, -, -, -, -, hh, -, -⟩
              · rw [hh]
              · exact hh a i (by omega)
            have r5p : upR r5 t2 1 (some N) 27 p = some t := by
              rw [upR_a (by omega)]
              rcases z1 with ⟨-, -, -, hh⟩ | ⟨-, tt2, -, -, -, -, -, -, -, hh⟩
              · rw [hh]; exact ht
              · rw [hh 27 p (by omega) (by omega)]; exact ht
            have Z := T51 t2 al' h6 _ y1 y2 y3 f5 r5p
            simp only [kon, knt_some, knt_none, Option.toList_some, Option.toList_none, List.cons_append, List.nil_append]
            exact Z
          have LV : Ev (d - 1) 68 [vR (some 26), vI k] al h3 hr (kon d 88 25 28 [vR (some 26), vR (some t), vI cv, vI n, vI k, l5] [] Q) := by
            refine x5_livingAt w1 w3 (by omega) (by omega) (fun t' z _ => by rw [e1 _ _ (by decide)] at z; exact absurd z c) (fun _ => ?_)
            simp only [kon, knt_some, knt_none, Option.toList_some, Option.toList_none, List.cons_append, List.nil_append]
            refine s88_28.mpr (wif (fun c28 => ?_) (fun c28 => ?_))
            · skip
              refine s88_31.mpr (s88_32.mpr (s88_33.mpr (s88_35.mpr ?_)))
              refine (s88_36 (by first | decide | assumption | omega)).mpr ?_
              refine s88_39.mpr ?_
              try simp (disch := first | decide | assumption | omega) only [eN, h2, h33]
              refine (s88_40 (by first | decide | assumption | omega)).mpr ?_
              refine s88_43.mpr (s88_44.mpr ?_)
              try simp (disch := first | decide | assumption | omega) only [eN, h2, h33]
              refine (s88_45 (by first | decide | assumption | omega)).mpr ?_
              try simp (disch := first | decide | assumption | omega) only [eN, h2, h33]
              refine (s88_48 (by first | decide | assumption | omega) (by first | decide | assumption | omega)).mpr ?_
              exact BG
            · skip
              exact absurd rfl (by assumption)
          refine s88_15.mpr (s88_17.mpr ?_)
          refine s88_19.mpr (wif (fun c19 => ?_) (fun c19 => ?_))
          · skip
            refine s88_22.mpr (s88_23.mpr ?_)
            refine (s88_25 (by first | decide | assumption | omega) (by first | decide | assumption | omega)).mpr ?_
            exact LV
          · skip
            exfalso; omega
    have Z := fun l5 => T15 12 0 l5 rfl (Int.le_refl _) (fun i i0 i1 => by exfalso; omega)
    refine s88_12.mpr (s88_13.mpr ?_)
    exact Z _
  have TP := x5_takeP (d := d - 1) (Q := kon d 88 9 12 [vR (some 26), vR (some t), vI cv, vI n, none, none] [] Q) hR hO hP np4 hn (by omega) (fun h3 w1 w2 w3 w4 => by
    have Z := T12 h3 w1 w2 w3 w4 none none
    simp only [kon, knt_some, knt_none, Option.toList_some, Option.toList_none, List.cons_append, List.nil_append]
    exact Z)
  rw [e88]
  refine s88_0.mpr (s88_1.mpr ?_)
  refine (s88_2 (by omega)).mpr ?_
  refine CP _ ?_
  simp only [kon, knt_some, knt_none, Option.toList_some, Option.toList_none, List.cons_append, List.nil_append]
  refine s88_5.mpr (s88_6.mpr (s88_7.mpr (s88_8.mpr ?_)))
  refine (s88_9 (by first | decide | assumption | omega) (by first | decide | assumption | omega)).mpr ?_
  exact TP
end CO3
