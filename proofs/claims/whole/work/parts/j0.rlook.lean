/-! RUNNING, the reference: a look, and run -/
section RL0
variable {d : Nat} {al : AL} {hi : HI} {hr : HR} {Q : QQ} {s : HI} {T : TXs}
/-- a step begins -/
def ups (s : HI) (p : Int) : HI := upI (upI (upI (upI s 89 p 1) 93 p (s 93 p + 1)) 49 52 (s 49 52 + 1)) 49 54 (s 49 54 + 1)
theorem ups_n {p : Int} {a : Nat} {i : Int} (h1 : a ≠ 89) (h2 : a ≠ 93) (h3 : a ≠ 49) : ups s p a i = s a i := by unfold ups; rw [upI_a h3, upI_a h3, upI_a h2, upI_a h1]
theorem ups_ai {p q : Int} : ai (ups s p) q = ai s q := by unfold ai; rw [ups_n (by decide) (by decide) (by decide)]
/-- what a look needs of the process whose turn it is -/
def LkP (B : Int → Int) (s : HI) (p m f c x : Int) : Prop := AP s p ∧ s 91 p = m ∧ (0 ≤ m ∧ m < 12) ∧ s 95 (ai s p) = f ∧ (0 ≤ f ∧ f < 10) ∧ s 96 (ai s p) = x ∧ 0 ≤ x ∧ cAt B f = c ∧ s 69 (10 * m + f) = c ∧ 0 ≤ c ∧ c + x < 2000 ∧ s 52 m ≤ 2000 ∧ bAt s m = B
def LkG (B : Int → Int) (s : HI) (p c x : Int) : Prop := (B (c + x) = 38 → (1 ≤ hg s p ∧ hg s p ≤ 16) ∧ 0 ≤ tv s p 0 ∧ tv s p 0 < 24) ∧ (B (c + x) = 37 → (1 ≤ hg s p ∧ hg s p ≤ 16) ∧ (0 ≤ B (c + x + 1) ∧ B (c + x + 1) < 4) ∧ (ts s p 0 = 3 → EnO s (tv s p 0)) ∧ (0 ≤ tv s p (depS s p (B (c + x + 1))) ∧ tv s p (depS s p (B (c + x + 1))) < 24))
def LkO (T : TXs) (s : HI) : Prop := (0 ≤ s 49 53 ∧ s 49 53 < 12) ∧ (0 ≤ s 49 54 ∧ s 49 54 < 8) ∧ (s 89 (s 49 53) < 4 → 0 ≤ s 93 (s 49 53) ∧ s 93 (s 49 53) ≤ s 49 52) ∧ (s 89 (s 49 53) < 4 → ∃ m f c x, LkP (T m) s (s 49 53) m f c x ∧ LkG (T m) s (s 49 53) c x ∧
  (cgO s (s 49 53) (T m (c + x)) (T m (c + x + 1)) → (0 ≤ T m (c + x) ∧ T m (c + x) ≤ 43) ∧ (0 ≤ ilen (T m) (c + x) ∧ ilen (T m) (c + x) ≤ 300) ∧ OkI (T m) m f (goS (ups s (s 49 53)) (s 49 53) (x + ilen (T m) (c + x))) (s 49 53) (T m (c + x)) (T m (c + x + 1)) ∧
    0 ≤ (a1S T (ups s (s 49 53)) (s 49 53)) 49 53 ∧ (a1S T (ups s (s 49 53)) (s 49 53)) 49 53 < 12))
theorem Sm.cgO_ {h0 s0 h s : HI} (H : Sm h0 s0 h s) {p o t : Int} : cgO h p o t ↔ cgO s p o t := by
  unfold cgO
  simp only [H.tv_, H.dep_, H.e (a := 112) (by omega), H.e (a := 114) (by omega)]
theorem RelR.y {h : HI} (hE : RelR h s) {i x : Int} (hi : i < 51 ∨ 56 < i) : RelR (upI h 49 i x) s := by
  refine ⟨fun a j z => ?_, fun p p0 p1 => ?_⟩
  · rw [show upI h 49 i x a j = h a j by unfold upI; rw [if_neg (by omega)]]; exact hE.1 a j z
  · have e : ∀ a j, a ≠ 49 → upI h 49 i x a j = h a j := fun a j z => upI_a z
    have := hE.2 p p0 p1
    unfold LR at this ⊢
    simp only [e 101 _ (by decide), e 103 _ (by decide), e 104 _ (by decide)]
    exact this
theorem r_look {N k j : Int} {l4 : AV} (hA : SA al) (hR : MR hr) (hd : 62 ≤ d) (hE : RelR hi s) (hL : LkO T s) (k0 : 0 ≤ k ∧ k < 100000) (j0 : 0 ≤ j ∧ j < 12) (h52 : s 49 52 < 2000000000)
    (qy : ∀ hi' p', RelR hi' (lkS T s).1 → FW wRu hi hi' → (lkS T s).2 = true → Wp d 299 29 [vR (some 49), vI N, vI (k + 1), vI 0, vI p'] [] al hi' hr Q)
    (qn : ∀ hi' p', RelR hi' (lkS T s).1 → FW wRu hi hi' → (lkS T s).2 = false → Wp d 299 29 [vR (some 49), vI N, vI k, vI (j + 1), vI p'] [] al hi' hr Q) : Wp d 299 40 [vR (some 49), vI N, vI k, vI j, l4] [] al hi hr Q := by
  have kM : isK al 49 13 := hA.k (by decide) (by decide) rfl
  have l89 := SA.len (a := 89) (n := 12) hA (by decide) (by decide) rfl
  have l93 := SA.len (a := 93) (n := 12) hA (by decide) (by decide) rfl
  have k89 : isK al 89 15 := hA.k (by decide) (by decide) rfl
  have l89 : aln al 89 = 12 := hA.len (by decide) (by decide) rfl
  obtain ⟨hp53, h54, h93, hL⟩ := hL
  have H := Sm.rf hE.1
  have e53 := H.e49 (i := 53) (by omega)
  unfold lkS at qy qn
  simp only [] at qy qn
  obtain ⟨p, hp⟩ : ∃ p, s 49 53 = p := ⟨_, rfl⟩
  rw [hp] at hp53 h93 hL e53 qy qn
  have e89 : hi 89 p = s 89 p := H.e (by omega)
  -- a look that is no step
  have W : ∀ o, (hi 89 p < 4 → ∀ Q' : QQ, Q' (some (some (vI o))) al hi hr → Ev (d - 1) 303 [vR (some 49), vI p] al hi hr Q') → (∀ hi' p', RelR hi' (nxS (if s 89 p < 4 then upI s 89 p (if o = 38 then 2 else 3) else s)) → FW wRu hi hi' → Wp d 299 29 [vR (some 49), vI N, vI k, vI (j + 1), vI p'] [] al hi' hr Q) → Wp d 299 155 [vR (some 49), vI N, vI k, vI j, vI p] [] al hi hr Q := by
    intro o hop q
    refine r_wait hA hR (by omega) hp53 (by rw [e53]; exact hp53) j0 hop (q _ p ?_ ?_)
    rotate_left
    · refine FW.nx ?_
      split
      · exact FW.up FW.rf (by unfold wRu; omega)
      · exact FW.rf
    have N1 : ∀ h r, Sm hi s h r → Sm hi s (nxS h) (nxS r) := fun h r H' => by
      unfold nxS
      rw [H'.e49 (i := 53) (by omega)]
      exact (H'.up (by unfold hpC; omega) rfl).up (by unfold hpC; omega) rfl
    rw [e89]
    refine hE.sm (N1 _ _ ?_)
    split
    · exact H.up (by unfold hpC; omega) rfl
    · exact H
  by_cases c89 : s 89 p < 4
  case neg =>
    have E := W 0 (fun z => absurd z (by rw [e89]; exact c89)) (fun hi' p' z z' => qn hi' p' (by rw [cif_n (fun y => c89 y.1), if_neg c89]; rw [if_neg c89] at z; exact z) z' (by rw [cif_n (fun y => c89 y.1)]))
    refine s299_40.mpr ?_
    refine (s299_41 kM).mpr ?_
    refine s299_44.mpr (s299_46.mpr ((s299_47 kM).mpr ?_))
    rw [mr_59 hR]
    refine s299_50.mpr ?_
    try simp (disch := first | decide | assumption | omega) only [kon, knt_some, knt_none, Option.toList_some, Option.toList_none, List.cons_append, List.nil_append, e53]
    refine (s299_52 (hA.k (by decide) (by decide) rfl) (by first | assumption | omega) (by first | assumption | omega)).mpr ?_
    refine s299_53.mpr ?_
    try simp (disch := first | decide | assumption | omega) only [kon, knt_some, knt_none, Option.toList_some, Option.toList_none, List.cons_append, List.nil_append, e53]
    refine s299_54.mpr (wif (fun c54 => ?_) (fun c54 => ?_))
    · first
      | (exfalso; omega)
      | skip
        exfalso; omega
    · first
      | (exfalso; omega)
      | skip
        exact E
  obtain ⟨m, f, c, x, ⟨l1, l2, l3, l4, l5, l6, l7, l8, l9, l10, l11, l12, l13⟩, ⟨g38, g37⟩, hL⟩ := hL c89
  have ea : ai hi p = ai s p := H.ai_
  have hap : AP hi p := l1.n (H.e (by omega))
  have x91 : hi 91 p = m := (H.e (by omega)).trans l2
  have x95 : hi 95 (ai hi p) = f := by rw [ea]; exact (H.e (by omega)).trans l4
  have x96 : hi 96 (ai hi p) = x := by rw [ea]; exact (H.e (by omega)).trans l6
  have x69 : hi 69 (10 * m + f) = c := (H.e (by omega)).trans l9
  have x52 : hi 52 m ≤ 2000 := by rw [H.e (by omega)]; exact l12
  have xB : bAt hi m = T m := by
    rw [← l13]; funext k; unfold bAt; rw [H.e (a := 52) (by omega), H.e (a := 51) (by omega)]
  have eop : op9 T s p = T m (c + x) := by unfold op9 qq9 fn9 pc9; rw [l2, l4, l6, l8]
  have eag : ag9 T s p = T m (c + x + 1) := by unfold ag9 qq9 fn9 pc9; rw [l2, l4, l6, l8]
  rw [cgO_S] at qy qn
  rw [eop, eag] at qy qn
  have hop : hi 89 p < 4 → ∀ Q' : QQ, Q' (some (some (vI (T m (c + x))))) al hi hr → Ev (d - 1) 303 [vR (some 49), vI p] al hi hr Q' := fun _ Q' z => r_op hA hR (by omega) hap x91 x95 x96 l3 l5 x69 l10 l7 l11 x52 xB z
  -- a step
  have S : cgO s p (T m (c + x)) (T m (c + x + 1)) → Wp d 299 66 [vR (some 49), vI N, vI k, vI j, vI p] [] al hi hr Q := by
    intro z
    obtain ⟨ho, hl, hO, h53a, h53b⟩ := hL z
    have e93 : hi 93 p = s 93 p := H.e (by omega)
    have e52 : hi 49 52 = s 49 52 := H.e49 (by omega)
    have e54 : hi 49 54 = s 49 54 := H.e49 (by omega)
    have H9 : RelR (upI (upI (upI (upI (upI hi 89 p 1) 49 89 0) 93 p (hi 93 p + 1)) 49 52 (hi 49 52 + 1)) 49 54 (hi 49 54 + 1)) (ups s p) := by
      have h1 : RelR (upI (upI hi 89 p 1) 49 89 0) (upI s 89 p 1) := (hE.sm (H.up (by unfold hpC; omega) rfl)).y (by omega)
      refine h1.sm ?_
      unfold ups
      exact (((Sm.rf h1.1).up (by unfold hpC; omega) (by rw [e93])).up (by unfold hpC; omega) (by rw [e52])).up (by unfold hpC; omega) (by rw [e54])
    have ea1 : a1S T (ups s p) p = exS (T m) f (goS (ups s p) p (x + ilen (T m) (c + x))) p (T m (c + x)) (T m (c + x + 1)) (c + x) := by
      unfold a1S op9 ag9 qq9 fn9 pc9
      rw [ups_n (a := 91) (by decide) (by decide) (by decide), ups_ai, ups_n (a := 95) (by decide) (by decide) (by decide), ups_n (a := 96) (by decide) (by decide) (by decide), l2, l4, l6, l8]
    have HG := Sm.rf H9.1
    have eu : ∀ a i, a ≠ 89 → a ≠ 93 → a ≠ 49 → ups s p a i = s a i := fun a i => ups_n
    refine r_stp (o := T m (c + x)) (s1 := a1S T (ups s p) p) hA hR hd hp53 k0 (by rw [e93]; have := h93 c89; omega) (by rw [e52]; have := h93 c89; omega) (by rw [e54]; omega) ⟨h53a, h53b⟩ (fun Q' q' => ?_) (fun hi' z1 zw => qy hi' p ?_ zw ?_)
    · refine r_act1 (s := ups s p) (m := m) (f := f) (x := x) (c := c) (B := T m) hA hR (by omega) H9 (l1.n (eu _ _ (by decide) (by decide) (by decide))) ((eu _ _ (by decide) (by decide) (by decide)).trans l2) l3 (by rw [ups_ai]; exact (eu _ _ (by decide) (by decide) (by decide)).trans l4) l5 (by rw [ups_ai]; exact (eu _ _ (by decide) (by decide) (by decide)).trans l6) ((eu _ _ (by decide) (by decide) (by decide)).trans l9) l10 l7 l11 ?_ ?_ ho hO hl ?_
      · rw [HG.e (by omega), eu _ _ (by decide) (by decide) (by decide)]; exact l12
      · rw [← xB]; funext k; unfold bAt
        rw [HG.e (a := 52) (by omega), HG.e (a := 51) (by omega), eu _ _ (by decide) (by decide) (by decide), eu _ _ (by decide) (by decide) (by decide), H.e (a := 52) (by omega), H.e (a := 51) (by omega)]
      · intro hi' y1 y2
        exact q' hi' (by rw [ea1]; exact y1) y2
    · rw [cif_y ⟨c89, z⟩]; exact z1
    · rw [cif_y ⟨c89, z⟩]
  have V : ¬ cgO s p (T m (c + x)) (T m (c + x + 1)) → Wp d 299 155 [vR (some 49), vI N, vI k, vI j, vI p] [] al hi hr Q := by
    intro z
    exact W _ hop (fun hi' p' y yw => qn hi' p' (by rw [cif_n (fun y => z y.2)]; exact y) yw (by rw [cif_n (fun y => z y.2)]))
  have C := H.cgO_ (p := p) (o := T m (c + x)) (t := T m (c + x + 1))
  have eh : hg hi p = hg s p := H.hg_
  have R60 : Ev (d - 1) 306 [vR (some 49), vI p] al hi hr (kon d 299 60 63 [vR (some 49), vI N, vI k, vI j, vI p] [] Q) := by
    refine r_canGo hA hR (by omega) hap x91 x95 x96 l3 l5 x69 l10 l7 l11 x52 xB (by omega) (fun z => ?_) (fun z => ?_) (fun z => ?_) (fun z => ?_)
    · rw [eh, H.tv_]; exact g38 z
    · rw [eh, H.dep_, H.ts_, H.tv_, H.tv_]
      obtain ⟨y1, y2, y3, y4⟩ := g37 z
      exact ⟨y1, y2, fun y => (EnO.e H).mpr (y3 y), y4⟩
    · have E := S (C.mp z)
      simp only [kon, knt_some, knt_none, Option.toList_some, Option.toList_none, List.cons_append, List.nil_append]
      refine s299_63.mpr (wif (fun c63 => ?_) (fun c63 => ?_))
      · skip
        exact absurd ‹(1 : Int) = 0› (by decide)
      · skip
        exact E
    · have E := V (fun y => z (C.mpr y))
      simp only [kon, knt_some, knt_none, Option.toList_some, Option.toList_none, List.cons_append, List.nil_append]
      refine s299_63.mpr (wif (fun c63 => ?_) (fun c63 => ?_))
      · skip
        exact E
      · skip
        exact absurd rfl (by assumption)
  refine s299_40.mpr ?_
  refine (s299_41 kM).mpr ?_
  refine s299_44.mpr (s299_46.mpr ((s299_47 kM).mpr ?_))
  rw [mr_59 hR]
  refine s299_50.mpr ?_
  try simp (disch := first | decide | assumption | omega) only [kon, knt_some, knt_none, Option.toList_some, Option.toList_none, List.cons_append, List.nil_append, e53]
  refine (s299_52 (hA.k (by decide) (by decide) rfl) (by first | assumption | omega) (by first | assumption | omega)).mpr ?_
  refine s299_53.mpr ?_
  try simp (disch := first | decide | assumption | omega) only [kon, knt_some, knt_none, Option.toList_some, Option.toList_none, List.cons_append, List.nil_append, e53]
  refine s299_54.mpr (wif (fun c54 => ?_) (fun c54 => ?_))
  · first
    | (exfalso; omega)
    | skip
      refine s299_57.mpr (s299_58.mpr ?_)
      refine (s299_60 (by omega) kM).mpr ?_
      exact R60
  · first
    | (exfalso; omega)
    | skip
      exfalso; omega
/-- the looks of a run, at most so many: how many steps were done -/
noncomputable def rnF (T : TXs) : Nat → HI → Int → Int → Int → HI × Int
  | 0, s, k, _, _ => (s, k)
  | n + 1, s, k, j, N => if k < N ∧ j < 12 then (if (lkS T s).2 = true then rnF T n (lkS T s).1 (k + 1) 0 N else rnF T n (lkS T s).1 k (j + 1) N) else (s, k)
theorem r_loop {N : Int} (hA : SA al) (hR : MR hr) (hd : 62 ≤ d) (hN : N ≤ 10000) (I : HI → Prop) (hI : ∀ s, I s → LkO T s ∧ I (lkS T s).1 ∧ (lkS T s).1 49 52 ≤ s 49 52 + 1) :
    ∀ (n : Nat) (hi s : HI) (k j : Int) (l4 : AV), I s → RelR hi s → (0 ≤ k ∧ k ≤ N) → (0 ≤ j ∧ j ≤ 12) → s 49 52 + n < 2000000000 → (N - k) * 13 + (12 - j) ≤ n → (∀ hi' k', (rnF T n s k j N).2 = k' → RelR hi' (rnF T n s k j N).1 → I (rnF T n s k j N).1 → FW wRu hi hi' → Q (some (some (vI k'))) al hi' hr) → Wp d 299 29 [vR (some 49), vI N, vI k, vI j, l4] [] al hi hr Q := by
  have kM : isK al 49 13 := hA.k (by decide) (by decide) rfl
  intro n
  induction n with
  | zero =>
    intro hi s k j l4 h1 hE hk hj _ hn q
    have E := q hi k rfl hE h1 FW.rf
    by_cases c : k < N
    · omega
    · skip
      refine s299_29.mpr (s299_30.mpr ?_)
      refine s299_31.mpr (wif (fun c31 => ?_) (fun c31 => ?_))
      · skip
        exfalso; omega
      · skip
        refine s299_199.mpr ?_
        refine (s299_200).mpr ?_
        exact E
  | succ n ih =>
    intro hi s k j l4 h1 hE hk hj h52 hn q
    by_cases c : k < N ∧ j < 12
    · obtain ⟨i1, i2, i3⟩ := hI s h1
      have X : Wp d 299 40 [vR (some 49), vI N, vI k, vI j, l4] [] al hi hr Q := by
        refine r_look hA hR hd hE i1 (by omega) (by omega) (by omega) (fun hi' p' z1 z2 z3 => ?_) (fun hi' p' z1 z2 z3 => ?_)
        · refine ih hi' (lkS T s).1 (k + 1) 0 _ i2 z1 (by omega) (by omega) (by omega) (by omega) (fun h2 k' y1 y2 y3 y4 => ?_)
          have e : rnF T (n + 1) s k j N = rnF T n (lkS T s).1 (k + 1) 0 N := by
            show (if _ then _ else _) = _
            rw [if_pos c, if_pos z3]
          rw [← e] at y1 y2 y3
          exact q h2 k' y1 y2 y3 (z2.tr y4)
        · refine ih hi' (lkS T s).1 k (j + 1) _ i2 z1 (by omega) (by omega) (by omega) (by omega) (fun h2 k' y1 y2 y3 y4 => ?_)
          have e : rnF T (n + 1) s k j N = rnF T n (lkS T s).1 k (j + 1) N := by
            show (if _ then _ else _) = _
            rw [if_pos c, if_neg (by rw [z3]; decide)]
          rw [← e] at y1 y2 y3
          exact q h2 k' y1 y2 y3 (z2.tr y4)
      refine s299_29.mpr (s299_30.mpr ?_)
      refine s299_31.mpr (wif (fun c31 => ?_) (fun c31 => ?_))
      · skip
        refine s299_34.mpr (s299_35.mpr ?_)
        refine s299_37.mpr (wif (fun c37 => ?_) (fun c37 => ?_))
        · skip
          exact X
        · skip
          exfalso; omega
      · skip
        exfalso; omega
    · have e : rnF T (n + 1) s k j N = (s, k) := by
        show (if _ then _ else _) = _
        rw [if_neg c]
      rw [e] at q
      have E := q hi k rfl hE h1 FW.rf
      refine s299_29.mpr (s299_30.mpr ?_)
      refine s299_31.mpr (wif (fun c31 => ?_) (fun c31 => ?_))
      · first
        | (exfalso; omega)
        | skip
          refine s299_34.mpr (s299_35.mpr ?_)
          refine s299_37.mpr (wif (fun c37 => ?_) (fun c37 => ?_))
          · first
            | (exfalso; omega)
            | skip
              exfalso; omega
          · first
            | (exfalso; omega)
            | skip
              refine s299_199.mpr ?_
              refine (s299_200).mpr ?_
              exact E
      · first
        | (exfalso; omega)
        | skip
          refine s299_199.mpr ?_
          refine (s299_200).mpr ?_
          exact E
theorem r_run {N : Int} {hi : HI} (hA : SA al) (hR : MR hr) (hd : 62 ≤ d) (hb : hi 49 51 = 0 ∨ hi 49 51 = 1) (I : HI → Prop) (hI : ∀ s, I s → LkO T s ∧ I (lkS T s).1 ∧ (lkS T s).1 49 52 ≤ s 49 52 + 1)
    (no : ¬ (0 ≤ N ∧ N ≤ 10000 ∧ hi 49 51 = 1) → Q (some (some (vI (-1)))) al (upI hi 49 0 0) hr)
    (h1 : hi 49 51 = 1 → I s ∧ RelR hi s ∧ s 49 52 < 1000000000)
    (ok : 0 ≤ N → N ≤ 10000 → hi 49 51 = 1 → ∀ hi' k', (rnF T ((N + 1) * 13).toNat s 0 0 N).2 = k' → RelR hi' (rnF T ((N + 1) * 13).toNat s 0 0 N).1 → I (rnF T ((N + 1) * 13).toNat s 0 0 N).1 → FW wRu (upI hi 49 0 0) hi' → Q (some (some (vI k'))) al hi' hr) : Ev d 299 [vR (some 49), vI N] al hi hr Q := by
  have kM : isK al 49 13 := hA.k (by decide) (by decide) rfl
  have e51 : upI hi 49 0 0 49 51 = hi 49 51 := upI_i (by decide)
  rw [e299]
  by_cases c : 0 ≤ N ∧ N ≤ 10000 ∧ hi 49 51 = 1
  · obtain ⟨c1, c2, c3⟩ := c
    obtain ⟨a1, a2, a3⟩ := h1 c3
    have X := r_loop (d := d) (Q := Q) (hr := hr) (al := al) (N := N) hA hR hd c2 I hI ((N + 1) * 13).toNat (upI hi 49 0 0) s 0 0 none a1 (a2.y (by omega)) (by omega) (by omega) (by omega) (by omega) (fun hi' k' z1 z2 z3 z4 => ok c1 c2 c3 hi' k' z1 z2 z3 z4)
    refine s299_0.mpr (s299_1.mpr ?_)
    refine (s299_2 kM).mpr ?_
    refine s299_5.mpr ?_
    try simp (disch := first | decide | assumption | omega) only [e51]
    refine s299_6.mpr (wif (fun c6 => ?_) (fun c6 => ?_))
    · first
      | (exfalso; omega)
      | skip
        exfalso; omega
    · first
      | (exfalso; omega)
      | skip
        refine s299_9.mpr (s299_10.mpr ?_)
        refine s299_13.mpr (wif (fun c13 => ?_) (fun c13 => ?_))
        · first
          | (exfalso; omega)
          | skip
            exfalso; omega
        · first
          | (exfalso; omega)
          | skip
            refine s299_16.mpr ?_
            refine (s299_17 kM).mpr ?_
            try simp (disch := first | decide | assumption | omega) only [e51]
            refine s299_20.mpr (wif (fun c20 => ?_) (fun c20 => ?_))
            · first
              | (exfalso; omega)
              | skip
                exfalso; omega
            · first
              | (exfalso; omega)
              | skip
                refine s299_25.mpr (s299_26.mpr (s299_27.mpr (s299_28.mpr ?_)))
                exact X
  · have E := no c
    refine s299_0.mpr (s299_1.mpr ?_)
    refine (s299_2 kM).mpr ?_
    refine s299_5.mpr ?_
    try simp (disch := first | decide | assumption | omega) only [e51]
    refine s299_6.mpr (wif (fun c6 => ?_) (fun c6 => ?_))
    · skip
      refine s299_23.mpr ?_
      refine (s299_24).mpr ?_
      exact E
    · skip
      refine s299_9.mpr (s299_10.mpr ?_)
      refine s299_13.mpr (wif (fun c13 => ?_) (fun c13 => ?_))
      · skip
        refine s299_23.mpr ?_
        refine (s299_24).mpr ?_
        exact E
      · skip
        refine s299_16.mpr ?_
        refine (s299_17 kM).mpr ?_
        try simp (disch := first | decide | assumption | omega) only [e51]
        refine s299_20.mpr (wif (fun c20 => ?_) (fun c20 => ?_))
        · skip
          refine s299_23.mpr ?_
          refine (s299_24).mpr ?_
          exact E
        · skip
          exfalso; omega
end RL0
