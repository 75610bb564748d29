section CD7
variable {d : Nat} {al : AL} {hi : HI} {hr : HR} {Q : QQ} {B : Int → Int} {N : Nat} {n nm : Int}
theorem prL_n {lo hg p : Int} (hx : TX B n) (h0 : 0 ≤ lo) : prL B n lo hg p = nmb B lo hg p := by
  have := (hx p).2
  unfold prL nmb
  by_cases c2 : lo ≤ B p ∧ B p ≤ hg
  · rw [if_pos c2, if_pos (by omega)]
  · rw [if_neg c2, if_neg (by omega)]
noncomputable def msD (nm : Int) (B : Int → Int) (n k p : Int) : Ex := (tyD nm B 49 1 p).bind (naD B nm n k)
noncomputable def stD (nm : Int) (B : Int → Int) (n k p : Int) : Ex := (if nm = 0 then (nmb B 0 2 p).bind (fun q => if B p = 0 then nmb B 0 0 q else nmb B 1 4 q) else .ok (p + 2)).bind (lpE (msD nm B n k) (B (p + 1)).toNat)
noncomputable def ctD (nm : Int) (B : Int → Int) (n p : Int) : Ex := (if nm = 0 then nmb B 1 8 p else .ok (p + 1)).bind (lpE (stD nm B n (B p)) (B p).toNat)
theorem naD_n {k q : Int} (hx : TX B n) (h : nm = 0) : naD B nm n k q = nmb B 0 255 q := by
  have := hx q
  unfold naD nmb
  by_cases c2 : 0 ≤ B q
  · rw [if_pos ⟨by omega, c2, by omega⟩, if_pos (by omega)]
  · rw [if_neg (fun z => c2 z.2.1), if_neg (by omega)]
theorem msD_0 {k p : Int} (hx : TX B n) (h : nm = 0) : msD nm B n k p = msP B p := by
  unfold msD msP
  rw [tyD_0 h, show naD B nm n k = nmb B 0 255 from funext fun q => naD_n hx h]
theorem msD_1 {k p q : Int} (hx : TX B n) (h : nm = 1) (hm : msP B p = .ok q) : msD nm B n k p = nmM B k p := by
  unfold msP at hm
  cases ht : tyP B 49 1 p with
  | error z => rw [ht] at hm; cases hm
  | ok z =>
    rw [ht, bnd_ok] at hm
    have hn := nmb_ok hm
    have := hx z
    unfold msD nmM
    rw [tyD_1 h]
    cases ht2 : nmT B p with
    | error z => rfl
    | ok z2 =>
      have e : z2 = z := by
        rcases (Wk_nmT ht).2 with y | ⟨y, y1, -⟩
        · rw [ht2] at y; cases y; rfl
        · rw [ht2] at y1; cases y1
      subst e
      rw [bnd_ok, bnd_ok]
      unfold naD
      by_cases c : k ≤ B z2
      · rw [if_pos c, if_neg (fun z => by have := z.2.2 h; omega)]
      · rw [if_neg c, if_pos ⟨by omega, by omega, fun _ => by omega⟩]
theorem stD_0 {k p : Int} (hx : TX B n) (h : nm = 0) : stD nm B n k p = stP B p := by
  unfold stD stP
  rw [if_pos h, bind_assoc, show msD nm B n k = msP B from funext fun q => msD_0 hx h]
  cases e : nmb B 0 2 p with
  | error z => rfl
  | ok z => rw [(nmb_ok e).1]; rfl
theorem ctD_0 {p : Int} (hx : TX B n) (h : nm = 0) : ctD nm B n p = ctP B p := by
  unfold ctD ctP
  rw [if_pos h, show stD nm B n (B p) = stP B from funext fun q => stD_0 hx h]
theorem msD_ok {k p q : Int} (hx : TX B n) (h01 : nm = 0 ∨ nm = 1) (hT : nm = 1 → ∃ q, tyP B 49 1 p = .ok q) (h : msD nm B n k p = .ok q) : q = skM B p ∧ p < q ∧ 0 ≤ B (skT B p) := by
  unfold msD at h
  cases ht : tyD nm B 49 1 p with
  | error z => rw [ht] at h; cases h
  | ok z =>
    rw [ht, bnd_ok] at h
    obtain ⟨e1, e2⟩ := tyD_ok h01 hT ht
    obtain ⟨e3, e4, e5, e6⟩ := naD_ok h
    unfold skM
    rw [← e1]
    exact ⟨e3, by omega, e5⟩
def StOK (hi : HI) (B : Int → Int) (c s : Int) (o : Nat) : Prop := hi (o + 1) s = tnS B c s ∧ hi (o + 2) s = nMs B c s ∧ nMs B c s ≤ 4 ∧ ∀ t, 0 ≤ t → t < nMs B c s → hi (o + 3) (4 * s + t) = tyC B (pMs B c s t) ∧ hi (o + 4) (4 * s + t) = thM B c s t
def CtrOK (al : AL) (hi : HI) (hr : HR) (B : Int → Int) (c : Int) (o : Nat) : Prop := CtS al hr o ∧ hi o 0 = nSt B c ∧ ∀ s, 0 ≤ s → s < nSt B c → StOK hi B c s o
def wK (o : Nat) (a : Nat) (_ : Int) : Prop := a = o + 1 ∨ a = o + 2 ∨ a = o + 3 ∨ a = o + 4
theorem StOK.up {c s s' x i : Int} {o a : Nat} (h : StOK hi B c s' o) (ho : 6 < o) (s0 : 0 ≤ s') (hne : s' ≠ s) (ha : a = 6 ∨ ((a = o + 1 ∨ a = o + 2) ∧ i = s) ∨ ((a = o + 3 ∨ a = o + 4) ∧ 4 * s ≤ i ∧ i < 4 * s + 4)) : StOK (upI hi a i x) B c s' o := by
  obtain ⟨h1, h2, h3, h4⟩ := h
  have key : ∀ b j, ¬ (b = a ∧ j = i) → upI hi a i x b j = hi b j := fun b j q => by unfold upI; rw [if_neg q]
  refine ⟨(key _ _ (by omega)).trans h1, (key _ _ (by omega)).trans h2, h3, fun t t0 t1 => ?_⟩
  obtain ⟨h5, h6⟩ := h4 t t0 t1
  exact ⟨(key _ _ (by omega)).trans h5, (key _ _ (by omega)).trans h6⟩
set_option maxHeartbeats 1000000 in
theorem d_states {c p k : Int} {o : Nat} {l6 l7 l8 l9 : AV} (h : DC al hi hr N n B nm) (hF : nm = 1 → NF al hi hr N B) (hd : 6 ≤ d) (hC : CtS al hr o) (ho : 119 ≤ o) (hoN : o + 4 < N ∨ N + 6 < o)
    (hC1 : nm = 1 → CtrOK al hi hr B c o ∧ ShC B c) (c0 : 0 ≤ c) (hpc : p = pCtr B c) (hk : k = B p) (k1 : 1 ≤ k) (k8 : k ≤ 8)
    (hp : hi 6 3 = p + 1) (h0 : 0 ≤ p) (hl : hi 6 2 = n) (h4 : hi 6 4 = 0)
    (ok : ∀ p' hi', lpE (stD nm B n k) k.toNat (p + 1) = .ok p' → FW (wQ nm (wK o)) hi hi' → hi' 6 3 = p' → 0 ≤ p' → hi' 6 4 = 0 → (∀ s, 0 ≤ s → s < k → StOK hi' B c s o) → Q (some none) al hi' hr)
    (er : ∀ q hi', lpE (stD nm B n k) k.toNat (p + 1) = .error q → FW (wQ 0 (wK o)) hi hi' → hi' 6 4 = 1 → hi' 6 5 = q → 0 ≤ hi' 6 3 → Q (some none) al hi' hr) : Wp d 32 41 [vR (some 5), vR (some N), vI c, vI k, vR (some o), vI 0, l6, l7, l8, l9] [] al hi hr Q := by
  have h' := h
  obtain ⟨hA, a2, a3, a4, a5, a6, a7, a8, a9⟩ := h
  have k6 : isK al 6 2 := hA.k (by decide) (by decide) rfl
  have k5 : isK al 5 4 := hA.k (by decide) (by decide) rfl
  have kN := a6.1
  have kO := hC.1
  have hx := a5.tx
  have q1 : ∀ nm', ¬ wQ nm' (wK o) 5 1 := fun nm' q => by unfold wQ wY wK at q; omega
  have q2 : ∀ nm', ¬ wQ nm' (wK o) 6 1 := fun nm' q => by unfold wQ wY wK at q; omega
  have q3 : ∀ nm' i, ¬ wQ nm' (wK o) (N + 6) i := fun nm' i q => by unfold wQ wY wK at q; omega
  have q4 : ∀ nm' i, ¬ wQ nm' (wK o) (N + 1) i := fun nm' i q => by unfold wQ wY wK at q; omega
  have q62 : ∀ nm', ¬ wQ nm' (wK o) 6 2 := fun nm' q => by unfold wQ wY wK at q; omega
  have w1 : ∀ nm' a i, (a = o + 1 ∨ a = o + 2 ∨ a = o + 3 ∨ a = o + 4) → nm' = 0 → wQ nm' (wK o) a i := fun nm' a i q e => Or.inr ⟨e, q⟩
  have TX41 : ∀ q hi' (i : Int) (l6 l7 l8 l9 : AV), lpE (stD nm B n k) k.toNat (p + 1) = .error q → FW (wQ 0 (wK o)) hi hi' → hi' 6 4 = 1 → hi' 6 5 = q → 0 ≤ hi' 6 3 → Wp d 32 41 [vR (some 5), vR (some N), vI c, vI k, vR (some o), vI i, l6, l7, l8, l9] [] al hi' hr Q := by
    intro q hi' i l6 l7 l8 l9 e1 hf e4 e5 e3
    have E := er q hi' e1 hf e4 e5 e3
    refine s32_41.mpr (s32_43.mpr ?_)
    refine s32_44.mpr (wif (fun c44 => ?_) (fun c44 => ?_))
    · skip
      refine s32_47.mpr ?_
      refine (s32_48 (by first | decide | assumption | omega)).mpr ?_
      try simp (disch := first | decide | assumption | omega) only [kon, knt_some, knt_none, Option.toList_some, Option.toList_none, List.cons_append, List.nil_append, a2]
      refine (s32_51 (by first | decide | assumption | omega) (by first | decide | assumption | omega)).mpr ?_
      refine b_isRight k6 (fun q => absurd q (by rw [e4]; decide)) (fun _ => ?_)
      refine s32_54.mpr (wif (fun c54 => ?_) (fun c54 => ?_))
      · skip
        refine (s32_169).mpr ?_
        exact E
      · skip
        exact absurd rfl c54
    · skip
      refine (s32_169).mpr ?_
      exact E
  have TX115 : ∀ q hi' (i j : Int) (l6 : AV) (l7 : Int) (l9 : AV), 0 ≤ i → i < 8 → lpE (stD nm B n k) k.toNat (p + 1) = .error q → FW (wQ 0 (wK o)) hi hi' → hi' 6 4 = 1 → hi' 6 5 = q → 0 ≤ hi' 6 3 → Wp d 32 115 [vR (some 5), vR (some N), vI c, vI k, vR (some o), vI i, l6, vI l7, vI j, l9] [] al hi' hr Q := by
    intro q hi' i j l6 l7 l9 i0 i8 e1 hf e4 e5 e3
    have E := TX41 q hi' (i + 1) l6 (vI l7) (vI j) l9 e1 hf e4 e5 e3
    refine s32_115.mpr (s32_117.mpr ?_)
    refine s32_119.mpr (wif (fun c119 => ?_) (fun c119 => ?_))
    · skip
      refine s32_122.mpr ?_
      refine (s32_123 (by first | decide | assumption | omega)).mpr ?_
      try simp (disch := first | decide | assumption | omega) only [kon, knt_some, knt_none, Option.toList_some, Option.toList_none, List.cons_append, List.nil_append, a2, fAdd_id]
      refine (s32_126 (by first | decide | assumption | omega) (by first | decide | assumption | omega)).mpr ?_
      refine b_isRight k6 (fun q => absurd q (by rw [e4]; decide)) (fun _ => ?_)
      refine s32_129.mpr (wif (fun c129 => ?_) (fun c129 => ?_))
      · skip
        refine s32_163.mpr (s32_166.mpr ?_)
        try simp (disch := first | decide | assumption | omega) only [kon, knt_some, knt_none, Option.toList_some, Option.toList_none, List.cons_append, List.nil_append, a2, fAdd_id]
        exact E
      · skip
        exact absurd rfl c129
    · skip
      refine s32_163.mpr (s32_166.mpr ?_)
      try simp (disch := first | decide | assumption | omega) only [kon, knt_some, knt_none, Option.toList_some, Option.toList_none, List.cons_append, List.nil_append, a2, fAdd_id]
      exact E
  have TX99 : ∀ q hi' (i x y : Int) (l7 l8 l9 : AV), 0 ≤ i → i < 8 → lpE (stD nm B n k) k.toNat (p + 1) = .error q → FW (wQ 0 (wK o)) hi hi' → hi' 6 4 = 1 → hi' 6 5 = q → 0 ≤ hi' 6 3 → Wp d 32 99 [vR (some 5), vR (some N), vI c, vI k, vR (some o), vI i, vI x, l7, l8, l9] [vI y] al hi' hr Q := by
    intro q hi' i x y l7 l8 l9 i0 i8 e1 hf e4 e5 e3
    have E := TX115 q (upI (upI hi' (o + 1) i x) (o + 2) i y) i 0 (vI x) y l9 i0 i8 e1 (FW.up (FW.up hf (w1 _ _ _ (by omega) rfl)) (w1 _ _ _ (by omega) rfl)) (by rw [upI_a (by omega), upI_a (by omega)]; exact e4) (by rw [upI_a (by omega), upI_a (by omega)]; exact e5) (by rw [upI_a (by omega), upI_a (by omega)]; exact e3)
    refine s32_99.mpr (s32_101.mpr (s32_103.mpr (s32_105.mpr (s32_107.mpr ?_))))
    refine (s32_109 (by first | decide | assumption | omega) (by first | decide | assumption | omega)).mpr ?_
    refine k_setState hC i0 i8 ?_
    refine s32_112.mpr (s32_113.mpr ?_)
    exact E
  refine wp_lpE (N := k.toNat) (f := stD nm B n k) (p0 := p + 1) (fun i p' ls h2 => (∃ l6 l7 l8 l9, ls = [vR (some 5), vR (some N), vI c, vI k, vR (some o), vI i, l6, l7, l8, l9]) ∧ FW (wQ nm (wK o)) hi h2 ∧ h2 6 3 = p' ∧ 0 ≤ p' ∧ p' = pSt B c i ∧ h2 6 4 = 0 ∧ (∀ s : Int, 0 ≤ s → s < i → StOK h2 B c s o)) ?_ ?_ _ _ ⟨⟨_, _, _, _, rfl⟩, FW.rf, hp, by omega, by rw [hpc]; rfl, h4, fun s s0 s1 => absurd s1 (by omega)⟩
  · rintro i p' ls h2 hi8 hok ⟨⟨l6, l7, l8, l9, rfl⟩, hf, f3, f0, fp, f4, fS⟩ nx er2
    have hs := h'.fr hf (q1 _) (q2 _) (q3 _) (a8.fw hf (q4 _))
    have hl2 : h2 6 2 = n := (hf 6 2 (q62 _)).trans hl
    have i8 : (i : Int) < 8 := by omega
    have hSS : nm = 1 → ShS B c i ∧ StOK hi B c i o := fun e => by
      have z := (hC1 e).1.2.1
      have ek : k = nSt B c := by rw [hk, hpc]; rfl
      exact ⟨(hC1 e).2.2.2.2.1 i (by omega) (by omega), (hC1 e).1.2.2 i (by omega) (by omega)⟩
    have T73F : ∀ hi' q x l7' l8' l9', lpE (stD nm B n k) k.toNat (p + 1) = .error q → FW (wQ 0 (wK o)) hi hi' → hi' 6 4 = 1 → hi' 6 5 = q → 0 ≤ hi' 6 3 → Wp d 32 73 [vR (some 5), vR (some N), vI c, vI k, vR (some o), vI i, vI x, l7', l8', l9'] [] al hi' hr Q := by
      intro hi' q x l7' l8' l9' e1 hf e4 e5 e3
      have hs3 := h'.fr hf (q1 _) (q2 _) (q3 _) (a8.fw hf (q4 _))
      refine s32_73.mpr ?_
      refine s32_75.mpr (wif (fun c75 => ?_) (fun c75 => ?_))
      · skip
        refine s32_78.mpr ?_
        refine (s32_79 (by first | decide | assumption | omega)).mpr ?_
        refine s32_82.mpr (s32_83.mpr ?_)
        try simp (disch := first | decide | assumption | omega) only [kon, knt_some, knt_none, Option.toList_some, Option.toList_none, List.cons_append, List.nil_append, a2]
        refine (s32_84 (by first | decide | assumption | omega) (by first | decide | assumption | omega)).mpr ?_
        refine b_within hs3.2.2.2.2.1 (by omega) e3 (fun _ x84 y84 => ?_) (fun q => absurd q (by rw [e4]; decide))
        refine s32_87.mpr ?_
        exact TX99 q hi' _ _ _ _ _ _ (by omega) i8 e1 hf e4 e5 e3
      · skip
        refine s32_90.mpr ?_
        refine (s32_91 (by first | decide | assumption | omega)).mpr ?_
        refine s32_94.mpr (s32_95.mpr ?_)
        try simp (disch := first | decide | assumption | omega) only [kon, knt_some, knt_none, Option.toList_some, Option.toList_none, List.cons_append, List.nil_append, a2]
        refine (s32_96 (by first | decide | assumption | omega) (by first | decide | assumption | omega)).mpr ?_
        refine b_within hs3.2.2.2.2.1 (by omega) e3 (fun _ x96 y96 => ?_) (fun q => absurd q (by rw [e4]; decide))
        exact TX99 q hi' _ _ _ _ _ _ (by omega) i8 e1 hf e4 e5 e3
    -- the messages of one state
    have T115 : ∀ h3 l9', 0 ≤ B p' → B p' ≤ 2 → 0 ≤ B (p' + 1) → B (p' + 1) ≤ 4 → stD nm B n k p' = lpE (msD nm B n k) (B (p' + 1)).toNat (p' + 2) → FW (wQ nm (wK o)) hi h3 → h3 6 3 = p' + 2 → h3 6 4 = 0 → h3 (o + 1) i = B p' → h3 (o + 2) i = B (p' + 1) → (∀ s : Int, 0 ≤ s → s < i → StOK h3 B c s o) → Wp d 32 115 [vR (some 5), vR (some N), vI c, vI k, vR (some o), vI i, vI (B p'), vI (B (p' + 1)), vI 0, l9'] [] al h3 hr Q := by
      intro h3 l9' b0 b2 m0 m4 eS hf3 g3 g4 gt gm gS
      have eM : nMs B c i = B (p' + 1) := by unfold nMs; rw [fp]
      have eT : tnS B c i = B p' := by unfold tnS; rw [fp]
      refine wp_lpE (N := (B (p' + 1)).toNat) (f := msD nm B n k) (p0 := p' + 2) (fun j p2 ls h3 => (∃ l9, ls = [vR (some 5), vR (some N), vI c, vI k, vR (some o), vI i, vI (B p'), vI (B (p' + 1)), vI j, l9]) ∧ FW (wQ nm (wK o)) hi h3 ∧ h3 6 3 = p2 ∧ 0 ≤ p2 ∧ p2 = pMs B c i j ∧ h3 6 4 = 0 ∧ (∀ s : Int, 0 ≤ s → s < i → StOK h3 B c s o) ∧ h3 (o + 1) i = B p' ∧ h3 (o + 2) i = B (p' + 1) ∧ (∀ t : Int, 0 ≤ t → t < j → h3 (o + 3) (4 * i + t) = tyC B (pMs B c i t) ∧ h3 (o + 4) (4 * i + t) = thM B c i t)) ?_ ?_ _ _ ⟨⟨_, rfl⟩, hf3, g3, by omega, by rw [fp]; rfl, g4, gS, gt, gm, fun t t0 t1 => absurd t1 (by omega)⟩
      · rintro j p2 ls h3 hj4 hok2 ⟨⟨l9, rfl⟩, hf3, g3, g0, gp, g4, gS, gt, gm, gL⟩ nx2 er3
        have hs3 := h'.fr hf3 (q1 _) (q2 _) (q3 _) (a8.fw hf3 (q4 _))
        have hFs : nm = 1 → NF al h3 hr N B := fun e => (hF e).fw hA a7 (wQ_1 hf3 e)
        have hl3 : h3 6 2 = n := (hf3 6 2 (q62 _)).trans hl
        have hTy : nm = 1 → ∃ q, tyP B 49 1 p2 = .ok q := fun e => ⟨_, by rw [gp]; exact ((hSS e).1.2.2.2.2.2.2.1 j (by omega) (by rw [eM]; omega)).1⟩
        have erS : ∀ q, msD nm B n k p2 = .error q → lpE (stD nm B n k) k.toNat (p + 1) = .error q := fun q e => er2 q (by rw [eS]; exact er3 q e)
        refine s32_115.mpr (s32_117.mpr ?_)
        refine s32_119.mpr (wif (fun c119 => ?_) (fun c119 => ?_))
        · first
          | (exfalso; omega)
          | skip
            refine s32_122.mpr ?_
            refine (s32_123 (by first | decide | assumption | omega)).mpr ?_
            try simp (disch := first | decide | assumption | omega) only [kon, knt_some, knt_none, Option.toList_some, Option.toList_none, List.cons_append, List.nil_append, a2, fAdd_id]
            refine (s32_126 (by first | decide | assumption | omega) (by first | decide | assumption | omega)).mpr ?_
            refine b_isRight k6 (fun _ => ?_) (fun q => absurd g4 q)
            refine s32_129.mpr (wif (fun c129 => ?_) (fun c129 => ?_))
            · first
              | (exfalso; omega)
              | skip
                exact absurd (by assumption) (by decide)
            · first
              | (exfalso; omega)
              | skip
                refine s32_132.mpr (s32_133.mpr (s32_134.mpr ?_))
                refine (s32_136 (by first | decide | assumption | omega) (by first | decide | assumption | omega)).mpr ?_
                refine d_takeType (ks := 49) (no := 1) hs3 hFs (by omega) g3 g0 hl3 (Or.inr (Or.inr (Or.inl ⟨rfl, rfl, rfl⟩))) (fun e _ => hTy e) (fun q => absurd g4 q) (fun _ => ?_)
                refine kEx_of (fun qE eE => ?_) (fun qE eE => ?_)
                rotate_left
                intro xE hE vE
                · skip
                  refine s32_139.mpr (s32_141.mpr (s32_143.mpr (s32_145.mpr (s32_147.mpr (s32_149.mpr ?_)))))
                  refine s32_150.mpr ?_
                  refine (s32_151 (by first | decide | assumption | omega) (by first | decide | assumption | omega)).mpr ?_
                  first
                  | (refine d_takeName (hs3.fw vE.1) (by omega) vE.2.2.2 (fun _ x9 y9 z9 => ?_) (fun q => absurd q (by rw [vE.2.1]; decide))
                     have eX := erS qE (by unfold msD; rw [eE]; rfl)
                     simp only [kon, knt_some, knt_none, Option.toList_some, Option.toList_none, List.cons_append, List.nil_append]
                     refine (s32_154 (by omega) kO).mpr ?_
                     have hff := (wQ_0 hf3).tr (wQ_f vE.1)
                     refine k_setMessage hC (by omega) (fun _ => ?_) (fun _ => ?_)
                     · simp only [kon, knt_some, knt_none, Option.toList_some, Option.toList_none, List.cons_append, List.nil_append]
                       refine s32_157.mpr ?_
                       refine s32_160.mpr ?_
                       exact TX115 qE _ _ _ _ _ _ (by omega) i8 eX hff vE.2.1 vE.2.2.1 vE.2.2.2
                     · simp only [kon, knt_some, knt_none, Option.toList_some, Option.toList_none, List.cons_append, List.nil_append]
                       refine s32_157.mpr ?_
                       refine s32_160.mpr ?_
                       exact TX115 qE _ _ _ _ _ _ (by omega) i8 eX (FW.up (FW.up hff (w1 _ _ _ (by omega) rfl)) (w1 _ _ _ (by omega) rfl)) (by rw [upI_a (by omega), upI_a (by omega)]; exact vE.2.1) (by rw [upI_a (by omega), upI_a (by omega)]; exact vE.2.2.1) (by rw [upI_a (by omega), upI_a (by omega)]; exact vE.2.2.2))
                  | (obtain ⟨t1, t2⟩ := tyD_ok a4 hTy eE
                     refine d_takeName hs3.u3 (by omega) (by rw [upI_eq]; omega) (fun q => absurd g4 (by rw [upI_i (by decide)] at q; exact q)) (fun _ => ?_)
                     rw [upI_eq, upI_i (by decide), hl3]
                     refine kEx_of (fun q2 e2 => ?_) (fun q2 e2 => ?_)
                     · have eM2 : msD nm B n k p2 = .ok q2 := by unfold msD; rw [eE]; exact e2
                       obtain ⟨u1, u2, u3⟩ := msD_ok hx a4 hTy eM2
                       simp only [kon, knt_some, knt_none, Option.toList_some, Option.toList_none, List.cons_append, List.nil_append, upI_up]
                       refine (s32_154 (by omega) kO).mpr ?_
                       have eix : ixA (upI h3 6 3 q2) o i j = 4 * i + j := by unfold ixA; rw [if_pos ⟨by omega, by omega, by omega, by omega, by rw [upI_a (by omega), gm]; omega⟩]
                       refine k_setMessage hC (by omega) (fun q => absurd q (by rw [eix]; omega)) (fun _ => ?_)
                       rw [eix]
                       simp only [kon, knt_some, knt_none, Option.toList_some, Option.toList_none, List.cons_append, List.nil_append]
                       refine s32_157.mpr ?_
                       rw [fAdd_id (by omega) (by omega)]
                       refine s32_160.mpr ?_
                       have ept : qE = skT B p2 := t1
                       refine nx2 _ _ _ eM2 ⟨⟨_, rfl⟩, ?_, ?_, by omega, ?_, ?_, fun s s0 s1 => ?_, ?_, ?_, fun t t0 t1 => ?_⟩
                       · refine FW.sm (FW.sm (FW.up hf3 (Or.inl ⟨rfl, by omega⟩)) ?_) ?_
                         · rcases a4 with e | e
                           · exact Or.inl (w1 _ _ _ (by omega) e)
                           · refine Or.inr ?_; rw [gp]; exact ((hSS e).2.2.2.2 j (by omega) (by rw [eM]; omega)).1
                         · rcases a4 with e | e
                           · exact Or.inl (w1 _ _ _ (by omega) e)
                           · refine Or.inr ?_; rw [((hSS e).2.2.2.2 j (by omega) (by rw [eM]; omega)).2, ept, gp]; rfl
                       · rw [upI_a (by omega), upI_a (by omega), upI_eq]
                       · rw [u1, gp]; show _ = itr (skM B) ((j : Int) + 1).toNat _; rw [itr_t _ _ (by omega)]; rfl
                       · rw [upI_a (by omega), upI_a (by omega), upI_i (by decide)]; exact g4
                       · exact (((gS s s0 s1).up (s := i) (by omega) s0 (by omega) (by omega)).up (s := i) (by omega) s0 (by omega) (by omega)).up (s := i) (by omega) s0 (by omega) (by omega)
                       · rw [upI_a (by omega), upI_a (by omega), upI_a (by omega)]; exact gt
                       · rw [upI_a (by omega), upI_a (by omega), upI_a (by omega)]; exact gm
                       · by_cases e : t = j
                         · subst e
                           rw [upI_a (by omega), upI_eq, upI_eq, gp]
                           refine ⟨rfl, ?_⟩
                           rw [ept, gp]; rfl
                         · rw [upI_a (by omega), upI_i (by omega), upI_a (by omega), upI_i (by omega), upI_a (by omega), upI_a (by omega)]
                           exact gL t t0 (by omega)
                     · intro x9 h9 y9 z9 v9
                       have eX := erS q2 (by unfold msD; rw [eE]; exact e2)
                       simp only [kon, knt_some, knt_none, Option.toList_some, Option.toList_none, List.cons_append, List.nil_append]
                       refine (s32_154 (by omega) kO).mpr ?_
                       have hff := (wQ_0 hf3).tr (wQ_f v9.up.1)
                       refine k_setMessage hC (by omega) (fun _ => ?_) (fun _ => ?_)
                       · simp only [kon, knt_some, knt_none, Option.toList_some, Option.toList_none, List.cons_append, List.nil_append]
                         refine s32_157.mpr ?_
                         refine s32_160.mpr ?_
                         exact TX115 q2 _ _ _ _ _ _ (by omega) i8 eX hff v9.2.1 v9.2.2.1 v9.2.2.2
                       · simp only [kon, knt_some, knt_none, Option.toList_some, Option.toList_none, List.cons_append, List.nil_append]
                         refine s32_157.mpr ?_
                         refine s32_160.mpr ?_
                         exact TX115 q2 _ _ _ _ _ _ (by omega) i8 eX (FW.up (FW.up hff (w1 _ _ _ (by omega) rfl)) (w1 _ _ _ (by omega) rfl)) (by rw [upI_a (by omega), upI_a (by omega)]; exact v9.2.1) (by rw [upI_a (by omega), upI_a (by omega)]; exact v9.2.2.1) (by rw [upI_a (by omega), upI_a (by omega)]; exact v9.2.2.2))
                · skip
                  refine s32_139.mpr (s32_141.mpr (s32_143.mpr (s32_145.mpr (s32_147.mpr (s32_149.mpr ?_)))))
                  refine s32_150.mpr ?_
                  refine (s32_151 (by first | decide | assumption | omega) (by first | decide | assumption | omega)).mpr ?_
                  first
                  | (refine d_takeName (hs3.fw vE.1) (by omega) vE.2.2.2 (fun _ x9 y9 z9 => ?_) (fun q => absurd q (by rw [vE.2.1]; decide))
                     have eX := erS qE (by unfold msD; rw [eE]; rfl)
                     simp only [kon, knt_some, knt_none, Option.toList_some, Option.toList_none, List.cons_append, List.nil_append]
                     refine (s32_154 (by omega) kO).mpr ?_
                     have hff := (wQ_0 hf3).tr (wQ_f vE.1)
                     refine k_setMessage hC (by omega) (fun _ => ?_) (fun _ => ?_)
                     · simp only [kon, knt_some, knt_none, Option.toList_some, Option.toList_none, List.cons_append, List.nil_append]
                       refine s32_157.mpr ?_
                       refine s32_160.mpr ?_
                       exact TX115 qE _ _ _ _ _ _ (by omega) i8 eX hff vE.2.1 vE.2.2.1 vE.2.2.2
                     · simp only [kon, knt_some, knt_none, Option.toList_some, Option.toList_none, List.cons_append, List.nil_append]
                       refine s32_157.mpr ?_
                       refine s32_160.mpr ?_
                       exact TX115 qE _ _ _ _ _ _ (by omega) i8 eX (FW.up (FW.up hff (w1 _ _ _ (by omega) rfl)) (w1 _ _ _ (by omega) rfl)) (by rw [upI_a (by omega), upI_a (by omega)]; exact vE.2.1) (by rw [upI_a (by omega), upI_a (by omega)]; exact vE.2.2.1) (by rw [upI_a (by omega), upI_a (by omega)]; exact vE.2.2.2))
                  | (obtain ⟨t1, t2⟩ := tyD_ok a4 hTy eE
                     refine d_takeName hs3.u3 (by omega) (by rw [upI_eq]; omega) (fun q => absurd g4 (by rw [upI_i (by decide)] at q; exact q)) (fun _ => ?_)
                     rw [upI_eq, upI_i (by decide), hl3]
                     refine kEx_of (fun q2 e2 => ?_) (fun q2 e2 => ?_)
                     · have eM2 : msD nm B n k p2 = .ok q2 := by unfold msD; rw [eE]; exact e2
                       obtain ⟨u1, u2, u3⟩ := msD_ok hx a4 hTy eM2
                       simp only [kon, knt_some, knt_none, Option.toList_some, Option.toList_none, List.cons_append, List.nil_append, upI_up]
                       refine (s32_154 (by omega) kO).mpr ?_
                       have eix : ixA (upI h3 6 3 q2) o i j = 4 * i + j := by unfold ixA; rw [if_pos ⟨by omega, by omega, by omega, by omega, by rw [upI_a (by omega), gm]; omega⟩]
                       refine k_setMessage hC (by omega) (fun q => absurd q (by rw [eix]; omega)) (fun _ => ?_)
                       rw [eix]
                       simp only [kon, knt_some, knt_none, Option.toList_some, Option.toList_none, List.cons_append, List.nil_append]
                       refine s32_157.mpr ?_
                       rw [fAdd_id (by omega) (by omega)]
                       refine s32_160.mpr ?_
                       have ept : qE = skT B p2 := t1
                       refine nx2 _ _ _ eM2 ⟨⟨_, rfl⟩, ?_, ?_, by omega, ?_, ?_, fun s s0 s1 => ?_, ?_, ?_, fun t t0 t1 => ?_⟩
                       · refine FW.sm (FW.sm (FW.up hf3 (Or.inl ⟨rfl, by omega⟩)) ?_) ?_
                         · rcases a4 with e | e
                           · exact Or.inl (w1 _ _ _ (by omega) e)
                           · refine Or.inr ?_; rw [gp]; exact ((hSS e).2.2.2.2 j (by omega) (by rw [eM]; omega)).1
                         · rcases a4 with e | e
                           · exact Or.inl (w1 _ _ _ (by omega) e)
                           · refine Or.inr ?_; rw [((hSS e).2.2.2.2 j (by omega) (by rw [eM]; omega)).2, ept, gp]; rfl
                       · rw [upI_a (by omega), upI_a (by omega), upI_eq]
                       · rw [u1, gp]; show _ = itr (skM B) ((j : Int) + 1).toNat _; rw [itr_t _ _ (by omega)]; rfl
                       · rw [upI_a (by omega), upI_a (by omega), upI_i (by decide)]; exact g4
                       · exact (((gS s s0 s1).up (s := i) (by omega) s0 (by omega) (by omega)).up (s := i) (by omega) s0 (by omega) (by omega)).up (s := i) (by omega) s0 (by omega) (by omega)
                       · rw [upI_a (by omega), upI_a (by omega), upI_a (by omega)]; exact gt
                       · rw [upI_a (by omega), upI_a (by omega), upI_a (by omega)]; exact gm
                       · by_cases e : t = j
                         · subst e
                           rw [upI_a (by omega), upI_eq, upI_eq, gp]
                           refine ⟨rfl, ?_⟩
                           rw [ept, gp]; rfl
                         · rw [upI_a (by omega), upI_i (by omega), upI_a (by omega), upI_i (by omega), upI_a (by omega), upI_a (by omega)]
                           exact gL t t0 (by omega)
                     · intro x9 h9 y9 z9 v9
                       have eX := erS q2 (by unfold msD; rw [eE]; exact e2)
                       simp only [kon, knt_some, knt_none, Option.toList_some, Option.toList_none, List.cons_append, List.nil_append]
                       refine (s32_154 (by omega) kO).mpr ?_
                       have hff := (wQ_0 hf3).tr (wQ_f v9.up.1)
                       refine k_setMessage hC (by omega) (fun _ => ?_) (fun _ => ?_)
                       · simp only [kon, knt_some, knt_none, Option.toList_some, Option.toList_none, List.cons_append, List.nil_append]
                         refine s32_157.mpr ?_
                         refine s32_160.mpr ?_
                         exact TX115 q2 _ _ _ _ _ _ (by omega) i8 eX hff v9.2.1 v9.2.2.1 v9.2.2.2
                       · simp only [kon, knt_some, knt_none, Option.toList_some, Option.toList_none, List.cons_append, List.nil_append]
                         refine s32_157.mpr ?_
                         refine s32_160.mpr ?_
                         exact TX115 q2 _ _ _ _ _ _ (by omega) i8 eX (FW.up (FW.up hff (w1 _ _ _ (by omega) rfl)) (w1 _ _ _ (by omega) rfl)) (by rw [upI_a (by omega), upI_a (by omega)]; exact v9.2.1) (by rw [upI_a (by omega), upI_a (by omega)]; exact v9.2.2.1) (by rw [upI_a (by omega), upI_a (by omega)]; exact v9.2.2.2))
        · first
          | (exfalso; omega)
          | skip
            exact absurd (by assumption) (by decide)
      · rintro p2 ls h3 hok2 ⟨⟨l9, rfl⟩, hf3, g3, g0, gp, g4, gS, gt, gm, gL⟩
        refine s32_115.mpr (s32_117.mpr ?_)
        refine s32_119.mpr (wif (fun c119 => ?_) (fun c119 => ?_))
        · first
          | (exfalso; omega)
          | skip
            exfalso; omega
        · first
          | (exfalso; omega)
          | skip
            refine s32_163.mpr (s32_166.mpr ?_)
            try simp (disch := first | decide | assumption | omega) only [kon, knt_some, knt_none, Option.toList_some, Option.toList_none, List.cons_append, List.nil_append, a2, fAdd_id]
            refine nx _ _ _ (by rw [eS]; exact hok2) ⟨⟨_, _, _, _, rfl⟩, hf3, g3, g0, ?_, g4, fun s s0 s1 => ?_⟩
            · rw [gp, show pSt B c ((i + 1 : Nat) : Int) = skS B (pSt B c i) from (by show itr (skS B) ((i : Int) + 1).toNat _ = _; rw [itr_t _ _ (by omega)]; rfl), ← fp]; unfold pMs skS; rw [← fp]; rw [Int.toNat_natCast]
            · by_cases e : s = i
              · subst e; exact ⟨by rw [gt, eT], by rw [gm, eM], by rw [eM]; exact m4, fun t t0 t1 => gL t t0 (by rw [eM] at t1; omega)⟩
              · exact gS s s0 (by omega)
    -- behind turn and count
    have T99 : ∀ h3 l7' l8' l9', 0 ≤ B p' → B p' ≤ 2 → (if B p' = 0 then nmb B 0 0 (p' + 1) else nmb B 1 4 (p' + 1)) = .ok (p' + 2) → h3 = upI h2 6 3 (p' + 2) → Wp d 32 99 [vR (some 5), vR (some N), vI c, vI k, vR (some o), vI i, vI (B p'), l7', l8', l9'] [vI (B (p' + 1))] al h3 hr Q := by
      intro h3 l7' l8' l9' b0 b2 hm eh
      have m04 : 0 ≤ B (p' + 1) ∧ B (p' + 1) ≤ 4 := by
        split at hm <;> have := nmb_ok hm <;> omega
      have eS : stD nm B n k p' = lpE (msD nm B n k) (B (p' + 1)).toNat (p' + 2) := by
        unfold stD
        rcases a4 with e | e
        · rw [if_pos e, nmb_y b0 b2, bnd_ok, hm, bnd_ok]
        · rw [if_neg (by omega), bnd_ok]
      subst eh
      have E := T115 (upI (upI (upI h2 6 3 (p' + 2)) (o + 1) i (B p')) (o + 2) i (B (p' + 1))) l9' b0 b2 m04.1 m04.2 eS (by
          refine FW.sm (FW.sm (FW.up hf (Or.inl ⟨rfl, by omega⟩)) ?_) ?_
          · rcases a4 with e | e
            · exact Or.inl (w1 _ _ _ (by omega) e)
            · refine Or.inr ?_; rw [(hSS e).2.1, fp]; rfl
          · rcases a4 with e | e
            · exact Or.inl (w1 _ _ _ (by omega) e)
            · refine Or.inr ?_; rw [(hSS e).2.2.1, fp]; rfl) (by rw [upI_a (by omega), upI_a (by omega), upI_eq]) (by rw [upI_a (by omega), upI_a (by omega), upI_i (by decide)]; exact f4) (by rw [upI_a (by omega), upI_eq]) upI_eq (fun s s0 s1 => (((fS s s0 s1).up (s := i) (by omega) s0 (by omega) (by omega)).up (s := i) (by omega) s0 (by omega) (by omega)).up (s := i) (by omega) s0 (by omega) (by omega))
      refine s32_99.mpr (s32_101.mpr (s32_103.mpr (s32_105.mpr (s32_107.mpr ?_))))
      refine (s32_109 (by first | decide | assumption | omega) (by first | decide | assumption | omega)).mpr ?_
      refine k_setState hC (by omega) i8 ?_
      refine s32_112.mpr (s32_113.mpr ?_)
      exact E
    have hTn : nm = 1 → nmb B 0 2 p' = .ok (p' + 1) := fun e => by
      have z := (hSS e).1
      rw [fp]; exact nmb_y z.1 z.2.1
    have hCn : nm = 1 → (if B p' = 0 then nmb B 0 0 (p' + 1) else nmb B 1 4 (p' + 1)) = .ok (p' + 1 + 1) := fun e => by
      have z := (hSS e).1
      have z5 := z.2.2.2.2.1
      unfold tnS nMs at z5
      have z3 := z.2.2.1
      have z4 := z.2.2.2.1
      unfold nMs at z3 z4
      rw [← fp] at z3 z4 z5
      split
      · exact nmb_y (by omega) (by omega)
      · exact nmb_y (by omega) (by omega)
    -- behind the turn
    have T73 : 0 ≤ B p' → B p' ≤ 2 → ∀ l7' l8' l9', Wp d 32 73 [vR (some 5), vR (some N), vI c, vI k, vR (some o), vI i, vI (B p'), l7', l8', l9'] [] al (upI h2 6 3 (p' + 1)) hr Q := by
      intro b0 b2 l7' l8' l9'
      have erC : ∀ q, (if B p' = 0 then nmb B 0 0 (p' + 1) else nmb B 1 4 (p' + 1)) = .error q → lpE (stD nm B n k) k.toNat (p + 1) = .error q := fun q e => er2 q (by
        unfold stD
        rcases a4 with z | z
        · rw [if_pos z, nmb_y b0 b2, bnd_ok, e]; rfl
        · rw [hCn z] at e; cases e)
      refine s32_73.mpr ?_
      refine s32_75.mpr (wif (fun c75 => ?_) (fun c75 => ?_))
      · skip
        refine s32_78.mpr ?_
        refine (s32_79 (by first | decide | assumption | omega)).mpr ?_
        refine s32_82.mpr (s32_83.mpr ?_)
        try simp (disch := first | decide | assumption | omega) only [kon, knt_some, knt_none, Option.toList_some, Option.toList_none, List.cons_append, List.nil_append, a2]
        refine (s32_84 (by first | decide | assumption | omega) (by first | decide | assumption | omega)).mpr ?_
        refine b_within hs.u3.2.2.2.2.1 (by omega) (by rw [upI_eq]; omega) (fun q => absurd f4 (by rw [upI_i (by decide)] at q; exact q)) (fun _ => ?_)
        rw [upI_eq, upI_i (by decide), hl2, prL_n hx (by decide)]
        refine kEx_of (fun qE eE => ?_) (fun qE eE => ?_)
        rotate_left
        intro xE hE yE zE v1 v2 v3
        have vE : EF (upI h2 6 3 (p' + 1)) hE qE := ⟨zE, v1, v2, v3⟩
        · skip
          refine s32_87.mpr ?_
          first
          | (refine TX99 qE hE _ _ _ _ _ _ (by omega) i8 (erC _ ?_) ((wQ_0 hf).tr (wQ_f vE.up.1)) v1 v2 v3
             first | (rw [if_pos (by assumption)]; exact eE) | (rw [if_neg (by assumption)]; exact eE))
          | (obtain ⟨rfl, u1, u2⟩ := nmb_ok eE
             refine T99 _ _ _ _ b0 b2 ?_ (by rw [upI_up]; congr 1; omega)
             rw [show p' + 2 = p' + 1 + 1 by omega]
             first | (rw [if_pos (by assumption)]; exact eE) | (rw [if_neg (by assumption)]; exact eE))
        · skip
          refine s32_87.mpr ?_
          first
          | (refine TX99 qE hE _ _ _ _ _ _ (by omega) i8 (erC _ ?_) ((wQ_0 hf).tr (wQ_f vE.up.1)) v1 v2 v3
             first | (rw [if_pos (by assumption)]; exact eE) | (rw [if_neg (by assumption)]; exact eE))
          | (obtain ⟨rfl, u1, u2⟩ := nmb_ok eE
             refine T99 _ _ _ _ b0 b2 ?_ (by rw [upI_up]; congr 1; omega)
             rw [show p' + 2 = p' + 1 + 1 by omega]
             first | (rw [if_pos (by assumption)]; exact eE) | (rw [if_neg (by assumption)]; exact eE))
      · skip
        refine s32_90.mpr ?_
        refine (s32_91 (by first | decide | assumption | omega)).mpr ?_
        refine s32_94.mpr (s32_95.mpr ?_)
        try simp (disch := first | decide | assumption | omega) only [kon, knt_some, knt_none, Option.toList_some, Option.toList_none, List.cons_append, List.nil_append, a2]
        refine (s32_96 (by first | decide | assumption | omega) (by first | decide | assumption | omega)).mpr ?_
        refine b_within hs.u3.2.2.2.2.1 (by omega) (by rw [upI_eq]; omega) (fun q => absurd f4 (by rw [upI_i (by decide)] at q; exact q)) (fun _ => ?_)
        rw [upI_eq, upI_i (by decide), hl2, prL_n hx (by decide)]
        refine kEx_of (fun qE eE => ?_) (fun qE eE => ?_)
        rotate_left
        intro xE hE yE zE v1 v2 v3
        have vE : EF (upI h2 6 3 (p' + 1)) hE qE := ⟨zE, v1, v2, v3⟩
        · skip
          first
          | (refine TX99 qE hE _ _ _ _ _ _ (by omega) i8 (erC _ ?_) ((wQ_0 hf).tr (wQ_f vE.up.1)) v1 v2 v3
             first | (rw [if_pos (by assumption)]; exact eE) | (rw [if_neg (by assumption)]; exact eE))
          | (obtain ⟨rfl, u1, u2⟩ := nmb_ok eE
             refine T99 _ _ _ _ b0 b2 ?_ (by rw [upI_up]; congr 1; omega)
             rw [show p' + 2 = p' + 1 + 1 by omega]
             first | (rw [if_pos (by assumption)]; exact eE) | (rw [if_neg (by assumption)]; exact eE))
        · skip
          first
          | (refine TX99 qE hE _ _ _ _ _ _ (by omega) i8 (erC _ ?_) ((wQ_0 hf).tr (wQ_f vE.up.1)) v1 v2 v3
             first | (rw [if_pos (by assumption)]; exact eE) | (rw [if_neg (by assumption)]; exact eE))
          | (obtain ⟨rfl, u1, u2⟩ := nmb_ok eE
             refine T99 _ _ _ _ b0 b2 ?_ (by rw [upI_up]; congr 1; omega)
             rw [show p' + 2 = p' + 1 + 1 by omega]
             first | (rw [if_pos (by assumption)]; exact eE) | (rw [if_neg (by assumption)]; exact eE))
    refine s32_41.mpr (s32_43.mpr ?_)
    refine s32_44.mpr (wif (fun c44 => ?_) (fun c44 => ?_))
    · first
      | (exfalso; omega)
      | skip
        refine s32_47.mpr ?_
        refine (s32_48 (by first | decide | assumption | omega)).mpr ?_
        try simp (disch := first | decide | assumption | omega) only [kon, knt_some, knt_none, Option.toList_some, Option.toList_none, List.cons_append, List.nil_append, a2]
        refine (s32_51 (by first | decide | assumption | omega) (by first | decide | assumption | omega)).mpr ?_
        refine b_isRight k6 (fun _ => ?_) (fun q => absurd f4 q)
        refine s32_54.mpr (wif (fun c54 => ?_) (fun c54 => ?_))
        · first
          | (exfalso; omega)
          | skip
            first | exact absurd (by assumption) (by decide) | cases c59
        · first
          | (exfalso; omega)
          | skip
            refine s32_57.mpr ?_
            refine s32_59.mpr (wif (fun c59 => ?_) (fun c59 => ?_))
            · skip
              first | exact absurd (by assumption) (by decide) | cases c59
            · skip
              refine s32_62.mpr ?_
              refine (s32_63 (by first | decide | assumption | omega)).mpr ?_
              refine s32_66.mpr (s32_67.mpr ?_)
              try simp (disch := first | decide | assumption | omega) only [kon, knt_some, knt_none, Option.toList_some, Option.toList_none, List.cons_append, List.nil_append, a2]
              refine (s32_68 (by first | decide | assumption | omega) (by first | decide | assumption | omega)).mpr ?_
              refine b_within hs.2.2.2.2.1 (by omega) (by rw [f3]; exact f0) (fun q => absurd f4 q) (fun _ => ?_)
              rw [f3, hl2, prL_n hx (by decide)]
              refine kEx_of (fun qE eE => ?_) (fun qE eE => ?_)
              rotate_left
              intro xE hE yE zE v1 v2 v3
              · skip
                refine s32_71.mpr ?_
                first
                | (have eX : lpE (stD nm B n k) k.toNat (p + 1) = .error qE := er2 qE (by
                     unfold stD
                     rcases a4 with z | z
                     · rw [if_pos z, eE]; rfl
                     · rw [hTn z] at eE; cases eE)
                   have hff := (wQ_0 hf).tr (wQ_f zE)
                   exact T73F hE qE _ _ _ _ eX hff v1 v2 v3)
                | (obtain ⟨rfl, u1, u2⟩ := nmb_ok eE
                   exact T73 u1 u2 _ _ _)
              · skip
                refine s32_71.mpr ?_
                first
                | (have eX : lpE (stD nm B n k) k.toNat (p + 1) = .error qE := er2 qE (by
                     unfold stD
                     rcases a4 with z | z
                     · rw [if_pos z, eE]; rfl
                     · rw [hTn z] at eE; cases eE)
                   have hff := (wQ_0 hf).tr (wQ_f zE)
                   exact T73F hE qE _ _ _ _ eX hff v1 v2 v3)
                | (obtain ⟨rfl, u1, u2⟩ := nmb_ok eE
                   exact T73 u1 u2 _ _ _)
    · first
      | (exfalso; omega)
      | skip
        first | exact absurd (by assumption) (by decide) | cases c59
  · rintro p' ls h2 hok ⟨⟨l6, l7, l8, l9, rfl⟩, hf, f3, f0, fp, f4, fS⟩
    have OK := ok p' h2 hok hf f3 f0 f4 (fun s s0 s1 => fS s s0 (by omega))
    refine s32_41.mpr (s32_43.mpr ?_)
    refine s32_44.mpr (wif (fun c44 => ?_) (fun c44 => ?_))
    · first
      | (exfalso; omega)
      | skip
        exfalso; omega
    · first
      | (exfalso; omega)
      | skip
        refine (s32_169).mpr ?_
        exact OK
end CD7
