section ML2
variable {d : Nat} {al : AL} {hi : HI} {hr : HR} {Q : QQ} {B : Int → Int}
/-- the bounds of a module's numbers -/
def Wb (B : Int → Int) : Prop := 0 ≤ nRec B ∧ nRec B ≤ 8 ∧ 0 ≤ nCtr B ∧ nCtr B ≤ 4 ∧ (∀ r, 0 ≤ r → r < nRec B → 0 ≤ nFld B r ∧ nFld B r ≤ 6)
theorem m_looksAtCode {m f c n L : Int} (hA : SA al) (hR : MR hr) (hd : 3 ≤ d) (hM : MB hi m B) (hw : Wb B) (hf : 0 ≤ f ∧ f < 130) (hc : hi 69 f = c) (hn : hi 68 f = n) (hc0 : 0 ≤ c ∧ c ≤ 2000) (hn0 : 0 ≤ n ∧ n ≤ 240) (hcd : cdP B (c + n) L n.toNat c = .ok (c + n)) {ch : Ex} {l : Int} (hL : hi 49 28 = l) (hK : LK ch l c)
    (hq : ∀ l', LK (ch.bind (cdN B c n n.toNat)) l' (c + n) → Q (some none) al (ls1 hi l') hr) : Ev d 242 [vR (some 49), vI m, vI f] al hi hr Q := by
  obtain ⟨hm0, hm1, h52, hB, m1, m2, m3, m4, m5, m6⟩ := hM
  obtain ⟨w1, w2, w3, w4, w5⟩ := hw
  rw [e242]
  have kM : isK al 49 13 := hA.k (by decide) (by decide) rfl
  have l68 := SA.len (a := 68) (n := 130) hA (by decide) (by decide) rfl
  have l69 := SA.len (a := 69) (n := 130) hA (by decide) (by decide) rfl
  have l53 := SA.len (a := 53) (n := 13) hA (by decide) (by decide) rfl
  have l54 := SA.len (a := 54) (n := 13) hA (by decide) (by decide) rfl
  have l55 := SA.len (a := 55) (n := 13) hA (by decide) (by decide) rfl
  have hrg : ∀ k, -1 ≤ B k ∧ B k ≤ 255 := fun k => by rw [← hB]; exact bAt_rng m k
  have hBl : ∀ l, bAt (ls1 hi l) m = B := fun l => by rw [bAt_up (by decide) (by decide)]; exact hB
  have T2 : ∀ (j : Nat) (p l : Int) (ch : Ex) (l4 l5 l6 : AV), 0 ≤ p → p ≤ n → n - p ≤ j → cdP B (c + n) L j (c + p) = .ok (c + n) → LK ch l (c + p) → (∀ l', LK (ch.bind (cdN B c n j)) l' (c + n) → Q (some none) al (ls1 hi l') hr) → Wp d 242 2 [vR (some 49), vI m, vI f, vI p, l4, l5, l6] [] al (ls1 hi l) hr Q := by
    intro j
    induction j with
    | zero =>
      intro p l ch l4 l5 l6 p0 p1 hj hcd hK hq
      have e9 : ch.bind (cdN B c n 0) = ch := by cases ch <;> rfl
      refine s242_2.mpr (s242_3.mpr ((s242_4 kM).mpr ?_))
      rw [mr_20 hR]
      refine s242_7.mpr ?_
      refine (s242_8 (hA.k (by decide) (by decide) rfl) (by first | assumption | omega) (by first | assumption | omega)).mpr ?_
      try simp (disch := first | decide | assumption | omega) only [upI_eq, upI_a, upI_i, upR_eq, upR_a, upR_i, hn]
      refine s242_9.mpr (wif (fun c9 => ?_) (fun c9 => ?_))
      · skip
        exfalso; omega
      · skip
        refine (s242_324).mpr ?_
        refine hq l ?_; rw [e9, show c + n = c + p by omega]; exact hK
    | succ j ih =>
      intro p l ch l4 l5 l6 p0 p1 hj hcd hK hq
      by_cases hp : p < n
      · obtain ⟨hI, hcd2⟩ := cdP_at hcd (by omega)
        obtain ⟨i1, i2, i3, i4, i5, i6, i7, i8⟩ := hI
        have hl := ilen_b hrg (c + p)
        have hWk := Wk_insN (B := B) (c := c) (n := n) (q := c + p) hrg (fun h => i1 (by rw [oprn_10 h]; decide))
        have hS := hK.st hWk (by omega)
        have a1 := hrg (c + p + 1)
        have eqN : cdN B c n (j + 1) (c + p) = (insN B c n (c + p)).bind (cdN B c n j) := if_pos (by omega)
        have T311 : ∀ l' l5 l6, LK (ch.bind (insN B c n)) l' (c + p + ilen B (c + p)) → Wp d 242 311 [vR (some 49), vI m, vI f, vI p, vI (c + p), l5, l6] [] al (ls1 hi l') hr Q := by
          intro l' l5 l6 hK'
          refine s242_311.mpr (s242_312.mpr (s242_313.mpr (s242_314.mpr ?_)))
          refine (s242_316 (by omega) kM).mpr ?_
          refine m_length (B := B) hA hR (by omega) ⟨hm0, hm1⟩ (by (try simp (disch := decide) only [upI_eq, upI_a, upI_i, upR_eq, upR_a, upR_i]); exact h52) (hBl _) (by omega) ?_
          refine s242_319.mpr (s242_320.mpr (s242_321.mpr ?_))
          try simp (disch := first | decide | assumption | omega) only [kon, knt_some, knt_none, Option.toList_some, Option.toList_none, List.cons_append, List.nil_append, fAdd_id]
          refine ih (p + ilen B (c + p)) l' (ch.bind (insN B c n)) _ _ _ (by omega) (by omega) (by omega) (by rw [← Int.add_assoc]; exact hcd2) (by rw [← Int.add_assoc]; exact hK') (fun l2 h2 => hq l2 ?_)
          rw [bind_assoc] at h2
          rcases hK with ⟨e, -⟩ | ⟨q, e, -⟩
          · rw [e, bnd_ok] at h2 ⊢; rw [eqN]; exact h2
          · rw [e] at h2 ⊢; exact h2
        -- the targets of RECEIVE
        have T263 : B (c + p) = 38 → Wp d 242 263 [vR (some 49), vI m, vI f, vI p, vI (c + p), vI (B (c + p + 1)), vI 0] [] al (ls1 hi l) hr Q := by
          intro e38
          obtain ⟨k1, k2, k3⟩ := i5 (oprn_10 e38)
          have eN : insN B c n (c + p) = lpE (tgN B c n) (B (c + p + 1)).toNat (c + p + 2) := by
            exact insN_t e38
          have eB : ch.bind (insN B c n) = ch.bind fun _ => lpE (tgN B c n) (B (c + p + 1)).toNat (c + p + 2) := by
            rcases hK with ⟨e, -⟩ | ⟨q, e, -⟩
            · rw [e, bnd_ok, bnd_ok, eN]
            · rw [e]; rfl
          have lp : ∀ (i : Nat) (k l : Int), 0 ≤ k → k + i = B (c + p + 1) → LK (ch.bind fun _ => lpE (tgN B c n) k.toNat (c + p + 2)) l (c + p + 2 + k) → Wp d 242 263 [vR (some 49), vI m, vI f, vI p, vI (c + p), vI (B (c + p + 1)), vI k] [] al (ls1 hi l) hr Q := by
            intro i
            induction i with
            | zero =>
              intro k l k0 hk hK
              refine s242_263.mpr (s242_265.mpr ?_)
              refine s242_267.mpr (wif (fun c267 => ?_) (fun c267 => ?_))
              · skip
                exfalso; omega
              · skip
                refine s242_308.mpr ?_
                refine T311 l _ _ ?_
                rw [il_10 e38, eB, show c + p + (2 + B (c + p + 1)) = c + p + 2 + k by omega, ← show k = B (c + p + 1) by omega]
                exact hK
            | succ i ihk =>
              intro k l k0 hk hK
              have hb0 := k3 k k0 (by omega)
              have hrb := hrg (c + p + 2 + k)
              have hS2 := hK.st (f := tgN B c n) Wk_tgN (by omega)
              rw [bind_assoc] at hS2
              have eS : (fun p_1 : Int => (lpE (tgN B c n) k.toNat (c + p + 2)).bind (tgN B c n)) = fun _ => lpE (tgN B c n) (k + 1).toNat (c + p + 2) := by
                funext _; rw [← lpE_s, show (k + 1).toNat = k.toNat + 1 by omega]
              rw [eS] at hS2
              refine s242_263.mpr (s242_265.mpr ?_)
              refine s242_267.mpr (wif (fun c267 => ?_) (fun c267 => ?_))
              · skip
                refine s242_270.mpr (s242_271.mpr (s242_272.mpr (s242_273.mpr (s242_274.mpr (s242_275.mpr ?_)))))
                refine s242_277.mpr (s242_278.mpr (s242_279.mpr (s242_281.mpr ?_)))
                try simp (disch := first | decide | assumption | omega) only [kon, knt_some, knt_none, Option.toList_some, Option.toList_none, List.cons_append, List.nil_append, fAdd_id, hBl]
                refine (s242_282 (by omega) kM).mpr ?_
                refine (m_byteAt hA hR hm0 hm1 (by (try simp (disch := decide) only [upI_eq, upI_a, upI_i, upR_eq, upR_a, upR_i]); exact h52)).mpr ?_
                rw [hBl]
                refine (s242_285 (by omega) kM).mpr ?_
                refine m_begins (B := B) hA hR (by omega) ⟨hm0, hm1⟩ hf (by (try simp (disch := decide) only [upI_eq, upI_a, upI_i, upR_eq, upR_a, upR_i]); exact h52) (hBl _) (by (try simp (disch := decide) only [upI_eq, upI_a, upI_i, upR_eq, upR_a, upR_i]); exact hc) (by (try simp (disch := decide) only [upI_eq, upI_a, upI_i, upR_eq, upR_a, upR_i]); exact hn) hc0 hn0 hb0 (fun y285 => ?_) (fun y285 => ?_)
                · skip
                  refine s242_288.mpr (wif (fun c288 => ?_) (fun c288 => ?_))
                  · skip
                    refine s242_291.mpr (s242_292.mpr (s242_294.mpr (s242_295.mpr (s242_296.mpr (s242_298.mpr ?_)))))
                    try simp (disch := first | decide | assumption | omega) only [kon, knt_some, knt_none, Option.toList_some, Option.toList_none, List.cons_append, List.nil_append, fAdd_id, hBl]
                    refine (s242_299 (by omega) kM).mpr ?_
                    refine m_missing hA ?_
                    simp only [upI_eq, upI_up]
                    refine s242_302.mpr (s242_305.mpr ?_)
                    try simp (disch := first | decide | assumption | omega) only [kon, knt_some, knt_none, Option.toList_some, Option.toList_none, List.cons_append, List.nil_append, fAdd_id, hBl]
                    first | (exfalso; omega) | exact ihk (k + 1) _ (by omega) (by omega) (by have := hS2; unfold tgN at this; rw [ckE_y y285, lst_ok] at this; rw [← Int.add_assoc]; exact this) | exact ihk (k + 1) _ (by omega) (by omega) (by have := hS2; unfold tgN at this; rw [ckE_n y285, lst_er] at this; rw [← Int.add_assoc]; exact this)
                  · skip
                    refine s242_302.mpr (s242_305.mpr ?_)
                    try simp (disch := first | decide | assumption | omega) only [kon, knt_some, knt_none, Option.toList_some, Option.toList_none, List.cons_append, List.nil_append, fAdd_id, hBl]
                    first | (exfalso; omega) | exact ihk (k + 1) _ (by omega) (by omega) (by have := hS2; unfold tgN at this; rw [ckE_y y285, lst_ok] at this; rw [← Int.add_assoc]; exact this) | exact ihk (k + 1) _ (by omega) (by omega) (by have := hS2; unfold tgN at this; rw [ckE_n y285, lst_er] at this; rw [← Int.add_assoc]; exact this)
                · skip
                  refine s242_288.mpr (wif (fun c288 => ?_) (fun c288 => ?_))
                  · skip
                    refine s242_291.mpr (s242_292.mpr (s242_294.mpr (s242_295.mpr (s242_296.mpr (s242_298.mpr ?_)))))
                    try simp (disch := first | decide | assumption | omega) only [kon, knt_some, knt_none, Option.toList_some, Option.toList_none, List.cons_append, List.nil_append, fAdd_id, hBl]
                    refine (s242_299 (by omega) kM).mpr ?_
                    refine m_missing hA ?_
                    simp only [upI_eq, upI_up]
                    refine s242_302.mpr (s242_305.mpr ?_)
                    try simp (disch := first | decide | assumption | omega) only [kon, knt_some, knt_none, Option.toList_some, Option.toList_none, List.cons_append, List.nil_append, fAdd_id, hBl]
                    first | (exfalso; omega) | exact ihk (k + 1) _ (by omega) (by omega) (by have := hS2; unfold tgN at this; rw [ckE_y y285, lst_ok] at this; rw [← Int.add_assoc]; exact this) | exact ihk (k + 1) _ (by omega) (by omega) (by have := hS2; unfold tgN at this; rw [ckE_n y285, lst_er] at this; rw [← Int.add_assoc]; exact this)
                  · skip
                    refine s242_302.mpr (s242_305.mpr ?_)
                    try simp (disch := first | decide | assumption | omega) only [kon, knt_some, knt_none, Option.toList_some, Option.toList_none, List.cons_append, List.nil_append, fAdd_id, hBl]
                    first | (exfalso; omega) | exact ihk (k + 1) _ (by omega) (by omega) (by have := hS2; unfold tgN at this; rw [ckE_y y285, lst_ok] at this; rw [← Int.add_assoc]; exact this) | exact ihk (k + 1) _ (by omega) (by omega) (by have := hS2; unfold tgN at this; rw [ckE_n y285, lst_er] at this; rw [← Int.add_assoc]; exact this)
              · skip
                exfalso; omega
          refine lp (B (c + p + 1)).toNat 0 l (by omega) (by omega) ?_
          rcases hK with ⟨e, e2⟩ | ⟨q, e, e2, e3, e4⟩
          · rw [e]; exact Or.inl ⟨by rw [Int.add_zero]; rfl, e2⟩
          · rw [e]; exact Or.inr ⟨q, rfl, e2, e3, by omega⟩
        refine s242_2.mpr (s242_3.mpr ((s242_4 kM).mpr ?_))
        rw [mr_20 hR]
        refine s242_7.mpr ?_
        refine (s242_8 (hA.k (by decide) (by decide) rfl) (by first | assumption | omega) (by first | assumption | omega)).mpr ?_
        try simp (disch := first | decide | assumption | omega) only [kon, knt_some, knt_none, Option.toList_some, Option.toList_none, List.cons_append, List.nil_append, upI_eq, upI_a, upI_i, upR_eq, upR_a, upR_i, hn, hc, fAdd_id, hBl, m1, m3, m5]
        refine s242_9.mpr (wif (fun c9 => ?_) (fun c9 => ?_))
        · skip
          refine s242_12.mpr ((s242_13 kM).mpr ?_)
          rw [mr_21 hR]
          refine s242_16.mpr ?_
          refine (s242_17 (hA.k (by decide) (by decide) rfl) (by first | assumption | omega) (by first | assumption | omega)).mpr ?_
          refine s242_18.mpr (s242_19.mpr (s242_20.mpr (s242_22.mpr (s242_23.mpr (s242_24.mpr ?_)))))
          refine s242_26.mpr (s242_27.mpr ?_)
          try simp (disch := first | decide | assumption | omega) only [kon, knt_some, knt_none, Option.toList_some, Option.toList_none, List.cons_append, List.nil_append, upI_eq, upI_a, upI_i, upR_eq, upR_a, upR_i, hn, hc, fAdd_id, hBl, m1, m3, m5]
          refine (s242_28 (by omega) kM).mpr ?_
          refine (m_byteAt hA hR hm0 hm1 (by (try simp (disch := decide) only [upI_eq, upI_a, upI_i, upR_eq, upR_a, upR_i]); exact h52)).mpr ?_
          rw [hBl]
          refine s242_31.mpr (s242_33.mpr (s242_34.mpr (s242_35.mpr ?_)))
          refine (s242_37 (by omega) kM).mpr ?_
          refine (m_byteAt hA hR hm0 hm1 (by (try simp (disch := decide) only [upI_eq, upI_a, upI_i, upR_eq, upR_a, upR_i]); exact h52)).mpr ?_
          rw [hBl]
          refine g242_40 (fun c40 => ?_) (fun c40 => ?_) (fun c40 => ?_) (fun c40 => ?_) (fun c40 => ?_) (fun c40 => ?_) (fun c40 => ?_)
          · skip
            refine s242_140.mpr (s242_141.mpr (s242_142.mpr (s242_143.mpr ?_)))
            refine (s242_145 (by omega) kM).mpr ?_
            refine m_begins (B := B) hA hR (by omega) ⟨hm0, hm1⟩ hf (by (try simp (disch := decide) only [upI_eq, upI_a, upI_i, upR_eq, upR_a, upR_i]); exact h52) (hBl _) (by (try simp (disch := decide) only [upI_eq, upI_a, upI_i, upR_eq, upR_a, upR_i]); exact hc) (by (try simp (disch := decide) only [upI_eq, upI_a, upI_i, upR_eq, upR_a, upR_i]); exact hn) hc0 hn0 (i1 (by rw [oprn_3 (by simp only [List.mem_cons, List.not_mem_nil, or_false] at c40 ⊢; omega)]; decide)) (fun y145 => ?_) (fun y145 => ?_)
            · skip
              refine s242_148.mpr (wif (fun c148 => ?_) (fun c148 => ?_))
              · skip
                refine s242_151.mpr (s242_152.mpr (s242_154.mpr (s242_155.mpr ?_)))
                try simp (disch := first | decide | assumption | omega) only [kon, knt_some, knt_none, Option.toList_some, Option.toList_none, List.cons_append, List.nil_append, upI_eq, upI_a, upI_i, upR_eq, upR_a, upR_i, hn, hc, fAdd_id, hBl, m1, m3, m5]
                refine (s242_156 (by omega) kM).mpr ?_
                refine m_missing hA ?_
                simp only [upI_eq, upI_up]
                refine s242_159.mpr ?_
                first | (exfalso; omega) | exact T311 _ _ _ (by have h9 := hS; rw [insN_d c40, lst_ok] at h9; exact h9) | exact T311 _ _ _ (by have h9 := hS; rw [insN_j c40, ckE_y y145, lst_ok] at h9; exact h9) | exact T311 _ _ _ (by have h9 := hS; rw [insN_j c40, ckE_n y145, lst_er] at h9; exact h9) | exact T311 _ _ _ (by have h9 := hS; rw [insN_r c40, ckE_y (by omega), lst_ok] at h9; exact h9) | exact T311 _ _ _ (by have h9 := hS; rw [insN_r c40, ckE_n (by omega), lst_er] at h9; exact h9) | exact T311 _ _ _ (by have h9 := hS; rw [insN_b c40, ckE_y (And.intro (by omega) y199), lst_ok] at h9; exact h9) | exact T311 _ _ _ (by have h9 := hS; rw [insN_b c40, ckE_n (fun h => y199 h.2), lst_er] at h9; exact h9) | exact T311 _ _ _ (by have h9 := hS; rw [insN_b c40, ckE_n (by omega), lst_er] at h9; exact h9) | exact T311 _ _ _ (by have h9 := hS; rw [insN_c c40, ckE_y (by omega), lst_ok] at h9; exact h9) | exact T311 _ _ _ (by have h9 := hS; rw [insN_c c40, ckE_n (by omega), lst_er] at h9; exact h9) | exact T311 _ _ _ (by have h9 := hS; rw [insN_f c40, ckE_y (by omega), lst_ok] at h9; exact h9) | exact T311 _ _ _ (by have h9 := hS; rw [insN_f c40, ckE_n (by omega), lst_er] at h9; exact h9)
              · skip
                first | (exfalso; omega) | exact T311 _ _ _ (by have h9 := hS; rw [insN_d c40, lst_ok] at h9; exact h9) | exact T311 _ _ _ (by have h9 := hS; rw [insN_j c40, ckE_y y145, lst_ok] at h9; exact h9) | exact T311 _ _ _ (by have h9 := hS; rw [insN_j c40, ckE_n y145, lst_er] at h9; exact h9) | exact T311 _ _ _ (by have h9 := hS; rw [insN_r c40, ckE_y (by omega), lst_ok] at h9; exact h9) | exact T311 _ _ _ (by have h9 := hS; rw [insN_r c40, ckE_n (by omega), lst_er] at h9; exact h9) | exact T311 _ _ _ (by have h9 := hS; rw [insN_b c40, ckE_y (And.intro (by omega) y199), lst_ok] at h9; exact h9) | exact T311 _ _ _ (by have h9 := hS; rw [insN_b c40, ckE_n (fun h => y199 h.2), lst_er] at h9; exact h9) | exact T311 _ _ _ (by have h9 := hS; rw [insN_b c40, ckE_n (by omega), lst_er] at h9; exact h9) | exact T311 _ _ _ (by have h9 := hS; rw [insN_c c40, ckE_y (by omega), lst_ok] at h9; exact h9) | exact T311 _ _ _ (by have h9 := hS; rw [insN_c c40, ckE_n (by omega), lst_er] at h9; exact h9) | exact T311 _ _ _ (by have h9 := hS; rw [insN_f c40, ckE_y (by omega), lst_ok] at h9; exact h9) | exact T311 _ _ _ (by have h9 := hS; rw [insN_f c40, ckE_n (by omega), lst_er] at h9; exact h9)
            · skip
              refine s242_148.mpr (wif (fun c148 => ?_) (fun c148 => ?_))
              · skip
                refine s242_151.mpr (s242_152.mpr (s242_154.mpr (s242_155.mpr ?_)))
                try simp (disch := first | decide | assumption | omega) only [kon, knt_some, knt_none, Option.toList_some, Option.toList_none, List.cons_append, List.nil_append, upI_eq, upI_a, upI_i, upR_eq, upR_a, upR_i, hn, hc, fAdd_id, hBl, m1, m3, m5]
                refine (s242_156 (by omega) kM).mpr ?_
                refine m_missing hA ?_
                simp only [upI_eq, upI_up]
                refine s242_159.mpr ?_
                first | (exfalso; omega) | exact T311 _ _ _ (by have h9 := hS; rw [insN_d c40, lst_ok] at h9; exact h9) | exact T311 _ _ _ (by have h9 := hS; rw [insN_j c40, ckE_y y145, lst_ok] at h9; exact h9) | exact T311 _ _ _ (by have h9 := hS; rw [insN_j c40, ckE_n y145, lst_er] at h9; exact h9) | exact T311 _ _ _ (by have h9 := hS; rw [insN_r c40, ckE_y (by omega), lst_ok] at h9; exact h9) | exact T311 _ _ _ (by have h9 := hS; rw [insN_r c40, ckE_n (by omega), lst_er] at h9; exact h9) | exact T311 _ _ _ (by have h9 := hS; rw [insN_b c40, ckE_y (And.intro (by omega) y199), lst_ok] at h9; exact h9) | exact T311 _ _ _ (by have h9 := hS; rw [insN_b c40, ckE_n (fun h => y199 h.2), lst_er] at h9; exact h9) | exact T311 _ _ _ (by have h9 := hS; rw [insN_b c40, ckE_n (by omega), lst_er] at h9; exact h9) | exact T311 _ _ _ (by have h9 := hS; rw [insN_c c40, ckE_y (by omega), lst_ok] at h9; exact h9) | exact T311 _ _ _ (by have h9 := hS; rw [insN_c c40, ckE_n (by omega), lst_er] at h9; exact h9) | exact T311 _ _ _ (by have h9 := hS; rw [insN_f c40, ckE_y (by omega), lst_ok] at h9; exact h9) | exact T311 _ _ _ (by have h9 := hS; rw [insN_f c40, ckE_n (by omega), lst_er] at h9; exact h9)
              · skip
                first | (exfalso; omega) | exact T311 _ _ _ (by have h9 := hS; rw [insN_d c40, lst_ok] at h9; exact h9) | exact T311 _ _ _ (by have h9 := hS; rw [insN_j c40, ckE_y y145, lst_ok] at h9; exact h9) | exact T311 _ _ _ (by have h9 := hS; rw [insN_j c40, ckE_n y145, lst_er] at h9; exact h9) | exact T311 _ _ _ (by have h9 := hS; rw [insN_r c40, ckE_y (by omega), lst_ok] at h9; exact h9) | exact T311 _ _ _ (by have h9 := hS; rw [insN_r c40, ckE_n (by omega), lst_er] at h9; exact h9) | exact T311 _ _ _ (by have h9 := hS; rw [insN_b c40, ckE_y (And.intro (by omega) y199), lst_ok] at h9; exact h9) | exact T311 _ _ _ (by have h9 := hS; rw [insN_b c40, ckE_n (fun h => y199 h.2), lst_er] at h9; exact h9) | exact T311 _ _ _ (by have h9 := hS; rw [insN_b c40, ckE_n (by omega), lst_er] at h9; exact h9) | exact T311 _ _ _ (by have h9 := hS; rw [insN_c c40, ckE_y (by omega), lst_ok] at h9; exact h9) | exact T311 _ _ _ (by have h9 := hS; rw [insN_c c40, ckE_n (by omega), lst_er] at h9; exact h9) | exact T311 _ _ _ (by have h9 := hS; rw [insN_f c40, ckE_y (by omega), lst_ok] at h9; exact h9) | exact T311 _ _ _ (by have h9 := hS; rw [insN_f c40, ckE_n (by omega), lst_er] at h9; exact h9)
          · skip
            refine s242_162.mpr (s242_164.mpr ((s242_165 kM).mpr ?_))
            rw [mr_5 hR]
            refine s242_168.mpr ?_
            refine (s242_169 (hA.k (by decide) (by decide) rfl) (by first | assumption | omega) (by first | assumption | omega)).mpr ?_
            try simp (disch := first | decide | assumption | omega) only [kon, knt_some, knt_none, Option.toList_some, Option.toList_none, List.cons_append, List.nil_append, upI_eq, upI_a, upI_i, upR_eq, upR_a, upR_i, hn, hc, fAdd_id, hBl, m1, m3, m5]
            refine s242_170.mpr (wif (fun c170 => ?_) (fun c170 => ?_))
            · skip
              first | (exfalso; omega) | exact T311 _ _ _ (by have h9 := hS; rw [insN_d c40, lst_ok] at h9; exact h9) | exact T311 _ _ _ (by have h9 := hS; rw [insN_j c40, ckE_y y145, lst_ok] at h9; exact h9) | exact T311 _ _ _ (by have h9 := hS; rw [insN_j c40, ckE_n y145, lst_er] at h9; exact h9) | exact T311 _ _ _ (by have h9 := hS; rw [insN_r c40, ckE_y (by omega), lst_ok] at h9; exact h9) | exact T311 _ _ _ (by have h9 := hS; rw [insN_r c40, ckE_n (by omega), lst_er] at h9; exact h9) | exact T311 _ _ _ (by have h9 := hS; rw [insN_b c40, ckE_y (And.intro (by omega) y199), lst_ok] at h9; exact h9) | exact T311 _ _ _ (by have h9 := hS; rw [insN_b c40, ckE_n (fun h => y199 h.2), lst_er] at h9; exact h9) | exact T311 _ _ _ (by have h9 := hS; rw [insN_b c40, ckE_n (by omega), lst_er] at h9; exact h9) | exact T311 _ _ _ (by have h9 := hS; rw [insN_c c40, ckE_y (by omega), lst_ok] at h9; exact h9) | exact T311 _ _ _ (by have h9 := hS; rw [insN_c c40, ckE_n (by omega), lst_er] at h9; exact h9) | exact T311 _ _ _ (by have h9 := hS; rw [insN_f c40, ckE_y (by omega), lst_ok] at h9; exact h9) | exact T311 _ _ _ (by have h9 := hS; rw [insN_f c40, ckE_n (by omega), lst_er] at h9; exact h9)
            · skip
              refine s242_173.mpr (s242_174.mpr (s242_176.mpr (s242_177.mpr ?_)))
              try simp (disch := first | decide | assumption | omega) only [kon, knt_some, knt_none, Option.toList_some, Option.toList_none, List.cons_append, List.nil_append, upI_eq, upI_a, upI_i, upR_eq, upR_a, upR_i, hn, hc, fAdd_id, hBl, m1, m3, m5]
              refine (s242_178 (by omega) kM).mpr ?_
              refine m_missing hA ?_
              simp only [upI_eq, upI_up]
              refine s242_181.mpr ?_
              first | (exfalso; omega) | exact T311 _ _ _ (by have h9 := hS; rw [insN_d c40, lst_ok] at h9; exact h9) | exact T311 _ _ _ (by have h9 := hS; rw [insN_j c40, ckE_y y145, lst_ok] at h9; exact h9) | exact T311 _ _ _ (by have h9 := hS; rw [insN_j c40, ckE_n y145, lst_er] at h9; exact h9) | exact T311 _ _ _ (by have h9 := hS; rw [insN_r c40, ckE_y (by omega), lst_ok] at h9; exact h9) | exact T311 _ _ _ (by have h9 := hS; rw [insN_r c40, ckE_n (by omega), lst_er] at h9; exact h9) | exact T311 _ _ _ (by have h9 := hS; rw [insN_b c40, ckE_y (And.intro (by omega) y199), lst_ok] at h9; exact h9) | exact T311 _ _ _ (by have h9 := hS; rw [insN_b c40, ckE_n (fun h => y199 h.2), lst_er] at h9; exact h9) | exact T311 _ _ _ (by have h9 := hS; rw [insN_b c40, ckE_n (by omega), lst_er] at h9; exact h9) | exact T311 _ _ _ (by have h9 := hS; rw [insN_c c40, ckE_y (by omega), lst_ok] at h9; exact h9) | exact T311 _ _ _ (by have h9 := hS; rw [insN_c c40, ckE_n (by omega), lst_er] at h9; exact h9) | exact T311 _ _ _ (by have h9 := hS; rw [insN_f c40, ckE_y (by omega), lst_ok] at h9; exact h9) | exact T311 _ _ _ (by have h9 := hS; rw [insN_f c40, ckE_n (by omega), lst_er] at h9; exact h9)
          · skip
            have c40 := List.mem_singleton.mp c40
            refine s242_184.mpr (s242_186.mpr ((s242_187 kM).mpr ?_))
            rw [mr_5 hR]
            refine s242_190.mpr ?_
            refine (s242_191 (hA.k (by decide) (by decide) rfl) (by first | assumption | omega) (by first | assumption | omega)).mpr ?_
            try simp (disch := first | decide | assumption | omega) only [kon, knt_some, knt_none, Option.toList_some, Option.toList_none, List.cons_append, List.nil_append, upI_eq, upI_a, upI_i, upR_eq, upR_a, upR_i, hn, hc, fAdd_id, hBl, m1, m3, m5]
            refine s242_192.mpr (wif (fun c192 => ?_) (fun c192 => ?_))
            · skip
              refine s242_195.mpr (s242_196.mpr (s242_197.mpr ?_))
              refine (s242_199 (by omega) kM).mpr ?_
              have g199 : 0 ≤ B (c + p + 1) := i1 (by rw [oprn_3 (by rw [c40]; decide)]; decide)
              refine m_isPlain (B := B) hA hR ⟨hm0, hm1⟩ (by omega) (by omega) (by (try simp (disch := decide) only [upI_eq, upI_a, upI_i, upR_eq, upR_a, upR_i]); exact (m2 _ (by omega) (by omega)).1) (fun k k0 k1 => by (try simp (disch := decide) only [upI_eq, upI_a, upI_i, upR_eq, upR_a, upR_i]); exact (m2 _ (by omega) (by omega)).2 k k0 k1) (w5 _ (by omega) (by omega)) (fun y199 => ?_) (fun y199 => ?_)
              · skip
                refine s242_202.mpr (wif (fun c202 => ?_) (fun c202 => ?_))
                · skip
                  refine s242_205.mpr (s242_206.mpr (s242_208.mpr (s242_209.mpr ?_)))
                  try simp (disch := first | decide | assumption | omega) only [kon, knt_some, knt_none, Option.toList_some, Option.toList_none, List.cons_append, List.nil_append, upI_eq, upI_a, upI_i, upR_eq, upR_a, upR_i, hn, hc, fAdd_id, hBl, m1, m3, m5]
                  refine (s242_210 (by omega) kM).mpr ?_
                  refine m_missing hA ?_
                  simp only [upI_eq, upI_up]
                  refine s242_213.mpr ?_
                  first | (exfalso; omega) | exact T311 _ _ _ (by have h9 := hS; rw [insN_d c40, lst_ok] at h9; exact h9) | exact T311 _ _ _ (by have h9 := hS; rw [insN_j c40, ckE_y y145, lst_ok] at h9; exact h9) | exact T311 _ _ _ (by have h9 := hS; rw [insN_j c40, ckE_n y145, lst_er] at h9; exact h9) | exact T311 _ _ _ (by have h9 := hS; rw [insN_r c40, ckE_y (by omega), lst_ok] at h9; exact h9) | exact T311 _ _ _ (by have h9 := hS; rw [insN_r c40, ckE_n (by omega), lst_er] at h9; exact h9) | exact T311 _ _ _ (by have h9 := hS; rw [insN_b c40, ckE_y (And.intro (by omega) y199), lst_ok] at h9; exact h9) | exact T311 _ _ _ (by have h9 := hS; rw [insN_b c40, ckE_n (fun h => y199 h.2), lst_er] at h9; exact h9) | exact T311 _ _ _ (by have h9 := hS; rw [insN_b c40, ckE_n (by omega), lst_er] at h9; exact h9) | exact T311 _ _ _ (by have h9 := hS; rw [insN_c c40, ckE_y (by omega), lst_ok] at h9; exact h9) | exact T311 _ _ _ (by have h9 := hS; rw [insN_c c40, ckE_n (by omega), lst_er] at h9; exact h9) | exact T311 _ _ _ (by have h9 := hS; rw [insN_f c40, ckE_y (by omega), lst_ok] at h9; exact h9) | exact T311 _ _ _ (by have h9 := hS; rw [insN_f c40, ckE_n (by omega), lst_er] at h9; exact h9)
                · skip
                  first | (exfalso; omega) | exact T311 _ _ _ (by have h9 := hS; rw [insN_d c40, lst_ok] at h9; exact h9) | exact T311 _ _ _ (by have h9 := hS; rw [insN_j c40, ckE_y y145, lst_ok] at h9; exact h9) | exact T311 _ _ _ (by have h9 := hS; rw [insN_j c40, ckE_n y145, lst_er] at h9; exact h9) | exact T311 _ _ _ (by have h9 := hS; rw [insN_r c40, ckE_y (by omega), lst_ok] at h9; exact h9) | exact T311 _ _ _ (by have h9 := hS; rw [insN_r c40, ckE_n (by omega), lst_er] at h9; exact h9) | exact T311 _ _ _ (by have h9 := hS; rw [insN_b c40, ckE_y (And.intro (by omega) y199), lst_ok] at h9; exact h9) | exact T311 _ _ _ (by have h9 := hS; rw [insN_b c40, ckE_n (fun h => y199 h.2), lst_er] at h9; exact h9) | exact T311 _ _ _ (by have h9 := hS; rw [insN_b c40, ckE_n (by omega), lst_er] at h9; exact h9) | exact T311 _ _ _ (by have h9 := hS; rw [insN_c c40, ckE_y (by omega), lst_ok] at h9; exact h9) | exact T311 _ _ _ (by have h9 := hS; rw [insN_c c40, ckE_n (by omega), lst_er] at h9; exact h9) | exact T311 _ _ _ (by have h9 := hS; rw [insN_f c40, ckE_y (by omega), lst_ok] at h9; exact h9) | exact T311 _ _ _ (by have h9 := hS; rw [insN_f c40, ckE_n (by omega), lst_er] at h9; exact h9)
              · skip
                refine s242_202.mpr (wif (fun c202 => ?_) (fun c202 => ?_))
                · skip
                  refine s242_205.mpr (s242_206.mpr (s242_208.mpr (s242_209.mpr ?_)))
                  try simp (disch := first | decide | assumption | omega) only [kon, knt_some, knt_none, Option.toList_some, Option.toList_none, List.cons_append, List.nil_append, upI_eq, upI_a, upI_i, upR_eq, upR_a, upR_i, hn, hc, fAdd_id, hBl, m1, m3, m5]
                  refine (s242_210 (by omega) kM).mpr ?_
                  refine m_missing hA ?_
                  simp only [upI_eq, upI_up]
                  refine s242_213.mpr ?_
                  first | (exfalso; omega) | exact T311 _ _ _ (by have h9 := hS; rw [insN_d c40, lst_ok] at h9; exact h9) | exact T311 _ _ _ (by have h9 := hS; rw [insN_j c40, ckE_y y145, lst_ok] at h9; exact h9) | exact T311 _ _ _ (by have h9 := hS; rw [insN_j c40, ckE_n y145, lst_er] at h9; exact h9) | exact T311 _ _ _ (by have h9 := hS; rw [insN_r c40, ckE_y (by omega), lst_ok] at h9; exact h9) | exact T311 _ _ _ (by have h9 := hS; rw [insN_r c40, ckE_n (by omega), lst_er] at h9; exact h9) | exact T311 _ _ _ (by have h9 := hS; rw [insN_b c40, ckE_y (And.intro (by omega) y199), lst_ok] at h9; exact h9) | exact T311 _ _ _ (by have h9 := hS; rw [insN_b c40, ckE_n (fun h => y199 h.2), lst_er] at h9; exact h9) | exact T311 _ _ _ (by have h9 := hS; rw [insN_b c40, ckE_n (by omega), lst_er] at h9; exact h9) | exact T311 _ _ _ (by have h9 := hS; rw [insN_c c40, ckE_y (by omega), lst_ok] at h9; exact h9) | exact T311 _ _ _ (by have h9 := hS; rw [insN_c c40, ckE_n (by omega), lst_er] at h9; exact h9) | exact T311 _ _ _ (by have h9 := hS; rw [insN_f c40, ckE_y (by omega), lst_ok] at h9; exact h9) | exact T311 _ _ _ (by have h9 := hS; rw [insN_f c40, ckE_n (by omega), lst_er] at h9; exact h9)
                · skip
                  first | (exfalso; omega) | exact T311 _ _ _ (by have h9 := hS; rw [insN_d c40, lst_ok] at h9; exact h9) | exact T311 _ _ _ (by have h9 := hS; rw [insN_j c40, ckE_y y145, lst_ok] at h9; exact h9) | exact T311 _ _ _ (by have h9 := hS; rw [insN_j c40, ckE_n y145, lst_er] at h9; exact h9) | exact T311 _ _ _ (by have h9 := hS; rw [insN_r c40, ckE_y (by omega), lst_ok] at h9; exact h9) | exact T311 _ _ _ (by have h9 := hS; rw [insN_r c40, ckE_n (by omega), lst_er] at h9; exact h9) | exact T311 _ _ _ (by have h9 := hS; rw [insN_b c40, ckE_y (And.intro (by omega) y199), lst_ok] at h9; exact h9) | exact T311 _ _ _ (by have h9 := hS; rw [insN_b c40, ckE_n (fun h => y199 h.2), lst_er] at h9; exact h9) | exact T311 _ _ _ (by have h9 := hS; rw [insN_b c40, ckE_n (by omega), lst_er] at h9; exact h9) | exact T311 _ _ _ (by have h9 := hS; rw [insN_c c40, ckE_y (by omega), lst_ok] at h9; exact h9) | exact T311 _ _ _ (by have h9 := hS; rw [insN_c c40, ckE_n (by omega), lst_er] at h9; exact h9) | exact T311 _ _ _ (by have h9 := hS; rw [insN_f c40, ckE_y (by omega), lst_ok] at h9; exact h9) | exact T311 _ _ _ (by have h9 := hS; rw [insN_f c40, ckE_n (by omega), lst_er] at h9; exact h9)
            · skip
              refine s242_205.mpr (s242_206.mpr (s242_208.mpr (s242_209.mpr ?_)))
              try simp (disch := first | decide | assumption | omega) only [kon, knt_some, knt_none, Option.toList_some, Option.toList_none, List.cons_append, List.nil_append, upI_eq, upI_a, upI_i, upR_eq, upR_a, upR_i, hn, hc, fAdd_id, hBl, m1, m3, m5]
              refine (s242_210 (by omega) kM).mpr ?_
              refine m_missing hA ?_
              simp only [upI_eq, upI_up]
              refine s242_213.mpr ?_
              first | (exfalso; omega) | exact T311 _ _ _ (by have h9 := hS; rw [insN_d c40, lst_ok] at h9; exact h9) | exact T311 _ _ _ (by have h9 := hS; rw [insN_j c40, ckE_y y145, lst_ok] at h9; exact h9) | exact T311 _ _ _ (by have h9 := hS; rw [insN_j c40, ckE_n y145, lst_er] at h9; exact h9) | exact T311 _ _ _ (by have h9 := hS; rw [insN_r c40, ckE_y (by omega), lst_ok] at h9; exact h9) | exact T311 _ _ _ (by have h9 := hS; rw [insN_r c40, ckE_n (by omega), lst_er] at h9; exact h9) | exact T311 _ _ _ (by have h9 := hS; rw [insN_b c40, ckE_y (And.intro (by omega) y199), lst_ok] at h9; exact h9) | exact T311 _ _ _ (by have h9 := hS; rw [insN_b c40, ckE_n (fun h => y199 h.2), lst_er] at h9; exact h9) | exact T311 _ _ _ (by have h9 := hS; rw [insN_b c40, ckE_n (by omega), lst_er] at h9; exact h9) | exact T311 _ _ _ (by have h9 := hS; rw [insN_c c40, ckE_y (by omega), lst_ok] at h9; exact h9) | exact T311 _ _ _ (by have h9 := hS; rw [insN_c c40, ckE_n (by omega), lst_er] at h9; exact h9) | exact T311 _ _ _ (by have h9 := hS; rw [insN_f c40, ckE_y (by omega), lst_ok] at h9; exact h9) | exact T311 _ _ _ (by have h9 := hS; rw [insN_f c40, ckE_n (by omega), lst_er] at h9; exact h9)
          · skip
            have c40 := List.mem_singleton.mp c40
            refine s242_216.mpr (s242_218.mpr ((s242_219 kM).mpr ?_))
            rw [mr_6 hR]
            refine s242_222.mpr ?_
            refine (s242_223 (hA.k (by decide) (by decide) rfl) (by first | assumption | omega) (by first | assumption | omega)).mpr ?_
            try simp (disch := first | decide | assumption | omega) only [kon, knt_some, knt_none, Option.toList_some, Option.toList_none, List.cons_append, List.nil_append, upI_eq, upI_a, upI_i, upR_eq, upR_a, upR_i, hn, hc, fAdd_id, hBl, m1, m3, m5]
            refine s242_224.mpr (wif (fun c224 => ?_) (fun c224 => ?_))
            · skip
              first | (exfalso; omega) | exact T311 _ _ _ (by have h9 := hS; rw [insN_d c40, lst_ok] at h9; exact h9) | exact T311 _ _ _ (by have h9 := hS; rw [insN_j c40, ckE_y y145, lst_ok] at h9; exact h9) | exact T311 _ _ _ (by have h9 := hS; rw [insN_j c40, ckE_n y145, lst_er] at h9; exact h9) | exact T311 _ _ _ (by have h9 := hS; rw [insN_r c40, ckE_y (by omega), lst_ok] at h9; exact h9) | exact T311 _ _ _ (by have h9 := hS; rw [insN_r c40, ckE_n (by omega), lst_er] at h9; exact h9) | exact T311 _ _ _ (by have h9 := hS; rw [insN_b c40, ckE_y (And.intro (by omega) y199), lst_ok] at h9; exact h9) | exact T311 _ _ _ (by have h9 := hS; rw [insN_b c40, ckE_n (fun h => y199 h.2), lst_er] at h9; exact h9) | exact T311 _ _ _ (by have h9 := hS; rw [insN_b c40, ckE_n (by omega), lst_er] at h9; exact h9) | exact T311 _ _ _ (by have h9 := hS; rw [insN_c c40, ckE_y (by omega), lst_ok] at h9; exact h9) | exact T311 _ _ _ (by have h9 := hS; rw [insN_c c40, ckE_n (by omega), lst_er] at h9; exact h9) | exact T311 _ _ _ (by have h9 := hS; rw [insN_f c40, ckE_y (by omega), lst_ok] at h9; exact h9) | exact T311 _ _ _ (by have h9 := hS; rw [insN_f c40, ckE_n (by omega), lst_er] at h9; exact h9)
            · skip
              refine s242_227.mpr (s242_228.mpr (s242_230.mpr (s242_231.mpr ?_)))
              try simp (disch := first | decide | assumption | omega) only [kon, knt_some, knt_none, Option.toList_some, Option.toList_none, List.cons_append, List.nil_append, upI_eq, upI_a, upI_i, upR_eq, upR_a, upR_i, hn, hc, fAdd_id, hBl, m1, m3, m5]
              refine (s242_232 (by omega) kM).mpr ?_
              refine m_missing hA ?_
              simp only [upI_eq, upI_up]
              refine s242_235.mpr ?_
              first | (exfalso; omega) | exact T311 _ _ _ (by have h9 := hS; rw [insN_d c40, lst_ok] at h9; exact h9) | exact T311 _ _ _ (by have h9 := hS; rw [insN_j c40, ckE_y y145, lst_ok] at h9; exact h9) | exact T311 _ _ _ (by have h9 := hS; rw [insN_j c40, ckE_n y145, lst_er] at h9; exact h9) | exact T311 _ _ _ (by have h9 := hS; rw [insN_r c40, ckE_y (by omega), lst_ok] at h9; exact h9) | exact T311 _ _ _ (by have h9 := hS; rw [insN_r c40, ckE_n (by omega), lst_er] at h9; exact h9) | exact T311 _ _ _ (by have h9 := hS; rw [insN_b c40, ckE_y (And.intro (by omega) y199), lst_ok] at h9; exact h9) | exact T311 _ _ _ (by have h9 := hS; rw [insN_b c40, ckE_n (fun h => y199 h.2), lst_er] at h9; exact h9) | exact T311 _ _ _ (by have h9 := hS; rw [insN_b c40, ckE_n (by omega), lst_er] at h9; exact h9) | exact T311 _ _ _ (by have h9 := hS; rw [insN_c c40, ckE_y (by omega), lst_ok] at h9; exact h9) | exact T311 _ _ _ (by have h9 := hS; rw [insN_c c40, ckE_n (by omega), lst_er] at h9; exact h9) | exact T311 _ _ _ (by have h9 := hS; rw [insN_f c40, ckE_y (by omega), lst_ok] at h9; exact h9) | exact T311 _ _ _ (by have h9 := hS; rw [insN_f c40, ckE_n (by omega), lst_er] at h9; exact h9)
          · skip
            refine s242_238.mpr (s242_240.mpr ((s242_241 kM).mpr ?_))
            rw [mr_7 hR]
            refine s242_244.mpr ?_
            refine (s242_245 (hA.k (by decide) (by decide) rfl) (by first | assumption | omega) (by first | assumption | omega)).mpr ?_
            try simp (disch := first | decide | assumption | omega) only [kon, knt_some, knt_none, Option.toList_some, Option.toList_none, List.cons_append, List.nil_append, upI_eq, upI_a, upI_i, upR_eq, upR_a, upR_i, hn, hc, fAdd_id, hBl, m1, m3, m5]
            refine s242_246.mpr (wif (fun c246 => ?_) (fun c246 => ?_))
            · skip
              first | (exfalso; omega) | exact T311 _ _ _ (by have h9 := hS; rw [insN_d c40, lst_ok] at h9; exact h9) | exact T311 _ _ _ (by have h9 := hS; rw [insN_j c40, ckE_y y145, lst_ok] at h9; exact h9) | exact T311 _ _ _ (by have h9 := hS; rw [insN_j c40, ckE_n y145, lst_er] at h9; exact h9) | exact T311 _ _ _ (by have h9 := hS; rw [insN_r c40, ckE_y (by omega), lst_ok] at h9; exact h9) | exact T311 _ _ _ (by have h9 := hS; rw [insN_r c40, ckE_n (by omega), lst_er] at h9; exact h9) | exact T311 _ _ _ (by have h9 := hS; rw [insN_b c40, ckE_y (And.intro (by omega) y199), lst_ok] at h9; exact h9) | exact T311 _ _ _ (by have h9 := hS; rw [insN_b c40, ckE_n (fun h => y199 h.2), lst_er] at h9; exact h9) | exact T311 _ _ _ (by have h9 := hS; rw [insN_b c40, ckE_n (by omega), lst_er] at h9; exact h9) | exact T311 _ _ _ (by have h9 := hS; rw [insN_c c40, ckE_y (by omega), lst_ok] at h9; exact h9) | exact T311 _ _ _ (by have h9 := hS; rw [insN_c c40, ckE_n (by omega), lst_er] at h9; exact h9) | exact T311 _ _ _ (by have h9 := hS; rw [insN_f c40, ckE_y (by omega), lst_ok] at h9; exact h9) | exact T311 _ _ _ (by have h9 := hS; rw [insN_f c40, ckE_n (by omega), lst_er] at h9; exact h9)
            · skip
              refine s242_249.mpr (s242_250.mpr (s242_252.mpr (s242_253.mpr ?_)))
              try simp (disch := first | decide | assumption | omega) only [kon, knt_some, knt_none, Option.toList_some, Option.toList_none, List.cons_append, List.nil_append, upI_eq, upI_a, upI_i, upR_eq, upR_a, upR_i, hn, hc, fAdd_id, hBl, m1, m3, m5]
              refine (s242_254 (by omega) kM).mpr ?_
              refine m_missing hA ?_
              simp only [upI_eq, upI_up]
              refine s242_257.mpr ?_
              first | (exfalso; omega) | exact T311 _ _ _ (by have h9 := hS; rw [insN_d c40, lst_ok] at h9; exact h9) | exact T311 _ _ _ (by have h9 := hS; rw [insN_j c40, ckE_y y145, lst_ok] at h9; exact h9) | exact T311 _ _ _ (by have h9 := hS; rw [insN_j c40, ckE_n y145, lst_er] at h9; exact h9) | exact T311 _ _ _ (by have h9 := hS; rw [insN_r c40, ckE_y (by omega), lst_ok] at h9; exact h9) | exact T311 _ _ _ (by have h9 := hS; rw [insN_r c40, ckE_n (by omega), lst_er] at h9; exact h9) | exact T311 _ _ _ (by have h9 := hS; rw [insN_b c40, ckE_y (And.intro (by omega) y199), lst_ok] at h9; exact h9) | exact T311 _ _ _ (by have h9 := hS; rw [insN_b c40, ckE_n (fun h => y199 h.2), lst_er] at h9; exact h9) | exact T311 _ _ _ (by have h9 := hS; rw [insN_b c40, ckE_n (by omega), lst_er] at h9; exact h9) | exact T311 _ _ _ (by have h9 := hS; rw [insN_c c40, ckE_y (by omega), lst_ok] at h9; exact h9) | exact T311 _ _ _ (by have h9 := hS; rw [insN_c c40, ckE_n (by omega), lst_er] at h9; exact h9) | exact T311 _ _ _ (by have h9 := hS; rw [insN_f c40, ckE_y (by omega), lst_ok] at h9; exact h9) | exact T311 _ _ _ (by have h9 := hS; rw [insN_f c40, ckE_n (by omega), lst_er] at h9; exact h9)
          · skip
            have c40 := List.mem_singleton.mp c40
            refine s242_260.mpr (s242_261.mpr ?_)
            exact T263 c40
          · skip
            first | (exfalso; omega) | exact T311 _ _ _ (by have h9 := hS; rw [insN_d c40, lst_ok] at h9; exact h9) | exact T311 _ _ _ (by have h9 := hS; rw [insN_j c40, ckE_y y145, lst_ok] at h9; exact h9) | exact T311 _ _ _ (by have h9 := hS; rw [insN_j c40, ckE_n y145, lst_er] at h9; exact h9) | exact T311 _ _ _ (by have h9 := hS; rw [insN_r c40, ckE_y (by omega), lst_ok] at h9; exact h9) | exact T311 _ _ _ (by have h9 := hS; rw [insN_r c40, ckE_n (by omega), lst_er] at h9; exact h9) | exact T311 _ _ _ (by have h9 := hS; rw [insN_b c40, ckE_y (And.intro (by omega) y199), lst_ok] at h9; exact h9) | exact T311 _ _ _ (by have h9 := hS; rw [insN_b c40, ckE_n (fun h => y199 h.2), lst_er] at h9; exact h9) | exact T311 _ _ _ (by have h9 := hS; rw [insN_b c40, ckE_n (by omega), lst_er] at h9; exact h9) | exact T311 _ _ _ (by have h9 := hS; rw [insN_c c40, ckE_y (by omega), lst_ok] at h9; exact h9) | exact T311 _ _ _ (by have h9 := hS; rw [insN_c c40, ckE_n (by omega), lst_er] at h9; exact h9) | exact T311 _ _ _ (by have h9 := hS; rw [insN_f c40, ckE_y (by omega), lst_ok] at h9; exact h9) | exact T311 _ _ _ (by have h9 := hS; rw [insN_f c40, ckE_n (by omega), lst_er] at h9; exact h9)
        · skip
          exfalso; omega
      · have eqN : cdN B c n (j + 1) (c + p) = .ok (c + p) := if_neg (by omega)
        have e9 : LK (ch.bind (cdN B c n (j + 1))) l (c + n) := by
          rw [show c + n = c + p by omega]
          rcases hK with ⟨e, e2⟩ | ⟨q, e, e2⟩
          · rw [e, bnd_ok]; rw [show c + p = c + n by omega] at eqN ⊢; rw [eqN]; exact Or.inl ⟨rfl, e2⟩
          · rw [e]; exact Or.inr ⟨q, rfl, e2⟩
        refine s242_2.mpr (s242_3.mpr ((s242_4 kM).mpr ?_))
        rw [mr_20 hR]
        refine s242_7.mpr ?_
        refine (s242_8 (hA.k (by decide) (by decide) rfl) (by first | assumption | omega) (by first | assumption | omega)).mpr ?_
        try simp (disch := first | decide | assumption | omega) only [upI_eq, upI_a, upI_i, upR_eq, upR_a, upR_i, hn]
        refine s242_9.mpr (wif (fun c9 => ?_) (fun c9 => ?_))
        · skip
          exfalso; omega
        · skip
          refine (s242_324).mpr ?_
          exact hq l e9
  have e0 : ls1 hi l = hi := upI_same hL
  have h9 := T2 n.toNat 0 l ch none none none (by omega) (by omega) (by omega) (by rw [Int.add_zero]; exact hcd) (by rw [Int.add_zero]; exact hK) hq
  rw [e0] at h9
  refine s242_0.mpr (s242_1.mpr ?_)
  exact h9
end ML2
