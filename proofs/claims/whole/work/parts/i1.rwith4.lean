/-! RUNNING, the reference: records, and all with the heap -/
section RP3
variable {d : Nat} {al : AL} {hi : HI} {hr : HR} {Q : QQ} {s : HI} {p : Int} {B : Int → Int} {f o v qx m : Int}
theorem RelR.ws (hE : RelR hi s) (p0 : 0 ≤ p ∧ p < 12) {b i x : Int} (b1 : 1 ≤ b ∧ b ≤ 1024) (h0 : 0 < s 100 (1025 * p + b)) (i0 : 0 ≤ i) (i1 : i < s 100 (1025 * p + b) - 1) : RelR (upI hi 104 (plc hi p b i) x) (upI s 301 (hx p b i) x) ∧ FW wRn hi (upI hi 104 (plc hi p b i) x) := by
  refine ⟨⟨fun a j z => ?_, fun p' q0 q1 => ?_⟩, FW.rf.up (by unfold wRn; omega)⟩
  · rw [upI_a (by omega), upI_a (by omega)]; exact hE.1 a j z
  · obtain ⟨L1, L2⟩ := hE.2 p' q0 q1
    obtain ⟨⟨f0, f1⟩, f2⟩ := (hE.2 p p0.1 p0.2).1 b b1.1 b1.2 h0
    refine ⟨fun b' c1 c2 hb' => ?_, fun b' b'' c1 c2 c3 c4 c5 c6 c7 => ?_⟩
    · rw [upI_a (by decide)] at hb' ⊢
      rw [upI_a (by decide)]
      obtain ⟨⟨g0, g1⟩, g2⟩ := L1 b' c1 c2 hb'
      refine ⟨⟨g0, g1⟩, fun j j0 j1 => ?_⟩
      obtain ⟨g3, g4⟩ := g2 j j0 j1
      rw [upI_a (show (103 : Nat) ≠ 104 by decide), upI_a (show (300 : Nat) ≠ 301 by decide)]
      refine ⟨g3, ?_⟩
      by_cases e : p' = p ∧ b' = b ∧ j = i
      · obtain ⟨rfl, rfl, rfl⟩ := e
        have : plc hi p' b' j = 1024 * p' + hi 101 (1025 * p' + b') + j := rfl
        rw [this, upI_eq, upI_eq]
      · have n1 : 1024 * p' + hi 101 (1025 * p' + b') + j ≠ plc hi p b i := by
          unfold plc
          by_cases ep : p' = p
          · subst ep
            by_cases eb : b' = b
            · subst eb; omega
            · have := L2 b' b c1 c2 b1.1 b1.2 eb hb' h0
              omega
          · omega
        have n2 : hx p' b' j ≠ hx p b i := by unfold hx; omega
        rw [upI_i n1, upI_i n2]; exact g4
    · rw [upI_a (by decide)] at c6 c7 ⊢
      rw [upI_a (by decide), upI_a (by decide), upI_a (by decide)]
      exact L2 b' b'' c1 c2 c3 c4 c5 c6 c7
/-- the sorts of the first j fields are given -/
def wRc (B : Int → Int) (v j i : Int) : Int := if i < j ∧ heapT (fTy B v i) then 1 else 0
theorem newB_w {g : HI} {k n t j : Int} (j0 : 0 ≤ j ∧ j < n) : newB g p k n t (wRc B v (j + 1)) = if heapT (fTy B v j) then upI (newB g p k n t (wRc B v j)) 301 (hx p k j) 1 else newB g p k n t (wRc B v j) := by
  have ew : ∀ i, i ≠ j → wRc B v (j + 1) i = wRc B v j i := fun i hi => by
    unfold wRc
    by_cases c : i < j ∧ heapT (fTy B v i)
    · rw [if_pos c, if_pos ⟨by omega, c.2⟩]
    · rw [if_neg c, if_neg (fun z => c ⟨by omega, z.2⟩)]
  have ex : ∀ a i, ¬ (a = 301 ∧ i = hx p k j) → newB g p k n t (wRc B v (j + 1)) a i = newB g p k n t (wRc B v j) a i := fun a i h => by
    unfold newB
    by_cases c : a = 301 ∧ hx p k 0 ≤ i ∧ i < hx p k n
    · rw [if_neg (by omega), if_neg (by omega), if_neg (by omega), if_pos c, if_neg (by omega), if_neg (by omega), if_neg (by omega), if_pos c]
      refine ew _ (fun z => h ⟨c.1, ?_⟩)
      unfold hx at z ⊢; omega
    · rw [if_neg c, if_neg c]
  by_cases c : heapT (fTy B v j)
  · rw [if_pos c]
    funext a i
    by_cases e : a = 301 ∧ i = hx p k j
    · obtain ⟨rfl, rfl⟩ := e
      rw [upI_eq, (newB_x j0).2]
      unfold wRc
      rw [if_pos ⟨by omega, c⟩]
    · rw [ex a i e]
      unfold upI
      rw [if_neg e]
  · rw [if_neg c]
    funext a i
    by_cases e : a = 301 ∧ i = hx p k j
    · obtain ⟨rfl, rfl⟩ := e
      rw [(newB_x j0).2, (newB_x j0).2]
      unfold wRc
      rw [if_neg (fun z => c z.2), if_neg (fun z => c z.2)]
    · exact ex a i e
theorem newB_wn {g : HI} {k n t : Int} {w w' : Int → Int} (h : ∀ i, 0 ≤ i → i < n → w i = w' i) : newB g p k n t w = newB g p k n t w' := by
  funext a i
  unfold newB
  by_cases c : a = 301 ∧ hx p k 0 ≤ i ∧ i < hx p k n
  · rw [if_neg (by omega), if_neg (by omega), if_neg (by omega), if_pos c, if_neg (by omega), if_neg (by omega), if_neg (by omega), if_pos c]
    exact h _ (by omega) (by unfold hx at c ⊢; omega)
  · rw [if_neg c, if_neg c]
theorem w_22 (hA : SA al) (hR : MR hr) (hd : 56 ≤ d) (hE : RelR hi s) (hp : AP s p) (hg0 : 0 ≤ hg s p ∧ hg s p ≤ 16) (hq : QB s) (q : ∀ hi', RelR hi' (exS B f s p o v qx) → FW wRn hi hi' → Q (some none) al hi' hr) (ho : o = 22) (h1 : hg s p < 16) (hB : HBd s p) (h92 : 0 ≤ s 92 p ∧ s 92 p ≤ 1024) (m0 : 0 ≤ m ∧ m < 12) (v0 : 0 ≤ v ∧ v < 8) (hn : s 57 (8 * m + v) = nFld B v) (n0 : 0 ≤ nFld B v ∧ nFld B v ≤ 6) (hft : ∀ i, 0 ≤ i → i < nFld B v → s 58 (48 * m + 6 * v + i) = fTy B v i) : Wp d 312 94 [vR (some 49), vI p, vI o, vI v, vI m, none, none, none] [] al hi hr Q := by
  have kM : isK al 49 13 := hA.k (by decide) (by decide) rfl
  have H0 := Sm.rf hE.1
  have hp' : AP hi p := hp.n (H0.e (by omega))
  have hgg : hg hi p = hg s p := H0.hg_
  have hqq : QB hi := hq.eq (fun _ => H0.e (by omega)) (fun _ => H0.e (by omega)) (fun _ => H0.e (by omega)) (fun _ => H0.e (by omega))
  have l91 := SA.len (a := 91) (n := 12) hA (by decide) (by decide) rfl
  have l57 := SA.len (a := 57) (n := 104) hA (by decide) (by decide) rfl
  have l58 := SA.len (a := 58) (n := 624) hA (by decide) (by decide) rfl
  have l104 := SA.len (a := 104) (n := 12288) hA (by decide) (by decide) rfl
  have l103 := SA.len (a := 103) (n := 12288) hA (by decide) (by decide) rfl
  have l100 := SA.len (a := 100) (n := 12300) hA (by decide) (by decide) rfl
  have hpb := hp.1
  have e57 : hi 57 (8 * m + v) = nFld B v := (H0.e (by omega)).trans hn
  obtain ⟨n, hne⟩ : ∃ n, nFld B v = n := ⟨_, rfl⟩
  have e : exS B f s p o v qx = mkS s p n (1 + 8 * v) (fun i => if heapT (fTy B v i) then 1 else 0) := by subst ho; subst hne; rfl
  rw [e] at q
  rw [hne] at e57 n0 hft
  have MK : Ev (d - 1) 291 [vR (some 49), vI p, vL n, vI 0] al hi hr (kon d 312 110 113 [vR (some 49), vI p, vI o, vI v, vI m, none, none, none] [] Q) := by
    refine r_mk hA hR (by omega) hE hB hp h92 ⟨by omega, by omega⟩ (fun nf h' hE' w' => ?_) (fun yf h' hE' hk w' => ?_)
    · simp only [kon, knt_some, knt_none, Option.toList_some, Option.toList_none, List.cons_append, List.nil_append]
      have H' := Sm.rf hE'.1
      have hq' : QB h' := hq.eq (fun _ => H'.e (by omega)) (fun _ => H'.e (by omega)) (fun _ => H'.e (by omega)) (fun _ => H'.e (by omega))
      unfold mkS at q
      rw [cif_n nf] at q
      have E := q _ (hE'.sm H'.trp_) ((w'.mn (by intro a i z; unfold wMk at z; unfold wRn; omega)).tr H'.trp_.fw)
      refine s312_113.mpr (s312_115.mpr ?_)
      refine s312_117.mpr (wif (fun c117 => ?_) (fun c117 => ?_))
      · skip
        refine s312_120.mpr (s312_121.mpr (s312_122.mpr ?_))
        refine (s312_123 (by omega) kM).mpr ?_
        refine r_trap hA hR (by omega) hq' hp.1 ?_
        refine s312_126.mpr ?_
        refine (s312_550).mpr ?_
        exact E
      · skip
        exact absurd rfl (by assumption)
    · simp only [kon, knt_some, knt_none, Option.toList_some, Option.toList_none, List.cons_append, List.nil_append]
      unfold mkS at q
      rw [cif_y yf] at q
      obtain ⟨k, hke⟩ : ∃ k, mkB s p = k := ⟨_, rfl⟩
      rw [hke] at q hk hE'
      obtain ⟨g, hge⟩ : ∃ g, gcS s p = g := ⟨_, rfl⟩
      rw [hge] at q hk hE'
      have eg : ∀ a i, a ≠ 100 → g a i = s a i := fun a i z => by rw [← hge]; exact gcS_CE z
      have T132 : ∀ (j9 : Nat) (j : Int) (h2 : HI), j + j9 = n → 0 ≤ j → RelR h2 (newB g p k n (1 + 8 * v) (wRc B v j)) → FW wRn hi h2 → Wp d 312 132 [vR (some 49), vI p, vI o, vI v, vI m, vI k, none, vI j] [] al h2 hr Q := by
        intro j9
        induction j9 with
        | zero =>
          intro j h2 hj j0 hE2 w2
          have e57' : h2 57 (8 * m + v) = n := (w2 57 _ (by unfold wRn; omega)).trans e57
          rw [newB_wn (w' := fun i => if heapT (fTy B v i) then 1 else 0) (fun i i0 i1 => by
            show (if i < j ∧ heapT (fTy B v i) then (1 : Int) else 0) = if heapT (fTy B v i) then 1 else 0
            by_cases c : heapT (fTy B v i)
            · rw [if_pos ⟨by omega, c⟩, if_pos c]
            · rw [if_neg (fun z => c z.2), if_neg c])] at hE2
          have H2 := Sm.rf hE2.1
          have e1 : ∀ a i, (a ≠ 100 ∧ a ≠ 300 ∧ a ≠ 301 ∧ a ≠ 302) → newB g p k n (1 + 8 * v) (fun i => if heapT (fTy B v i) then (1 : Int) else 0) a i = s a i := fun a i z => by rw [newB_o z, eg a i z.1]
          have hp9 : AP h2 p := hp.n (by rw [H2.e (by omega), e1 94 p (by decide)])
          have hg9 : hg h2 p = hg s p := by
            rw [H2.hg_, hg_n (s := s) (e1 94 p (by decide)) (fun i => e1 97 i (by decide))]
          have E := q _ (hE2.sm (H2.psh_ rfl rfl)) (w2.tr (H2.psh_ (p := p) (v := k) (w := 1) rfl rfl).fw)
          refine s312_132.mpr (s312_134.mpr ((s312_135 kM).mpr ?_))
          rw [mr_9 hR]
          refine s312_138.mpr (s312_140.mpr (s312_142.mpr (s312_143.mpr (s312_144.mpr ?_))))
          try simp (disch := first | decide | assumption | omega) only [kon, knt_some, knt_none, Option.toList_some, Option.toList_none, List.cons_append, List.nil_append, e57', fAdd_id, fMul_id]
          refine (s312_145 (hA.k (by decide) (by decide) rfl) (by first | assumption | omega) (by first | assumption | omega)).mpr ?_
          try simp (disch := first | decide | assumption | omega) only [kon, knt_some, knt_none, Option.toList_some, Option.toList_none, List.cons_append, List.nil_append, e57', fAdd_id, fMul_id]
          refine s312_146.mpr (wif (fun c146 => ?_) (fun c146 => ?_))
          · skip
            exfalso; omega
          · skip
            refine s312_194.mpr (s312_195.mpr (s312_196.mpr (s312_198.mpr ?_)))
            refine (s312_199 (by omega) kM).mpr ?_
            refine r_push hA hR (by omega) hp9 (by rw [hg9]; omega) ?_
            refine s312_202.mpr ?_
            refine (s312_550).mpr ?_
            exact E
        | succ j9 ih =>
          intro j h2 hj j0 hE2 w2
          have e57' : h2 57 (8 * m + v) = n := (w2 57 _ (by unfold wRn; omega)).trans e57
          have e58 : h2 58 (48 * m + 6 * v + j) = fTy B v j := (w2 58 _ (by unfold wRn; omega)).trans ((H0.e (by omega)).trans (hft j j0 (by omega)))
          have eN := newB_w (p := p) (B := B) (v := v) (g := g) (k := k) (n := n) (t := 1 + 8 * v) (j := j) ⟨j0, by omega⟩
          have hsz : newB g p k n (1 + 8 * v) (wRc B v j) 100 (1025 * p + k) = n + 1 := newB_k
          have hk1 : 1 ≤ k ∧ k ≤ 1024 := ⟨hk.1, hk.2.1⟩
          have R167 : Ev (d - 1) 229 [vI (fTy B v j)] al h2 hr (kon d 312 167 170 [vR (some 49), vI p, vI o, vI v, vI m, vI k, none, vI j] [] Q) := by
            refine m_isHeap (by omega) (fun c => ?_) (fun c => ?_)
            · simp only [kon, knt_some, knt_none, Option.toList_some, Option.toList_none, List.cons_append, List.nil_append]
              rw [if_pos c] at eN
              obtain ⟨pl, -, -⟩ := (hE2.2 p hp.1.1 hp.1.2).b hk1 (by rw [hsz]; omega) j0 (by rw [hsz]; omega)
              have hf := ((hE2.2 p hp.1.1 hp.1.2).1 k hk1.1 hk1.2 (by rw [hsz]; omega)).1
              rw [hsz] at hf
              have E0 := RelR.ws (x := 1) (b := k) (i := j) hE2 hp.1 hk1 (by rw [hsz]; omega) j0 (by rw [hsz]; omega)
              rw [← eN] at E0
              have NX := ih (j + 1) _ (by omega) (by omega) E0.1 (w2.tr E0.2)
              refine s312_170.mpr (wif (fun c170 => ?_) (fun c170 => ?_))
              · skip
                refine s312_188.mpr (s312_191.mpr ?_)
                try simp (disch := first | decide | assumption | omega) only [kon, knt_some, knt_none, Option.toList_some, Option.toList_none, List.cons_append, List.nil_append, fAdd_id]
                first | exact absurd ‹(1 : Int) = 0› (by decide) | exact NX
              · skip
                refine s312_173.mpr ((s312_174 kM).mpr ?_)
                rw [mr_74 hR]
                refine s312_177.mpr (s312_178.mpr (s312_179.mpr (s312_181.mpr ?_)))
                refine (s312_183 (by omega) kM).mpr ?_
                refine r_cell hA hR hp.1 hk1 pl (by omega) ?_
                refine s312_186.mpr ?_
                refine (s312_187 (hA.k (by decide) (by decide) rfl) (by first | assumption | omega) (by first | assumption | omega)).mpr ?_
                refine s312_188.mpr (s312_191.mpr ?_)
                try simp (disch := first | decide | assumption | omega) only [kon, knt_some, knt_none, Option.toList_some, Option.toList_none, List.cons_append, List.nil_append, fAdd_id]
                first | exact absurd ‹(1 : Int) = 0› (by decide) | exact NX
            · simp only [kon, knt_some, knt_none, Option.toList_some, Option.toList_none, List.cons_append, List.nil_append]
              rw [if_neg c] at eN
              have NX := ih (j + 1) h2 (by omega) (by omega) (by rw [eN]; exact hE2) w2
              refine s312_170.mpr (wif (fun c170 => ?_) (fun c170 => ?_))
              · skip
                refine s312_188.mpr (s312_191.mpr ?_)
                try simp (disch := first | decide | assumption | omega) only [kon, knt_some, knt_none, Option.toList_some, Option.toList_none, List.cons_append, List.nil_append, fAdd_id]
                exact NX
              · skip
                exact absurd rfl (by assumption)
          refine s312_132.mpr (s312_134.mpr ((s312_135 kM).mpr ?_))
          rw [mr_9 hR]
          refine s312_138.mpr (s312_140.mpr (s312_142.mpr (s312_143.mpr (s312_144.mpr ?_))))
          try simp (disch := first | decide | assumption | omega) only [kon, knt_some, knt_none, Option.toList_some, Option.toList_none, List.cons_append, List.nil_append, e57', e58, fAdd_id, fMul_id]
          refine (s312_145 (hA.k (by decide) (by decide) rfl) (by first | assumption | omega) (by first | assumption | omega)).mpr ?_
          try simp (disch := first | decide | assumption | omega) only [kon, knt_some, knt_none, Option.toList_some, Option.toList_none, List.cons_append, List.nil_append, e57', e58, fAdd_id, fMul_id]
          refine s312_146.mpr (wif (fun c146 => ?_) (fun c146 => ?_))
          · skip
            refine s312_149.mpr ((s312_150 kM).mpr ?_)
            rw [mr_10 hR]
            refine s312_153.mpr (s312_155.mpr (s312_157.mpr (s312_158.mpr (s312_160.mpr (s312_161.mpr ?_)))))
            refine s312_162.mpr (s312_163.mpr (s312_165.mpr ?_))
            try simp (disch := first | decide | assumption | omega) only [kon, knt_some, knt_none, Option.toList_some, Option.toList_none, List.cons_append, List.nil_append, e57', e58, fAdd_id, fMul_id]
            refine (s312_166 (hA.k (by decide) (by decide) rfl) (by first | assumption | omega) (by first | assumption | omega)).mpr ?_
            try simp (disch := first | decide | assumption | omega) only [kon, knt_some, knt_none, Option.toList_some, Option.toList_none, List.cons_append, List.nil_append, e57', e58, fAdd_id, fMul_id]
            refine (s312_167 (by omega)).mpr ?_
            exact R167
          · skip
            exfalso; omega
      have NX := T132 n.toNat 0 h' (by omega) (Int.le_refl _) (by
        rw [newB_wn (w' := fun _ => 0) (fun i i0 i1 => by
          show (if i < 0 ∧ heapT (fTy B v i) then (1 : Int) else 0) = 0
          rw [if_neg (by omega)])]
        exact hE' _) (w'.mn (by intro a i z; unfold wMk at z; unfold wRn; omega))
      have hk1 := hk.1
      rw [hke]
      refine s312_113.mpr (s312_115.mpr ?_)
      refine s312_117.mpr (wif (fun c117 => ?_) (fun c117 => ?_))
      · skip
        exfalso; omega
      · skip
        refine s312_129.mpr (s312_130.mpr ?_)
        exact NX
  refine s312_94.mpr (s312_95.mpr (s312_96.mpr ((s312_97 kM).mpr ?_)))
  rw [mr_9 hR]
  refine s312_100.mpr (s312_102.mpr (s312_104.mpr (s312_105.mpr (s312_106.mpr ?_))))
  try simp (disch := first | decide | assumption | omega) only [kon, knt_some, knt_none, Option.toList_some, Option.toList_none, List.cons_append, List.nil_append, e57, fAdd_id, fMul_id]
  refine (s312_107 (hA.k (by decide) (by decide) rfl) (by first | assumption | omega) (by first | assumption | omega)).mpr ?_
  refine s312_108.mpr (s312_109.mpr ?_)
  try simp (disch := first | decide | assumption | omega) only [kon, knt_some, knt_none, Option.toList_some, Option.toList_none, List.cons_append, List.nil_append, e57, fAdd_id, fMul_id]
  refine (s312_110 (by omega) kM).mpr ?_
  exact MK
end RP3
