/-! an instruction of a right text leaves types that are types -/
section OPK
variable {B : Int → Int}
theorem vU {n : Int} {s : Int → Int} {i a : Int} (hs : ∀ k, 0 ≤ k → k < n → k ≠ i → vT B (s k)) (h : vT B a) : ∀ k, 0 ≤ k → k < n → vT B (up1 s i a k) := by
  intro k h0 h1
  by_cases hk : k = i
  · subst hk; rw [up1_eq]; exact h
  · rw [up1_ne hk]; exact hs k h0 h1 hk
theorem vLU {l : Int → Int} {i a : Int} (hs : ∀ k, 0 ≤ k → k < 10 → vT B (l k)) (h : vT B a) : ∀ k, 0 ≤ k → k < 10 → vT B (up1 l i a k) := vU (fun k a b _ => hs k a b) h
/-- an end in another state -/
theorem nx_v {a th : Int} (h : vT B a) (hk : kindM a = 5) (h0 : 0 ≤ th) (h1 : th < nSt B (whichM a)) (h2 : th ≤ 255) : vT B (a - 2048 * stateM a + 2048 * th) ∧ kindM (a - 2048 * stateM a + 2048 * th) = 5 ∧ whichM (a - 2048 * stateM a + 2048 * th) = whichM a ∧ stateM (a - 2048 * stateM a + 2048 * th) = th ∧ sideM (a - 2048 * stateM a + 2048 * th) = sideM a := by
  obtain ⟨a0, a1, -, -, -, -, -, hv⟩ := h
  obtain ⟨hv1, -⟩ := hv hk
  have ek : kindM (a - 2048 * stateM a + 2048 * th) = 5 := by
    unfold kindM at hk ⊢
    unfold stateM
    rw [if_neg (by omega)] at hk
    rw [if_neg (by omega)]
    omega
  have ew : whichM (a - 2048 * stateM a + 2048 * th) = whichM a := by unfold whichM stateM; omega
  have es : stateM (a - 2048 * stateM a + 2048 * th) = th := by unfold stateM; omega
  have ed : sideM (a - 2048 * stateM a + 2048 * th) = sideM a := by unfold sideM stateM; omega
  refine ⟨⟨by unfold stateM; omega, by unfold stateM; omega, fun q => by omega, fun q => by omega, fun q => by omega, fun q => by omega, fun q => by omega, fun _ => ?_⟩, ek, ew, es, ed⟩
  rw [ew, es]
  exact ⟨hv1, h1⟩
theorem vNode {r k : Int} (hk : k = 1 ∨ k = 3 ∨ k = 4) (h0 : 0 ≤ r) (h8 : r ≤ 255) (h1 : r < nRec B) : vT B (k + 8 * r) ∧ kindM (k + 8 * r) = k ∧ whichM (k + 8 * r) = r := by
  have ek : kindM (k + 8 * r) = k := by unfold kindM; rw [if_neg (by omega)]; omega
  have ew : whichM (k + 8 * r) = r := by unfold whichM; omega
  exact ⟨⟨by omega, by omega, fun q => by omega, fun q => by omega, fun q => by omega, fun q => by omega, fun _ => by rw [ew]; exact h1, fun q => by omega⟩, ek, ew⟩
theorem vEnd {c d : Int} (hd : d = 0 ∨ d = 524288) (h0 : 0 ≤ c) (h8 : c ≤ 255) (h1 : c < nCtr B) (h2 : 1 ≤ nSt B c) : vT B (5 + 8 * c + d) ∧ kindM (5 + 8 * c + d) = 5 ∧ whichM (5 + 8 * c + d) = c ∧ stateM (5 + 8 * c + d) = 0 ∧ sideM (5 + 8 * c + d) = (if d = 0 then 0 else 1) := by
  have ek : kindM (5 + 8 * c + d) = 5 := by unfold kindM; rw [if_neg (by omega)]; omega
  have ew : whichM (5 + 8 * c + d) = c := by unfold whichM; omega
  have es : stateM (5 + 8 * c + d) = 0 := by unfold stateM; omega
  refine ⟨⟨by omega, by omega, fun q => by omega, fun q => by omega, fun q => by omega, fun q => by omega, fun q => by omega, fun _ => ?_⟩, ek, ew, es, ?_⟩
  · rw [ew, es]; exact ⟨h1, by omega⟩
  · unfold sideM; split <;> omega
theorem vItm {a : Int} (h : vT B a) (hk : kindM a = 2 ∨ kindM a = 3) : vT B (itm a) := by
  unfold itm
  split
  · exact vT_of (by omega)
  · have := h.2.2.2.2.2.2.1 (by omega)
    exact (vNode (Or.inl rfl) (by unfold whichM; omega) (by unfold whichM; omega) this).1
theorem nx_of {a t : Int} (hS : Sh B) (hN : NV B) (h : vT B a) (hk : kindM a = 5) (t0 : 0 ≤ t) (t1 : t < nMs B (whichM a) (stateM a)) : vT B (nxT B a t) ∧ kindM (nxT B a t) = 5 ∧ whichM (nxT B a t) = whichM a ∧ stateM (nxT B a t) = thM B (whichM a) (stateM a) t ∧ sideM (nxT B a t) = sideM a := by
  obtain ⟨c1, s1⟩ := h.2.2.2.2.2.2.2 hk
  have c0 : 0 ≤ whichM a := by unfold whichM; omega
  have s0 : 0 ≤ stateM a := by unfold stateM; omega
  obtain ⟨-, n1⟩ := hN.2.1 _ _ t c0 c1 s0 s1 t0 t1
  obtain ⟨-, n2, n3, -⟩ := ((hS.2.2.2.2.2.2.1 _ c0 c1).2.2.2.1 _ s0 s1).2.2.2.2.2.2.1 t t0 t1
  exact nx_v h hk n2 n1 n3
theorem ld_of {a t : Int} (hN : NV B) (h : vT B a) (hk : kindM a = 5) (t0 : 0 ≤ t) (t1 : t < nMs B (whichM a) (stateM a)) : ldT B a t = -1 ∨ (vT B (ldT B a t) ∧ (kindM (ldT B a t) = 0 ∨ kindM (ldT B a t) = 4 ∨ kindM (ldT B a t) = 5)) := by
  obtain ⟨c1, s1⟩ := h.2.2.2.2.2.2.2 hk
  exact (hN.2.1 _ _ t (by unfold whichM; omega) c1 (by unfold stateM; omega) s1 t0 t1).1
theorem opk_of {f p : Int} (hS : Sh B) (hN : NV B) (hB : ∀ k, -1 ≤ B k ∧ B k ≤ 255) (hf0 : 0 ≤ f) (hf1 : f < nFn B) (hp : bgn B (cAt B f) (cLen B f) p) : Opk B f p := by
  obtain ⟨hI, hV⟩ := (hN.2.2 f hf0 hf1).2.2 p hp
  obtain ⟨i1, i2, i3, i4, i5, i6, i7, i8⟩ := hI
  obtain ⟨v1, v2, v3, v4, v5, v6⟩ := hV
  have p0 := hp.1
  have hL10 : nLoc B f ≤ 10 := (hS.2.2.2.2.2.2.2.2.2.2 f hf0 hf1).2.2.2.2.2.2.2.2.1
  have ha0 : ∀ x, oprn (opA B f p) = x → x ≠ 0 → 0 ≤ agA B f p := fun x e h => i1 (by unfold opA at e; rw [e]; exact h)
  have hb9 : agA B f p ≤ 255 := (hB _).2
  have h2 : opA B f p = 2 ∨ opA B f p = 3 → 0 ≤ agA B f p ∧ agA B f p < 10 := fun h => by
    have e : oprn (opA B f p) = 2 := oprn_2 (by simp only [List.mem_cons, List.not_mem_nil, or_false]; omega)
    exact ⟨ha0 2 e (by decide), by have := i2 e; unfold agA; omega⟩
  have h3 : opA B f p = 30 ∨ opA B f p = 40 → 0 ≤ agA B f p := fun h => ha0 3 (oprn_3 (by simp only [List.mem_cons, List.not_mem_nil, or_false]; omega)) (by decide)
  have h30 : opA B f p = 30 ∨ opA B f p = 40 → 0 ≤ nPar B (agA B f p) := fun h => (hS.2.2.2.2.2.2.2.2.2.2 _ (h3 h) (v5 h)).1
  refine ⟨h2, h30, fun X fl hX h => ?_⟩
  obtain ⟨n, s, l⟩ := X
  obtain ⟨hn, hs, hl⟩ := hX
  simp only at hn hs hl
  unfold tstep at h
  by_cases c : opA B f p < 20
  · rw [if_pos c] at h
    by_cases c0 : opA B f p = 0
    · rw [tsP_0 c0] at h; obtain ⟨hc, rfl⟩ := onw_s h; intro q hq; rw [List.mem_singleton] at hq; subst hq; refine ⟨by show 0 ≤ _; omega, ?_, ?_, ?_⟩
      · exact by show 0 ≤ n + 1; omega
      · exact vU (fun k a b _ => hs k a (by have b : k < _ := b; simp only at b; omega)) (vT_of (by omega))
      · exact hl
    by_cases c1 : opA B f p = 1
    · rw [tsP_1 c1] at h; obtain ⟨hc, rfl⟩ := onw_s h; intro q hq; rw [List.mem_singleton] at hq; subst hq; refine ⟨by show 0 ≤ _; omega, ?_, ?_, ?_⟩
      · exact by show 0 ≤ n + 1; omega
      · exact vU (fun k a b _ => hs k a (by have b : k < _ := b; simp only at b; omega)) (vT_of (by omega))
      · exact hl
    by_cases c2 : opA B f p = 2
    · rw [tsP_2 c2] at h; obtain ⟨hc, rfl⟩ := onw_s h; intro q hq; rw [List.mem_singleton] at hq; subst hq; refine ⟨by show 0 ≤ _; omega, ?_, ?_, ?_⟩
      · show 0 ≤ n + 1; omega
      · exact vU (fun k a b _ => hs k a (by have b : k < _ := b; simp only at b; omega)) (hl _ (h2 (Or.inl c2)).1 (h2 (Or.inl c2)).2)
      · show ∀ k, 0 ≤ k → k < 10 → vT B ((if linT (l (agA B f p)) then up1 l (agA B f p) 7 else l) k)
        split
        · exact vLU hl (vT_of (by omega))
        · exact hl
    by_cases c3 : opA B f p = 3
    · rw [tsP_3 c3] at h; obtain ⟨hc, rfl⟩ := onw_s h; intro q hq; rw [List.mem_singleton] at hq; subst hq; refine ⟨by show 0 ≤ _; omega, ?_, ?_, ?_⟩
      all_goals simp only at hc
      · exact by show 0 ≤ n - 1; omega
      · exact (fun k a b => hs k a (by have b : k < _ := b; simp only at b; omega))
      · exact vLU hl (hs _ (by omega) (by omega))
    by_cases c4 : opA B f p = 4
    · rw [tsP_4 c4] at h; obtain ⟨hc, rfl⟩ := onw_s h; intro q hq; rw [List.mem_singleton] at hq; subst hq; refine ⟨by show 0 ≤ _; omega, ?_, ?_, ?_⟩
      all_goals simp only at hc
      · exact by show 0 ≤ n - 1; omega
      · exact (fun k a b => hs k a (by have b : k < _ := b; simp only at b; omega))
      · exact hl
    by_cases c5 : opA B f p = 5
    · rw [tsP_5 c5] at h; obtain ⟨hc, rfl⟩ := onw_s h; intro q hq; rw [List.mem_singleton] at hq; subst hq; refine ⟨by show 0 ≤ _; omega, ?_, ?_, ?_⟩
      all_goals simp only at hc
      · exact by show 0 ≤ n + 1; omega
      · exact vU (fun k a b _ => hs k a (by have b : k < _ := b; simp only at b; omega)) (hs _ (by omega) (by omega))
      · exact hl
    by_cases c6 : opA B f p = 6
    · rw [tsP_6 c6] at h; obtain ⟨hc, rfl⟩ := onw_s h; intro q hq; rw [List.mem_singleton] at hq; subst hq; refine ⟨by show 0 ≤ _; omega, ?_, ?_, ?_⟩
      all_goals simp only at hc
      · exact hn
      · exact vU (fun k a b _ => vU (fun k a b _ => hs k a b) (hs _ (by omega) (by omega)) k a b) (hs _ (by omega) (by omega))
      · exact hl
    by_cases c19 : opA B f p = 19
    · rw [tsP_19 c19] at h; obtain ⟨hc, rfl⟩ := onw_s h; intro q hq; rw [List.mem_singleton] at hq; subst hq; refine ⟨by show 0 ≤ _; omega, ?_, ?_, ?_⟩
      · exact hn
      · exact vU (fun k a b _ => hs k a (by have b : k < _ := b; simp only at b; omega)) (vT_of (by omega))
      · exact hl
    rw [tsP_7 (by simp only [List.mem_cons, List.not_mem_nil, or_false, not_or]; omega)] at h; obtain ⟨hc, rfl⟩ := onw_s h; intro q hq; rw [List.mem_singleton] at hq; subst hq; refine ⟨by show 0 ≤ _; omega, ?_, ?_, ?_⟩
    all_goals simp only at hc
    · exact by show 0 ≤ n - 1; omega
    · exact vU (fun k a b _ => hs k a (by have b : k < _ := b; simp only at b; omega)) (vT_of (by omega))
    · exact hl
  · rw [if_neg c] at h
    by_cases c' : opA B f p < 32
    · rw [if_pos c'] at h
      by_cases c20 : opA B f p = 20
      · rw [tsH_20 c20] at h
        have := (v1 (Or.inl c20)).1
        obtain ⟨hc, rfl⟩ := onw_s h; intro q hq; rw [List.mem_singleton] at hq; subst hq; refine ⟨by show 0 ≤ _; omega, ?_, ?_, ?_⟩
        · exact hn
        · exact hs
        · exact hl
      by_cases c21 : opA B f p = 21
      · rw [tsH_21 c21] at h
        have := (v1 (Or.inr c21)).1
        obtain ⟨hc, rfl⟩ := onw_s h; intro q hq; simp only [List.mem_cons, List.not_mem_nil, or_false] at hq
        simp only at hc
        rcases hq with rfl | rfl
        · exact ⟨this, by show 0 ≤ n - 1; omega, (fun k a b => hs k a (by have b : k < _ := b; simp only at b; omega)), hl⟩
        · exact ⟨by show 0 ≤ p + 2; omega, by show 0 ≤ n - 1; omega, (fun k a b => hs k a (by have b : k < _ := b; simp only at b; omega)), hl⟩
      by_cases c22 : opA B f p = 22
      · rw [tsH_22 c22] at h; obtain ⟨hc, rfl⟩ := onw_s h; intro q hq; rw [List.mem_singleton] at hq; subst hq; refine ⟨by show 0 ≤ _; omega, ?_, ?_, ?_⟩
        · exact by show 0 ≤ n + 1; omega
        · exact vU (fun k a b _ => hs k a (by have b : k < _ := b; simp only at b; omega)) (vNode (Or.inl rfl) (ha0 3 (oprn_3 (by simp only [List.mem_cons, List.not_mem_nil, or_false]; omega)) (by decide)) hb9 (v2 (Or.inl c22))).1
        · exact hl
      by_cases c23 : opA B f p = 23
      · have a0 := ha0 5 (oprn_5 (by simp only [List.mem_cons, List.not_mem_nil, or_false]; omega)) (by decide)
        by_cases e6 : s (n - 1) = 6
        · rw [tsH_23s c23 e6] at h; obtain ⟨hc, rfl⟩ := onw_s h; intro q hq; exact nomatch hq
        · rw [tsH_23n c23 e6] at h; obtain ⟨hc, rfl⟩ := onw_s h; intro q hq; rw [List.mem_singleton] at hq; subst hq; refine ⟨by show 0 ≤ _; omega, ?_, ?_, ?_⟩
          all_goals simp only at hc
          · exact hn
          · rcases hc.2 with e | e
            · exact absurd e e6
            · exact vU (fun k a b _ => hs k a (by have b : k < _ := b; simp only at b; omega)) (hN.1 _ _ (by unfold whichM; omega) ((hs (n - 1) (by omega) (by omega)).2.2.2.2.2.2.1 (Or.inl e.1)) a0 e.2).1
          · exact hl
      by_cases c24 : opA B f p = 24
      · by_cases e6 : s (n - 2) = 6
        · rw [tsH_24s c24 e6] at h; obtain ⟨hc, rfl⟩ := onw_s h; intro q hq; exact nomatch hq
        · rw [tsH_24n c24 e6] at h; obtain ⟨hc, rfl⟩ := onw_s h; intro q hq; rw [List.mem_singleton] at hq; subst hq; refine ⟨by show 0 ≤ _; omega, ?_, ?_, ?_⟩
          all_goals simp only at hc
          · exact by show 0 ≤ n - 2; omega
          · exact (fun k a b => hs k a (by have b : k < _ := b; simp only at b; omega))
          · exact hl
      by_cases c25 : opA B f p = 25
      · rw [tsH_25 c25] at h; obtain ⟨hc, rfl⟩ := onw_s h; intro q hq; rw [List.mem_singleton] at hq; subst hq; refine ⟨by show 0 ≤ _; omega, ?_, ?_, ?_⟩
        · exact hn
        · exact vU (fun k a b _ => hs k a (by have b : k < _ := b; simp only at b; omega)) (vT_of (by omega))
        · exact hl
      by_cases c26 : opA B f p = 26
      · rw [tsH_26 c26] at h; obtain ⟨hc, rfl⟩ := onw_s h; intro q hq; rw [List.mem_singleton] at hq; subst hq; refine ⟨by show 0 ≤ _; omega, ?_, ?_, ?_⟩
        · exact hn
        · exact vU (fun k a b _ => hs k a (by have b : k < _ := b; simp only at b; omega)) (vNode (Or.inr (Or.inl rfl)) (ha0 3 (oprn_3 (by simp only [List.mem_cons, List.not_mem_nil, or_false]; omega)) (by decide)) hb9 (v2 (Or.inr c26))).1
        · exact hl
      by_cases c27 : opA B f p = 27
      · by_cases e6 : s (n - 1) = 6
        · rw [tsH_27s c27 e6] at h; obtain ⟨hc, rfl⟩ := onw_s h; intro q hq; exact nomatch hq
        · rw [tsH_27n c27 e6] at h; obtain ⟨hc, rfl⟩ := onw_s h; intro q hq; rw [List.mem_singleton] at hq; subst hq; refine ⟨by show 0 ≤ _; omega, ?_, ?_, ?_⟩
          · exact hn
          · exact vU (fun k a b _ => hs k a (by have b : k < _ := b; simp only at b; omega)) (vT_of (by omega))
          · exact hl
      by_cases c28 : opA B f p = 28
      · by_cases e6 : s (n - 2) = 6
        · rw [tsH_28s c28 e6] at h; obtain ⟨hc, rfl⟩ := onw_s h; intro q hq; exact nomatch hq
        · rw [tsH_28n c28 e6] at h; obtain ⟨hc, rfl⟩ := onw_s h; intro q hq; rw [List.mem_singleton] at hq; subst hq; refine ⟨by show 0 ≤ _; omega, ?_, ?_, ?_⟩
          all_goals simp only at hc
          · show 0 ≤ n - 1; omega
          · exact vU (fun k a b _ => hs k a (by have b : k < _ := b; simp only at b; omega)) (vItm (hs (n - 2) (by omega) (by omega)) (by rcases hc.2.2 with e | e; exact absurd e e6; exact e))
          · exact hl
      by_cases c29 : opA B f p = 29
      · by_cases e6 : s (n - 3) = 6
        · rw [tsH_29s c29 e6] at h; obtain ⟨hc, rfl⟩ := onw_s h; intro q hq; exact nomatch hq
        · rw [tsH_29n c29 e6] at h; obtain ⟨hc, rfl⟩ := onw_s h; intro q hq; rw [List.mem_singleton] at hq; subst hq; refine ⟨by show 0 ≤ _; omega, ?_, ?_, ?_⟩
          all_goals simp only at hc
          · exact by show 0 ≤ n - 3; omega
          · exact (fun k a b => hs k a (by have b : k < _ := b; simp only at b; omega))
          · exact hl
      by_cases c30 : opA B f p = 30
      · rw [tsH_30 c30] at h
        have hq0 := h30 (Or.inl c30)
        obtain ⟨hc, rfl⟩ := onw_s h; intro q hq; rw [List.mem_singleton] at hq; subst hq
        have hc1 : nPar B (agA B f p) ≤ n := hc.1
        refine ⟨by show 0 ≤ p + 2; omega, ?_⟩
        show vX B (if rTy B (agA B f p) = -1 then (n - nPar B (agA B f p), s, l) else (n - nPar B (agA B f p) + 1, up1 s (n - nPar B (agA B f p)) (rTy B (agA B f p)), l))
        split
        · exact ⟨by show 0 ≤ n - nPar B (agA B f p); omega, (fun k a b => hs k a (by have b : k < _ := b; simp only at b; omega)), hl⟩
        · rename_i hr9
          refine ⟨by show 0 ≤ n - nPar B (agA B f p) + 1; omega, vU (fun k a b _ => hs k a (by have b : k < _ := b; simp only at b; omega)) ?_, hl⟩
          rcases (hN.2.2 _ (h3 (Or.inl c30)) (v5 (Or.inl c30))).2.1 with e | e
          · exact absurd e hr9
          · exact e.1
      rw [tsH_31 (by omega)] at h; obtain ⟨-, rfl⟩ := onw_s h; intro q hq; exact nomatch hq
    · rw [if_neg c'] at h
      by_cases c32 : opA B f p = 32
      · rw [tsL_32 c32] at h; obtain ⟨hc, rfl⟩ := onw_s h; intro q hq; rw [List.mem_singleton] at hq; subst hq; refine ⟨by show 0 ≤ _; omega, ?_, ?_, ?_⟩
        · exact by show 0 ≤ n + 1; omega
        · exact vU (fun k a b _ => hs k a (by have b : k < _ := b; simp only at b; omega)) (vNode (Or.inr (Or.inr rfl)) (ha0 3 (oprn_3 (by simp only [List.mem_cons, List.not_mem_nil, or_false]; omega)) (by decide)) hb9 (v3 c32).1).1
        · exact hl
      by_cases c33 : opA B f p = 33
      · rw [tsL_33 c33] at h; obtain ⟨hc, rfl⟩ := onw_s h; intro q hq; rw [List.mem_singleton] at hq; subst hq; refine ⟨by show 0 ≤ _; omega, ?_, ?_, ?_⟩
        · exact by show 0 ≤ n + 1; omega
        · exact vU (fun k a b _ => hs k a (by have b : k < _ := b; simp only at b; omega)) (vT_of (by omega))
        · exact hl
      by_cases c34 : opA B f p = 34
      · rw [tsL_34 c34] at h; obtain ⟨hc, rfl⟩ := onw_s h; intro q hq; rw [List.mem_singleton] at hq; subst hq; refine ⟨by show 0 ≤ _; omega, ?_, ?_, ?_⟩
        all_goals simp only at hc
        · exact by show 0 ≤ n - 1; omega
        · exact (fun k a b => hs k a (by have b : k < _ := b; simp only at b; omega))
        · exact hl
      by_cases c35 : opA B f p = 35
      · rw [tsL_35 c35] at h; obtain ⟨hc, rfl⟩ := onw_s h; intro q hq; rw [List.mem_singleton] at hq; subst hq; refine ⟨by show 0 ≤ _; omega, ?_, ?_, ?_⟩
        all_goals simp only at hc
        · exact by show 0 ≤ n - 1; omega
        · exact (fun k a b => hs k a (by have b : k < _ := b; simp only at b; omega))
        · exact hl
      by_cases c36 : opA B f p = 36
      · rw [tsL_36 c36] at h
        have g0 := ha0 3 (oprn_3 (by simp only [List.mem_cons, List.not_mem_nil, or_false]; omega)) (by decide)
        have g1 := v4 c36
        have g2 := (hS.2.2.2.2.2.2.1 _ g0 g1).1
        obtain ⟨hc, rfl⟩ := onw_s h; intro q hq; rw [List.mem_singleton] at hq; subst hq; refine ⟨by show 0 ≤ _; omega, ?_, ?_, ?_⟩
        · show 0 ≤ n + 2; omega
        · refine vU (fun k a b e => vU (n := n + 1) (fun k a b e => hs k a (by omega)) ?_ k a (by have b : k < n + 2 := b; simp only at e; omega)) (vEnd (Or.inr rfl) g0 hb9 g1 g2).1
          have := (vEnd (B := B) (d := 0) (Or.inl rfl) g0 hb9 g1 g2).1
          rw [Int.add_zero] at this
          exact this
        · exact hl
      by_cases c37 : opA B f p = 37
      · have g0 := ha0 9 (oprn_9 c37) (by decide)
        by_cases hb : (0 < n ∧ endT B (s (n - 1)) (agA B f p) ∧ ldT B (s (n - 1)) (agA B f p) = -1)
        · rw [tsL_37a c37 hb] at h; cases h; intro q hq; rw [List.mem_singleton] at hq; subst hq
          refine ⟨by show 0 ≤ p + 2; omega, hn, vU (fun k a b _ => hs k a (by have b : k < _ := b; simp only at b; omega)) (nx_of hS hN (hs (n - 1) (by omega) (by omega)) hb.2.1.1 g0 hb.2.1.2.2).1, hl⟩
        · rw [tsL_37b c37 hb] at h; obtain ⟨hc, rfl⟩ := onw_s h; intro q hq; rw [List.mem_singleton] at hq; subst hq; refine ⟨by show 0 ≤ _; omega, ?_, ?_, ?_⟩
          all_goals simp only at hc
          · show 0 ≤ n - 1; omega
          · exact vU (fun k a b _ => hs k a (by have b : k < _ := b; simp only at b; omega)) (nx_of hS hN (hs (n - 2) (by omega) (by omega)) hc.2.1.1 g0 hc.2.1.2.2).1
          · exact hl
      by_cases c38 : opA B f p = 38
      · rw [tsL_38 c38] at h
        obtain ⟨hc, rfl⟩ := onw_s h; intro q hq
        simp only at hc
        obtain ⟨t, ht, rfl⟩ := List.mem_map.mp hq
        rw [List.mem_range] at ht
        have tv : (t : Int) < agA B f p := by omega
        refine ⟨(v6 c38 t (by omega) tv).1, ?_⟩
        have hx := hs (n - 1) (by omega) (by omega)
        have y1 := (nx_of hS hN hx hc.2.1 (t := t) (by omega) (by omega)).1
        show vX B (if ldT B (s (n - 1)) t = -1 then (n, up1 s (n - 1) (nxT B (s (n - 1)) t), l) else (n + 1, up1 (up1 s (n - 1) (nxT B (s (n - 1)) t)) n (ldT B (s (n - 1)) t), l))
        split
        · exact ⟨hn, vU (fun k a b _ => hs k a (by have b : k < _ := b; simp only at b; omega)) y1, hl⟩
        · rename_i e
          rcases ld_of hN hx hc.2.1 (t := t) (by omega) (by omega) with q | q
          · exact absurd q e
          · exact ⟨by show 0 ≤ n + 1; omega, vU (fun k a b e => vU (n := n) (fun k a b e => hs k a b) y1 k a (by have b : k < n + 1 := b; omega)) q.1, hl⟩
      by_cases c39 : opA B f p = 39
      · rw [tsL_39 c39] at h; obtain ⟨hc, rfl⟩ := onw_s h; intro q hq; rw [List.mem_singleton] at hq; subst hq; refine ⟨by show 0 ≤ _; omega, ?_, ?_, ?_⟩
        all_goals simp only at hc
        · exact by show 0 ≤ n - 1; omega
        · exact (fun k a b => hs k a (by have b : k < _ := b; simp only at b; omega))
        · exact hl
      by_cases c40 : opA B f p = 40
      · rw [tsL_40 c40] at h
        have hq0 := h30 (Or.inr c40)
        obtain ⟨hc, rfl⟩ := onw_s h; intro q hq; rw [List.mem_singleton] at hq; subst hq; refine ⟨by show 0 ≤ _; omega, ?_, ?_, ?_⟩
        all_goals have hc1 : nPar B (agA B f p) ≤ n := hc.2.2.1
        · exact by show 0 ≤ n - nPar B (agA B f p); omega
        · exact (fun k a b => hs k a (by have b : k < _ := b; simp only at b; omega))
        · exact hl
      by_cases c41 : opA B f p = 41
      · rw [tsL_41 c41] at h; obtain ⟨hc, rfl⟩ := onw_s h; intro q hq; rw [List.mem_singleton] at hq; subst hq; refine ⟨by show 0 ≤ _; omega, ?_, ?_, ?_⟩
        · exact hn
        · exact hs
        · exact hl
      by_cases c42 : opA B f p = 42
      · rw [tsL_42 c42] at h; obtain ⟨-, rfl⟩ := onw_s h; intro q hq; exact nomatch hq
      rw [tsL_43 (show opA B f p = 43 by have i7 : opA B f p ≤ 43 := i7; omega)] at h; obtain ⟨hc, rfl⟩ := onw_s h; intro q hq; rw [List.mem_singleton] at hq; subst hq; refine ⟨by show 0 ≤ _; omega, ?_, ?_, ?_⟩
      all_goals simp only at hc
      · exact by show 0 ≤ n - 1; omega
      · exact (fun k a b => hs k a (by have b : k < _ := b; simp only at b; omega))
      · exact hl
/-- where an instruction goes on -/
theorem ts_tgt {f p : Int} {X : Tst} {fl : List (Int × Tst)} (h0 : 0 ≤ opA B f p) (hop : opA B f p ≤ 43) (h : tstep B f p X = some fl) : ∀ q ∈ fl, q.1 = p + ilen B (cAt B f + p) ∨ ((opA B f p = 20 ∨ opA B f p = 21) ∧ q.1 = agA B f p) ∨ (opA B f p = 38 ∧ ∃ k : Int, 0 ≤ k ∧ k < agA B f p ∧ q.1 = B (cAt B f + p + 2 + k)) := by
  unfold tstep at h
  by_cases c : opA B f p < 20
  · have hil : ilen B (cAt B f + p) = _ := il_P h0 c
    have eo : B (cAt B f + p) = opA B f p := rfl
    rw [eo] at hil
    rw [if_pos c] at h
    by_cases c0 : opA B f p = 0
    · rw [tsP_0 c0] at h; obtain ⟨-, rfl⟩ := onw_s h; intro q hq; rw [List.mem_singleton] at hq; subst hq; left; rw [hil, c0]; rfl
    by_cases c1 : opA B f p = 1
    · rw [tsP_1 c1] at h; obtain ⟨-, rfl⟩ := onw_s h; intro q hq; rw [List.mem_singleton] at hq; subst hq; left; rw [hil, c1]; rfl
    by_cases c2 : opA B f p = 2
    · rw [tsP_2 c2] at h; obtain ⟨-, rfl⟩ := onw_s h; intro q hq; rw [List.mem_singleton] at hq; subst hq; left; rw [hil, c2]; rfl
    by_cases c3 : opA B f p = 3
    · rw [tsP_3 c3] at h; obtain ⟨-, rfl⟩ := onw_s h; intro q hq; rw [List.mem_singleton] at hq; subst hq; left; rw [hil, c3]; rfl
    by_cases c4 : opA B f p = 4
    · rw [tsP_4 c4] at h; obtain ⟨-, rfl⟩ := onw_s h; intro q hq; rw [List.mem_singleton] at hq; subst hq; left; rw [hil, c4]; rfl
    by_cases c5 : opA B f p = 5
    · rw [tsP_5 c5] at h; obtain ⟨-, rfl⟩ := onw_s h; intro q hq; rw [List.mem_singleton] at hq; subst hq; left; rw [hil, c5]; rfl
    by_cases c6 : opA B f p = 6
    · rw [tsP_6 c6] at h; obtain ⟨-, rfl⟩ := onw_s h; intro q hq; rw [List.mem_singleton] at hq; subst hq; left; rw [hil, c6]; rfl
    by_cases c19 : opA B f p = 19
    · rw [tsP_19 c19] at h; obtain ⟨-, rfl⟩ := onw_s h; intro q hq; rw [List.mem_singleton] at hq; subst hq; left; rw [hil, c19]; rfl
    rw [tsP_7 (by simp only [List.mem_cons, List.not_mem_nil, or_false, not_or]; omega)] at h; obtain ⟨-, rfl⟩ := onw_s h; intro q hq; rw [List.mem_singleton] at hq; subst hq; left
    rw [hil, if_neg c0, if_neg (by omega)]
  · rw [if_neg c] at h
    have hil : opA B f p ≠ 31 → opA B f p ≠ 38 → opA B f p ≠ 42 → ilen B (cAt B f + p) = opL (opA B f p) := fun a b e => il_L (show 20 ≤ opA B f p by omega) hop a b e
    by_cases c' : opA B f p < 32
    · rw [if_pos c'] at h
      by_cases c20 : opA B f p = 20
      · rw [tsH_20 c20] at h; obtain ⟨-, rfl⟩ := onw_s h; intro q hq; rw [List.mem_singleton] at hq; subst hq; right; left; exact ⟨Or.inl c20, rfl⟩
      by_cases c22 : opA B f p = 22
      · rw [tsH_22 c22] at h; obtain ⟨-, rfl⟩ := onw_s h; intro q hq; rw [List.mem_singleton] at hq; subst hq; left; rw [hil (by omega) (by omega) (by omega), c22]; rfl
      by_cases c25 : opA B f p = 25
      · rw [tsH_25 c25] at h; obtain ⟨-, rfl⟩ := onw_s h; intro q hq; rw [List.mem_singleton] at hq; subst hq; left; rw [hil (by omega) (by omega) (by omega), c25]; rfl
      by_cases c26 : opA B f p = 26
      · rw [tsH_26 c26] at h; obtain ⟨-, rfl⟩ := onw_s h; intro q hq; rw [List.mem_singleton] at hq; subst hq; left; rw [hil (by omega) (by omega) (by omega), c26]; rfl
      by_cases c23 : opA B f p = 23
      · rw [tsH_23 c23] at h; obtain ⟨-, rfl⟩ := onw_s h; intro q hq; split at hq; exact nomatch hq; rw [List.mem_singleton] at hq; subst hq; left; rw [hil (by omega) (by omega) (by omega), c23]; rfl
      by_cases c24 : opA B f p = 24
      · rw [tsH_24 c24] at h; obtain ⟨-, rfl⟩ := onw_s h; intro q hq; split at hq; exact nomatch hq; rw [List.mem_singleton] at hq; subst hq; left; rw [hil (by omega) (by omega) (by omega), c24]; rfl
      by_cases c27 : opA B f p = 27
      · rw [tsH_27 c27] at h; obtain ⟨-, rfl⟩ := onw_s h; intro q hq; split at hq; exact nomatch hq; rw [List.mem_singleton] at hq; subst hq; left; rw [hil (by omega) (by omega) (by omega), c27]; rfl
      by_cases c28 : opA B f p = 28
      · rw [tsH_28 c28] at h; obtain ⟨-, rfl⟩ := onw_s h; intro q hq; split at hq; exact nomatch hq; rw [List.mem_singleton] at hq; subst hq; left; rw [hil (by omega) (by omega) (by omega), c28]; rfl
      by_cases c29 : opA B f p = 29
      · rw [tsH_29 c29] at h; obtain ⟨-, rfl⟩ := onw_s h; intro q hq; split at hq; exact nomatch hq; rw [List.mem_singleton] at hq; subst hq; left; rw [hil (by omega) (by omega) (by omega), c29]; rfl
      by_cases c21 : opA B f p = 21
      · rw [tsH_21 c21] at h; obtain ⟨-, rfl⟩ := onw_s h; intro q hq; simp only [List.mem_cons, List.not_mem_nil, or_false] at hq
        rcases hq with rfl | rfl
        · right; left; exact ⟨Or.inr c21, rfl⟩
        · left; rw [hil (by omega) (by omega) (by omega), c21]; rfl
      by_cases c30 : opA B f p = 30
      · rw [tsH_30 c30] at h; obtain ⟨-, rfl⟩ := onw_s h; intro q hq; rw [List.mem_singleton] at hq; subst hq; left; rw [hil (by omega) (by omega) (by omega), c30]; rfl
      rw [tsH_31 (by omega)] at h; obtain ⟨-, rfl⟩ := onw_s h; intro q hq; exact nomatch hq
    · rw [if_neg c'] at h
      by_cases c32 : opA B f p = 32
      · rw [tsL_32 c32] at h; obtain ⟨-, rfl⟩ := onw_s h; intro q hq; rw [List.mem_singleton] at hq; subst hq; left; rw [hil (by omega) (by omega) (by omega), c32]; rfl
      by_cases c33 : opA B f p = 33
      · rw [tsL_33 c33] at h; obtain ⟨-, rfl⟩ := onw_s h; intro q hq; rw [List.mem_singleton] at hq; subst hq; left; rw [hil (by omega) (by omega) (by omega), c33]; rfl
      by_cases c34 : opA B f p = 34
      · rw [tsL_34 c34] at h; obtain ⟨-, rfl⟩ := onw_s h; intro q hq; rw [List.mem_singleton] at hq; subst hq; left; rw [hil (by omega) (by omega) (by omega), c34]; rfl
      by_cases c35 : opA B f p = 35
      · rw [tsL_35 c35] at h; obtain ⟨-, rfl⟩ := onw_s h; intro q hq; rw [List.mem_singleton] at hq; subst hq; left; rw [hil (by omega) (by omega) (by omega), c35]; rfl
      by_cases c36 : opA B f p = 36
      · rw [tsL_36 c36] at h; obtain ⟨-, rfl⟩ := onw_s h; intro q hq; rw [List.mem_singleton] at hq; subst hq; left; rw [hil (by omega) (by omega) (by omega), c36]; rfl
      by_cases c39 : opA B f p = 39
      · rw [tsL_39 c39] at h; obtain ⟨-, rfl⟩ := onw_s h; intro q hq; rw [List.mem_singleton] at hq; subst hq; left; rw [hil (by omega) (by omega) (by omega), c39]; rfl
      by_cases c40 : opA B f p = 40
      · rw [tsL_40 c40] at h; obtain ⟨-, rfl⟩ := onw_s h; intro q hq; rw [List.mem_singleton] at hq; subst hq; left; rw [hil (by omega) (by omega) (by omega), c40]; rfl
      by_cases c41 : opA B f p = 41
      · rw [tsL_41 c41] at h; obtain ⟨-, rfl⟩ := onw_s h; intro q hq; rw [List.mem_singleton] at hq; subst hq; left; rw [hil (by omega) (by omega) (by omega), c41]; rfl
      by_cases c43 : opA B f p = 43
      · rw [tsL_43 c43] at h; obtain ⟨-, rfl⟩ := onw_s h; intro q hq; rw [List.mem_singleton] at hq; subst hq; left; rw [hil (by omega) (by omega) (by omega), c43]; rfl
      by_cases c42 : opA B f p = 42
      · rw [tsL_42 c42] at h; obtain ⟨-, rfl⟩ := onw_s h; intro q hq; exact nomatch hq
      by_cases c37 : opA B f p = 37
      · by_cases hb : (0 < X.1 ∧ endT B (X.2.1 (X.1 - 1)) (agA B f p) ∧ ldT B (X.2.1 (X.1 - 1)) (agA B f p) = -1)
        · rw [tsL_37a c37 hb] at h; cases h; intro q hq; rw [List.mem_singleton] at hq; subst hq; left; rw [hil (by omega) (by omega) (by omega), c37]; rfl
        · rw [tsL_37b c37 hb] at h; obtain ⟨-, rfl⟩ := onw_s h; intro q hq; rw [List.mem_singleton] at hq; subst hq; left; rw [hil (by omega) (by omega) (by omega), c37]; rfl
      rw [tsL_38 (by omega)] at h; obtain ⟨-, rfl⟩ := onw_s h; intro q hq
      obtain ⟨t, ht, rfl⟩ := List.mem_map.mp hq
      rw [List.mem_range] at ht
      right; right; exact ⟨by omega, t, by omega, by omega, rfl⟩
theorem bgn_0 {c n : Int} (h : 0 < n) : bgn B c n 0 := ⟨Int.le_refl _, h, 0, rfl⟩
theorem bgn_s {c n p : Int} (hB : ∀ k, -1 ≤ B k ∧ B k ≤ 255) (h : bgn B c n p) (hn : p + ilen B (c + p) < n) : bgn B c n (p + ilen B (c + p)) := by
  obtain ⟨h0, h1, k, hk⟩ := h
  have := ilen_b hB (c + p)
  exact ⟨by omega, hn, k + 1, by rw [itr_s, hk]⟩
theorem ts_bgn {f p : Int} {X : Tst} {fl : List (Int × Tst)} (hB : ∀ k, -1 ≤ B k ∧ B k ≤ 255) (hN : NV B) (hf0 : 0 ≤ f) (hf1 : f < nFn B) (hp : bgn B (cAt B f) (cLen B f) p) (h : tstep B f p X = some fl) : ∀ q ∈ fl, q.1 < cLen B f → bgn B (cAt B f) (cLen B f) q.1 := by
  obtain ⟨hI, hV⟩ := (hN.2.2 f hf0 hf1).2.2 p hp
  intro q hq hlt
  rcases ts_tgt hI.2.2.2.2.2.1 hI.2.2.2.2.2.2.1 h q hq with e | ⟨e1, e⟩ | ⟨e1, k, k0, k1, e⟩
  · rw [e] at hlt ⊢; exact bgn_s hB hp hlt
  · rw [e]; exact hV.1 e1
  · rw [e]; exact hV.2.2.2.2.2 e1 k k0 k1
end OPK
