/-! SOUNDNESS: the instructions of the heap -/
section SD7
variable {T : TXs} {s s' : HI} {p q m f v w t o x n k : Int} {B : Int → Int} {X Y : Tst}
theorem kM18 {c v : Int} (h : 0 ≤ v) (c0 : 0 ≤ c ∧ c < 8) : kindM (c + 8 * v) = c := by unfold kindM; rw [if_neg (by omega)]; omega
theorem wM18 {c v : Int} (h : 0 ≤ v ∧ v < 256) (c0 : 0 ≤ c ∧ c < 8) : whichM (c + 8 * v) = v := by unfold whichM; omega
theorem wM_b {t : Int} : 0 ≤ whichM t ∧ whichM t < 256 := by unfold whichM; omega
theorem itm_k : kindM (itm t) = 0 ∨ heapT (itm t) := by
  unfold itm
  split
  · exact Or.inl rfl
  · have := wM_b (t := t)
    have e := kM18 (c := 1) (v := whichM t) (by omega) (by decide)
    exact Or.inr (by unfold heapT; omega)
theorem itT_k (hN : NV (T m)) (h : tyB (T m) t n) (i0 : 0 ≤ k) (i1 : k < n - 1) : kindM (itT (T m) t k) = 0 ∨ heapT (itT (T m) t k) := by
  unfold itT
  split
  · rename_i c
    rcases h with ⟨-, h1, h2⟩ | h | ⟨h, -⟩
    · have := hN.1 (whichM t) k wM_b.1 h1 i0 (by omega)
      have h0 : 0 ≤ fTy (T m) (whichM t) k := this.1.1
      have e : kindM (fTy (T m) (whichM t) k) = fTy (T m) (whichM t) k % 8 := by unfold kindM; rw [if_neg (by omega)]
      unfold heapT; omega
    · omega
    · omega
  · exact itm_k
theorem vOk.ws {v' w' : Int} (h : vOk T s p m v w t) (h' : vOk T s p m v' w' t) (k : kindM t = 0 ∨ heapT t) : w = w' := by
  rcases k with k | k
  · rw [(h.k0 k).1, (h'.k0 k).1]
  · rw [(h.kh k).1, (h'.kh k).1]
theorem vOk.n23 (h : vOk T s p m v w t) (k : kindM t = 0 ∨ heapT t) : w ≠ 2 ∧ w ≠ 3 := h.nl (by unfold linT; unfold heapT at k; omega)
/-- a value of a node's or a row's type, or NIL -/
theorem vOk.bx (h : vOk T s p m v w t) (k : t = 6 ∨ heapT t) (hv : v ≠ 0) : heapT t ∧ (1 ≤ v ∧ v ≤ 1024) ∧ 1 ≤ s 100 (1025 * p + v) ∧ s 302 (1025 * p + v) = t := by
  rcases k with k | k
  · subst k; exact absurd (h.k6 rfl).2 hv
  · rcases (h.kh k).2 with z | z
    · exact absurd z hv
    · exact ⟨k, z⟩
theorem JJ.box_ {b : Int} (h : JJ T s p m f X) (b0 : 1 ≤ b ∧ b ≤ 1024) (hb : 1 ≤ s 100 (1025 * p + b)) : tyB (T m) (s 302 (1025 * p + b)) (s 100 (1025 * p + b)) ∧ s 100 (1025 * p + b) ≤ 1024 ∧ ∀ i, 0 ≤ i → i < s 100 (1025 * p + b) - 1 → vOk T s p m (s 300 (hx p b i)) (s 301 (hx p b i)) (itT (T m) (s 302 (1025 * p + b)) i) := by
  obtain ⟨y1, y2⟩ := h.2.2.1 b b0.1 b0.2
  exact ⟨(y2 hb).1, y1.2, (y2 hb).2⟩
theorem so_H {fl : List (Int × Tst)} {pc : Int} (h : JJ T s p m f X) (ts9 : tsH (T m) f o v pc X = some fl) (ho : 20 ≤ o ∧ o ≤ 29) (v0 : o = 22 ∨ o = 26 ∨ o = 23 ∨ o = 24 → 0 ≤ v) (hr : o = 22 ∨ o = 26 → v < nRec (T m)) (h16 : ∀ q ∈ fl, q.2.1 ≤ 16) (h96 : s 96 (ai s p) = pc + (if o = 25 ∨ o = 27 ∨ o = 28 ∨ o = 29 then 1 else 2)) (K : KF T p m f s fl) : JO T (exS (T m) f s p o v x) (-1) := by
  obtain ⟨hJ, hP⟩ := id h
  have hpb := hP.1.1
  have x0 := hP.2.2.2.2.1
  have hh := hP.hg_
  have hN := h.mg.2.1.2.2.1
  have hS := h.mg.2.1.2.1
  unfold tsH at ts9
  unfold exS
  rw [if_neg (by omega), if_neg (by omega), if_neg (by omega), if_neg (by omega), if_neg (by omega), if_neg (by omega), if_neg (by omega), if_neg (by omega), if_neg (by omega)]
  have k1 : ∀ {Y : Tst} {s' : HI} {a : Int}, fl = [(a, Y)] → JJ T s' p m f Y → ai s' p = ai s p → s' 96 (ai s p) = a → JO T s' (-1) := fun e hy ea e96 => by
    subst e
    exact K _ _ (List.mem_singleton.mpr rfl) (h16 _ (List.mem_singleton.mpr rfl)) hy ea e96
  have b16 : ∀ {Y : Tst} {a : Int}, fl = [(a, Y)] → Y.1 ≤ 16 := fun e => by
    subst e; exact h16 _ (List.mem_singleton.mpr rfl)
  by_cases c : o = 20
  · rw [if_pos c] at ts9 ⊢
    obtain ⟨-, e⟩ := onw_s ts9
    exact k1 e h.gos (ai_eq (goS_n (by decide))) upI_eq
  rw [if_neg c] at ts9 ⊢
  by_cases c : o = 21
  · rw [if_pos c] at ts9 ⊢
    obtain ⟨⟨hn, -⟩, e⟩ := onw_s ts9
    subst e
    have h2 := h.pp_ (n := 1) (by decide) (by omega)
    split
    · refine K _ (v, (X.1 - 1, X.2.1, X.2.2)) (by simp) (by show X.1 - 1 ≤ 16; omega) h2.gos ((ai_eq (goS_n (by decide))).trans ppz_ai) ?_
      unfold goS; rw [ppz_ai]; exact upI_eq
    · exact K _ (pc + 2, (X.1 - 1, X.2.1, X.2.2)) (by simp) (by show X.1 - 1 ≤ 16; omega) h2 ppz_ai (by rw [pp_96, h96, if_neg (by omega)])
  rw [if_neg c] at ts9 ⊢
  by_cases c : o = 22
  · rw [if_pos c] at ts9 ⊢
    obtain ⟨-, e⟩ := onw_s ts9
    have b9 := b16 e
    simp only [] at b9
    have v0 := v0 (Or.inl c)
    have vr := hr (Or.inl c)
    have hr8 : nRec (T m) ≤ 8 := hS.2.1
    have hsr := hS.2.2.1 v v0 vr
    have ek := kM18 (c := 1) v0 (by decide)
    have ew := wM18 (c := 1) (v := v) ⟨v0, by omega⟩ (by decide)
    refine so_mk (t := 1 + 8 * v) h (by omega) (by have := hsr.1; omega) (fun _ => Or.inl ⟨ek, by rw [ew]; exact vr, by rw [ew]⟩) (by unfold heapT; omega) (fun s' i i0 i1 => ?_) h96 (fun s' y1 y2 y3 => k1 e y1 y2 (by rw [y3, if_neg (by omega)]))
    have : itT (T m) (1 + 8 * v) i = fTy (T m) v i := by unfold itT; rw [if_pos ek, ew]
    rw [this]
    have hf := hN.1 v i v0 vr i0 i1
    split
    · rename_i z; exact vOk.box (Or.inl rfl) z
    · rename_i z
      have h0 : 0 ≤ fTy (T m) v i := hf.1.1
      have e8 : kindM (fTy (T m) v i) = fTy (T m) v i % 8 := by unfold kindM; rw [if_neg (by omega)]
      have : fTy (T m) v i = 0 := hf.1.2.2.2.2.1 (by unfold heapT at z; omega)
      rw [this]; exact vOk.int (by decide)
  rw [if_neg c] at ts9 ⊢
  by_cases c : o = 23
  · rw [if_pos c] at ts9 ⊢
    obtain ⟨⟨hn, ht⟩, e⟩ := onw_s ts9
    have h2 := h.pp_ (n := 1) (by decide) (by omega)
    have t0 := h.top (k := 0) (by decide) (by omega)
    rw [Int.sub_zero] at t0
    by_cases cz : tv s p 0 = 0
    · rw [if_pos cz]; exact h2.1.trp hpb
    · rw [if_neg cz]
      obtain ⟨b1, b2, b3, b4⟩ := t0.bx (ht.imp id (fun z => by unfold heapT; omega)) cz
      have c6 : X.2.1 (X.1 - 1) ≠ 6 := fun z => by rw [z] at b1; exact absurd b1 (by decide)
      rw [if_neg c6] at e
      have ht := ht.resolve_left c6
      obtain ⟨d1, d2, d3⟩ := h.box_ b2 b3
      rw [b4] at d1 d3
      have d1' := d1
      have hsz : s 100 (1025 * p + tv s p 0) = nFld (T m) (whichM (X.2.1 (X.1 - 1))) + 1 := by rcases d1 with z | z | z <;> omega
      have v0 := v0 (by omega)
      have hv := d3 v v0 (by omega)
      have hk := itT_k hN d1' v0 (by omega)
      have ei : itT (T m) (X.2.1 (X.1 - 1)) v = fTy (T m) (whichM (X.2.1 (X.1 - 1))) v := by unfold itT; rw [if_pos ht.1]
      have h3 := h2.psh_ (by show X.1 - 1 < 16; omega) (hv.pp_ (q := p) (n := 1)) (Fp.nl (hv.n23 hk))
      rw [ei] at h3
      exact k1 e (h3.e1 (show X.1 - 1 + 1 = X.1 by omega)) (psh_ai.trans ppz_ai) (by rw [psh_96, pp_96, h96, if_neg (by omega)])
  rw [if_neg c] at ts9 ⊢
  by_cases c : o = 24
  · rw [if_pos c] at ts9 ⊢
    obtain ⟨⟨hn, ht⟩, e⟩ := onw_s ts9
    have h2 := h.pp_ (n := 2) (by decide) (by omega)
    have t0 := h.top (k := 0) (by decide) (by omega)
    have t1 := h.top (k := 1) (by decide) (by omega)
    rw [Int.sub_zero] at t0
    rw [show X.1 - 1 - 1 = X.1 - 2 by omega] at t1
    by_cases cz : tv s p 1 = 0
    · rw [if_pos cz]; exact h2.1.trp hpb
    · rw [if_neg cz]
      obtain ⟨b1, b2, b3, b4⟩ := t1.bx (ht.imp id (fun z => by unfold heapT; omega)) cz
      have c6 : X.2.1 (X.1 - 2) ≠ 6 := fun z => by rw [z] at b1; exact absurd b1 (by decide)
      rw [if_neg c6] at e
      have ht := ht.resolve_left c6
      obtain ⟨d1, d2, d3⟩ := h.box_ b2 b3
      rw [b4] at d1 d3
      have hsz : s 100 (1025 * p + tv s p 1) = nFld (T m) (whichM (X.2.1 (X.1 - 2))) + 1 := by rcases d1 with z | z | z <;> omega
      have v0 := v0 (by omega)
      have hv := d3 v v0 (by omega)
      have hk := itT_k hN d1 v0 (by omega)
      have ei : itT (T m) (X.2.1 (X.1 - 2)) v = fTy (T m) (whichM (X.2.1 (X.1 - 2))) v := by unfold itT; rw [if_pos ht.1]
      rw [ei] at hv hk
      have t2 := t0.le ht.2.2
      have ews := t2.ws hv hk
      rw [ews] at t2
      have h3 := h2.wr (b := tv s p 1) (i := v) (v := tv s p 0) b2 (by rw [ppz_n (by decide)]; exact b3) v0 (by rw [ppz_n (by decide)]; omega) (by rw [ppz_n (by decide), ppz_n (by decide), b4, ei]; exact t2.pp_)
      refine k1 e h3 ((ai_eq (upI_a (by decide))).trans ppz_ai) ?_
      rw [upI_a (by decide), pp_96, h96, if_neg (by omega)]
  rw [if_neg c] at ts9 ⊢
  by_cases c : o = 25
  · rw [if_pos c] at ts9 ⊢
    obtain ⟨⟨hn, ht⟩, e⟩ := onw_s ts9
    have h2 := h.pp_ (n := 1) (by decide) (by omega)
    by_cases cz : tv s p 0 < 0
    · rw [if_pos cz]; exact h2.1.trp hpb
    · rw [if_neg cz]
      refine so_mk (t := 2) h2 (by show X.1 - 1 < 16; omega) (by omega) (fun _ => Or.inr (Or.inl rfl)) (by decide) (fun s' i i0 i1 => vOk.int (by decide)) (np := pc + 1) (by rw [ppz_ai, pp_96, h96, if_pos (by omega)]) (fun s' y1 y2 y3 => ?_)
      rw [ppz_ai] at y2 y3
      exact k1 e (y1.e1 (show X.1 - 1 + 1 = X.1 by omega)) y2 y3
  rw [if_neg c] at ts9 ⊢
  by_cases c : o = 26
  · rw [if_pos c] at ts9 ⊢
    obtain ⟨⟨hn, ht⟩, e⟩ := onw_s ts9
    have h2 := h.pp_ (n := 1) (by decide) (by omega)
    have v0 := v0 (by omega)
    have vr := hr (Or.inr c)
    have hr8 : nRec (T m) ≤ 8 := hS.2.1
    have ek := kM18 (c := 3) v0 (by decide)
    have ew := wM18 (c := 3) (v := v) ⟨v0, by omega⟩ (by decide)
    by_cases cz : tv s p 0 < 0
    · rw [if_pos cz]; exact h2.1.trp hpb
    · rw [if_neg cz]
      refine so_mk (t := 3 + 8 * v) h2 (by show X.1 - 1 < 16; omega) (by omega) (fun _ => Or.inr (Or.inr ⟨ek, by rw [ew]; exact vr⟩)) (by unfold heapT; omega) (fun s' i i0 i1 => ?_) (np := pc + 2) (by rw [ppz_ai, pp_96, h96, if_neg (by omega)]) (fun s' y1 y2 y3 => ?_)
      · have : itT (T m) (3 + 8 * v) i = 1 + 8 * v := by unfold itT itm; rw [if_neg (by omega), if_neg (by omega), ew]
        rw [this]
        exact vOk.box (Or.inl rfl) (by have := kM18 (c := 1) v0 (by decide); unfold heapT; omega)
      · rw [ppz_ai] at y2 y3
        exact k1 e (y1.e1 (show X.1 - 1 + 1 = X.1 by omega)) y2 y3
  rw [if_neg c] at ts9 ⊢
  by_cases c : o = 27
  · rw [if_pos c] at ts9 ⊢
    obtain ⟨⟨hn, ht⟩, e⟩ := onw_s ts9
    have h2 := h.pp_ (n := 1) (by decide) (by omega)
    have t0 := h.top (k := 0) (by decide) (by omega)
    rw [Int.sub_zero] at t0
    by_cases cz : tv s p 0 = 0
    · rw [if_pos cz]; exact h2.1.trp hpb
    · rw [if_neg cz]
      obtain ⟨b1, b2, b3, b4⟩ := t0.bx (ht.imp id (fun z => by unfold heapT; omega)) cz
      have c6 : X.2.1 (X.1 - 1) ≠ 6 := fun z => by rw [z] at b1; exact absurd b1 (by decide)
      rw [if_neg c6] at e
      obtain ⟨d1, d2, d3⟩ := h.box_ b2 b3
      have h3 := h2.psh_ (v := s 100 (1025 * p + tv s p 0) - 1) (by show X.1 - 1 < 16; omega) (vOk.int ⟨by omega, by omega⟩) (Fp.nl (by decide))
      exact k1 e (h3.e1 (show X.1 - 1 + 1 = X.1 by omega)) (psh_ai.trans ppz_ai) (by rw [psh_96, pp_96, h96, if_pos (by omega)])
  rw [if_neg c] at ts9 ⊢
  by_cases c : o = 28
  · rw [if_pos c] at ts9 ⊢
    obtain ⟨⟨hn, hi0, ht⟩, e⟩ := onw_s ts9
    have h2 := h.pp_ (n := 2) (by decide) (by omega)
    have t1 := h.top (k := 1) (by decide) (by omega)
    rw [show X.1 - 1 - 1 = X.1 - 2 by omega] at t1
    by_cases cz : tv s p 1 = 0
    · rw [if_pos cz]; exact h2.1.trp hpb
    · rw [if_neg cz]
      obtain ⟨b1, b2, b3, b4⟩ := t1.bx (ht.imp id (fun z => by unfold heapT; omega)) cz
      have c6 : X.2.1 (X.1 - 2) ≠ 6 := fun z => by rw [z] at b1; exact absurd b1 (by decide)
      rw [if_neg c6] at e
      have ht := ht.resolve_left c6
      by_cases ci : 0 ≤ tv s p 0 ∧ tv s p 0 < s 100 (1025 * p + tv s p 1) - 1
      · rw [if_pos ci]
        obtain ⟨d1, d2, d3⟩ := h.box_ b2 b3
        rw [b4] at d1 d3
        have hv := d3 _ ci.1 ci.2
        have hk := itT_k hN d1 ci.1 ci.2
        have ei : itT (T m) (X.2.1 (X.1 - 2)) (tv s p 0) = itm (X.2.1 (X.1 - 2)) := by unfold itT; rw [if_neg (by omega)]
        have h3 := h2.psh_ (by show X.1 - 2 < 16; omega) (hv.pp_ (q := p) (n := 2)) (Fp.nl (hv.n23 hk))
        rw [ei] at h3
        exact k1 e (h3.e1 (show X.1 - 2 + 1 = X.1 - 1 by omega)) (psh_ai.trans ppz_ai) (by rw [psh_96, pp_96, h96, if_pos (by omega)])
      · rw [if_neg ci]; exact h2.1.trp hpb
  rw [if_neg c] at ts9 ⊢
  have c : o = 29 := by omega
  rw [if_pos c] at ts9 ⊢
  obtain ⟨⟨hn, hi0, ht⟩, e⟩ := onw_s ts9
  have h2 := h.pp_ (n := 3) (by decide) (by omega)
  have t0 := h.top (k := 0) (by decide) (by omega)
  have t1 := h.top (k := 2) (by decide) (by omega)
  rw [Int.sub_zero] at t0
  rw [show X.1 - 1 - 2 = X.1 - 3 by omega] at t1
  by_cases cz : tv s p 2 = 0
  · rw [if_pos cz]; exact h2.1.trp hpb
  · rw [if_neg cz]
    obtain ⟨b1, b2, b3, b4⟩ := t1.bx (ht.imp id (fun z => by unfold heapT; omega)) cz
    have c6 : X.2.1 (X.1 - 3) ≠ 6 := fun z => by rw [z] at b1; exact absurd b1 (by decide)
    rw [if_neg c6] at e
    have ht := ht.resolve_left c6
    by_cases ci : 0 ≤ tv s p 1 ∧ tv s p 1 < s 100 (1025 * p + tv s p 2) - 1
    · rw [if_pos ci]
      obtain ⟨d1, d2, d3⟩ := h.box_ b2 b3
      rw [b4] at d1 d3
      have hv := d3 _ ci.1 ci.2
      have hk := itT_k hN d1 ci.1 ci.2
      have ei : itT (T m) (X.2.1 (X.1 - 3)) (tv s p 1) = itm (X.2.1 (X.1 - 3)) := by unfold itT; rw [if_neg (by omega)]
      rw [ei] at hv hk
      have t2 := t0.le ht.2
      have ews := t2.ws hv hk
      rw [ews] at t2
      have h3 := h2.wr (b := tv s p 2) (i := tv s p 1) (v := tv s p 0) b2 (by rw [ppz_n (by decide)]; exact b3) ci.1 (by rw [ppz_n (by decide)]; exact ci.2) (by rw [ppz_n (by decide), ppz_n (by decide), b4, ei]; exact t2.pp_)
      refine k1 e h3 ((ai_eq (upI_a (by decide))).trans ppz_ai) ?_
      rw [upI_a (by decide), pp_96, h96, if_pos (by omega)]
    · rw [if_neg ci]; exact h2.1.trp hpb
end SD7
