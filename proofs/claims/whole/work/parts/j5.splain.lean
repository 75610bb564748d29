/-! SOUNDNESS: the plain instructions -/
section SD5
variable {T : TXs} {s s' : HI} {p q m f v w t o x : Int} {B : Int → Int} {X Y : Tst}
theorem oi_rng (x : Int32) : rng x.toInt := ⟨Int32.le_toInt x, Int32.toInt_lt x⟩
theorem fOr_rng {a b : Int} : rng (fOr a b) := oi_rng _
theorem wdS_rng {n : Nat} : rng (wdS B q (n + 1)) := fOr_rng
theorem tmod_rng {a b : Int} (h : rng a) (h2 : rng b) (hb : b ≠ 0) : rng (a.tmod b) := by
  have h3 := Int.tmod_lt_of_pos a (b := b.natAbs) (by omega)
  have h4 : -(b.natAbs : Int) < a.tmod b := by
    by_cases c : 0 ≤ a
    · have := Int.tmod_nonneg b c; omega
    · have e : (-a).tmod b = -(a.tmod b) := Int.neg_tmod ..
      have h5 := Int.tmod_lt_of_pos (-a) (b := b.natAbs) (by omega)
      have e2 : (-a).tmod (b.natAbs : Int) = (-a).tmod b := by
        rcases Int.natAbs_eq b with z | z
        · rw [← z]
        · rw [z, Int.tmod_neg]; simp
      rw [e2, e] at h5; omega
  have e3 : a.tmod (b.natAbs : Int) = a.tmod b := by
    rcases Int.natAbs_eq b with z | z
    · rw [← z]
    · rw [z, Int.tmod_neg]; simp
  rw [e3] at h3
  exact ⟨by omega, by omega⟩
theorem rek_rng {a b : Int} (h1 : rng a) (h2 : rng b) (hb : (o = 10 ∨ o = 11) → b ≠ 0) : rng (rek o a b) := by
  unfold rek
  split; exact wr_rng _
  split; exact wr_rng _
  split; exact wr_rng _
  split; exact wr_rng _
  split; exact tmod_rng h1 h2 (hb (by omega))
  split; exact oi_rng _
  split; exact oi_rng _
  split; exact oi_rng _
  split; exact oi_rng _
  split; exact oi_rng _
  split
  · split <;> decide
  · split <;> decide
theorem vOk.pp_ {n : Int} (h : vOk T s p m v w t) : vOk T (pp s q n) p m v w t := h.tr (Vt.rf (fun _ => pp_tp.e (by decide)) (fun _ => pp_tp.e (by decide)) (fun _ => pp_tp.e (by decide)) (fun _ => pp_tp.e (by decide)) (fun _ => pp_tp.e (by decide)))
theorem vOk.psh_ {v' w' : Int} (h : vOk T s p m v w t) : vOk T (psh s q v' w') p m v w t := h.tr (Vt.rf (fun _ => psh_n (by decide)) (fun _ => psh_n (by decide)) (fun _ => psh_n (by decide)) (fun _ => psh_n (by decide)) (fun _ => psh_n (by decide)))
theorem vOk.st2_ {i v' w' : Int} (h : vOk T s p m v w t) : vOk T (st2 s i v' w') p m v w t := h.tr (Vt.rf (fun _ => st2_n (by decide) (by decide)) (fun _ => st2_n (by decide) (by decide)) (fun _ => st2_n (by decide) (by decide)) (fun _ => st2_n (by decide) (by decide)) (fun _ => st2_n (by decide) (by decide)))
theorem psh_pl (h : PJ T s p m f X) (h16 : X.1 < 16) {i : Int} (hi : pl (psh s p v w) p i) : (pl s p i ∧ i ≠ sk s p (hg s p)) ∨ i = sk s p (hg s p) := by
  have hh := h.hg_
  have hx0 := h.2.2.2.2.1
  have e0 : sk s p (hg s p) = 26 * ai s p + 10 + X.1 := by unfold sk; rw [hh]
  obtain ⟨x, k, a, b, c, d, rfl⟩ := hi
  rw [psh_ai] at b
  by_cases z : x = ai s p
  · subst z
    rw [psh_97] at d
    by_cases y : k = 10 + hg s p
    · right; rw [e0]; omega
    · left; rw [e0]; exact ⟨⟨_, k, a, b, c, by show k < 10 + hg s p; omega, rfl⟩, by omega⟩
  · have e : psh s p v w 97 x = s 97 x := psh_tp (by omega) _ _ (by omega)
    rw [e] at d
    have := h.h97 x a b
    left; rw [e0]; exact ⟨⟨x, k, a, b, c, d, rfl⟩, by omega⟩
theorem Fp.psh_ {v' w' : Int} (h : Fp s p v w) (hP : PJ T s p m f X) (h16 : X.1 < 16) (hne : (w = 2 ∨ w = 3) → w' = w → v' ≠ v) : Fp (psh s p v' w') p v w := by
  refine ⟨fun z => by rw [psh_n (by decide)]; exact h.1 z, fun z => by rw [psh_n (by decide)]; exact h.2.1 z, fun z j hj => ?_⟩
  rcases psh_pl hP h16 hj with ⟨y1, y2⟩ | y
  · rw [psh_98, psh_99, if_neg y2, if_neg y2]; exact h.2.2 z j y1
  · subst y
    rw [psh_98, psh_99, if_pos rfl, if_pos rfl]; exact hne z
theorem psh_96 : psh s p v w 96 x = s 96 x := psh_n (by decide)
theorem pp_96 {n : Int} : pp s p n 96 x = s 96 x := ppz_n (by decide)
/-- two values far below the top are not alike, if they are linear -/
theorem PJ.dj (h : PJ T s p m f X) {j k : Int} (j0 : 0 ≤ j) (j1 : j < X.1) (k0 : 0 ≤ k) (k1 : k < X.1) (hne : j ≠ k) (z : ts s p j = 2 ∨ ts s p j = 3) (e : ts s p k = ts s p j) : tv s p k ≠ tv s p j := h.2.2.2.2.2.2.2 _ _ (h.pl_ j0 j1) (h.pl_ k0 k1) (by unfold sk; omega) z e
theorem JJ.e1 {n : Int} {S L : Int → Int} (h : JJ T s p m f (n, S, L)) {n' : Int} (e : n = n') : JJ T s p m f (n', S, L) := by subst e; exact h
/-- what goes on: the flows' types, and where -/
abbrev KF (T : TXs) (p m f : Int) (s0 : HI) (fl : List (Int × Tst)) : Prop := ∀ s' q, q ∈ fl → q.2.1 ≤ 16 → JJ T s' p m f q.2 → ai s' p = ai s0 p → s' 96 (ai s0 p) = q.1 → JO T s' (-1)
theorem so_P {fl : List (Int × Tst)} {pc : Int} (h : JJ T s p m f X) (ts9 : tsP o v pc X = some fl) (ho : 0 ≤ o ∧ o < 20) (hv : o = 2 ∨ o = 3 → 0 ≤ v ∧ v < 10) (h16 : ∀ q ∈ fl, q.2.1 ≤ 16) (h96 : s 96 (ai s p) = pc + (if o = 0 then 5 else if o = 2 ∨ o = 3 then 2 else 1)) (K : KF T p m f s fl) : JO T (exS B f s p o v x) (-1) := by
  obtain ⟨hJ, hP⟩ := id h
  have hpb := hP.1.1
  have x0 := hP.2.2.2.2.1
  have hh := hP.hg_
  unfold tsP at ts9
  unfold exS
  have k1 : ∀ {Y : Tst} {s' : HI} {a : Int}, fl = [(a, Y)] → JJ T s' p m f Y → ai s' p = ai s p → s' 96 (ai s p) = a → JO T s' (-1) := fun e hy ea e96 => by
    subst e
    exact K _ _ (List.mem_singleton.mpr rfl) (h16 _ (List.mem_singleton.mpr rfl)) hy ea e96
  have b16 : ∀ {Y : Tst} {a : Int}, fl = [(a, Y)] → Y.1 ≤ 16 := fun e => by
    subst e; exact h16 _ (List.mem_singleton.mpr rfl)
  by_cases c0 : o = 0
  · rw [if_pos c0] at ts9 ⊢
    obtain ⟨-, e⟩ := onw_s ts9
    have b9 := b16 e
    simp only [] at b9
    refine k1 e (h.psh_ (by omega) (vOk.int wdS_rng) (Fp.nl (by decide))) psh_ai ?_
    rw [psh_96, h96, if_pos c0]
  rw [if_neg c0] at ts9 ⊢
  by_cases c1 : o = 1
  · rw [if_pos c1] at ts9 ⊢
    obtain ⟨-, e⟩ := onw_s ts9
    have b9 := b16 e
    simp only [] at b9
    refine k1 e (h.psh_ (by omega) vOk.nil (Fp.nl (by decide))) psh_ai ?_
    rw [psh_96, h96, if_neg c0, if_neg (by omega)]
  rw [if_neg c1] at ts9 ⊢
  by_cases c2 : o = 2
  · rw [if_pos c2] at ts9 ⊢
    obtain ⟨h7, e⟩ := onw_s ts9
    have b9 := b16 e
    simp only [] at b9
    obtain ⟨v0, v1⟩ := hv (Or.inl c2)
    have hvl := hP.2.2.2.2.2.1.2.2 v v0 v1
    have hpl : pl s p (26 * ai s p + v) := ⟨ai s p, v, hP.1.a.1, Int.le_refl _, v0, by rw [hP.2.2.2.2.2.1.1]; omega, rfl⟩
    obtain ⟨i, hi⟩ : ∃ i, 26 * ai s p + v = i := ⟨_, rfl⟩
    obtain ⟨a, ha⟩ : ∃ a, s 98 i = a := ⟨_, rfl⟩
    obtain ⟨b, hb⟩ : ∃ b, s 99 i = b := ⟨_, rfl⟩
    rw [hi] at hvl hpl
    rw [ha, hb] at hvl
    simp only [hi, ha, hb]
    by_cases cl : linT (X.2.2 v)
    · have hw : b = 2 ∨ b = 3 := cl.imp (fun z => (hvl.k4 z).1) (fun z => (hvl.k5 z).1)
      rw [if_pos hw]
      rw [if_pos cl] at e
      have hne : i ≠ sk s p (hg s p) := by unfold sk; omega
      have es : st2 (psh s p a b) i 0 4 = psh (st2 s i 0 4) p a b := by
        have e1 : hg (st2 s i 0 4) p = hg s p := by unfold hg; rw [st2_ai, st2_n (by decide) (by decide)]
        have e2 : sk (st2 s i 0 4) p (hg s p) = sk s p (hg s p) := by unfold sk; rw [st2_ai]
        unfold psh
        rw [e1, e2, st2_ai]
        obtain ⟨y, hy⟩ : ∃ y, sk s p (hg s p) = y := ⟨_, rfl⟩
        rw [hy] at hne ⊢
        funext c j
        unfold st2 upI
        by_cases d1 : c = 99
        · subst d1
          by_cases d2 : j = i
          · subst d2; simp [hne]
          · by_cases d3 : j = y
            · subst d3; simp [d2]
            · simp [d2, d3]
        · by_cases d4 : c = 98
          · subst d4
            by_cases d2 : j = i
            · subst d2; simp [hne]
            · by_cases d3 : j = y
              · subst d3; simp [d2]
              · simp [d2, d3]
          · simp [d1, d4]
      rw [es]
      have h2 : JJ T (st2 s i 0 4) p m f (X.1, X.2.1, up1 X.2.2 v 7) := by
        rw [← hi]; exact h.stl v0 v1 vOk.emp (Fq.nl (by decide))
      have hF : Fp (st2 s i 0 4) p a b := by
        have hO := hP.2.2.2.2.2.2
        refine ⟨fun z => ?_, fun z => ?_, fun z j hj => ?_⟩
        · rw [st2_n (by decide) (by decide), ← ha]; exact (hO.1 i hpl).1 (hb.trans z)
        · rw [st2_n (by decide) (by decide), ← ha]; exact (hO.1 i hpl).2 (hb.trans z)
        · have hj' : pl s p j := (pl_eq st2_ai (fun x _ _ => st2_n (by decide) (by decide))).mp hj
          rw [st2_98, st2_99]
          by_cases d : j = i
          · rw [if_pos d, if_pos d]; intro y; omega
          · rw [if_neg d, if_neg d]
            intro y
            rw [← ha]
            exact hO.2 i j hpl hj' (fun y => d y.symm) (by rw [hb]; exact z) (y.trans hb.symm)
      refine k1 e (h2.psh_ (by show X.1 < 16; omega) hvl.st2_ hF) (psh_ai.trans st2_ai) ?_
      rw [psh_96, st2_n (by decide) (by decide), h96, if_neg c0, if_pos (Or.inl c2)]
    · have hw := hvl.nl cl
      rw [if_neg (by omega)]
      rw [if_neg cl] at e
      refine k1 e (h.psh_ (by omega) hvl (Fp.nl hw)) psh_ai ?_
      rw [psh_96, h96, if_neg c0, if_pos (Or.inl c2)]
  rw [if_neg c2] at ts9 ⊢
  by_cases c3 : o = 3
  · rw [if_pos c3] at ts9 ⊢
    obtain ⟨⟨h7, hn⟩, e⟩ := onw_s ts9
    obtain ⟨v0, v1⟩ := hv (Or.inr c3)
    have h2 := h.pp_ (n := 1) (by decide) (by omega)
    have ht := h.top (k := 0) (by decide) (by omega)
    rw [Int.sub_zero] at ht
    have h3 := h2.stl v0 v1 (ht.pp_ (q := p) (n := 1)) (h.fp (n := 1) (k := 0) (by decide) (by decide) (by omega)).fq
    rw [ppz_ai] at h3
    refine k1 e h3 (st2_ai.trans ppz_ai) ?_
    rw [st2_n (by decide) (by decide), pp_96, h96, if_neg c0, if_pos (Or.inr c3)]
  rw [if_neg c3] at ts9 ⊢
  have h96 : s 96 (ai s p) = pc + 1 := by rw [h96, if_neg c0, if_neg (by omega)]
  by_cases c4 : o = 4
  · rw [if_pos c4] at ts9 ⊢
    obtain ⟨⟨hn, h7⟩, e⟩ := onw_s ts9
    exact k1 e (h.pp_ (n := 1) (by decide) (by omega)) ppz_ai (pp_96.trans h96)
  rw [if_neg c4] at ts9 ⊢
  by_cases c5 : o = 5
  · rw [if_pos c5] at ts9 ⊢
    obtain ⟨⟨hn, h7⟩, e⟩ := onw_s ts9
    have b9 := b16 e
    simp only [] at b9
    have ht := h.top (k := 0) (by decide) (by omega)
    rw [Int.sub_zero] at ht
    exact k1 e (h.psh_ (by omega) ht (Fp.nl (ht.nl h7))) psh_ai (psh_96.trans h96)
  rw [if_neg c5] at ts9 ⊢
  by_cases c6 : o = 6
  · rw [if_pos c6] at ts9 ⊢
    obtain ⟨hn, e⟩ := onw_s ts9
    have h2 := h.pp_ (n := 2) (by decide) (by omega)
    have t0 := h.top (k := 0) (by decide) (by omega)
    have t1 := h.top (k := 1) (by decide) (by omega)
    rw [Int.sub_zero] at t0
    rw [show X.1 - 1 - 1 = X.1 - 2 by omega] at t1
    have f0 := h.fp (n := 2) (k := 0) (by decide) (by decide) (by omega)
    have f1 := h.fp (n := 2) (k := 1) (by decide) (by decide) (by omega)
    have h3 := h2.psh_ (by show X.1 - 2 < 16; omega) (t0.pp_ (q := p) (n := 2)) f0
    have f1' := f1.psh_ (v' := tv s p 0) (w' := ts s p 0) h2.2 (by show X.1 - 2 < 16; omega) (fun z y => hP.dj (j := 1) (k := 0) (by decide) (by omega) (by decide) (by omega) (by decide) z y)
    have h4 := h3.psh_ (by show X.1 - 2 + 1 < 16; omega) ((t1.pp_ (q := p) (n := 2)).psh_ (q := p) (v' := tv s p 0) (w' := ts s p 0)) f1'
    have es : st2 (st2 s (sk s p (hg s p - 1)) (tv s p 1) (ts s p 1)) (sk s p (hg s p - 1) - 1) (tv s p 0) (ts s p 0) = psh (psh (pp s p 2) p (tv s p 0) (ts s p 0)) p (tv s p 1) (ts s p 1) := by
      obtain ⟨a0, ha0⟩ : ∃ a, tv s p 0 = a := ⟨_, rfl⟩
      obtain ⟨a1, ha1⟩ : ∃ a, tv s p 1 = a := ⟨_, rfl⟩
      obtain ⟨b0, hb0⟩ : ∃ a, ts s p 0 = a := ⟨_, rfl⟩
      obtain ⟨b1, hb1⟩ : ∃ a, ts s p 1 = a := ⟨_, rfl⟩
      rw [ha0, ha1, hb0, hb1]
      have e1 : hg (psh (pp s p 2) p a0 b0) p = hg s p - 1 := by
        show psh _ _ _ _ 97 (ai _ p) = _
        rw [psh_ai, psh_97, ppz_hg]; omega
      have e2 : sk (psh (pp s p 2) p a0 b0) p (hg s p - 1) = sk s p (hg s p - 1) := by unfold sk; rw [psh_ai, ppz_ai]
      have e3 : sk (pp s p 2) p (hg s p - 2) = sk s p (hg s p - 1) - 1 := by unfold sk; rw [ppz_ai]; omega
      have e4 : s 97 (ai s p) = hg s p := rfl
      show _ = upI (st2 (psh (pp s p 2) p a0 b0) (sk (psh (pp s p 2) p a0 b0) p (hg (psh (pp s p 2) p a0 b0) p)) a1 b1) 97 (ai (psh (pp s p 2) p a0 b0) p) (hg (psh (pp s p 2) p a0 b0) p + 1)
      rw [e1, e2, psh_ai, ppz_ai]
      show _ = upI (st2 (upI (st2 (pp s p 2) (sk (pp s p 2) p (hg (pp s p 2) p)) a0 b0) 97 (ai (pp s p 2) p) (hg (pp s p 2) p + 1)) _ a1 b1) 97 _ _
      rw [ppz_hg, e3, ppz_ai]
      obtain ⟨y, hy⟩ : ∃ y, sk s p (hg s p - 1) = y := ⟨_, rfl⟩
      rw [hy]
      funext c j
      unfold st2 pp upI
      by_cases d1 : c = 99
      · subst d1
        by_cases d2 : j = y
        · subst d2; simp; intro z; omega
        · by_cases d3 : j = y - 1
          · subst d3; simp; intro z; omega
          · simp [d2, d3]
      · by_cases d4 : c = 98
        · subst d4
          by_cases d2 : j = y
          · subst d2; simp; intro z; omega
          · by_cases d3 : j = y - 1
            · subst d3; simp; intro z; omega
            · simp [d2, d3]
        · by_cases d5 : c = 97 ∧ j = ai s p
          · obtain ⟨rfl, rfl⟩ := d5
            simp only [d1, d4, false_and, if_false, and_self, if_true]
            rw [e4]; omega
          · simp [d1, d4, d5]
    rw [es]
    refine k1 e ?_ (psh_ai.trans (psh_ai.trans ppz_ai)) (by rw [psh_96, psh_96, pp_96, h96])
    have h5 : JJ T (psh (psh (pp s p 2) p (tv s p 0) (ts s p 0)) p (tv s p 1) (ts s p 1)) p m f (X.1 - 2 + 1 + 1, up1 (up1 X.2.1 (X.1 - 2) (X.2.1 (X.1 - 1))) (X.1 - 2 + 1) (X.2.1 (X.1 - 2)), X.2.2) := h4
    rw [show X.1 - 2 + 1 = X.1 - 1 by omega] at h5
    exact h5.e1 (by omega)
  rw [if_neg c6] at ts9 ⊢
  by_cases c19 : o = 19
  · rw [if_pos c19] at ts9 ⊢
    obtain ⟨⟨hn, -⟩, e⟩ := onw_s ts9
    have h2 := h.pp_ (n := 1) (by decide) (by omega)
    have h3 := h2.psh_ (v := if tv s p 0 = 0 then 1 else 0) (by show X.1 - 1 < 16; omega) (vOk.int (by split <;> decide)) (Fp.nl (by decide))
    exact k1 e (h3.e1 (show X.1 - 1 + 1 = X.1 by omega)) (psh_ai.trans ppz_ai) (by rw [psh_96, pp_96, h96])
  rw [if_neg c19] at ts9 ⊢
  obtain ⟨⟨hn, z0, z1⟩, e⟩ := onw_s ts9
  have t0 := h.top (k := 0) (by decide) (by omega)
  have t1 := h.top (k := 1) (by decide) (by omega)
  rw [Int.sub_zero, z0] at t0
  rw [show X.1 - 1 - 1 = X.1 - 2 by omega, z1] at t1
  have h2 := h.pp_ (n := 2) (by decide) (by omega)
  rw [if_pos (show o < 20 by omega)]
  by_cases cz : (o = 10 ∨ o = 11) ∧ tv s p 0 = 0
  · rw [if_pos cz]; exact h2.1.trp hpb
  · rw [if_neg cz]
    have h3 := h2.psh_ (v := rek o (tv s p 1) (tv s p 0)) (by show X.1 - 2 < 16; omega) (vOk.int (rek_rng (t1.k0 rfl).2 (t0.k0 rfl).2 (fun y z => cz ⟨y, z⟩))) (Fp.nl (by decide))
    exact k1 e (h3.e1 (show X.1 - 2 + 1 = X.1 - 1 by omega)) (psh_ai.trans ppz_ai) (by rw [psh_96, pp_96, h96])
end SD5
