/-! SOUNDNESS: the linear instructions -/
section SK5
variable {T : TXs} {s s' : HI} {p q m f v w t o x n k g e a : Int} {B : Int → Int} {X Y : Tst}
theorem kn1 {x : Int} (h : x = -1 ∨ kindM x = 0 ∨ kindM x = 4 ∨ kindM x = 5) : x = -1 ↔ kindM x = -1 := by
  have e : kindM (-1) = -1 := rfl
  constructor
  · rintro rfl; exact e
  · intro z; rcases h with h | h | h | h
    · exact h
    all_goals omega
theorem dep_c (h : JJ T s p m f X) (hX : 1 ≤ X.1) (t0 : 0 ≤ t) : depS s p t = @ite _ (endT (T m) (X.2.1 (X.1 - 1)) t ∧ ldT (T m) (X.2.1 (X.1 - 1)) t = -1) (Classical.propDecidable _) 0 1 := by
  obtain ⟨a, ha⟩ : ∃ a, X.2.1 (X.1 - 1) = a := ⟨_, rfl⟩
  have tp := h.top (k := 0) (by decide) hX
  rw [Int.sub_zero, ha] at tp
  rw [ha]
  unfold depS
  by_cases c : ts s p 0 = 3
  · rw [if_neg (fun y => y c)]
    simp only []
    obtain ⟨k5, hen⟩ := tp.w3 c
    obtain ⟨e, he⟩ : ∃ e, tv s p 0 = e := ⟨_, rfl⟩
    rw [he] at hen ⊢
    obtain ⟨ho, me, ce, hF⟩ := JJ.en h.1 hen
    obtain ⟨c1, c2, c3⟩ := hF.col
    obtain ⟨f1, f2, f3, f4, f5, f6, f7⟩ := id hF
    obtain ⟨⟨d1, d2⟩, d3, d4, d5, d6⟩ := f4.st (st_b a).1 f6
    have sa : stateM a < nSt (T m) (whichM a) := by rw [← d3]; exact f6
    rw [c1, c2]
    have key : (tnS (T m) (whichM a) (stateM a) = 1 + e % 2 ∧ t < nMs (T m) (whichM a) (stateM a) ∧ s 62 (4 * (8 * s 118 e + s 112 e) + t) = -1) ↔ (endT (T m) a t ∧ ldT (T m) a t = -1) := by
      unfold endT ldT
      have lk : t < nMs (T m) (whichM a) (stateM a) → (s 62 (4 * (8 * s 118 e + s 112 e) + t) = -1 ↔ ldM (T m) (whichM a) (stateM a) t = -1) := fun z => by
        obtain ⟨z1, z2, z3⟩ := c3 t t0 z
        rw [z1, kn1 (ldk f3.2.1.2.2.1 d1.1 d1.2 (st_b a).1 f6 t0 (by rw [d5]; exact z)), kn1 (ldk h.mg.2.1.2.2.1 d2.1 d2.2 (st_b a).1 sa t0 z), z3.1]
      rw [← f7]
      constructor
      · rintro ⟨z1, z2, z3⟩; exact ⟨⟨k5, z1, z2⟩, (lk z2).mp z3⟩
      · rintro ⟨⟨-, z1, z2⟩, z3⟩; exact ⟨z1, z2, (lk z2).mpr z3⟩
    by_cases d : endT (T m) a t ∧ ldT (T m) a t = -1
    · rw [if_pos (key.mpr d), if_pos d]
    · rw [if_neg (fun y => d (key.mp y)), if_neg d]
  · rw [if_pos c, if_neg]
    rintro ⟨⟨z, -⟩, -⟩
    exact c (tp.k5 z).1
theorem so_sndA (h : JJ T s p m f X) (hX : 1 ≤ X.1) (hva : X.2.1 (X.1 - 1) = a) (a0 : 0 ≤ a ∧ a < 1048576) (hE : endT (T m) a t) (t0 : 0 ≤ t) (he : tv s p 0 = e) (hW : s 112 (oth e) = -1 ∨ s 114 (oth e) < 4) (hq : qLd T s m v w (ldT (T m) a t)) (hFp : Fp s p v w) {r : HI} (hr : r = if upI s 112 e (s 63 (4 * (8 * s 118 e + s 112 e) + t)) 112 (oth e) = -1 then losS (upI s 112 e (s 63 (4 * (8 * s 118 e + s 112 e) + t))) v w else sndR s e t v w) : JJ T r p m f (X.1, up1 X.2.1 (X.1 - 1) (nxT (T m) a t), X.2.2) ∧ (∀ i, r 94 i = s 94 i) ∧ ∀ i, r 96 i = s 96 i := by
  rw [upI_i oth_ne] at hr
  have n2 : ∀ x (a : Nat) (i : Int), a < 109 → upI s 112 e x a i = s a i := fun x a i z => upI_a (by omega)
  by_cases c : s 112 (oth e) = -1
  · rw [if_pos c] at hr
    obtain ⟨h1, ho, h113⟩ := so_snd1 h hX hva a0 hE t0 he c
    obtain ⟨st, hst⟩ : ∃ st, s 63 (4 * (8 * s 118 e + s 112 e) + t) = st := ⟨_, rfl⟩
    rw [hst] at h1 hr
    obtain ⟨g, hg⟩ : ∃ g, upI s 112 e st = g := ⟨_, rfl⟩
    rw [hg] at h1 hr
    have gn : ∀ (a : Nat) (i : Int), a ≠ 112 → g a i = s a i := fun a i z => by rw [← hg]; exact upI_a z
    have hpl : ∀ {j}, pl g p j → pl s p j := fun {j} hj => (pl_eq (ai_eq (gn _ _ (by decide))) (fun x _ _ => gn _ _ (by decide))).mp hj
    unfold losS at hr
    by_cases c2 : w = 2
    · rw [if_pos c2] at hr
      subst hr
      refine ⟨h1.fr ((gn _ _ (by decide)).trans (hFp.1 c2)) (fun j hj y => ?_), fun i => (upI_a (by decide)).trans (gn _ _ (by decide)), fun i => (upI_a (by decide)).trans (gn _ _ (by decide))⟩
      rw [gn _ _ (by decide)] at y ⊢
      exact hFp.2.2 (Or.inl c2) j (hpl hj) (y.trans c2.symm)
    · rw [if_neg c2] at hr
      by_cases c3 : w = 3
      · rw [if_pos c3] at hr
        subst hr
        refine ⟨h1.cls (fun x hx => ?_), fun i => (cls_n (by decide) (by decide) (by decide)).trans (gn _ _ (by decide)), fun i => (cls_n (by decide) (by decide) (by decide)).trans (gn _ _ (by decide))⟩
        subst hx
        refine ⟨(gn _ _ (by decide)).trans (hFp.2.1 c3), fun j hj y => ?_⟩
        rw [gn _ _ (by decide)] at y ⊢
        exact hFp.2.2 (Or.inr c3) j (hpl hj) (y.trans c3.symm)
      · rw [if_neg c3] at hr
        subst hr
        exact ⟨h1, fun i => gn _ _ (by decide), fun i => gn _ _ (by decide)⟩
  · rw [if_neg c] at hr
    subst hr
    have tp := h.top (k := 0) (by decide) hX
    rw [Int.sub_zero, hva, he] at tp
    have ho := (JJ.en h.1 (tp.k5 hE.1).2).1
    have h0 := oth_b (e := e) ⟨ho.1, ho.2.1⟩
    have nR : ∀ (a : Nat) (i : Int), a < 109 → sndR s e t v w a i = s a i := fun a i z => by
      unfold sndR
      rw [ownS_n (by omega), upI_a (by omega), upI_a (by omega), upI_a (by omega), upI_a (by omega), upI_a (by omega)]
    exact ⟨so_snd2 h hX hva a0 hE t0 he ⟨h0.1.1, h0.1.2, c⟩ (hW.resolve_left c) hq hFp, fun i => nR _ _ (by decide), fun i => nR _ _ (by decide)⟩
theorem tv_pp1 : tv (pp s p 1) p k = tv s p (k + 1) := by unfold tv sk; rw [ppz_hg, ppz_ai, pp_98]; congr 1; omega
theorem so_L {fl : List (Int × Tst)} {pc : Int} (h : JJ T s p m f X) (ts9 : tsL (T m) f o v pc X = some fl) (ho : 32 ≤ o ∧ o ≤ 43) (hvX : vX (T m) X) (v0 : 32 ≤ o ∧ o ≤ 34 ∨ o = 36 ∨ o = 37 ∨ o = 38 ∨ o = 40 → 0 ≤ v) (hr : o = 32 → v < nRec (T m)) (hct : o = 36 → v < nCtr (T m)) (hfn : o = 40 → v < nFn (T m)) (hx : x = cAt (T m) f + pc) (cg : cgO s p o v) (h16 : ∀ q ∈ fl, q.2.1 ≤ 16) (h96 : s 96 (ai s p) = pc + (if o = 35 ∨ o = 39 ∨ o = 41 ∨ o = 43 then 1 else 2) ∨ o = 38 ∨ o = 42) (K : KF T p m f s fl) : JO T (exS (T m) f s p o v x) (-1) := by
  obtain ⟨hJ, hP⟩ := id h
  have hpb := hP.1.1
  have x0 := hP.2.2.2.2.1
  have hh := hP.hg_
  have hN := h.mg.2.1.2.2.1
  have hS := h.mg.2.1.2.1
  unfold tsL at ts9
  unfold exS
  rw [if_neg (by omega), if_neg (by omega), if_neg (by omega), if_neg (by omega), if_neg (by omega), if_neg (by omega), if_neg (by omega), if_neg (by omega), if_neg (by omega), if_neg (by omega), if_neg (by omega), if_neg (by omega), if_neg (by omega), if_neg (by omega), if_neg (by omega), if_neg (by omega), if_neg (by omega), if_neg (by omega), if_neg (by omega), if_neg (by omega), if_neg (by omega)]
  have k1 : ∀ {Y : Tst} {s' : HI} {a : Int}, fl = [(a, Y)] → JJ T s' p m f Y → ai s' p = ai s p → s' 96 (ai s p) = a → JO T s' (-1) := fun e hy ea e96 => by
    subst e
    exact K _ _ (List.mem_singleton.mpr rfl) (h16 _ (List.mem_singleton.mpr rfl)) hy ea e96
  have b16 : ∀ {Y : Tst} {a : Int}, fl = [(a, Y)] → Y.1 ≤ 16 := fun e => by
    subst e; exact h16 _ (List.mem_singleton.mpr rfl)
  by_cases c : o = 32
  · rw [if_pos c] at ts9 ⊢
    obtain ⟨-, e⟩ := onw_s ts9
    have b9 := b16 e
    simp only [] at b9
    split
    · exact hJ.trp hpb
    · rename_i cb
      exact so_bl h (by omega) ⟨v0 (by omega), hr c⟩ cb (np := pc + 2) (by rcases h96 with z | z | z; rw [z, if_neg (by omega)]; omega; omega) (fun s' y1 y2 y3 => k1 e y1 y2 y3)
  rw [if_neg c] at ts9 ⊢
  by_cases c : o = 33
  · rw [if_pos c] at ts9 ⊢
    obtain ⟨⟨hn, hk, hv⟩, e⟩ := onw_s ts9
    have b9 := b16 e
    simp only [] at b9
    have tp := h.top (k := 0) (by decide) (by omega)
    rw [Int.sub_zero] at tp
    obtain ⟨-, y1, y2, y3⟩ := tp.k4 hk
    have hw := (hvX.2.1 (X.1 - 1) (by omega) (by omega)).2.2.2.2.2.2.1 (by omega)
    have h6 := (hS.2.2.1 _ (wM_b).1 hw).2.1
    have hrg := hJ.1.2.2.2.2.2.2.2.1 (tv s p 0) v y1.1 y1.2 y3 (v0 (by omega)) (by omega)
    refine k1 e (h.psh_ (by omega) (vOk.int hrg) (Fp.nl (by decide))) psh_ai ?_
    rw [psh_96]; rcases h96 with z | z | z
    · rw [z, if_neg (by omega)]
    · omega
    · omega
  rw [if_neg c] at ts9 ⊢
  by_cases c : o = 34
  · rw [if_pos c] at ts9 ⊢
    obtain ⟨⟨hn, hi, hk, hv⟩, e⟩ := onw_s ts9
    have t0 := h.top (k := 0) (by decide) (by omega)
    rw [Int.sub_zero, hi] at t0
    have h2 := (h.pp_ (n := 1) (by decide) (by omega)).bc (b := tv s p 1) (j := v) (t0.k0 rfl).2
    refine k1 e h2 ((ai_eq (upI_a (by decide))).trans ppz_ai) ?_
    rw [upI_a (by decide), pp_96]; rcases h96 with z | z | z
    · rw [z, if_neg (by omega)]
    · omega
    · omega
  rw [if_neg c] at ts9 ⊢
  by_cases c : o = 35
  · rw [if_pos c] at ts9 ⊢
    obtain ⟨⟨hn, hk⟩, e⟩ := onw_s ts9
    have tp := h.top (k := 0) (by decide) (by omega)
    rw [Int.sub_zero] at tp
    obtain ⟨y0, y1, y2, y3⟩ := tp.k4 hk
    have hF := h.fp (n := 1) (k := 0) (by decide) (by decide) (by omega)
    have h2 := (h.pp_ (n := 1) (by decide) (by omega)).fr (hF.1 y0) (fun j hj z => hF.2.2 (Or.inl y0) j hj (z.trans y0.symm))
    refine k1 e h2 ((ai_eq (upI_a (by decide))).trans ppz_ai) ?_
    rw [upI_a (by decide), pp_96]; rcases h96 with z | z | z
    · rw [z, if_pos (by omega)]
    · omega
    · omega
  rw [if_neg c] at ts9 ⊢
  by_cases c : o = 36
  · rw [if_pos c] at ts9 ⊢
    obtain ⟨-, e⟩ := onw_s ts9
    have b9 := b16 e
    simp only [] at b9
    exact so_ch h ⟨v0 (by omega), hct c⟩ b9 (np := pc + 2) (by rcases h96 with z | z | z; rw [z, if_neg (by omega)]; omega; omega) (fun s' y1 y2 y3 => k1 e y1 y2 y3)
  rw [if_neg c] at ts9 ⊢
  by_cases c : o = 37
  · rw [if_pos c] at ts9 ⊢
    have t0 := v0 (by omega)
    have h96 : s 96 (ai s p) = pc + 2 := by
      rcases h96 with z | z | z
      · rw [z, if_neg (by omega)]
      · omega
      · omega
    unfold cgO at cg
    rw [if_neg (by omega), if_pos c] at cg
    by_cases cb : 0 < X.1 ∧ endT (T m) (X.2.1 (X.1 - 1)) v ∧ ldT (T m) (X.2.1 (X.1 - 1)) v = -1
    · rw [if_pos cb] at ts9
      cases ts9
      have hd := dep_c (t := v) h (by omega) t0
      rw [if_pos cb.2] at hd
      rw [hd] at cg
      have hv9 := hvX.2.1 (X.1 - 1) (by omega) (by omega)
      obtain ⟨z1, z2, z3⟩ := so_sndA (v := 0) (w := 4) h (by omega) rfl ⟨hv9.1, hv9.2.1⟩ cb.2.1 t0 rfl cg (Or.inl ⟨cb.2.2, rfl⟩) (Fp.nl (by decide)) (r := sndS s p v) (by
        unfold sndS
        simp only []
        have z01 : ¬ (0 : Int) = 1 := by decide
        rw [hd]
        simp only [if_neg z01]
        unfold sndR
        rw [upI_a (b := 114) (by decide)])
      exact k1 rfl z1 (ai_eq (z2 p)) ((z3 _).trans h96)
    · rw [if_neg cb] at ts9
      obtain ⟨⟨hn, hE, hl, hle⟩, e⟩ := onw_s ts9
      have hd := dep_c (t := v) h (by omega) t0
      rw [if_neg (fun y => cb ⟨by omega, y⟩)] at hd
      rw [hd] at cg
      have hv9 := hvX.2.1 (X.1 - 2) (by omega) (by omega)
      obtain ⟨a, ha⟩ : ∃ a, X.2.1 (X.1 - 2) = a := ⟨_, rfl⟩
      rw [ha] at hv9 hE hl hle e
      have h2 := h.pp_ (n := 1) (by decide) (by omega)
      have tp := h.top (k := 0) (by decide) (by omega)
      rw [Int.sub_zero] at tp
      have hct9 := hv9.2.2.2.2.2.2.2 hE.1
      have hlk := ldk (t := v) hN (wM_b).1 hct9.1 (st_b a).1 hct9.2 t0 hE.2.2
      have hlk := hlk.resolve_left hl
      have tq : vOk T (pp s p 1) 0 m (tv s p 0) (ts s p 0) (ldT (T m) a v) := ((tp.le hle).pp_).any_p hlk
      have hF := h.fp (n := 1) (k := 0) (by decide) (by decide) (by omega)
      have e2 : tv (pp s p 1) p 0 = tv s p 1 := tv_pp1
      obtain ⟨z1, z2, z3⟩ := so_sndA (v := tv s p 0) (w := ts s p 0) (e := tv s p 1) (a := a) h2 (by show 1 ≤ X.1 - 1; omega) (by show X.2.1 (X.1 - 1 - 1) = a; rw [show X.1 - 1 - 1 = X.1 - 2 by omega]; exact ha) ⟨hv9.1, hv9.2.1⟩ hE t0 e2 (by rw [ppz_n (by decide), ppz_n (by decide)]; exact cg) (Or.inr ⟨hl, tq⟩) hF (r := sndS s p v) (by
        unfold sndS
        simp only []
        rw [hd, if_pos rfl, if_pos rfl, if_pos rfl, e2]
        unfold sndR
        rw [upI_a (b := 114) (by decide)])
      have z1 : JJ T (sndS s p v) p m f (X.1 - 1, up1 X.2.1 (X.1 - 1 - 1) (nxT (T m) a v), X.2.2) := z1
      rw [show X.1 - 1 - 1 = X.1 - 2 by omega] at z1
      exact k1 e z1 ((ai_eq (z2 p)).trans ppz_ai) (((z3 _).trans pp_96).trans h96)
  rw [if_neg c] at ts9 ⊢
  by_cases c : o = 38
  · rw [if_pos c] at ts9 ⊢
    obtain ⟨⟨hn, hk5, htn, hnm⟩, e⟩ := onw_s ts9
    unfold cgO at cg
    rw [if_pos c] at cg
    obtain ⟨a, ha⟩ : ∃ a, X.2.1 (X.1 - 1) = a := ⟨_, rfl⟩
    have hv9 := hvX.2.1 (X.1 - 1) (by omega) (by omega)
    rw [ha] at hv9 hk5 htn hnm
    have mem : ∀ t : Int, 0 ≤ t → t < v → ((T m) (cAt (T m) f + pc + 2 + t), rcv (T m) X t) ∈ fl := fun t t0 t1 => by
      subst e
      rw [List.mem_map]
      exact ⟨t.toNat, List.mem_range.mpr (by omega), by rw [Int.toNat_of_nonneg t0]⟩
    have hh16 : ∀ t : Int, 0 ≤ t → t < v → ldT (T m) a t ≠ -1 → X.1 < 16 := fun t t0 t1 hl => by
      have := h16 _ (mem t t0 t1)
      unfold rcv at this
      simp only [] at this
      rw [ha, if_neg hl] at this
      have : X.1 + 1 ≤ 16 := this
      omega
    have tp := h.top (k := 0) (by decide) (by omega)
    rw [Int.sub_zero, ha] at tp
    obtain ⟨en, he⟩ : ∃ e, tv s p 0 = e := ⟨_, rfl⟩
    rw [he] at cg tp
    -- the message is there
    have tm : 0 ≤ s 115 (4 * en) ∧ s 115 (4 * en) < v := by
      obtain ⟨hop, me, ce, f1, f2, f3, f4, f5, f6, f7⟩ := JJ.en h.1 (tp.k5 hk5).2
      obtain ⟨m', c', y1, y2, y3, y4, y5, y6, y7, -⟩ := hJ.2.1 en hop
      have em : m' = me ∧ c' = ce := by omega
      obtain ⟨rfl, rfl⟩ := em
      have Q0 := (y7 0 (by omega)).2.2.1
      have w0 : wk (T m') c' s en 0 = stateM a := f5
      rw [w0, show 4 * en + ((0 : Nat) : Int) = 4 * en by omega, (f4.st (st_b a).1 f6).2.2.2.1, hnm] at Q0
      exact Q0
    obtain ⟨z1, r, z2, z3, z4⟩ := so_rcv (to := fun t => (T m) (x + 2 + t)) h (by omega) ha ⟨hv9.1, hv9.2.1⟩ hk5 htn he cg (hh16 _ tm.1 tm.2)
    rw [z2]
    have mm := mem _ tm.1 tm.2
    refine K _ _ mm (h16 _ mm) z3.gos ((ai_eq (goS_n (by decide))).trans z4) ?_
    show goS r p _ 96 (ai s p) = (T m) (cAt (T m) f + pc + 2 + s 115 (4 * en))
    unfold goS
    rw [z4, upI_eq, hx]
  rw [if_neg c] at ts9 ⊢
  have h96 : o ≠ 42 → s 96 (ai s p) = pc + (if o = 35 ∨ o = 39 ∨ o = 41 ∨ o = 43 then 1 else 2) := fun y => by
    rcases h96 with z | z | z
    · exact z
    · omega
    · omega
  by_cases c : o = 39
  · rw [if_pos c] at ts9 ⊢
    obtain ⟨⟨hn, hk, hv⟩, e⟩ := onw_s ts9
    have tp := h.top (k := 0) (by decide) (by omega)
    rw [Int.sub_zero] at tp
    obtain ⟨y0, y1⟩ := tp.k5 hk
    have hF := h.fp (n := 1) (k := 0) (by decide) (by decide) (by omega)
    have h2 := (h.pp_ (n := 1) (by decide) (by omega)).cls (E := fun e => e = tv s p 0) (fun e he => by subst he; exact ⟨hF.2.1 y0, fun j hj z => hF.2.2 (Or.inr y0) j hj (z.trans y0.symm)⟩)
    refine k1 e h2 ((ai_eq (cls_n (by decide) (by decide) (by decide))).trans ppz_ai) ?_
    rw [cls_n (by decide) (by decide) (by decide), pp_96, h96 (by omega), if_pos (by omega)]
  rw [if_neg c] at ts9 ⊢
  by_cases c : o = 40
  · rw [if_pos c] at ts9 ⊢
    obtain ⟨⟨hrt, hhp, hpar⟩, e⟩ := onw_s ts9
    exact so_sp h hhp hpar ⟨v0 (by omega), hfn c⟩ (np9 := pc + 2) (by rw [h96 (by omega), if_neg (by omega)]) (fun s' y1 y2 y3 => k1 e y1 y2 y3)
  rw [if_neg c] at ts9 ⊢
  by_cases c : o = 41
  · rw [if_pos c] at ts9 ⊢
    obtain ⟨-, e⟩ := onw_s ts9
    exact k1 e h rfl (by rw [h96 (by omega), if_pos (by omega)])
  rw [if_neg c] at ts9 ⊢
  by_cases c : o = 42
  · rw [if_pos c]
    exact hJ.ovr hpb (by decide)
  rw [if_neg c] at ts9 ⊢
  obtain ⟨⟨hn, -⟩, e⟩ := onw_s ts9
  exact so_out h (by omega) (np := pc + 1) (by rw [h96 (by omega), if_pos (by omega)]) (fun s' y1 y2 y3 => k1 e y1 y2 y3)
end SK5
