/-! RUNNING, the reference: new boxes -/
section RP2
variable {d : Nat} {al : AL} {hi : HI} {hr : HR} {Q : QQ} {s : HI} {p : Int} {B : Int → Int} {f o v qx m : Int}
theorem rot_pp {n b : Int} (n0 : 0 ≤ n) (h : rot (pp s p n) p b) : rot s p b := by
  obtain ⟨a, k, z1, z2, z3, z4, z5, z6, z7⟩ := h
  rw [ppz_n (by decide)] at z2 z5 z6
  refine ⟨a, k, z1, z2, z3, ?_, z5, z6, z7⟩
  have : pp s p n 97 (16 * p + a) ≤ s 97 (16 * p + a) := by
    unfold pp hg
    by_cases c : 16 * p + a = ai s p
    · rw [c, upI_eq]; omega
    · rw [upI_i c]; exact Int.le_refl _
  omega
theorem rch_pp {n b : Int} (n0 : 0 ≤ n) (h : rch (pp s p n) p b) : rch s p b := h (rch s p) (fun x hx => rch_r (rot_pp n0 hx)) (fun x i hx i0 i1 i2 i3 => by
  rw [ppz_n (by decide)] at i1 i2 i3 ⊢
  exact rch_i hx i0 i1 i2 i3)
theorem HBd.po {n : Int} (H : HBd s p) (n0 : 0 ≤ n) (hn : n ≤ hg s p) : HBd (pp s p n) p := by
  obtain ⟨h1, h2, h3⟩ := H
  refine ⟨fun b b1 b2 => by rw [ppz_n (by decide)]; exact h1 b b1 b2, fun b hb => by rw [ppz_n (by decide)]; exact h2 b (rch_pp n0 hb), fun a a0 a1 => ?_⟩
  rw [ppz_n (by decide)] at a1
  have := h3 a a0 a1
  unfold hg at hn
  unfold pp hg
  by_cases c : 16 * p + a = ai s p
  · rw [c] at this
    rw [c, upI_eq]; omega
  · rw [upI_i c]; exact this
theorem gcS_CE {a : Nat} {i : Int} (h : a ≠ 100) : gcS s p a i = s a i := gcS_o (Or.inl h)
/-- what is left when the box is there, and pushed -/
theorem w_25 (hA : SA al) (hR : MR hr) (hd : 56 ≤ d) (hE : RelR hi s) (hp : AP s p) (hg0 : 0 ≤ hg s p ∧ hg s p ≤ 16) (hq : QB s) (q : ∀ hi', RelR hi' (exS B f s p o v qx) → FW wRn hi hi' → Q (some none) al hi' hr) (ho : o = 25 ∨ o = 26) (h1 : 1 ≤ hg s p) (hB : HBd s p) (h92 : 0 ≤ s 92 p ∧ s 92 p ≤ 1024) (hx : tv s p 0 ≤ 2147483647) : Wp d 312 306 [vR (some 49), vI p, vI o, vI v, vI m, none, none, none] [] al hi hr Q := by
  have kM : isK al 49 13 := hA.k (by decide) (by decide) rfl
  have H0 := Sm.rf hE.1
  have hp' : AP hi p := hp.n (H0.e (by omega))
  have hgg : hg hi p = hg s p := H0.hg_
  have hqq : QB hi := hq.eq (fun _ => H0.e (by omega)) (fun _ => H0.e (by omega)) (fun _ => H0.e (by omega)) (fun _ => H0.e (by omega))
  have hpb := hp.1
  have et0 : tv hi p 0 = tv s p 0 := H0.tv_
  have Hp := H0.pp_ (p := p) (n := 1)
  obtain ⟨x, hxe⟩ : ∃ x, tv s p 0 = x := ⟨_, rfl⟩
  have e : ∃ t c, (c = if o = 25 then 0 else 1) ∧ exS B f s p o v qx = if x < 0 then trpS (pp s p 1) p 4 else mkS (pp s p 1) p x t (fun _ => c) := by
    rcases ho with z | z
    · exact ⟨2, 0, by rw [if_pos z], by subst z; subst hxe; rfl⟩
    · exact ⟨3 + 8 * v, 1, by rw [if_neg (by omega)], by subst z; subst hxe; rfl⟩
  obtain ⟨t, c, hc, e⟩ := e
  rw [e] at q
  rw [hxe] at et0 hx
  by_cases c0 : x < 0
  · rw [if_pos c0] at q
    have E := q _ (hE.sm Hp.trp_) Hp.trp_.fw
    refine s312_306.mpr (s312_307.mpr ?_)
    refine (s312_308 (by omega) kM).mpr ?_
    refine r_popValue hA hR (by omega) hp' (by rw [hgg]; omega) ?_
    try simp only [kon, knt_some, knt_none, Option.toList_some, Option.toList_none, List.cons_append, List.nil_append, et0]
    refine s312_311.mpr (s312_313.mpr ?_)
    refine s312_315.mpr (wif (fun c315 => ?_) (fun c315 => ?_))
    · first
      | (exfalso; omega)
      | skip
        refine s312_318.mpr (s312_319.mpr (s312_341.mpr (s312_343.mpr ?_)))
        refine s312_345.mpr (wif (fun c345 => ?_) (fun c345 => ?_))
        · first
          | (exfalso; omega)
          | skip
            refine s312_348.mpr (s312_349.mpr (s312_350.mpr ?_))
            refine s312_352.mpr (wif (fun c352 => ?_) (fun c352 => ?_))
            · first
              | (exfalso; omega)
              | skip
                refine s312_355.mpr (s312_356.mpr ?_)
                refine (s312_360 (by omega) kM).mpr ?_
                refine r_trap hA hR (by omega) hqq.pp hp.1 ?_
                refine s312_363.mpr ?_
                refine (s312_550).mpr ?_
                exact E
            · first
              | (exfalso; omega)
              | skip
                exfalso; omega
        · first
          | (exfalso; omega)
          | skip
            exact absurd rfl (by assumption)
    · first
      | (exfalso; omega)
      | skip
        exfalso; omega
  · rw [if_neg c0] at q
    have MK : Ev (d - 1) 291 [vR (some 49), vI p, vL x, vI c] al (pp hi p 1) hr (kon d 312 338 341 [vR (some 49), vI p, vI o, vI v, vI m, none, vI x, none] [] Q) := by
      refine r_mk hA hR (by omega) (hE.sm Hp) (hB.po (by decide) h1) hp.po (by rw [ppz_n (by decide)]; exact h92) ⟨by omega, by omega⟩ (fun nf h' hE' w' => ?_) (fun yf h' hE' hk w' => ?_)
      · simp only [kon, knt_some, knt_none, Option.toList_some, Option.toList_none, List.cons_append, List.nil_append]
        have H' := Sm.rf hE'.1
        have hq' : QB h' := hq.pp.eq (fun _ => H'.e (by omega)) (fun _ => H'.e (by omega)) (fun _ => H'.e (by omega)) (fun _ => H'.e (by omega))
        unfold mkS at q
        rw [cif_n nf] at q
        have E := q _ (hE'.sm H'.trp_) ((Hp.fw.tr (w'.mn (by intro a i z; unfold wMk at z; unfold wRn; omega))).tr H'.trp_.fw)
        refine s312_341.mpr (s312_343.mpr ?_)
        refine s312_345.mpr (wif (fun c345 => ?_) (fun c345 => ?_))
        · skip
          refine s312_348.mpr (s312_349.mpr (s312_350.mpr ?_))
          refine s312_352.mpr (wif (fun c352 => ?_) (fun c352 => ?_))
          · skip
            exfalso; omega
          · skip
            refine s312_359.mpr ?_
            refine (s312_360 (by omega) kM).mpr ?_
            refine r_trap hA hR (by omega) hq' hp.1 ?_
            refine s312_363.mpr ?_
            refine (s312_550).mpr ?_
            exact E
        · skip
          exact absurd rfl (by assumption)
      · simp only [kon, knt_some, knt_none, Option.toList_some, Option.toList_none, List.cons_append, List.nil_append]
        have H' := Sm.rf (hE' t).1
        unfold mkS at q
        rw [cif_y yf] at q
        obtain ⟨k, hke⟩ : ∃ k, mkB (pp s p 1) p = k := ⟨_, rfl⟩
        rw [hke] at q hk H' hE'
        have e1 : ∀ a i, (a ≠ 100 ∧ a ≠ 300 ∧ a ≠ 301 ∧ a ≠ 302) → newB (gcS (pp s p 1) p) p k x t (fun _ => c) a i = pp s p 1 a i := fun a i z => by rw [newB_o z, gcS_CE z.1]
        have hp9 : AP h' p := hp.n (by rw [H'.e (by omega), e1 94 p (by decide), ppz_n (by decide)])
        have hg9 : hg h' p = hg s p - 1 := by
          rw [H'.hg_, hg_n (s := pp s p 1) (e1 94 p (by decide)) (fun i => e1 97 i (by decide)), ppz_hg]
        have E := q _ ((hE' t).sm (H'.psh_ rfl rfl)) ((Hp.fw.tr (w'.mn (by intro a i z; unfold wMk at z; unfold wRn; omega))).tr (H'.psh_ (p := p) (v := k) (w := 1) rfl rfl).fw)
        have hk1 := hk.1
        rw [hke]
        refine s312_341.mpr (s312_343.mpr ?_)
        refine s312_345.mpr (wif (fun c345 => ?_) (fun c345 => ?_))
        · skip
          exfalso; omega
        · skip
          refine s312_366.mpr (s312_367.mpr (s312_368.mpr (s312_370.mpr ?_)))
          refine (s312_371 (by omega) kM).mpr ?_
          refine r_push hA hR (by omega) hp9 (by rw [hg9]; omega) ?_
          refine s312_374.mpr ?_
          refine (s312_550).mpr ?_
          exact E
    rcases ho with z | z
    · rw [if_pos z] at hc
      rw [hc] at MK
      refine s312_306.mpr (s312_307.mpr ?_)
      refine (s312_308 (by omega) kM).mpr ?_
      refine r_popValue hA hR (by omega) hp' (by rw [hgg]; omega) ?_
      try simp only [kon, knt_some, knt_none, Option.toList_some, Option.toList_none, List.cons_append, List.nil_append, et0]
      refine s312_311.mpr (s312_313.mpr ?_)
      refine s312_315.mpr (wif (fun c315 => ?_) (fun c315 => ?_))
      · first
        | (exfalso; omega)
        | skip
          exfalso; omega
      · first
        | (exfalso; omega)
        | skip
          refine s312_322.mpr (s312_323.mpr (s312_324.mpr (s312_326.mpr (s312_327.mpr (s312_328.mpr ?_)))))
          refine s312_330.mpr (wif (fun c330 => ?_) (fun c330 => ?_))
          · first
            | (exfalso; omega)
            | skip
              refine s312_333.mpr (s312_334.mpr ?_)
              refine (s312_338 (by omega) kM).mpr ?_
              exact MK
          · first
            | (exfalso; omega)
            | skip
              exact absurd z (by assumption)
    · rw [if_neg (by omega)] at hc
      rw [hc] at MK
      refine s312_306.mpr (s312_307.mpr ?_)
      refine (s312_308 (by omega) kM).mpr ?_
      refine r_popValue hA hR (by omega) hp' (by rw [hgg]; omega) ?_
      try simp only [kon, knt_some, knt_none, Option.toList_some, Option.toList_none, List.cons_append, List.nil_append, et0]
      refine s312_311.mpr (s312_313.mpr ?_)
      refine s312_315.mpr (wif (fun c315 => ?_) (fun c315 => ?_))
      · first
        | (exfalso; omega)
        | skip
          exfalso; omega
      · first
        | (exfalso; omega)
        | skip
          refine s312_322.mpr (s312_323.mpr (s312_324.mpr (s312_326.mpr (s312_327.mpr (s312_328.mpr ?_)))))
          refine s312_330.mpr (wif (fun c330 => ?_) (fun c330 => ?_))
          · first
            | (exfalso; omega)
            | skip
              exfalso; omega
          · first
            | (exfalso; omega)
            | skip
              refine s312_337.mpr ?_
              refine (s312_338 (by omega) kM).mpr ?_
              exact MK
end RP2
