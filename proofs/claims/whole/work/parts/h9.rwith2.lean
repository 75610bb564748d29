/-! RUNNING, the reference: lists, calls -/
section RP1
variable {d : Nat} {al : AL} {hi : HI} {hr : HR} {Q : QQ} {s : HI} {p : Int} {B : Int → Int} {f o v qx m : Int}
theorem w_28 (hA : SA al) (hR : MR hr) (hd : 56 ≤ d) (hE : RelR hi s) (hp : AP s p) (hg0 : 0 ≤ hg s p ∧ hg s p ≤ 16) (hq : QB s) (q : ∀ hi', RelR hi' (exS B f s p o v qx) → FW wRn hi hi' → Q (some none) al hi' hr) (ho : o = 28) (h1 : 2 ≤ hg s p) (hb : BxV s p (tv s p 1)) : Wp d 312 422 [vR (some 49), vI p, vI o, vI v, vI m, none, none, none] [] al hi hr Q := by
  have kM : isK al 49 13 := hA.k (by decide) (by decide) rfl
  have H0 := Sm.rf hE.1
  have hp' : AP hi p := hp.n (H0.e (by omega))
  have hgg : hg hi p = hg s p := H0.hg_
  have hqq : QB hi := hq.eq (fun _ => H0.e (by omega)) (fun _ => H0.e (by omega)) (fun _ => H0.e (by omega)) (fun _ => H0.e (by omega))
  have l91 := SA.len (a := 91) (n := 12) hA (by decide) (by decide) rfl
  have l57 := SA.len (a := 57) (n := 104) hA (by decide) (by decide) rfl
  have l58 := SA.len (a := 58) (n := 624) hA (by decide) (by decide) rfl
  have l104 := SA.len (a := 104) (n := 12288) hA (by decide) (by decide) rfl
  have l103 := SA.len (a := 103) (n := 12288) hA (by decide) (by decide) rfl
  have l100 := SA.len (a := 100) (n := 12300) hA (by decide) (by decide) rfl
  have hpb := hp.1
  have hp1 : AP (pp hi p 1) p := hp'.po
  have hh1 : hg (pp hi p 1) p = hg hi p - 1 := ppz_hg
  have hp2 : AP (pp hi p 2) p := hp'.po
  have hh2 : hg (pp hi p 2) p = hg hi p - 2 := ppz_hg
  have epp : pp (pp hi p 1) p 1 = pp hi p 2 := pp_pp
  have ett : tv (pp hi p 1) p 0 = tv hi p 1 := tv_pp
  have et : tv hi p 1 = tv s p 1 := H0.tv_
  have et0 : tv hi p 0 = tv s p 0 := H0.tv_
  obtain ⟨x, hxe⟩ : ∃ x, tv s p 0 = x := ⟨_, rfl⟩
  obtain ⟨b, hbe⟩ : ∃ b, tv s p 1 = b := ⟨_, rfl⟩
  obtain ⟨n, hne⟩ : ∃ n, s 100 (1025 * p + b) = n := ⟨_, rfl⟩
  have e : exS B f s p o v qx = if b = 0 then trpS (pp s p 2) p 1 else if 0 ≤ x ∧ x < n - 1 then psh (pp s p 2) p (s 300 (hx p b x)) (s 301 (hx p b x)) else trpS (pp s p 2) p 2 := by subst ho; subst hbe; subst hxe; subst hne; rfl
  rw [e] at q
  rw [hbe] at et hb
  rw [et] at ett
  rw [hxe] at et0
  have hqp : QB (pp hi p 2) := hqq.pp
  have Hp := H0.pp_ (p := p) (n := 2)
  have e100 : pp hi p 2 100 (1025 * p + b) = n := ((ppz_n (by decide)).trans (H0.e (by omega))).trans hne
  have hb2 : b = 0 ∨ (1 ≤ b ∧ b ≤ 1024) := hb.elim Or.inl (fun z => Or.inr z.1)
  have R : Ev (d - 1) 313 [vR (some 49), vI p, vI b, vI x] al (pp hi p 2) hr (kon d 312 442 445 [vR (some 49), vI p, vI o, vI v, vI m, vI b, vI x, none] [] Q) := by
    by_cases c : b = 0
    · rw [if_pos c] at q
      have E := q _ (hE.sm Hp.trp_) Hp.trp_.fw
      refine r_isAt (n := 1) hA hR (by omega) hp.1 hqp hb2 (fun z => absurd c z) (by decide) (fun _ => ?_) (fun z => absurd c z) (fun z => absurd c z)
      simp only [kon, knt_some, knt_none, Option.toList_some, Option.toList_none, List.cons_append, List.nil_append]
      refine s312_445.mpr (wif (fun c445 => ?_) (fun c445 => ?_))
      · skip
        refine (s312_550).mpr ?_
        exact E
      · skip
        exact absurd rfl (by assumption)
    · rw [if_neg c] at q
      have hb1 : (1 ≤ b ∧ b ≤ 1024) ∧ 1 ≤ s 100 (1025 * p + b) ∧ s 100 (1025 * p + b) ≤ 1024 := hb.resolve_left c
      have hb3 := hb1.2
      rw [hne] at hb3
      refine r_isAt (n := n) hA hR (by omega) hp.1 hqp hb2 (fun _ => e100) (by omega) (fun z => absurd z c) (fun _ z => ?_) (fun _ z => ?_)
      · rw [if_neg z] at q
        have E := q _ (hE.sm Hp.trp_) Hp.trp_.fw
        simp only [kon, knt_some, knt_none, Option.toList_some, Option.toList_none, List.cons_append, List.nil_append]
        refine s312_445.mpr (wif (fun c445 => ?_) (fun c445 => ?_))
        · skip
          refine (s312_550).mpr ?_
          exact E
        · skip
          exact absurd rfl (by assumption)
      · rw [if_pos z] at q
        obtain ⟨pl, p103, p104⟩ := (hE.2 p hp.1.1 hp.1.2).b hb1.1 (by omega) z.1 (by rw [hne]; exact z.2)
        have hf := ((hE.2 p hp.1.1 hp.1.2).1 b hb1.1.1 hb1.1.2 (by omega)).1
        have e1 : pp hi p 2 101 (1025 * p + b) = hi 101 (1025 * p + b) := ppz_n (by decide)
        have ep : plc (pp hi p 2) p b x = plc hi p b x := by unfold plc; rw [e1]
        have p103' : pp hi p 2 103 (plc hi p b x) = s 300 (hx p b x) := (ppz_n (by decide)).trans p103
        have p104' : pp hi p 2 104 (plc hi p b x) = s 301 (hx p b x) := (ppz_n (by decide)).trans p104
        have E := q _ (hE.sm (Hp.psh_ rfl rfl)) (Hp.psh_ (p := p) (v := s 300 (hx p b x)) (w := s 301 (hx p b x)) rfl rfl).fw
        simp only [kon, knt_some, knt_none, Option.toList_some, Option.toList_none, List.cons_append, List.nil_append]
        refine s312_445.mpr (wif (fun c445 => ?_) (fun c445 => ?_))
        · skip
          first | exact absurd ‹(1 : Int) = 0› (by decide) | exact s312_550.mpr E
        · skip
          refine s312_448.mpr (s312_449.mpr (s312_450.mpr ((s312_451 kM).mpr ?_)))
          rw [mr_73 hR]
          refine s312_454.mpr (s312_455.mpr (s312_456.mpr (s312_458.mpr ?_)))
          refine (s312_460 (by omega) kM).mpr ?_
          refine r_cell hA hR hp.1 hb1.1 (by rw [ep]; exact pl) (by rw [e1]; omega) ?_
          refine (s312_463 (hA.k (by decide) (by decide) rfl) (by first | assumption | omega) (by first | assumption | omega)).mpr ?_
          refine s312_464.mpr ((s312_465 kM).mpr ?_)
          rw [mr_74 hR]
          refine s312_468.mpr (s312_469.mpr (s312_470.mpr (s312_472.mpr ?_)))
          try simp (disch := first | decide | assumption | omega) only [kon, knt_some, knt_none, Option.toList_some, Option.toList_none, List.cons_append, List.nil_append, ep, p103', p104']
          refine (s312_474 (by omega) kM).mpr ?_
          refine r_cell hA hR hp.1 hb1.1 (by rw [ep]; exact pl) (by rw [e1]; omega) ?_
          refine (s312_477 (hA.k (by decide) (by decide) rfl) (by first | assumption | omega) (by first | assumption | omega)).mpr ?_
          try simp (disch := first | decide | assumption | omega) only [kon, knt_some, knt_none, Option.toList_some, Option.toList_none, List.cons_append, List.nil_append, ep, p103', p104']
          refine (s312_478 (by omega) kM).mpr ?_
          refine r_push hA hR (by omega) hp2 (by rw [hh2, hgg]; omega) ?_
          refine s312_481.mpr ?_
          first | exact absurd ‹(1 : Int) = 0› (by decide) | exact s312_550.mpr E
  refine s312_422.mpr (s312_423.mpr ?_)
  refine (s312_424 (by omega) kM).mpr ?_
  first | refine r_popValue hA hR (by omega) hp' (by rw [hgg]; omega) ?_ | refine r_popValue hA hR (by omega) hp1 (by rw [hh1, hgg]; omega) ?_
  try simp only [kon, knt_some, knt_none, Option.toList_some, Option.toList_none, List.cons_append, List.nil_append, ett, epp, et0]
  refine s312_427.mpr (s312_429.mpr (s312_430.mpr ?_))
  refine (s312_431 (by omega) kM).mpr ?_
  first | refine r_popValue hA hR (by omega) hp' (by rw [hgg]; omega) ?_ | refine r_popValue hA hR (by omega) hp1 (by rw [hh1, hgg]; omega) ?_
  try simp only [kon, knt_some, knt_none, Option.toList_some, Option.toList_none, List.cons_append, List.nil_append, ett, epp, et0]
  refine s312_434.mpr (s312_436.mpr (s312_437.mpr (s312_438.mpr (s312_440.mpr ?_))))
  refine (s312_442 (by omega) kM).mpr ?_
  exact R
theorem w_29 (hA : SA al) (hR : MR hr) (hd : 56 ≤ d) (hE : RelR hi s) (hp : AP s p) (hg0 : 0 ≤ hg s p ∧ hg s p ≤ 16) (hq : QB s) (q : ∀ hi', RelR hi' (exS B f s p o v qx) → FW wRn hi hi' → Q (some none) al hi' hr) (ho : o = 29) (h1 : 3 ≤ hg s p) (hb : BxV s p (tv s p 2)) : Wp d 312 484 [vR (some 49), vI p, vI o, vI v, vI m, none, none, none] [] al hi hr Q := by
  have kM : isK al 49 13 := hA.k (by decide) (by decide) rfl
  have H0 := Sm.rf hE.1
  have hp' : AP hi p := hp.n (H0.e (by omega))
  have hgg : hg hi p = hg s p := H0.hg_
  have hqq : QB hi := hq.eq (fun _ => H0.e (by omega)) (fun _ => H0.e (by omega)) (fun _ => H0.e (by omega)) (fun _ => H0.e (by omega))
  have l91 := SA.len (a := 91) (n := 12) hA (by decide) (by decide) rfl
  have l57 := SA.len (a := 57) (n := 104) hA (by decide) (by decide) rfl
  have l58 := SA.len (a := 58) (n := 624) hA (by decide) (by decide) rfl
  have l104 := SA.len (a := 104) (n := 12288) hA (by decide) (by decide) rfl
  have l103 := SA.len (a := 103) (n := 12288) hA (by decide) (by decide) rfl
  have l100 := SA.len (a := 100) (n := 12300) hA (by decide) (by decide) rfl
  have hpb := hp.1
  have hp1 : AP (pp hi p 1) p := hp'.po
  have hh1 : hg (pp hi p 1) p = hg hi p - 1 := ppz_hg
  have hp2 : AP (pp hi p 2) p := hp'.po
  have hh2 : hg (pp hi p 2) p = hg hi p - 2 := ppz_hg
  have epp : pp (pp hi p 1) p 1 = pp hi p 2 := pp_pp
  have epp3 : pp (pp hi p 2) p 1 = pp hi p 3 := pp_pp
  have ett : tv (pp hi p 1) p 0 = tv hi p 1 := tv_pp
  have ett2 : tv (pp hi p 2) p 0 = tv hi p 2 := tv_pp
  have et2 : tv hi p 2 = tv s p 2 := H0.tv_
  have et : tv hi p 1 = tv s p 1 := H0.tv_
  have et0 : tv hi p 0 = tv s p 0 := H0.tv_
  obtain ⟨y, hye⟩ : ∃ y, tv s p 0 = y := ⟨_, rfl⟩
  obtain ⟨x, hxe⟩ : ∃ x, tv s p 1 = x := ⟨_, rfl⟩
  obtain ⟨b, hbe⟩ : ∃ b, tv s p 2 = b := ⟨_, rfl⟩
  obtain ⟨n, hne⟩ : ∃ n, s 100 (1025 * p + b) = n := ⟨_, rfl⟩
  have e : exS B f s p o v qx = if b = 0 then trpS (pp s p 3) p 1 else if 0 ≤ x ∧ x < n - 1 then upI (pp s p 3) 300 (hx p b x) y else trpS (pp s p 3) p 2 := by subst ho; subst hbe; subst hxe; subst hne; subst hye; rfl
  rw [e] at q
  rw [hbe] at et2 hb
  rw [et2] at ett2
  rw [hxe] at et
  rw [et] at ett
  rw [hye] at et0
  have hqp : QB (pp hi p 3) := hqq.pp
  have Hp := H0.pp_ (p := p) (n := 3)
  have e100 : pp hi p 3 100 (1025 * p + b) = n := ((ppz_n (by decide)).trans (H0.e (by omega))).trans hne
  have hb2 : b = 0 ∨ (1 ≤ b ∧ b ≤ 1024) := hb.elim Or.inl (fun z => Or.inr z.1)
  have R : Ev (d - 1) 313 [vR (some 49), vI p, vI b, vI x] al (pp hi p 3) hr (kon d 312 511 514 [vR (some 49), vI p, vI o, vI v, vI m, vI b, vI x, vI y] [] Q) := by
    by_cases c : b = 0
    · rw [if_pos c] at q
      have E := q _ (hE.sm Hp.trp_) Hp.trp_.fw
      refine r_isAt (n := 1) hA hR (by omega) hp.1 hqp hb2 (fun z => absurd c z) (by decide) (fun _ => ?_) (fun z => absurd c z) (fun z => absurd c z)
      simp only [kon, knt_some, knt_none, Option.toList_some, Option.toList_none, List.cons_append, List.nil_append]
      refine s312_514.mpr (wif (fun c514 => ?_) (fun c514 => ?_))
      · skip
        refine (s312_550).mpr ?_
        exact E
      · skip
        exact absurd rfl (by assumption)
    · rw [if_neg c] at q
      have hb1 : (1 ≤ b ∧ b ≤ 1024) ∧ 1 ≤ s 100 (1025 * p + b) ∧ s 100 (1025 * p + b) ≤ 1024 := hb.resolve_left c
      have hb3 := hb1.2
      rw [hne] at hb3
      refine r_isAt (n := n) hA hR (by omega) hp.1 hqp hb2 (fun _ => e100) (by omega) (fun z => absurd z c) (fun _ z => ?_) (fun _ z => ?_)
      · rw [if_neg z] at q
        have E := q _ (hE.sm Hp.trp_) Hp.trp_.fw
        simp only [kon, knt_some, knt_none, Option.toList_some, Option.toList_none, List.cons_append, List.nil_append]
        refine s312_514.mpr (wif (fun c514 => ?_) (fun c514 => ?_))
        · skip
          refine (s312_550).mpr ?_
          exact E
        · skip
          exact absurd rfl (by assumption)
      · rw [if_pos z] at q
        obtain ⟨pl, p103, p104⟩ := (hE.2 p hp.1.1 hp.1.2).b hb1.1 (by omega) z.1 (by rw [hne]; exact z.2)
        have hf := ((hE.2 p hp.1.1 hp.1.2).1 b hb1.1.1 hb1.1.2 (by omega)).1
        have e1 : pp hi p 3 101 (1025 * p + b) = hi 101 (1025 * p + b) := ppz_n (by decide)
        have ep : plc (pp hi p 3) p b x = plc hi p b x := by unfold plc; rw [e1]
        have s1 : pp s p 3 100 (1025 * p + b) = n := (ppz_n (by decide)).trans hne
        have E0 := RelR.wr (x := y) (b := b) (i := x) (hE.sm Hp) hp.1 hb1.1 (by rw [s1]; omega) z.1 (by rw [s1]; exact z.2)
        have E := q _ E0.1 (Hp.fw.tr E0.2)
        rw [ep] at E
        simp only [kon, knt_some, knt_none, Option.toList_some, Option.toList_none, List.cons_append, List.nil_append]
        refine s312_514.mpr (wif (fun c514 => ?_) (fun c514 => ?_))
        · skip
          first | exact absurd ‹(1 : Int) = 0› (by decide) | exact s312_550.mpr E
        · skip
          refine s312_517.mpr ((s312_518 kM).mpr ?_)
          rw [mr_73 hR]
          refine s312_521.mpr (s312_522.mpr (s312_523.mpr (s312_525.mpr ?_)))
          refine (s312_527 (by omega) kM).mpr ?_
          refine r_cell hA hR hp.1 hb1.1 (by rw [ep]; exact pl) (by rw [e1]; omega) ?_
          refine s312_530.mpr ?_
          refine (s312_532 (hA.k (by decide) (by decide) rfl) (by first | assumption | omega) (by first | assumption | omega)).mpr ?_
          refine s312_533.mpr ?_
          try simp (disch := first | decide | assumption | omega) only [kon, knt_some, knt_none, Option.toList_some, Option.toList_none, List.cons_append, List.nil_append, ep]
          first | exact absurd ‹(1 : Int) = 0› (by decide) | exact s312_550.mpr E
  refine s312_484.mpr (s312_485.mpr ?_)
  refine (s312_486 (by omega) kM).mpr ?_
  first | refine r_popValue hA hR (by omega) hp' (by rw [hgg]; omega) ?_ | refine r_popValue hA hR (by omega) hp1 (by rw [hh1, hgg]; omega) ?_ | refine r_popValue hA hR (by omega) hp2 (by rw [hh2, hgg]; omega) ?_
  try simp only [kon, knt_some, knt_none, Option.toList_some, Option.toList_none, List.cons_append, List.nil_append, ett, epp, et0, ett2, epp3]
  refine s312_489.mpr (s312_491.mpr (s312_492.mpr ?_))
  refine (s312_493 (by omega) kM).mpr ?_
  first | refine r_popValue hA hR (by omega) hp' (by rw [hgg]; omega) ?_ | refine r_popValue hA hR (by omega) hp1 (by rw [hh1, hgg]; omega) ?_ | refine r_popValue hA hR (by omega) hp2 (by rw [hh2, hgg]; omega) ?_
  try simp only [kon, knt_some, knt_none, Option.toList_some, Option.toList_none, List.cons_append, List.nil_append, ett, epp, et0, ett2, epp3]
  refine s312_496.mpr (s312_498.mpr (s312_499.mpr ?_))
  refine (s312_500 (by omega) kM).mpr ?_
  first | refine r_popValue hA hR (by omega) hp' (by rw [hgg]; omega) ?_ | refine r_popValue hA hR (by omega) hp1 (by rw [hh1, hgg]; omega) ?_ | refine r_popValue hA hR (by omega) hp2 (by rw [hh2, hgg]; omega) ?_
  try simp only [kon, knt_some, knt_none, Option.toList_some, Option.toList_none, List.cons_append, List.nil_append, ett, epp, et0, ett2, epp3]
  refine s312_503.mpr (s312_505.mpr (s312_506.mpr (s312_507.mpr (s312_509.mpr ?_))))
  refine (s312_511 (by omega) kM).mpr ?_
  exact R
theorem w_30 (hA : SA al) (hR : MR hr) (hd : 56 ≤ d) (hE : RelR hi s) (hp : AP s p) (hg0 : 0 ≤ hg s p ∧ hg s p ≤ 16) (hq : QB s) (q : ∀ hi', RelR hi' (exS B f s p o v qx) → FW wRn hi hi' → Q (some none) al hi' hr) (ho : o = 30) (hm : s 91 p = m) (m0 : 0 ≤ m ∧ m < 12) (v0 : 0 ≤ v ∧ v < 10) (hc : s 64 (10 * m + v) = nPar B v) (hn : 0 ≤ nPar B v ∧ nPar B v ≤ hg s p) : Wp d 312 536 [vR (some 49), vI p, vI o, vI v, vI m, none, none, none] [] al hi hr Q := by
  have kM : isK al 49 13 := hA.k (by decide) (by decide) rfl
  have H0 := Sm.rf hE.1
  have hp' : AP hi p := hp.n (H0.e (by omega))
  have hgg : hg hi p = hg s p := H0.hg_
  have hqq : QB hi := hq.eq (fun _ => H0.e (by omega)) (fun _ => H0.e (by omega)) (fun _ => H0.e (by omega)) (fun _ => H0.e (by omega))
  have e : exS B f s p o v qx = calS s p v (nPar B v) := by subst ho; rfl
  rw [e] at q
  have E := q _ (hE.sm H0.cal_) H0.cal_.fw
  refine s312_536.mpr (s312_537.mpr (s312_538.mpr ?_))
  refine (s312_539 (by omega) kM).mpr ?_
  refine r_call hA hR (by omega) hp' ((H0.e (by omega)).trans hm) m0 v0 ((H0.e (by omega)).trans hc) (by rw [hgg]; omega) hqq ?_
  refine s312_542.mpr ?_
  refine (s312_550).mpr ?_
  exact E
theorem w_31 (hA : SA al) (hR : MR hr) (hd : 56 ≤ d) (hE : RelR hi s) (hp : AP s p) (hg0 : 0 ≤ hg s p ∧ hg s p ≤ 16) (hq : QB s) (q : ∀ hi', RelR hi' (exS B f s p o v qx) → FW wRn hi hi' → Q (some none) al hi' hr) (ho : o = 31) (hm : s 91 p = m) (m0 : 0 ≤ m ∧ m < 12) (f0 : 0 ≤ f ∧ f < 10) (hf : s 95 (ai s p) = f) (hc : s 66 (10 * m + f) = rTy B f) (h1 : rTy B f ≠ -1 → 1 ≤ hg s p) (h2 : rTy B f ≠ -1 → 2 ≤ s 94 p → 0 ≤ s 97 (ai s p - 1) ∧ s 97 (ai s p - 1) < 16) : Wp d 312 545 [vR (some 49), vI p, vI o, vI v, vI m, none, none, none] [] al hi hr Q := by
  have kM : isK al 49 13 := hA.k (by decide) (by decide) rfl
  have H0 := Sm.rf hE.1
  have hp' : AP hi p := hp.n (H0.e (by omega))
  have hgg : hg hi p = hg s p := H0.hg_
  have hqq : QB hi := hq.eq (fun _ => H0.e (by omega)) (fun _ => H0.e (by omega)) (fun _ => H0.e (by omega)) (fun _ => H0.e (by omega))
  have e : exS B f s p o v qx = bckS s p (rTy B f ≠ -1) := by subst ho; rfl
  rw [e] at q
  have E := q _ (hE.sm H0.bck_) H0.bck_.fw
  have eai : ai hi p = ai s p := H0.ai_
  have e66 : hi 66 (10 * m + f) = rTy B f := (H0.e (by omega)).trans hc
  have e97 : hi 97 (ai s p - 1) = s 97 (ai s p - 1) := H0.e (by omega)
  have e94 : hi 94 p = s 94 p := H0.e (by omega)
  refine s312_545.mpr (s312_546.mpr ?_)
  refine (s312_547 (by omega) kM).mpr ?_
  refine r_back (c := rTy B f ≠ -1) hA hR (by omega) hp' ((H0.e (by omega)).trans hm) (by rw [eai]; exact (H0.e (by omega)).trans hf) m0 f0 (by rw [e66]) hqq (fun z => by rw [hgg]; have := h1 z; omega) (fun z z2 => by rw [eai, e97]; rw [e94] at z2; exact h2 z z2) ?_
  refine (s312_550).mpr ?_
  exact E
end RP1
