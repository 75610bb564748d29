/-! RUNNING, the reference: instructions with the heap -/
section RP0
variable {d : Nat} {al : AL} {hi : HI} {hr : HR} {Q : QQ} {s : HI} {p : Int} {B : Int → Int} {f o v qx m : Int}
/-- a box or none -/
def BxV (s : HI) (p b : Int) : Prop := b = 0 ∨ ((1 ≤ b ∧ b ≤ 1024) ∧ 1 ≤ s 100 (1025 * p + b) ∧ s 100 (1025 * p + b) ≤ 1024)
theorem QB.pp {s : HI} {p n : Int} (hq : QB s) : QB (pp s p n) := hq.eq (fun _ => ppz_n (by decide)) (fun _ => ppz_n (by decide)) (fun _ => ppz_n (by decide)) (fun _ => ppz_n (by decide))
theorem w_20 (hA : SA al) (hR : MR hr) (hd : 56 ≤ d) (hE : RelR hi s) (hp : AP s p) (hg0 : 0 ≤ hg s p ∧ hg s p ≤ 16) (hq : QB s) (q : ∀ hi', RelR hi' (exS B f s p o v qx) → FW wRn hi hi' → Q (some none) al hi' hr) (ho : o = 20) : Wp d 312 68 [vR (some 49), vI p, vI o, vI v, vI m, none, none, none] [] al hi hr Q := by
  have kM : isK al 49 13 := hA.k (by decide) (by decide) rfl
  have H0 := Sm.rf hE.1
  have hp' : AP hi p := hp.n (H0.e (by omega))
  have E := q (goS hi p v) (by subst ho; exact hE.sm H0.go_) H0.go_.fw
  refine s312_68.mpr (s312_69.mpr (s312_70.mpr ?_))
  refine (s312_71 (by omega) kM).mpr ?_
  refine r_goTo hA hR (by omega) hp' ?_
  refine s312_74.mpr ?_
  refine (s312_550).mpr ?_
  exact E
theorem w_21 (hA : SA al) (hR : MR hr) (hd : 56 ≤ d) (hE : RelR hi s) (hp : AP s p) (hg0 : 0 ≤ hg s p ∧ hg s p ≤ 16) (hq : QB s) (q : ∀ hi', RelR hi' (exS B f s p o v qx) → FW wRn hi hi' → Q (some none) al hi' hr) (ho : o = 21) (h1 : 1 ≤ hg s p) : Wp d 312 77 [vR (some 49), vI p, vI o, vI v, vI m, none, none, none] [] al hi hr Q := by
  have kM : isK al 49 13 := hA.k (by decide) (by decide) rfl
  have H0 := Sm.rf hE.1
  have hp' : AP hi p := hp.n (H0.e (by omega))
  have hgg : hg hi p = hg s p := H0.hg_
  have hp1 : AP (pp hi p 1) p := hp'.po
  have et : tv hi p 0 = tv s p 0 := H0.tv_
  have e : exS B f s p o v qx = if tv s p 0 = 0 then goS (pp s p 1) p v else pp s p 1 := by subst ho; rfl
  rw [e] at q
  by_cases c : tv s p 0 = 0
  · rw [if_pos c] at q
    have E := q _ (hE.sm H0.pp_.go_) H0.pp_.go_.fw
    rw [c] at et
    refine s312_77.mpr (s312_78.mpr ?_)
    refine (s312_79 (by omega) kM).mpr ?_
    refine r_popValue hA hR (by omega) hp' (by rw [hgg]; omega) ?_
    try simp only [kon, knt_some, knt_none, Option.toList_some, Option.toList_none, List.cons_append, List.nil_append, et]
    refine s312_82.mpr (wif (fun c82 => ?_) (fun c82 => ?_))
    · first
      | (exfalso; omega)
      | skip
        refine s312_85.mpr (s312_86.mpr (s312_87.mpr ?_))
        refine (s312_88 (by omega) kM).mpr ?_
        refine r_goTo hA hR (by omega) hp1 ?_
        refine s312_91.mpr ?_
        refine (s312_550).mpr ?_
        first | exact E | exact absurd rfl (by assumption)
    · first
      | (exfalso; omega)
      | skip
        refine (s312_550).mpr ?_
        first | exact E | exact absurd rfl (by assumption)
  · rw [if_neg c] at q
    have E := q _ (hE.sm H0.pp_) H0.pp_.fw
    refine s312_77.mpr (s312_78.mpr ?_)
    refine (s312_79 (by omega) kM).mpr ?_
    refine r_popValue hA hR (by omega) hp' (by rw [hgg]; omega) ?_
    try simp only [kon, knt_some, knt_none, Option.toList_some, Option.toList_none, List.cons_append, List.nil_append, et]
    refine s312_82.mpr (wif (fun c82 => ?_) (fun c82 => ?_))
    · first
      | (exfalso; omega)
      | skip
        exact absurd (by assumption) c
    · first
      | (exfalso; omega)
      | skip
        refine (s312_550).mpr ?_
        exact E
theorem w_23 (hA : SA al) (hR : MR hr) (hd : 56 ≤ d) (hE : RelR hi s) (hp : AP s p) (hg0 : 0 ≤ hg s p ∧ hg s p ≤ 16) (hq : QB s) (q : ∀ hi', RelR hi' (exS B f s p o v qx) → FW wRn hi hi' → Q (some none) al hi' hr) (ho : o = 23) (h1 : 1 ≤ hg s p) (hb : BxV s p (tv s p 0)) (hv : tv s p 0 ≠ 0 → 0 ≤ v ∧ v < s 100 (1025 * p + tv s p 0) - 1) : Wp d 312 205 [vR (some 49), vI p, vI o, vI v, vI m, none, none, none] [] al hi hr Q := by
  have kM : isK al 49 13 := hA.k (by decide) (by decide) rfl
  have H0 := Sm.rf hE.1
  have hp' : AP hi p := hp.n (H0.e (by omega))
  have hgg : hg hi p = hg s p := H0.hg_
  have hqq : QB hi := hq.eq (fun _ => H0.e (by omega)) (fun _ => H0.e (by omega)) (fun _ => H0.e (by omega)) (fun _ => H0.e (by omega))
  have l91 := SA.len (a := 91) (n := 12) hA (by decide) (by decide) rfl
  have l57 := SA.len (a := 57) (n := 104) hA (by decide) (by decide) rfl
  have l58 := SA.len (a := 58) (n := 624) hA (by decide) (by decide) rfl
  have l104 := SA.len (a := 104) (n := 12288) hA (by decide) (by decide) rfl
  have l103 := SA.len (a := 103) (n := 12288) hA (by decide) (by decide) rfl
  have l100 := SA.len (a := 100) (n := 12300) hA (by decide) (by decide) rfl
  have hpb := hp.1
  have hp1 : AP (pp hi p 1) p := hp'.po
  have hh1 : hg (pp hi p 1) p = hg hi p - 1 := ppz_hg
  have et : tv hi p 0 = tv s p 0 := H0.tv_
  obtain ⟨b, hbe⟩ : ∃ b, tv s p 0 = b := ⟨_, rfl⟩
  have e : exS B f s p o v qx = if b = 0 then trpS (pp s p 1) p 1 else psh (pp s p 1) p (s 300 (hx p b v)) (s 301 (hx p b v)) := by subst ho; subst hbe; rfl
  rw [e] at q
  rw [hbe] at et hb hv
  by_cases c : b = 0
  · rw [if_pos c] at q
    have E := q _ (hE.sm H0.pp_.trp_) H0.pp_.trp_.fw
    subst c
    refine s312_205.mpr (s312_206.mpr ?_)
    refine (s312_207 (by omega) kM).mpr ?_
    refine r_popValue hA hR (by omega) hp' (by rw [hgg]; omega) ?_
    try simp only [kon, knt_some, knt_none, Option.toList_some, Option.toList_none, List.cons_append, List.nil_append, et]
    refine s312_210.mpr (s312_212.mpr ?_)
    refine s312_214.mpr (wif (fun c214 => ?_) (fun c214 => ?_))
    · skip
      refine s312_217.mpr (s312_218.mpr (s312_219.mpr ?_))
      refine (s312_220 (by omega) kM).mpr ?_
      refine r_trap hA hR (by omega) hqq.pp hp.1 ?_
      refine s312_223.mpr ?_
      refine (s312_550).mpr ?_
      exact E
    · skip
      exact absurd rfl (by assumption)
  · rw [if_neg c] at q
    have hb1 : (1 ≤ b ∧ b ≤ 1024) ∧ 1 ≤ s 100 (1025 * p + b) ∧ s 100 (1025 * p + b) ≤ 1024 := hb.resolve_left c
    have hv1 := hv c
    obtain ⟨pl, p103, p104⟩ := (hE.2 p hp.1.1 hp.1.2).b hb1.1 (by omega) hv1.1 hv1.2
    have hf := ((hE.2 p hp.1.1 hp.1.2).1 b hb1.1.1 hb1.1.2 (by omega)).1
    have e1 : pp hi p 1 101 (1025 * p + b) = hi 101 (1025 * p + b) := ppz_n (by decide)
    have ep : plc (pp hi p 1) p b v = plc hi p b v := by unfold plc; rw [e1]
    have p103' : pp hi p 1 103 (plc hi p b v) = s 300 (hx p b v) := (ppz_n (by decide)).trans p103
    have p104' : pp hi p 1 104 (plc hi p b v) = s 301 (hx p b v) := (ppz_n (by decide)).trans p104
    have E := q _ (hE.sm (H0.pp_.psh_ rfl rfl)) (H0.pp_.psh_ (p := p) (v := s 300 (hx p b v)) (w := s 301 (hx p b v)) rfl rfl).fw
    refine s312_205.mpr (s312_206.mpr ?_)
    refine (s312_207 (by omega) kM).mpr ?_
    refine r_popValue hA hR (by omega) hp' (by rw [hgg]; omega) ?_
    try simp only [kon, knt_some, knt_none, Option.toList_some, Option.toList_none, List.cons_append, List.nil_append, et]
    refine s312_210.mpr (s312_212.mpr ?_)
    refine s312_214.mpr (wif (fun c214 => ?_) (fun c214 => ?_))
    · skip
      exact absurd (by assumption) c
    · skip
      refine s312_226.mpr (s312_227.mpr (s312_228.mpr ((s312_229 kM).mpr ?_)))
      rw [mr_73 hR]
      refine s312_232.mpr (s312_233.mpr (s312_234.mpr (s312_236.mpr ?_)))
      refine (s312_237 (by omega) kM).mpr ?_
      refine r_cell hA hR hp.1 hb1.1 (by rw [ep]; exact pl) (by rw [e1]; omega) ?_
      refine (s312_240 (hA.k (by decide) (by decide) rfl) (by first | assumption | omega) (by first | assumption | omega)).mpr ?_
      refine s312_241.mpr ((s312_242 kM).mpr ?_)
      rw [mr_74 hR]
      refine s312_245.mpr (s312_246.mpr (s312_247.mpr (s312_249.mpr ?_)))
      try simp (disch := first | decide | assumption | omega) only [kon, knt_some, knt_none, Option.toList_some, Option.toList_none, List.cons_append, List.nil_append, et, ep, p103', p104']
      refine (s312_250 (by omega) kM).mpr ?_
      refine r_cell hA hR hp.1 hb1.1 (by rw [ep]; exact pl) (by rw [e1]; omega) ?_
      refine (s312_253 (hA.k (by decide) (by decide) rfl) (by first | assumption | omega) (by first | assumption | omega)).mpr ?_
      try simp (disch := first | decide | assumption | omega) only [kon, knt_some, knt_none, Option.toList_some, Option.toList_none, List.cons_append, List.nil_append, et, ep, p103', p104']
      refine (s312_254 (by omega) kM).mpr ?_
      refine r_push hA hR (by omega) hp1 (by rw [hh1, hgg]; omega) ?_
      refine s312_257.mpr ?_
      refine (s312_550).mpr ?_
      exact E
theorem w_24 (hA : SA al) (hR : MR hr) (hd : 56 ≤ d) (hE : RelR hi s) (hp : AP s p) (hg0 : 0 ≤ hg s p ∧ hg s p ≤ 16) (hq : QB s) (q : ∀ hi', RelR hi' (exS B f s p o v qx) → FW wRn hi hi' → Q (some none) al hi' hr) (ho : o = 24) (h1 : 2 ≤ hg s p) (hb : BxV s p (tv s p 1)) (hv : tv s p 1 ≠ 0 → 0 ≤ v ∧ v < s 100 (1025 * p + tv s p 1) - 1) : Wp d 312 260 [vR (some 49), vI p, vI o, vI v, vI m, none, none, none] [] al hi hr Q := by
  have kM : isK al 49 13 := hA.k (by decide) (by decide) rfl
  have H0 := Sm.rf hE.1
  have hp' : AP hi p := hp.n (H0.e (by omega))
  have hgg : hg hi p = hg s p := H0.hg_
  have hqq : QB hi := hq.eq (fun _ => H0.e (by omega)) (fun _ => H0.e (by omega)) (fun _ => H0.e (by omega)) (fun _ => H0.e (by omega))
  have l91 := SA.len (a := 91) (n := 12) hA (by decide) (by decide) rfl
  have l57 := SA.len (a := 57) (n := 104) hA (by decide) (by decide) rfl
  have l58 := SA.len (a := 58) (n := 624) hA (by decide) (by decide) rfl
  have l104 := SA.len (a := 104) (n := 12288) hA (by decide) (by decide) rfl
  have l103 := SA.len (a := 103) (n := 12288) hA (by decide) (by decide) rfl
  have l100 := SA.len (a := 100) (n := 12300) hA (by decide) (by decide) rfl
  have hpb := hp.1
  have hp1 : AP (pp hi p 1) p := hp'.po
  have hh1 : hg (pp hi p 1) p = hg hi p - 1 := ppz_hg
  have epp : pp (pp hi p 1) p 1 = pp hi p 2 := pp_pp
  have ett : tv (pp hi p 1) p 0 = tv hi p 1 := tv_pp
  have et : tv hi p 1 = tv s p 1 := H0.tv_
  have et0 : tv hi p 0 = tv s p 0 := H0.tv_
  obtain ⟨x, hxe⟩ : ∃ x, tv s p 0 = x := ⟨_, rfl⟩
  obtain ⟨b, hbe⟩ : ∃ b, tv s p 1 = b := ⟨_, rfl⟩
  have e : exS B f s p o v qx = if b = 0 then trpS (pp s p 2) p 1 else upI (pp s p 2) 300 (hx p b v) x := by subst ho; subst hbe; subst hxe; rfl
  rw [e] at q
  rw [hbe] at et hb hv
  rw [et] at ett
  rw [hxe] at et0
  have hqp : QB (pp hi p 2) := hqq.pp
  by_cases c : b = 0
  · rw [if_pos c] at q
    have E := q _ (hE.sm (H0.pp_ (n := 2)).trp_) (H0.pp_ (n := 2)).trp_.fw
    subst c
    refine s312_260.mpr (s312_261.mpr ?_)
    refine (s312_262 (by omega) kM).mpr ?_
    first | refine r_popValue hA hR (by omega) hp' (by rw [hgg]; omega) ?_ | refine r_popValue hA hR (by omega) hp1 (by rw [hh1, hgg]; omega) ?_
    try simp only [kon, knt_some, knt_none, Option.toList_some, Option.toList_none, List.cons_append, List.nil_append, ett, epp, et0]
    refine s312_265.mpr (s312_267.mpr (s312_268.mpr ?_))
    refine (s312_269 (by omega) kM).mpr ?_
    first | refine r_popValue hA hR (by omega) hp' (by rw [hgg]; omega) ?_ | refine r_popValue hA hR (by omega) hp1 (by rw [hh1, hgg]; omega) ?_
    try simp only [kon, knt_some, knt_none, Option.toList_some, Option.toList_none, List.cons_append, List.nil_append, ett, epp, et0]
    refine s312_272.mpr (s312_274.mpr ?_)
    refine s312_276.mpr (wif (fun c276 => ?_) (fun c276 => ?_))
    · skip
      refine s312_279.mpr (s312_280.mpr (s312_281.mpr ?_))
      refine (s312_282 (by omega) kM).mpr ?_
      (try rw [epp]); refine r_trap hA hR (by omega) hqp hp.1 ?_
      refine s312_285.mpr ?_
      refine (s312_550).mpr ?_
      exact E
    · skip
      exact absurd rfl (by assumption)
  · rw [if_neg c] at q
    have hb1 : (1 ≤ b ∧ b ≤ 1024) ∧ 1 ≤ s 100 (1025 * p + b) ∧ s 100 (1025 * p + b) ≤ 1024 := hb.resolve_left c
    have hv1 := hv c
    obtain ⟨pl, p103, p104⟩ := (hE.2 p hp.1.1 hp.1.2).b hb1.1 (by omega) hv1.1 hv1.2
    have hf := ((hE.2 p hp.1.1 hp.1.2).1 b hb1.1.1 hb1.1.2 (by omega)).1
    have e1 : pp hi p 2 101 (1025 * p + b) = hi 101 (1025 * p + b) := ppz_n (by decide)
    have ep : plc (pp hi p 2) p b v = plc hi p b v := by unfold plc; rw [e1]
    have s1 : pp s p 2 100 (1025 * p + b) = s 100 (1025 * p + b) := ppz_n (by decide)
    have E0 := RelR.wr (x := x) (b := b) (i := v) (hE.sm (H0.pp_ (p := p) (n := 2))) hp.1 hb1.1 (by rw [s1]; omega) hv1.1 (by rw [s1]; exact hv1.2)
    have E := q _ E0.1 ((H0.pp_ (p := p) (n := 2)).fw.tr E0.2)
    rw [ep] at E
    refine s312_260.mpr (s312_261.mpr ?_)
    refine (s312_262 (by omega) kM).mpr ?_
    first | refine r_popValue hA hR (by omega) hp' (by rw [hgg]; omega) ?_ | refine r_popValue hA hR (by omega) hp1 (by rw [hh1, hgg]; omega) ?_
    try simp only [kon, knt_some, knt_none, Option.toList_some, Option.toList_none, List.cons_append, List.nil_append, ett, epp, et0]
    refine s312_265.mpr (s312_267.mpr (s312_268.mpr ?_))
    refine (s312_269 (by omega) kM).mpr ?_
    first | refine r_popValue hA hR (by omega) hp' (by rw [hgg]; omega) ?_ | refine r_popValue hA hR (by omega) hp1 (by rw [hh1, hgg]; omega) ?_
    try simp only [kon, knt_some, knt_none, Option.toList_some, Option.toList_none, List.cons_append, List.nil_append, ett, epp, et0]
    refine s312_272.mpr (s312_274.mpr ?_)
    refine s312_276.mpr (wif (fun c276 => ?_) (fun c276 => ?_))
    · skip
      exact absurd (by assumption) c
    · skip
      refine s312_288.mpr ((s312_289 kM).mpr ?_)
      rw [mr_73 hR]
      refine s312_292.mpr (s312_293.mpr (s312_294.mpr (s312_296.mpr ?_)))
      refine (s312_297 (by omega) kM).mpr ?_
      (try rw [epp]); refine r_cell hA hR hp.1 hb1.1 (by rw [ep]; exact pl) (by rw [e1]; omega) ?_
      refine s312_300.mpr ?_
      refine (s312_302 (hA.k (by decide) (by decide) rfl) (by first | assumption | omega) (by first | assumption | omega)).mpr ?_
      refine s312_303.mpr ?_
      try simp (disch := first | decide | assumption | omega) only [kon, knt_some, knt_none, Option.toList_some, Option.toList_none, List.cons_append, List.nil_append, ett, epp, et0, ep]
      refine (s312_550).mpr ?_
      exact E
theorem w_27 (hA : SA al) (hR : MR hr) (hd : 56 ≤ d) (hE : RelR hi s) (hp : AP s p) (hg0 : 0 ≤ hg s p ∧ hg s p ≤ 16) (hq : QB s) (q : ∀ hi', RelR hi' (exS B f s p o v qx) → FW wRn hi hi' → Q (some none) al hi' hr) (ho : o = 27) (h1 : 1 ≤ hg s p) (hb : BxV s p (tv s p 0)) : Wp d 312 377 [vR (some 49), vI p, vI o, vI v, vI m, none, none, none] [] al hi hr Q := by
  have kM : isK al 49 13 := hA.k (by decide) (by decide) rfl
  have H0 := Sm.rf hE.1
  have hp' : AP hi p := hp.n (H0.e (by omega))
  have hgg : hg hi p = hg s p := H0.hg_
  have hqq : QB hi := hq.eq (fun _ => H0.e (by omega)) (fun _ => H0.e (by omega)) (fun _ => H0.e (by omega)) (fun _ => H0.e (by omega))
  have l91 := SA.len (a := 91) (n := 12) hA (by decide) (by decide) rfl
  have l57 := SA.len (a := 57) (n := 104) hA (by decide) (by decide) rfl
  have l58 := SA.len (a := 58) (n := 624) hA (by decide) (by decide) rfl
  have l104 := SA.len (a := 104) (n := 12288) hA (by decide) (by decide) rfl
  have l103 := SA.len (a := 103) (n := 12288) hA (by decide) (by decide) rfl
  have l100 := SA.len (a := 100) (n := 12300) hA (by decide) (by decide) rfl
  have hpb := hp.1
  have hp1 : AP (pp hi p 1) p := hp'.po
  have hh1 : hg (pp hi p 1) p = hg hi p - 1 := ppz_hg
  have et : tv hi p 0 = tv s p 0 := H0.tv_
  obtain ⟨b, hbe⟩ : ∃ b, tv s p 0 = b := ⟨_, rfl⟩
  have e : exS B f s p o v qx = if b = 0 then trpS (pp s p 1) p 1 else psh (pp s p 1) p (s 100 (1025 * p + b) - 1) 0 := by subst ho; subst hbe; rfl
  rw [e] at q
  rw [hbe] at et hb
  by_cases c : b = 0
  · rw [if_pos c] at q
    have E := q _ (hE.sm H0.pp_.trp_) H0.pp_.trp_.fw
    subst c
    refine s312_377.mpr (s312_378.mpr ?_)
    refine (s312_379 (by omega) kM).mpr ?_
    refine r_popValue hA hR (by omega) hp' (by rw [hgg]; omega) ?_
    try simp only [kon, knt_some, knt_none, Option.toList_some, Option.toList_none, List.cons_append, List.nil_append, et]
    refine s312_382.mpr (s312_384.mpr ?_)
    refine s312_386.mpr (wif (fun c386 => ?_) (fun c386 => ?_))
    · skip
      refine s312_389.mpr (s312_390.mpr (s312_391.mpr ?_))
      refine (s312_392 (by omega) kM).mpr ?_
      refine r_trap hA hR (by omega) hqq.pp hp.1 ?_
      refine s312_395.mpr ?_
      refine (s312_550).mpr ?_
      exact E
    · skip
      exact absurd rfl (by assumption)
  · rw [if_neg c] at q
    have hb1 : (1 ≤ b ∧ b ≤ 1024) ∧ 1 ≤ s 100 (1025 * p + b) ∧ s 100 (1025 * p + b) ≤ 1024 := hb.resolve_left c
    have e1 : pp hi p 1 100 (1025 * p + b) = s 100 (1025 * p + b) := (ppz_n (by decide)).trans (H0.e (by omega))
    have E := q _ (hE.sm (H0.pp_.psh_ rfl rfl)) (H0.pp_.psh_ (p := p) (v := s 100 (1025 * p + b) - 1) (w := 0) rfl rfl).fw
    refine s312_377.mpr (s312_378.mpr ?_)
    refine (s312_379 (by omega) kM).mpr ?_
    refine r_popValue hA hR (by omega) hp' (by rw [hgg]; omega) ?_
    try simp only [kon, knt_some, knt_none, Option.toList_some, Option.toList_none, List.cons_append, List.nil_append, et]
    refine s312_382.mpr (s312_384.mpr ?_)
    refine s312_386.mpr (wif (fun c386 => ?_) (fun c386 => ?_))
    · skip
      exact absurd (by assumption) c
    · skip
      refine s312_398.mpr (s312_399.mpr (s312_400.mpr ((s312_401 kM).mpr ?_)))
      rw [mr_70 hR]
      refine s312_404.mpr (s312_407.mpr (s312_408.mpr (s312_409.mpr (s312_411.mpr ?_))))
      try simp (disch := first | decide | assumption | omega) only [kon, knt_some, knt_none, Option.toList_some, Option.toList_none, List.cons_append, List.nil_append, et, e1, fAdd_id, fMul_id, fSub_id]
      refine (s312_412 (hA.k (by decide) (by decide) rfl) (by first | assumption | omega) (by first | assumption | omega)).mpr ?_
      refine s312_413.mpr (s312_414.mpr (s312_415.mpr ?_))
      try simp (disch := first | decide | assumption | omega) only [kon, knt_some, knt_none, Option.toList_some, Option.toList_none, List.cons_append, List.nil_append, et, e1, fAdd_id, fMul_id, fSub_id]
      refine (s312_416 (by omega) kM).mpr ?_
      refine r_push hA hR (by omega) hp1 (by rw [hh1, hgg]; omega) ?_
      refine s312_419.mpr ?_
      refine (s312_550).mpr ?_
      exact E
end RP0
