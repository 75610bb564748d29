/-! RUNNING, the reference: the other linear instructions -/
section RP5
variable {d : Nat} {al : AL} {hi : HI} {hr : HR} {Q : QQ} {s : HI} {p : Int} {B : Int → Int} {f o v qx m : Int}
theorem l_33 (hA : SA al) (hR : MR hr) (hd : 56 ≤ d) (hE : RelR hi s) (hp : AP s p) (hg0 : 0 ≤ hg s p ∧ hg s p ≤ 16) (hq : QB s) (q : ∀ hi', RelR hi' (exS B f s p o v qx) → FW wRn hi hi' → Q (some none) al hi' hr) (ho : o = 33) (h1 : 1 ≤ hg s p ∧ hg s p < 16) (hb : 0 ≤ tv s p 0 ∧ tv s p 0 < 128) (v0 : 0 ≤ v ∧ v < 6) : Wp d 316 69 [vR (some 49), vI p, vI o, vI v, vI qx, none] [] al hi hr Q := by
  have kM : isK al 49 13 := hA.k (by decide) (by decide) rfl
  have H0 := Sm.rf hE.1
  have hp' : AP hi p := hp.n (H0.e (by omega))
  have hgg : hg hi p = hg s p := H0.hg_
  have hqq : QB hi := hq.eq (fun _ => H0.e (by omega)) (fun _ => H0.e (by omega)) (fun _ => H0.e (by omega)) (fun _ => H0.e (by omega))
  have l111 := SA.len (a := 111) (n := 768) hA (by decide) (by decide) rfl
  have l98 := SA.len (a := 98) (n := 4992) hA (by decide) (by decide) rfl
  have l97 := SA.len (a := 97) (n := 192) hA (by decide) (by decide) rfl
  have l109 := SA.len (a := 109) (n := 128) hA (by decide) (by decide) rfl
  have l87 := SA.len (a := 87) (n := 500) hA (by decide) (by decide) rfl
  have l88 := SA.len (a := 88) (n := 500) hA (by decide) (by decide) rfl
  have hpb := hp.1
  have hp1 : AP (pp hi p 1) p := hp'.po
  have hh1 : hg (pp hi p 1) p = hg hi p - 1 := ppz_hg
  have et0 : tv hi p 0 = tv s p 0 := H0.tv_
  have et1 : tv hi p 1 = tv s p 1 := H0.tv_
  obtain ⟨b, hbe⟩ : ∃ b, tv s p 0 = b := ⟨_, rfl⟩
  have e : exS B f s p o v qx = psh s p (s 111 (6 * b + v)) 0 := by subst ho; subst hbe; rfl
  rw [e] at q
  rw [hbe] at et0 hb
  have e111 : hi 111 (6 * b + v) = s 111 (6 * b + v) := H0.e (by omega)
  have ehg : hi 97 (ai hi p) = hg hi p := rfl
  have e98 := @tv_e hi p
  rw [et0] at e98
  have hs := sk_b (k := hg hi p - 1) hp' (by omega)
  have k97 : isK al 97 15 := hA.k (by decide) (by decide) rfl
  have l97 : aln al 97 = 192 := hA.len (by decide) (by decide) rfl
  have hb9 := hp'.b
  have E := q _ (hE.sm (H0.psh_ rfl rfl)) (H0.psh_ (p := p) (v := s 111 (6 * b + v)) (w := 0) rfl rfl).fw
  refine s316_69.mpr (s316_70.mpr (s316_71.mpr ((s316_72 kM).mpr ?_)))
  rw [mr_81 hR]
  refine s316_75.mpr (s316_77.mpr ((s316_78 kM).mpr ?_))
  rw [mr_68 hR]
  refine s316_81.mpr (s316_82.mpr (s316_83.mpr ((s316_84 kM).mpr ?_)))
  rw [mr_67 hR]
  refine s316_87.mpr (s316_88.mpr ?_)
  refine (s316_89 (by omega) kM).mpr ?_
  refine r_act hA hR hp' ?_
  refine (s316_92 (hA.k (by decide) (by decide) rfl) (by first | assumption | omega) (by first | assumption | omega)).mpr ?_
  refine s316_93.mpr (s316_94.mpr ?_)
  try simp (disch := first | decide | assumption | omega) only [kon, knt_some, knt_none, Option.toList_some, Option.toList_none, List.cons_append, List.nil_append, ehg, e98, e111, fAdd_id, fMul_id, fSub_id]
  refine (s316_95 (by omega) kM).mpr ?_
  refine r_stack hA hR (by omega) hp' (by omega) ?_
  refine (s316_98 (hA.k (by decide) (by decide) rfl) (by first | assumption | omega) (by first | assumption | omega)).mpr ?_
  refine s316_99.mpr (s316_100.mpr (s316_101.mpr ?_))
  try simp (disch := first | decide | assumption | omega) only [kon, knt_some, knt_none, Option.toList_some, Option.toList_none, List.cons_append, List.nil_append, ehg, e98, e111, fAdd_id, fMul_id, fSub_id]
  refine (s316_102 (hA.k (by decide) (by decide) rfl) (by first | assumption | omega) (by first | assumption | omega)).mpr ?_
  refine s316_103.mpr ?_
  try simp (disch := first | decide | assumption | omega) only [kon, knt_some, knt_none, Option.toList_some, Option.toList_none, List.cons_append, List.nil_append, ehg, e98, e111, fAdd_id, fMul_id, fSub_id]
  refine (s316_104 (by omega) kM).mpr ?_
  refine r_push hA hR (by omega) hp' (by rw [hgg]; omega) ?_
  refine s316_107.mpr ?_
  refine (s316_300).mpr ?_
  exact E
theorem l_34 (hA : SA al) (hR : MR hr) (hd : 56 ≤ d) (hE : RelR hi s) (hp : AP s p) (hg0 : 0 ≤ hg s p ∧ hg s p ≤ 16) (hq : QB s) (q : ∀ hi', RelR hi' (exS B f s p o v qx) → FW wRn hi hi' → Q (some none) al hi' hr) (ho : o = 34) (h1 : 2 ≤ hg s p) (hb : 0 ≤ tv s p 1 ∧ tv s p 1 < 128) (v0 : 0 ≤ v ∧ v < 6) : Wp d 316 110 [vR (some 49), vI p, vI o, vI v, vI qx, none] [] al hi hr Q := by
  have kM : isK al 49 13 := hA.k (by decide) (by decide) rfl
  have H0 := Sm.rf hE.1
  have hp' : AP hi p := hp.n (H0.e (by omega))
  have hgg : hg hi p = hg s p := H0.hg_
  have hqq : QB hi := hq.eq (fun _ => H0.e (by omega)) (fun _ => H0.e (by omega)) (fun _ => H0.e (by omega)) (fun _ => H0.e (by omega))
  have l111 := SA.len (a := 111) (n := 768) hA (by decide) (by decide) rfl
  have l98 := SA.len (a := 98) (n := 4992) hA (by decide) (by decide) rfl
  have l97 := SA.len (a := 97) (n := 192) hA (by decide) (by decide) rfl
  have l109 := SA.len (a := 109) (n := 128) hA (by decide) (by decide) rfl
  have l87 := SA.len (a := 87) (n := 500) hA (by decide) (by decide) rfl
  have l88 := SA.len (a := 88) (n := 500) hA (by decide) (by decide) rfl
  have hpb := hp.1
  have hp1 : AP (pp hi p 1) p := hp'.po
  have hh1 : hg (pp hi p 1) p = hg hi p - 1 := ppz_hg
  have et0 : tv hi p 0 = tv s p 0 := H0.tv_
  have et1 : tv hi p 1 = tv s p 1 := H0.tv_
  obtain ⟨x, hxe⟩ : ∃ x, tv s p 0 = x := ⟨_, rfl⟩
  obtain ⟨b, hbe⟩ : ∃ b, tv s p 1 = b := ⟨_, rfl⟩
  have e : exS B f s p o v qx = upI (pp s p 1) 111 (6 * b + v) x := by subst ho; subst hbe; subst hxe; rfl
  rw [e] at q
  rw [hbe] at et1 hb
  rw [hxe] at et0
  have ett : tv (pp hi p 1) p 0 = b := tv_pp.trans et1
  have eai : ai (pp hi p 1) p = ai hi p := ppz_ai
  have ehg : pp hi p 1 97 (ai hi p) = hg hi p - 1 := upI_eq
  have e98 : pp hi p 1 98 (sk (pp hi p 1) p (hg hi p - 1 - 1)) = b := by rw [← ett, ← hh1]; exact tv_e
  have hs := sk_b (k := hg hi p - 1 - 1) hp1 (by omega)
  have k97 : isK al 97 15 := hA.k (by decide) (by decide) rfl
  have l97 : aln al 97 = 192 := hA.len (by decide) (by decide) rfl
  have hb9 := hp'.b
  have E := q _ (hE.sm (H0.pp_.up (a := 111) (i := 6 * b + v) (v := x) (by unfold hpC; omega) rfl)) ((H0.pp_ (p := p) (n := 1)).up (a := 111) (i := 6 * b + v) (v := x) (by unfold hpC; omega) rfl).fw
  refine s316_110.mpr (s316_111.mpr ?_)
  refine (s316_112 (by omega) kM).mpr ?_
  refine r_popValue hA hR (by omega) hp' (by rw [hgg]; omega) ?_
  try simp only [kon, knt_some, knt_none, Option.toList_some, Option.toList_none, List.cons_append, List.nil_append, et0]
  refine s316_115.mpr (s316_117.mpr ((s316_118 kM).mpr ?_))
  rw [mr_81 hR]
  refine s316_121.mpr (s316_123.mpr ((s316_124 kM).mpr ?_))
  rw [mr_68 hR]
  refine s316_127.mpr (s316_128.mpr (s316_129.mpr ((s316_130 kM).mpr ?_)))
  rw [mr_67 hR]
  refine s316_133.mpr (s316_134.mpr ?_)
  refine (s316_135 (by omega) kM).mpr ?_
  refine r_act hA hR hp1 ?_
  refine (s316_138 (hA.k (by decide) (by decide) rfl) (by first | assumption | omega) (by first | assumption | omega)).mpr ?_
  refine s316_139.mpr (s316_140.mpr ?_)
  try simp (disch := first | decide | assumption | omega) only [kon, knt_some, knt_none, Option.toList_some, Option.toList_none, List.cons_append, List.nil_append, eai, ehg, e98, et0, fAdd_id, fMul_id, fSub_id]
  refine (s316_141 (by omega) kM).mpr ?_
  refine r_stack hA hR (by omega) hp1 (by omega) ?_
  refine (s316_144 (hA.k (by decide) (by decide) rfl) (by first | assumption | omega) (by first | assumption | omega)).mpr ?_
  refine s316_145.mpr (s316_146.mpr (s316_147.mpr (s316_148.mpr ?_)))
  try simp (disch := first | decide | assumption | omega) only [kon, knt_some, knt_none, Option.toList_some, Option.toList_none, List.cons_append, List.nil_append, eai, ehg, e98, et0, fAdd_id, fMul_id, fSub_id]
  refine (s316_150 (hA.k (by decide) (by decide) rfl) (by first | assumption | omega) (by first | assumption | omega)).mpr ?_
  refine s316_151.mpr ?_
  try simp (disch := first | decide | assumption | omega) only [kon, knt_some, knt_none, Option.toList_some, Option.toList_none, List.cons_append, List.nil_append, eai, ehg, e98, et0, fAdd_id, fMul_id, fSub_id]
  refine (s316_300).mpr ?_
  exact E
theorem l_35 (hA : SA al) (hR : MR hr) (hd : 56 ≤ d) (hE : RelR hi s) (hp : AP s p) (hg0 : 0 ≤ hg s p ∧ hg s p ≤ 16) (hq : QB s) (q : ∀ hi', RelR hi' (exS B f s p o v qx) → FW wRn hi hi' → Q (some none) al hi' hr) (ho : o = 35) (h1 : 1 ≤ hg s p) (hb : 0 ≤ tv s p 0 ∧ tv s p 0 < 128) : Wp d 316 154 [vR (some 49), vI p, vI o, vI v, vI qx, none] [] al hi hr Q := by
  have kM : isK al 49 13 := hA.k (by decide) (by decide) rfl
  have H0 := Sm.rf hE.1
  have hp' : AP hi p := hp.n (H0.e (by omega))
  have hgg : hg hi p = hg s p := H0.hg_
  have hqq : QB hi := hq.eq (fun _ => H0.e (by omega)) (fun _ => H0.e (by omega)) (fun _ => H0.e (by omega)) (fun _ => H0.e (by omega))
  have l111 := SA.len (a := 111) (n := 768) hA (by decide) (by decide) rfl
  have l98 := SA.len (a := 98) (n := 4992) hA (by decide) (by decide) rfl
  have l97 := SA.len (a := 97) (n := 192) hA (by decide) (by decide) rfl
  have l109 := SA.len (a := 109) (n := 128) hA (by decide) (by decide) rfl
  have l87 := SA.len (a := 87) (n := 500) hA (by decide) (by decide) rfl
  have l88 := SA.len (a := 88) (n := 500) hA (by decide) (by decide) rfl
  have hpb := hp.1
  have hp1 : AP (pp hi p 1) p := hp'.po
  have hh1 : hg (pp hi p 1) p = hg hi p - 1 := ppz_hg
  have et0 : tv hi p 0 = tv s p 0 := H0.tv_
  have et1 : tv hi p 1 = tv s p 1 := H0.tv_
  obtain ⟨b, hbe⟩ : ∃ b, tv s p 0 = b := ⟨_, rfl⟩
  have e : exS B f s p o v qx = upI (pp s p 1) 109 b (-1) := by subst ho; subst hbe; rfl
  rw [e] at q
  rw [hbe] at et0 hb
  have E := q _ (hE.sm (H0.pp_.up (a := 109) (i := b) (v := -1) (by unfold hpC; omega) rfl)) ((H0.pp_ (p := p) (n := 1)).up (a := 109) (i := b) (v := -1) (by unfold hpC; omega) rfl).fw
  refine s316_154.mpr (s316_155.mpr ?_)
  refine (s316_156 (by omega) kM).mpr ?_
  refine r_popValue hA hR (by omega) hp' (by rw [hgg]; omega) ?_
  try simp only [kon, knt_some, knt_none, Option.toList_some, Option.toList_none, List.cons_append, List.nil_append, et0]
  refine s316_159.mpr (s316_161.mpr ((s316_162 kM).mpr ?_))
  rw [mr_79 hR]
  refine s316_165.mpr (s316_167.mpr ?_)
  refine (s316_168 (hA.k (by decide) (by decide) rfl) (by first | assumption | omega) (by first | assumption | omega)).mpr ?_
  refine s316_169.mpr ?_
  try simp (disch := first | decide | assumption | omega) only [kon, knt_some, knt_none, Option.toList_some, Option.toList_none, List.cons_append, List.nil_append, et0]
  refine (s316_300).mpr ?_
  exact E
theorem l_36 (hA : SA al) (hR : MR hr) (hd : 56 ≤ d) (hE : RelR hi s) (hp : AP s p) (hg0 : 0 ≤ hg s p ∧ hg s p ≤ 16) (hq : QB s) (q : ∀ hi', RelR hi' (exS B f s p o v qx) → FW wRn hi hi' → Q (some none) al hi' hr) (ho : o = 36) (h1 : hg s p < 15) (hm : s 91 p = m) (m0 : 0 ≤ m ∧ m < 12) (v0 : 0 ≤ v ∧ v < 256) : Wp d 316 172 [vR (some 49), vI p, vI o, vI v, vI qx, none] [] al hi hr Q := by
  have kM : isK al 49 13 := hA.k (by decide) (by decide) rfl
  have H0 := Sm.rf hE.1
  have hp' : AP hi p := hp.n (H0.e (by omega))
  have hgg : hg hi p = hg s p := H0.hg_
  have hqq : QB hi := hq.eq (fun _ => H0.e (by omega)) (fun _ => H0.e (by omega)) (fun _ => H0.e (by omega)) (fun _ => H0.e (by omega))
  have l111 := SA.len (a := 111) (n := 768) hA (by decide) (by decide) rfl
  have l98 := SA.len (a := 98) (n := 4992) hA (by decide) (by decide) rfl
  have l97 := SA.len (a := 97) (n := 192) hA (by decide) (by decide) rfl
  have l109 := SA.len (a := 109) (n := 128) hA (by decide) (by decide) rfl
  have l87 := SA.len (a := 87) (n := 500) hA (by decide) (by decide) rfl
  have l88 := SA.len (a := 88) (n := 500) hA (by decide) (by decide) rfl
  have hpb := hp.1
  have hp1 : AP (pp hi p 1) p := hp'.po
  have hh1 : hg (pp hi p 1) p = hg hi p - 1 := ppz_hg
  have et0 : tv hi p 0 = tv s p 0 := H0.tv_
  have et1 : tv hi p 1 = tv s p 1 := H0.tv_
  have e : exS B f s p o v qx = chnS s p (4 * m + v) := by subst ho; subst hm; rfl
  rw [e] at q
  have e91 : hi 91 p = m := (H0.e (by omega)).trans hm
  have E := q _ (hE.sm H0.chn_) H0.chn_.fw
  refine s316_172.mpr (s316_173.mpr (s316_174.mpr ?_))
  refine (s316_175 (by omega) kM).mpr ?_
  refine r_channel hA hR (by omega) hp' (by rw [hgg]; omega) hqq (by rw [e91]; exact m0) v0 ?_
  refine s316_178.mpr ?_
  refine (s316_300).mpr ?_
  rw [e91]; exact E
theorem EnO.e {h0 s0 h s : HI} (H : Sm h0 s0 h s) {e : Int} : EnO h e ↔ EnO s e := by unfold EnO; rw [H.e (a := 112) (by omega), H.e (a := 118) (by omega)]
theorem l_37 (hA : SA al) (hR : MR hr) (hd : 56 ≤ d) (hE : RelR hi s) (hp : AP s p) (hg0 : 0 ≤ hg s p ∧ hg s p ≤ 16) (hq : QB s) (q : ∀ hi', RelR hi' (exS B f s p o v qx) → FW wRn hi hi' → Q (some none) al hi' hr) (ho : o = 37) (h1 : 1 ≤ hg s p) (t0 : 0 ≤ v ∧ v < 4) (hEn : ts s p 0 = 3 → EnO s (tv s p 0)) (h2 : depS s p v = 1 → 2 ≤ hg s p ∧ EnO s (tv s p 1) ∧ (ts s p 0 = 2 → 0 ≤ tv s p 0 ∧ tv s p 0 < 128) ∧ (ts s p 0 = 3 → 0 ≤ tv s p 0 ∧ tv s p 0 < 24))
    (hto : ∀ e, e = tv s p (depS s p v) → EnO s e → 0 ≤ s 63 (4 * (8 * s 118 e + s 112 e) + v)) (hw : ∀ e, e = tv s p (depS s p v) → EnO s e → s 112 (oth e) ≠ -1 → 0 ≤ s 114 (oth e) ∧ s 114 (oth e) < 4) : Wp d 316 181 [vR (some 49), vI p, vI o, vI v, vI qx, none] [] al hi hr Q := by
  have kM : isK al 49 13 := hA.k (by decide) (by decide) rfl
  have H0 := Sm.rf hE.1
  have hp' : AP hi p := hp.n (H0.e (by omega))
  have hgg : hg hi p = hg s p := H0.hg_
  have hqq : QB hi := hq.eq (fun _ => H0.e (by omega)) (fun _ => H0.e (by omega)) (fun _ => H0.e (by omega)) (fun _ => H0.e (by omega))
  have l111 := SA.len (a := 111) (n := 768) hA (by decide) (by decide) rfl
  have l98 := SA.len (a := 98) (n := 4992) hA (by decide) (by decide) rfl
  have l97 := SA.len (a := 97) (n := 192) hA (by decide) (by decide) rfl
  have l109 := SA.len (a := 109) (n := 128) hA (by decide) (by decide) rfl
  have l87 := SA.len (a := 87) (n := 500) hA (by decide) (by decide) rfl
  have l88 := SA.len (a := 88) (n := 500) hA (by decide) (by decide) rfl
  have hpb := hp.1
  have hp1 : AP (pp hi p 1) p := hp'.po
  have hh1 : hg (pp hi p 1) p = hg hi p - 1 := ppz_hg
  have et0 : tv hi p 0 = tv s p 0 := H0.tv_
  have et1 : tv hi p 1 = tv s p 1 := H0.tv_
  have e : exS B f s p o v qx = sndS s p v := by subst ho; rfl
  rw [e] at q
  have E := q _ (hE.sm H0.snd_) H0.snd_.fw
  have ets : ts hi p 0 = ts s p 0 := H0.ts_
  refine s316_181.mpr (s316_182.mpr (s316_183.mpr ?_))
  refine (s316_184 (by omega) kM).mpr ?_
  refine r_send hA hR (by omega) hp' (by rw [hgg]; omega) t0 (by rw [ets, et0, EnO.e H0]; exact hEn) (by rw [H0.dep_, hgg, et0, et1, ets, EnO.e H0]; exact h2) hqq (fun e hd he => by rw [H0.e (a := 63) (by omega), H0.e (a := 118) (by omega), H0.e (a := 112) (by omega)]; exact hto e (by rw [hd, H0.dep_, H0.tv_]) ((EnO.e H0).mp he)) (fun e hd he => by rw [H0.e (a := 114) (by omega), H0.e (a := 112) (by omega)]; exact hw e (by rw [hd, H0.dep_, H0.tv_]) ((EnO.e H0).mp he)) ?_
  refine s316_187.mpr ?_
  refine (s316_300).mpr ?_
  exact E
theorem l_39 (hA : SA al) (hR : MR hr) (hd : 56 ≤ d) (hE : RelR hi s) (hp : AP s p) (hg0 : 0 ≤ hg s p ∧ hg s p ≤ 16) (hq : QB s) (q : ∀ hi', RelR hi' (exS B f s p o v qx) → FW wRn hi hi' → Q (some none) al hi' hr) (ho : o = 39) (h1 : 1 ≤ hg s p) (hb : 0 ≤ tv s p 0 ∧ tv s p 0 < 24) : Wp d 316 200 [vR (some 49), vI p, vI o, vI v, vI qx, none] [] al hi hr Q := by
  have kM : isK al 49 13 := hA.k (by decide) (by decide) rfl
  have H0 := Sm.rf hE.1
  have hp' : AP hi p := hp.n (H0.e (by omega))
  have hgg : hg hi p = hg s p := H0.hg_
  have hqq : QB hi := hq.eq (fun _ => H0.e (by omega)) (fun _ => H0.e (by omega)) (fun _ => H0.e (by omega)) (fun _ => H0.e (by omega))
  have l111 := SA.len (a := 111) (n := 768) hA (by decide) (by decide) rfl
  have l98 := SA.len (a := 98) (n := 4992) hA (by decide) (by decide) rfl
  have l97 := SA.len (a := 97) (n := 192) hA (by decide) (by decide) rfl
  have l109 := SA.len (a := 109) (n := 128) hA (by decide) (by decide) rfl
  have l87 := SA.len (a := 87) (n := 500) hA (by decide) (by decide) rfl
  have l88 := SA.len (a := 88) (n := 500) hA (by decide) (by decide) rfl
  have hpb := hp.1
  have hp1 : AP (pp hi p 1) p := hp'.po
  have hh1 : hg (pp hi p 1) p = hg hi p - 1 := ppz_hg
  have et0 : tv hi p 0 = tv s p 0 := H0.tv_
  have et1 : tv hi p 1 = tv s p 1 := H0.tv_
  obtain ⟨b, hbe⟩ : ∃ b, tv s p 0 = b := ⟨_, rfl⟩
  have e : exS B f s p o v qx = clsS (pp s p 1) (fun e => e = b) := by subst ho; subst hbe; rfl
  rw [e] at q
  rw [hbe] at et0 hb
  have Hc := (H0.pp_ (p := p) (n := 1)).cls_ (E := fun e => e = b) (E' := fun e => e = b) (fun _ => Iff.rfl)
  have E := q _ (hE.sm Hc) Hc.fw
  refine s316_200.mpr (s316_201.mpr ?_)
  refine (s316_202 (by omega) kM).mpr ?_
  refine r_popValue hA hR (by omega) hp' (by rw [hgg]; omega) ?_
  try simp only [kon, knt_some, knt_none, Option.toList_some, Option.toList_none, List.cons_append, List.nil_append, et0]
  refine s316_205.mpr (s316_207.mpr (s316_208.mpr ?_))
  refine (s316_210 (by omega) kM).mpr ?_
  refine r_close1 hA hR (by omega) hqq.pp hb ?_
  refine s316_213.mpr ?_
  refine (s316_300).mpr ?_
  exact E
/-- it yields -/
def yS (o : Int) (h : HI) : HI := if o = 41 then upI h 49 89 1 else h
theorem yS_rel (hE : RelR hi s) : RelR (upI hi 49 89 1) s := by
  refine ⟨fun a i z => by unfold upI; rw [if_neg (by omega)]; exact hE.1 a i z, fun p' q0 q1 => ?_⟩
  have e1 : ∀ i, (upI hi 49 89 1) 101 i = hi 101 i := fun i => upI_a (by decide)
  have e2 : ∀ i, (upI hi 49 89 1) 103 i = hi 103 i := fun i => upI_a (by decide)
  have e3 : ∀ i, (upI hi 49 89 1) 104 i = hi 104 i := fun i => upI_a (by decide)
  have L := hE.2 p' q0 q1
  unfold LR at L ⊢
  simp only [e1, e2, e3]
  exact L
theorem l_41 (hA : SA al) (hR : MR hr) (hE : RelR hi s) (q : ∀ hi', RelR hi' (exS B f s p o v qx) → FW wRn (upI hi 49 89 1) hi' → Q (some none) al hi' hr) (ho : o = 41) : Wp d 316 225 [vR (some 49), vI p, vI o, vI v, vI qx, none] [] al hi hr Q := by
  have kM : isK al 49 13 := hA.k (by decide) (by decide) rfl
  have e : exS B f s p o v qx = s := by subst ho; rfl
  rw [e] at q
  have E := q _ (yS_rel hE) FW.rf
  refine s316_225.mpr (s316_226.mpr ?_)
  refine (s316_227 kM (by first | assumption | omega)).mpr ?_
  refine s316_230.mpr ?_
  refine (s316_300).mpr ?_
  exact E
theorem l_42 (hA : SA al) (hR : MR hr) (hd : 56 ≤ d) (hE : RelR hi s) (hp : AP s p) (hg0 : 0 ≤ hg s p ∧ hg s p ≤ 16) (hq : QB s) (q : ∀ hi', RelR hi' (exS B f s p o v qx) → FW wRn hi hi' → Q (some none) al hi' hr) (ho : o = 42) : Wp d 316 233 [vR (some 49), vI p, vI o, vI v, vI qx, none] [] al hi hr Q := by
  have kM : isK al 49 13 := hA.k (by decide) (by decide) rfl
  have H0 := Sm.rf hE.1
  have hp' : AP hi p := hp.n (H0.e (by omega))
  have hgg : hg hi p = hg s p := H0.hg_
  have hqq : QB hi := hq.eq (fun _ => H0.e (by omega)) (fun _ => H0.e (by omega)) (fun _ => H0.e (by omega)) (fun _ => H0.e (by omega))
  have l111 := SA.len (a := 111) (n := 768) hA (by decide) (by decide) rfl
  have l98 := SA.len (a := 98) (n := 4992) hA (by decide) (by decide) rfl
  have l97 := SA.len (a := 97) (n := 192) hA (by decide) (by decide) rfl
  have l109 := SA.len (a := 109) (n := 128) hA (by decide) (by decide) rfl
  have l87 := SA.len (a := 87) (n := 500) hA (by decide) (by decide) rfl
  have l88 := SA.len (a := 88) (n := 500) hA (by decide) (by decide) rfl
  have hpb := hp.1
  have hp1 : AP (pp hi p 1) p := hp'.po
  have hh1 : hg (pp hi p 1) p = hg hi p - 1 := ppz_hg
  have et0 : tv hi p 0 = tv s p 0 := H0.tv_
  have et1 : tv hi p 1 = tv s p 1 := H0.tv_
  have e : exS B f s p o v qx = ovrS s p 4 := by subst ho; rfl
  rw [e] at q
  have E := q _ (hE.sm H0.ovr_) H0.ovr_.fw
  refine s316_233.mpr (s316_234.mpr (s316_235.mpr ?_))
  refine (s316_236 (by omega) kM).mpr ?_
  refine r_over hA hR (by omega) hqq hp.1 ?_
  refine s316_239.mpr ?_
  refine (s316_300).mpr ?_
  exact E
theorem l_43 (hA : SA al) (hR : MR hr) (hd : 56 ≤ d) (hE : RelR hi s) (hp : AP s p) (hg0 : 0 ≤ hg s p ∧ hg s p ≤ 16) (hq : QB s) (q : ∀ hi', RelR hi' (exS B f s p o v qx) → FW wRn hi hi' → Q (some none) al hi' hr) (ho : o = 43) (h1 : 1 ≤ hg s p) (h55 : 0 ≤ s 49 55 ∧ s 49 55 ≤ 500) : Wp d 316 242 [vR (some 49), vI p, vI o, vI v, vI qx, none] [] al hi hr Q := by
  have kM : isK al 49 13 := hA.k (by decide) (by decide) rfl
  have H0 := Sm.rf hE.1
  have hp' : AP hi p := hp.n (H0.e (by omega))
  have hgg : hg hi p = hg s p := H0.hg_
  have hqq : QB hi := hq.eq (fun _ => H0.e (by omega)) (fun _ => H0.e (by omega)) (fun _ => H0.e (by omega)) (fun _ => H0.e (by omega))
  have l111 := SA.len (a := 111) (n := 768) hA (by decide) (by decide) rfl
  have l98 := SA.len (a := 98) (n := 4992) hA (by decide) (by decide) rfl
  have l97 := SA.len (a := 97) (n := 192) hA (by decide) (by decide) rfl
  have l109 := SA.len (a := 109) (n := 128) hA (by decide) (by decide) rfl
  have l87 := SA.len (a := 87) (n := 500) hA (by decide) (by decide) rfl
  have l88 := SA.len (a := 88) (n := 500) hA (by decide) (by decide) rfl
  have hpb := hp.1
  have hp1 : AP (pp hi p 1) p := hp'.po
  have hh1 : hg (pp hi p 1) p = hg hi p - 1 := ppz_hg
  have et0 : tv hi p 0 = tv s p 0 := H0.tv_
  have et1 : tv hi p 1 = tv s p 1 := H0.tv_
  have e : exS B f s p o v qx = outS s p := by subst ho; rfl
  rw [e] at q
  have E := q _ (hE.sm H0.out_) H0.out_.fw
  have e55 : hi 49 55 = s 49 55 := H0.e49 (by omega)
  unfold outS at E
  obtain ⟨n, hne⟩ : ∃ n, hi 49 55 = n := ⟨_, rfl⟩
  rw [← e55, hne] at h55
  rw [hne] at E
  have p55 : pp hi p 1 49 55 = n := (ppz_n (by decide)).trans hne
  by_cases c : n = 500
  · rw [if_pos c] at E
    subst c
    refine s316_242.mpr (s316_243.mpr ?_)
    refine (s316_244 (by omega) kM).mpr ?_
    refine r_popValue hA hR (by omega) hp' (by rw [hgg]; omega) ?_
    refine s316_247.mpr (s316_249.mpr ?_)
    refine (s316_250 kM).mpr ?_
    refine s316_253.mpr ?_
    try simp (disch := first | decide | assumption | omega) only [kon, knt_some, knt_none, Option.toList_some, Option.toList_none, List.cons_append, List.nil_append, p55]
    refine s316_256.mpr (wif (fun c256 => ?_) (fun c256 => ?_))
    · skip
      refine s316_259.mpr (s316_260.mpr (s316_261.mpr ?_))
      refine (s316_263 (by omega) kM).mpr ?_
      refine r_trap hA hR (by omega) hqq.pp hp.1 ?_
      refine s316_266.mpr ?_
      refine (s316_300).mpr ?_
      exact E
    · skip
      exact absurd rfl (by assumption)
  · rw [if_neg c] at E
    have u1 : ∀ x y, upI (pp hi p 1) 87 x y 49 55 = n := fun x y => by rw [upI_a (by decide)]; exact p55
    have u2 : ∀ x y z w, upI (upI (pp hi p 1) 87 x y) 88 z w 49 55 = n := fun x y z w => by rw [upI_a (by decide), upI_a (by decide)]; exact p55
    refine s316_242.mpr (s316_243.mpr ?_)
    refine (s316_244 (by omega) kM).mpr ?_
    refine r_popValue hA hR (by omega) hp' (by rw [hgg]; omega) ?_
    refine s316_247.mpr (s316_249.mpr ?_)
    refine (s316_250 kM).mpr ?_
    refine s316_253.mpr ?_
    try simp (disch := first | decide | assumption | omega) only [kon, knt_some, knt_none, Option.toList_some, Option.toList_none, List.cons_append, List.nil_append, p55, u1, u2, fAdd_id]
    refine s316_256.mpr (wif (fun c256 => ?_) (fun c256 => ?_))
    · skip
      exact absurd (by assumption) c
    · skip
      refine s316_269.mpr ((s316_270 kM).mpr ?_)
      rw [mr_57 hR]
      refine s316_273.mpr ?_
      refine (s316_274 kM).mpr ?_
      refine s316_277.mpr ?_
      try simp (disch := first | decide | assumption | omega) only [kon, knt_some, knt_none, Option.toList_some, Option.toList_none, List.cons_append, List.nil_append, p55, u1, u2, fAdd_id]
      refine (s316_278 (hA.k (by decide) (by decide) rfl) (by first | assumption | omega) (by first | assumption | omega)).mpr ?_
      refine s316_279.mpr ((s316_280 kM).mpr ?_)
      rw [mr_58 hR]
      refine s316_283.mpr ?_
      try simp (disch := first | decide | assumption | omega) only [kon, knt_some, knt_none, Option.toList_some, Option.toList_none, List.cons_append, List.nil_append, p55, u1, u2, fAdd_id]
      refine (s316_284 kM).mpr ?_
      refine s316_287.mpr ?_
      try simp (disch := first | decide | assumption | omega) only [kon, knt_some, knt_none, Option.toList_some, Option.toList_none, List.cons_append, List.nil_append, p55, u1, u2, fAdd_id]
      refine (s316_289 (hA.k (by decide) (by decide) rfl) (by first | assumption | omega) (by first | assumption | omega)).mpr ?_
      refine s316_290.mpr (s316_291.mpr ?_)
      try simp (disch := first | decide | assumption | omega) only [kon, knt_some, knt_none, Option.toList_some, Option.toList_none, List.cons_append, List.nil_append, p55, u1, u2, fAdd_id]
      refine (s316_292 kM).mpr ?_
      refine s316_295.mpr (s316_296.mpr ?_)
      try simp (disch := first | decide | assumption | omega) only [kon, knt_some, knt_none, Option.toList_some, Option.toList_none, List.cons_append, List.nil_append, p55, u1, u2, fAdd_id]
      refine (s316_297 kM).mpr ?_
      try simp (disch := first | decide | assumption | omega) only [kon, knt_some, knt_none, Option.toList_some, Option.toList_none, List.cons_append, List.nil_append, p55, u1, u2, fAdd_id]
      refine (s316_300).mpr ?_
      exact E
end RP5
