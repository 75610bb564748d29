/-! RUNNING, the reference: a process is over -/
section RO0
variable {d : Nat} {al : AL} {hi : HI} {hr : HR} {Q : QQ}
theorem ClR.fin {s h : HI} {E N F : Int → Prop} (H : ClR s h N F) (hP : ClP s E (fun _ => False) (fun _ => False) N F) (hE : ∀ x, E x → opn s x → N x) : h = clsS s E := by
  have e1 : ∀ y, N y ↔ clo s E y := fun y => ⟨fun z => (hP.2.2.1 y z).resolve_left id, fun z => z N hE (fun x k hx k0 k1 h3 ho => (((hP.2.2.2.1 x hx).resolve_left id) k k0 k1).2 h3 ho)⟩
  have e2 : ∀ b, F b ↔ blo s (clo s E) b := fun b => by
    constructor
    · intro z
      obtain ⟨x, z1, z2, k, z3⟩ := (hP.2.2.2.2 b z).resolve_left id
      exact ⟨x, k, z1, z3⟩
    · rintro ⟨x, k, z1, z2, z3, z4, z5⟩
      have := (((hP.2.2.2.1 x ((e1 x).mpr z1)).resolve_left id) k z2 z3).1 z4
      rw [z5] at this; exact this
  funext a i
  rw [H]
  unfold clsS
  by_cases c1 : a = 112 ∧ N i
  · rw [cif_y c1, cif_y ⟨c1.1, (e1 i).mp c1.2⟩]
  · rw [cif_n c1, cif_n (c := a = 112 ∧ clo s E i) (fun z => c1 ⟨z.1, (e1 i).mpr z.2⟩)]
    by_cases c2 : a = 114 ∧ N i
    · rw [cif_y c2, cif_y ⟨c2.1, (e1 i).mp c2.2⟩]
    · rw [cif_n c2, cif_n (c := a = 114 ∧ clo s E i) (fun z => c2 ⟨z.1, (e1 i).mpr z.2⟩)]
      by_cases c3 : a = 109 ∧ F i
      · rw [cif_y c3, cif_y ⟨c3.1, (e2 i).mp c3.2⟩]
      · rw [cif_n c3, cif_n (c := a = 109 ∧ blo s (clo s E) i) (fun z => c3 ⟨z.1, (e2 i).mpr z.2⟩)]
theorem r_close1 {e : Int} (hA : SA al) (hR : MR hr) (hd : 50 ≤ d) (hq : QB hi) (he : 0 ≤ e ∧ e < 24) (q : Q (some none) al (clsS hi (fun x => x = e)) hr) : Ev d 295 [vR (some 49), vI e] al hi hr Q := by
  refine ev_mono (r_close hA hR hq 24 d e hi _ _ ClR.rf he nN_ub (by omega)) (fun r a h b z => ?_)
  obtain ⟨rfl, rfl, rfl, N, F, z1, z2, z3⟩ := z
  rw [z1.fin z2 (fun x hx ho => by subst hx; exact z3 ho)]
  exact q
theorem r_lose {v w : Int} (hA : SA al) (hR : MR hr) (hd : 51 ≤ d) (hq : QB hi) (h2 : w = 2 → 0 ≤ v ∧ v < 128) (h3 : w = 3 → 0 ≤ v ∧ v < 24) (q : Q (some none) al (losS hi v w) hr) : Ev d 296 [vR (some 49), vI v, vI w] al hi hr Q := by
  have kM : isK al 49 13 := hA.k (by decide) (by decide) rfl
  have l109 := SA.len (a := 109) (n := 128) hA (by decide) (by decide) rfl
  unfold losS at q
  rw [e296]
  by_cases z2 : w = 2
  · have := h2 z2
    rw [if_pos z2] at q
    refine s296_0.mpr (s296_1.mpr ?_)
    refine s296_2.mpr (wif (fun c2 => ?_) (fun c2 => ?_))
    · skip
      refine s296_5.mpr ((s296_6 kM).mpr ?_)
      rw [mr_79 hR]
      refine s296_9.mpr (s296_10.mpr ?_)
      refine (s296_11 (hA.k (by decide) (by decide) rfl) (by first | assumption | omega) (by first | assumption | omega)).mpr ?_
      refine s296_12.mpr ?_
      refine (s296_25).mpr ?_
      exact q
    · skip
      exact absurd z2 (by assumption)
  · rw [if_neg z2] at q
    by_cases z3 : w = 3
    · have := h3 z3
      rw [if_pos z3] at q
      refine s296_0.mpr (s296_1.mpr ?_)
      refine s296_2.mpr (wif (fun c2 => ?_) (fun c2 => ?_))
      · skip
        exact absurd (by assumption) z2
      · skip
        refine s296_15.mpr (s296_16.mpr ?_)
        refine s296_17.mpr (wif (fun c17 => ?_) (fun c17 => ?_))
        · skip
          refine s296_20.mpr (s296_21.mpr ?_)
          refine (s296_22 (by omega) kM).mpr ?_
          refine r_close1 hA hR (by omega) hq (h3 z3) ?_
          first | exact absurd z3 (by assumption) | (refine s296_25.mpr ?_; exact q)
        · skip
          first | exact absurd z3 (by assumption) | (refine s296_25.mpr ?_; exact q)
    · rw [if_neg z3] at q
      refine s296_0.mpr (s296_1.mpr ?_)
      refine s296_2.mpr (wif (fun c2 => ?_) (fun c2 => ?_))
      · skip
        exact absurd (by assumption) z2
      · skip
        refine s296_15.mpr (s296_16.mpr ?_)
        refine s296_17.mpr (wif (fun c17 => ?_) (fun c17 => ?_))
        · skip
          exact absurd (by assumption) z3
        · skip
          refine (s296_25).mpr ?_
          exact q
theorem QB.eq {s s' : HI} (h : QB s) (h1 : ∀ i, s' 112 i = s 112 i) (h2 : ∀ i, s' 114 i = s 114 i) (h3 : ∀ i, s' 116 i = s 116 i) (h4 : ∀ i, s' 117 i = s 117 i) : QB s' := fun x ho => by
  have ho' : opn s x := by obtain ⟨a, b, c⟩ := ho; exact ⟨a, b, by rw [← h1]; exact c⟩
  obtain ⟨a, b⟩ := h x ho'
  exact ⟨by rw [h2]; exact a, fun k k0 k1 => by rw [h4, h3]; rw [h2] at k1; exact b k k0 k1⟩
theorem frb_n {s : HI} {p : Int} {a : Nat} {i : Int} (h : a ≠ 109) : frbS s p a i = s a i := cif_n (fun z => h z.1)
set_option maxRecDepth 8000 in
theorem r_over {p w : Int} (hA : SA al) (hR : MR hr) (hd : 51 ≤ d) (hq : QB hi) (hp : 0 ≤ p ∧ p < 12) (q : Q (some none) al (ovrS hi p w) hr) : Ev d 298 [vR (some 49), vI p, vI w] al hi hr Q := by
  have kM : isK al 49 13 := hA.k (by decide) (by decide) rfl
  have l89 := SA.len (a := 89) (n := 12) hA (by decide) (by decide) rfl
  have l109 := SA.len (a := 109) (n := 128) hA (by decide) (by decide) rfl
  have l110 := SA.len (a := 110) (n := 128) hA (by decide) (by decide) rfl
  have l112 := SA.len (a := 112) (n := 24) hA (by decide) (by decide) rfl
  have l113 := SA.len (a := 113) (n := 24) hA (by decide) (by decide) rfl
  obtain ⟨h1, hh1⟩ : ∃ h1, h1 = upI hi 89 p w := ⟨_, rfl⟩
  have y1 : ∀ a i, a ≠ 89 → h1 a i = hi a i := fun a i z => by rw [hh1, upI_a z]
  -- the ends
  let s := frbS h1 p
  have es : ovrS hi p w = clsS s (fun e => s 113 e = p) := by
    show clsS (frbS (upI hi 89 p w) p) (fun e => hi 113 e = p) = _
    rw [← hh1]
    have : (fun e => hi 113 e = p) = (fun e => s 113 e = p) := by funext e; show _ = (frbS h1 p 113 e = p); rw [frb_n (by decide), y1 113 e (by decide)]
    rw [this]
  have hqs : QB s := hq.eq (fun i => by show frbS h1 p 112 i = _; rw [frb_n (by decide), y1 _ _ (by decide)]) (fun i => by show frbS h1 p 114 i = _; rw [frb_n (by decide), y1 _ _ (by decide)]) (fun i => by show frbS h1 p 116 i = _; rw [frb_n (by decide), y1 _ _ (by decide)]) (fun i => by show frbS h1 p 117 i = _; rw [frb_n (by decide), y1 _ _ (by decide)])
  rw [es] at q
  have T51 : ∀ (j : Nat) (e : Int) h N F, e + j = 24 → 0 ≤ e → ClR s h N F → ClP s (fun e => s 113 e = p) (fun _ => False) (fun _ => False) N F → (∀ x, x < e → s 113 x = p → opn s x → N x) → Wp d 298 51 [vR (some 49), vI p, vI w, vI e] [] al h hr Q := by
    intro j
    induction j with
    | zero =>
      intro e h N F he e0 hC hP hx
      have E : Q (some none) al h hr := by
        rw [hC.fin hP (fun x z ho => hx x (by have := ho.2.1; omega) z ho)]; exact q
      refine s298_51.mpr (s298_52.mpr ?_)
      refine s298_54.mpr (wif (fun c54 => ?_) (fun c54 => ?_))
      · skip
        exfalso; omega
      · skip
        refine (s298_88).mpr ?_
        exact E
    | succ j ih =>
      intro e h N F he e0 hC hP hx
      have e113 : h 113 e = s 113 e := hC.o (by decide) (by decide) (by decide)
      by_cases c : h 112 e = -1
      · have NX := ih (e + 1) h N F (by omega) (by omega) hC hP (fun x z z2 ho => by
          by_cases y : x = e
          · subst y
            apply Classical.byContradiction
            intro cN
            rw [(hC.n cN).1] at c
            exact ho.2.2 c
          · exact hx x (by omega) z2 ho)
        refine s298_51.mpr (s298_52.mpr ?_)
        refine s298_54.mpr (wif (fun c54 => ?_) (fun c54 => ?_))
        · skip
          refine s298_57.mpr ((s298_58 kM).mpr ?_)
          rw [mr_82 hR]
          refine s298_61.mpr ?_
          refine (s298_62 (hA.k (by decide) (by decide) rfl) (by first | assumption | omega) (by first | assumption | omega)).mpr ?_
          refine s298_63.mpr ?_
          try simp (disch := first | decide | assumption | omega) only [c, fAdd_id]
          refine s298_64.mpr (wif (fun c64 => ?_) (fun c64 => ?_))
          · skip
            refine s298_82.mpr (s298_85.mpr ?_)
            try simp (disch := first | decide | assumption | omega) only [c, fAdd_id]
            exact NX
          · skip
            exact absurd rfl (by assumption)
        · skip
          exfalso; omega
      · by_cases c2 : s 113 e = p
        · have R79 : Ev (d - 1) 295 [vR (some 49), vI e] al h hr (kon d 298 79 82 [vR (some 49), vI p, vI w, vI e] [] Q) := by
            refine ev_mono (r_close hA hR hqs 24 (d - 1) e h N F hC ⟨e0, by omega⟩ nN_ub (by omega)) (fun r a h2 b z => ?_)
            obtain ⟨rfl, rfl, rfl, N', F', z1, z2, z3⟩ := z
            have NX := ih (e + 1) h2 N' F' (by omega) (by omega) z1 (hP.tr (z2.mn (fun x hx ho => by subst hx; exact clo_s (E := fun e => s 113 e = p) c2 ho))) (fun x y y2 ho => by
              by_cases u : x = e
              · subst u; exact z3 ho
              · exact z2.1 x (hx x (by omega) y2 ho))
            simp only [kon, knt_some, knt_none, Option.toList_some, Option.toList_none, List.cons_append, List.nil_append]
            refine s298_82.mpr (s298_85.mpr ?_)
            try simp (disch := first | decide | assumption | omega) only [fAdd_id]
            exact NX
          refine s298_51.mpr (s298_52.mpr ?_)
          refine s298_54.mpr (wif (fun c54 => ?_) (fun c54 => ?_))
          · skip
            refine s298_57.mpr ((s298_58 kM).mpr ?_)
            rw [mr_82 hR]
            refine s298_61.mpr ?_
            refine (s298_62 (hA.k (by decide) (by decide) rfl) (by first | assumption | omega) (by first | assumption | omega)).mpr ?_
            refine s298_63.mpr ?_
            try simp (disch := first | decide | assumption | omega) only [e113, fAdd_id]
            refine s298_64.mpr (wif (fun c64 => ?_) (fun c64 => ?_))
            · skip
              first | exact absurd (by assumption) c | exact absurd c2 (by assumption)
            · skip
              refine s298_67.mpr ((s298_68 kM).mpr ?_)
              rw [mr_83 hR]
              refine s298_71.mpr ?_
              refine (s298_72 (hA.k (by decide) (by decide) rfl) (by first | assumption | omega) (by first | assumption | omega)).mpr ?_
              refine s298_73.mpr ?_
              try simp (disch := first | decide | assumption | omega) only [e113, fAdd_id]
              refine s298_74.mpr (wif (fun c74 => ?_) (fun c74 => ?_))
              · skip
                refine s298_77.mpr (s298_78.mpr ?_)
                refine (s298_79 (by omega) kM).mpr ?_
                exact R79
              · skip
                first | exact absurd (by assumption) c | exact absurd c2 (by assumption)
          · skip
            exfalso; omega
        · have NX := ih (e + 1) h N F (by omega) (by omega) hC hP (fun x z z2 ho => by
            by_cases y : x = e
            · subst y; exact absurd z2 c2
            · exact hx x (by omega) z2 ho)
          refine s298_51.mpr (s298_52.mpr ?_)
          refine s298_54.mpr (wif (fun c54 => ?_) (fun c54 => ?_))
          · skip
            refine s298_57.mpr ((s298_58 kM).mpr ?_)
            rw [mr_82 hR]
            refine s298_61.mpr ?_
            refine (s298_62 (hA.k (by decide) (by decide) rfl) (by first | assumption | omega) (by first | assumption | omega)).mpr ?_
            refine s298_63.mpr ?_
            try simp (disch := first | decide | assumption | omega) only [e113, fAdd_id]
            refine s298_64.mpr (wif (fun c64 => ?_) (fun c64 => ?_))
            · skip
              refine s298_82.mpr (s298_85.mpr ?_)
              try simp (disch := first | decide | assumption | omega) only [e113, fAdd_id]
              exact NX
            · skip
              refine s298_67.mpr ((s298_68 kM).mpr ?_)
              rw [mr_83 hR]
              refine s298_71.mpr ?_
              refine (s298_72 (hA.k (by decide) (by decide) rfl) (by first | assumption | omega) (by first | assumption | omega)).mpr ?_
              refine s298_73.mpr ?_
              try simp (disch := first | decide | assumption | omega) only [e113, fAdd_id]
              refine s298_74.mpr (wif (fun c74 => ?_) (fun c74 => ?_))
              · skip
                exact absurd (by assumption) c2
              · skip
                refine s298_82.mpr (s298_85.mpr ?_)
                try simp (disch := first | decide | assumption | omega) only [e113, fAdd_id]
                exact NX
          · skip
            exfalso; omega
  -- the blocks
  have T9 : ∀ (j : Nat) (k : Int) h, k + j = 128 → 0 ≤ k → (∀ a i, h a i = cif (a = 109 ∧ 0 ≤ i ∧ i < k ∧ h1 109 i ≠ -1 ∧ h1 110 i = p) (-1) (h1 a i)) → Wp d 298 9 [vR (some 49), vI p, vI w, vI k] [] al h hr Q := by
    intro j
    induction j with
    | zero =>
      intro k h hk k0 hh
      have ek : k = 128 := by omega
      have eh : h = s := by funext a i; rw [hh, ek]; rfl
      have NX := T51 24 0 s _ _ (by omega) (Int.le_refl _) ClR.rf ClP.rf (fun x z _ ho => by have := ho.1; omega)
      rw [eh]
      refine s298_9.mpr (s298_10.mpr ?_)
      refine s298_13.mpr (wif (fun c13 => ?_) (fun c13 => ?_))
      · skip
        exfalso; omega
      · skip
        refine s298_49.mpr (s298_50.mpr ?_)
        exact NX
    | succ j ih =>
      intro k h hk k0 hh
      have e109 : h 109 k = h1 109 k := by rw [hh, cif_n (fun z => by omega)]
      have e110 : h 110 k = h1 110 k := by rw [hh, cif_n (fun z => absurd z.1 (by decide))]
      by_cases c : h1 109 k ≠ -1 ∧ h1 110 k = p
      · have NX := ih (k + 1) (upI h 109 k (-1)) (by omega) (by omega) (fun a i => by
          by_cases y : a = 109 ∧ i = k
          · obtain ⟨rfl, rfl⟩ := y
            rw [upI_eq, cif_y ⟨rfl, k0, by omega, c⟩]
          · have e : upI h 109 k (-1) a i = h a i := if_neg y
            rw [e, hh]
            by_cases z : a = 109 ∧ 0 ≤ i ∧ i < k ∧ h1 109 i ≠ -1 ∧ h1 110 i = p
            · rw [cif_y z, cif_y ⟨z.1, z.2.1, by omega, z.2.2.2⟩]
            · rw [cif_n z, cif_n]
              rintro ⟨z1, z2, z3, z4⟩
              exact z ⟨z1, z2, by
                by_cases u : i = k
                · exact absurd ⟨z1, u⟩ y
                · omega, z4⟩)
        have N43 : Wp d 298 43 [vR (some 49), vI p, vI w, vI k] [] al (upI h 109 k (-1)) hr Q := by
          refine s298_43.mpr (s298_46.mpr ?_)
          try simp (disch := first | decide | assumption | omega) only [fAdd_id]
          exact NX
        refine s298_9.mpr (s298_10.mpr ?_)
        refine s298_13.mpr (wif (fun c13 => ?_) (fun c13 => ?_))
        · skip
          refine s298_16.mpr ((s298_17 kM).mpr ?_)
          rw [mr_79 hR]
          refine s298_20.mpr ?_
          refine (s298_21 (hA.k (by decide) (by decide) rfl) (by first | assumption | omega) (by first | assumption | omega)).mpr ?_
          refine s298_22.mpr ?_
          try simp (disch := first | decide | assumption | omega) only [e109, e110, fAdd_id]
          refine s298_23.mpr (wif (fun c23 => ?_) (fun c23 => ?_))
          · skip
            first | exact N43 | exact absurd (by assumption) c.1 | exact absurd c.2 (by assumption)
          · skip
            refine s298_26.mpr ((s298_27 kM).mpr ?_)
            rw [mr_80 hR]
            refine s298_30.mpr ?_
            refine (s298_31 (hA.k (by decide) (by decide) rfl) (by first | assumption | omega) (by first | assumption | omega)).mpr ?_
            refine s298_32.mpr ?_
            try simp (disch := first | decide | assumption | omega) only [e109, e110, fAdd_id]
            refine s298_33.mpr (wif (fun c33 => ?_) (fun c33 => ?_))
            · skip
              refine s298_36.mpr ((s298_37 kM).mpr ?_)
              rw [mr_79 hR]
              refine s298_40.mpr (s298_41.mpr ?_)
              refine (s298_42 (hA.k (by decide) (by decide) rfl) (by first | assumption | omega) (by first | assumption | omega)).mpr ?_
              try simp (disch := first | decide | assumption | omega) only [e109, e110, fAdd_id]
              first | exact N43 | exact absurd (by assumption) c.1 | exact absurd c.2 (by assumption)
            · skip
              first | exact N43 | exact absurd (by assumption) c.1 | exact absurd c.2 (by assumption)
        · skip
          exfalso; omega
      · have NX := ih (k + 1) h (by omega) (by omega) (fun a i => by
          rw [hh]
          by_cases z : a = 109 ∧ 0 ≤ i ∧ i < k ∧ h1 109 i ≠ -1 ∧ h1 110 i = p
          · rw [cif_y z, cif_y ⟨z.1, z.2.1, by omega, z.2.2.2⟩]
          · rw [cif_n z, cif_n]
            rintro ⟨z1, z2, z3, z4⟩
            exact z ⟨z1, z2, by
              by_cases u : i = k
              · subst u; exact absurd z4 c
              · omega, z4⟩)
        refine s298_9.mpr (s298_10.mpr ?_)
        refine s298_13.mpr (wif (fun c13 => ?_) (fun c13 => ?_))
        · skip
          refine s298_16.mpr ((s298_17 kM).mpr ?_)
          rw [mr_79 hR]
          refine s298_20.mpr ?_
          refine (s298_21 (hA.k (by decide) (by decide) rfl) (by first | assumption | omega) (by first | assumption | omega)).mpr ?_
          refine s298_22.mpr ?_
          try simp (disch := first | decide | assumption | omega) only [e109, e110, fAdd_id]
          refine s298_23.mpr (wif (fun c23 => ?_) (fun c23 => ?_))
          · skip
            refine s298_43.mpr (s298_46.mpr ?_)
            try simp (disch := first | decide | assumption | omega) only [e109, e110, fAdd_id]
            exact NX
          · skip
            refine s298_26.mpr ((s298_27 kM).mpr ?_)
            rw [mr_80 hR]
            refine s298_30.mpr ?_
            refine (s298_31 (hA.k (by decide) (by decide) rfl) (by first | assumption | omega) (by first | assumption | omega)).mpr ?_
            refine s298_32.mpr ?_
            try simp (disch := first | decide | assumption | omega) only [e109, e110, fAdd_id]
            refine s298_33.mpr (wif (fun c33 => ?_) (fun c33 => ?_))
            · skip
              exact absurd ⟨by assumption, by assumption⟩ c
            · skip
              refine s298_43.mpr (s298_46.mpr ?_)
              try simp (disch := first | decide | assumption | omega) only [e109, e110, fAdd_id]
              exact NX
        · skip
          exfalso; omega
  have NX := T9 128 0 h1 (by omega) (Int.le_refl _) (fun a i => by rw [cif_n (fun z => by omega)])
  rw [e298]
  refine s298_0.mpr ((s298_1 kM).mpr ?_)
  rw [mr_59 hR]
  refine s298_4.mpr (s298_5.mpr ?_)
  refine (s298_6 (hA.k (by decide) (by decide) rfl) (by first | assumption | omega) (by first | assumption | omega)).mpr ?_
  refine s298_7.mpr (s298_8.mpr ?_)
  rw [← hh1]
  exact NX
theorem r_trap {p w : Int} (hA : SA al) (hR : MR hr) (hd : 52 ≤ d) (hq : QB hi) (hp : 0 ≤ p ∧ p < 12) (q : Q (some none) al (trpS hi p w) hr) : Ev d 307 [vR (some 49), vI p, vI w] al hi hr Q := by
  have kM : isK al 49 13 := hA.k (by decide) (by decide) rfl
  have l90 := SA.len (a := 90) (n := 12) hA (by decide) (by decide) rfl
  rw [e307]
  refine s307_0.mpr ((s307_1 kM).mpr ?_)
  rw [mr_60 hR]
  refine s307_4.mpr (s307_5.mpr ?_)
  refine (s307_6 (hA.k (by decide) (by decide) rfl) (by first | assumption | omega) (by first | assumption | omega)).mpr ?_
  refine s307_7.mpr (s307_8.mpr (s307_9.mpr ?_))
  try simp (disch := first | decide | assumption | omega) only [kon, knt_some, knt_none, Option.toList_some, Option.toList_none, List.cons_append, List.nil_append]
  refine (s307_10 (by omega) kM).mpr ?_
  refine r_over hA hR (by omega) (hq.eq (fun i => upI_a (by decide)) (fun i => upI_a (by decide)) (fun i => upI_a (by decide)) (fun i => upI_a (by decide))) hp ?_
  refine (s307_13).mpr ?_
  exact q
end RO0
