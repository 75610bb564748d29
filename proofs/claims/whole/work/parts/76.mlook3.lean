section ML3
variable {d : Nat} {al : AL} {hi : HI} {hr : HR} {Q : QQ} {B : Int → Int}
theorem wp_cnt {k h : Nat} {N : Nat} (J : Nat → List AV → HI → Prop)
    (body : ∀ i ls hi, i < N → J i ls hi → (∀ ls' hi', J (i + 1) ls' hi' → Wp d k h ls' [] al hi' hr Q) → Wp d k h ls [] al hi hr Q)
    (fin : ∀ ls hi, J N ls hi → Wp d k h ls [] al hi hr Q) : ∀ ls hi, J 0 ls hi → Wp d k h ls [] al hi hr Q := by
  have key : ∀ (n i : Nat) ls hi, i + n = N → J i ls hi → Wp d k h ls [] al hi hr Q := by
    intro n
    induction n with
    | zero => intro i ls hi h0 hI; rw [show i = N by omega] at hI; exact fin ls hi hI
    | succ n ih => intro i ls hi h0 hI; exact body i ls hi (by omega) hI (fun ls' hi' hJ => ih (i + 1) ls' hi' (by omega) hJ)
  intro ls hi hI
  exact key N 0 ls hi (by omega) hI
theorem LK.cst {ch : Ex} {l p : Int} {f : Int → Ex} (h : LK ch l p) : ch.bind f = ch.bind fun _ => f p := by
  rcases h with ⟨e, -⟩ | ⟨q, e, -⟩
  · rw [e]; rfl
  · rw [e]; rfl
theorem LK.z {ch : Ex} {l p a : Int} {f : Int → Ex} (h : LK ch l p) (ha : p ≤ a) : LK (ch.bind fun _ => lpE f 0 a) l a := by
  rcases h with ⟨e, e2⟩ | ⟨q, e, e2, e3, e4⟩
  · rw [e]; exact Or.inl ⟨rfl, e2⟩
  · rw [e]; exact Or.inr ⟨q, rfl, e2, e3, by omega⟩
theorem LK.lp {ch : Ex} {l p p' a : Int} {k : Nat} {f : Int → Ex} (h : LK (ch.bind fun _ => lpE f k a) l p) (hf : Wk f p p') (hp : 0 ≤ p) : LK (ch.bind fun _ => lpE f (k + 1) a) (lst (f p) l) p' := by
  have h9 := h.st hf hp
  rw [bind_assoc] at h9
  rw [show (fun _ : Int => lpE f (k + 1) a) = fun _ => (lpE f k a).bind f from funext fun _ => lpE_s f k a]
  exact h9
theorem LK.en {ch : Ex} {l l' p p' a : Int} {f g : Int → Ex} {n : Nat} (h : LK ch l p) (h2 : LK (ch.bind fun _ => lpE f n a) l' p') (e : g p = lpE f n a) : LK (ch.bind g) l' p' := by
  rw [h.cst, e]; exact h2
theorem LK.sh {ch : Ex} {l p j : Int} (h : LK ch l p) (hj : 0 ≤ j) : LK (ch.bind fun q => .ok (q + j)) l (p + j) := by
  rcases h with ⟨e, e2⟩ | ⟨q, e, e2, e3, e4⟩
  · rw [e]; exact Or.inl ⟨rfl, e2⟩
  · rw [e]; exact Or.inr ⟨q, rfl, e2, e3, by omega⟩
theorem nP (hB : bAt hi 12 = B) (h52 : hi 52 12 ≤ 2000) {p : Int} (h : 0 ≤ B p) : 0 ≤ p ∧ p < 2000 := by
  rw [← hB] at h
  have := bAt_lt (hi := hi) (m := 12) (k := p) (by omega)
  omega
theorem tyP_p (hB : bAt hi 12 = B) (h52 : hi 52 12 ≤ 2000) {ks no p q : Int} (h : tyP B ks no p = .ok q) : 0 ≤ p ∧ p < 2000 := nP hB h52 (by have := (tyP_v h).1; omega)
end ML3
section ML4
variable {d : Nat} {al : AL} {hi : HI} {hr : HR} {Q : QQ} {B : Int → Int}
theorem m_looksAt (hA : SA al) (hR : MR hr) (hd : 5 ≤ d) (hM : MB hi 12 B) (hS : Sh B)
    (fin : ∀ p, namP B = .ok p → Q (some none) al (ls1 hi (-1)) hr)
    (err : ∀ q, namP B = .error q → Q none al (fl1 (ls1 hi q) 1 q) hr) : Ev d 239 [vR (some 49), vI 12] al hi hr Q := by
  have kM : isK al 49 13 := hA.k (by decide) (by decide) rfl
  have l53 := SA.len (a := 53) (n := 13) hA (by decide) (by decide) rfl
  have l57 := SA.len (a := 57) (n := 104) hA (by decide) (by decide) rfl
  have l54 := SA.len (a := 54) (n := 13) hA (by decide) (by decide) rfl
  have l59 := SA.len (a := 59) (n := 52) hA (by decide) (by decide) rfl
  have l61 := SA.len (a := 61) (n := 416) hA (by decide) (by decide) rfl
  have l55 := SA.len (a := 55) (n := 13) hA (by decide) (by decide) rfl
  have l64 := SA.len (a := 64) (n := 130) hA (by decide) (by decide) rfl
  have l69 := SA.len (a := 69) (n := 130) hA (by decide) (by decide) rfl
  have l68 := SA.len (a := 68) (n := 130) hA (by decide) (by decide) rfl
  have hM' := hM
  obtain ⟨hm0, hm1, h52, hB, m1, m2, m3, m4, m5, m6⟩ := hM
  obtain ⟨r0, r1, hSR, p30, c0, c1, hSC, p50, f0, f1, hSF⟩ := hS
  have hWb : Wb B := ⟨r0, r1, c0, c1, fun r a b => by obtain ⟨x, y, -⟩ := hSR r a b; omega⟩
  have hrg : ∀ k, -1 ≤ B k ∧ B k ≤ 255 := fun k => by rw [← hB]; exact bAt_rng 12 k
  have hBl : ∀ l, bAt (ls1 hi l) 12 = B := fun l => by rw [bAt_up (by decide) (by decide)]; exact hB
  have hps : ∀ p, 0 ≤ B p → 0 ≤ p ∧ p < 2000 := fun p h => nP hB h52 h
  have htp : ∀ ks no p q, tyP B ks no p = .ok q → 0 ≤ p ∧ p < 2000 := fun ks no p q h => tyP_p hB h52 h
  have T180 : ∀ (l : Int) (ch : Ex) (l4 l5 : AV), LK ch l (pFn0 B) → namP B = (ch.bind fun p5 => lpE (nmF B) (B p5).toNat (p5 + 1)) → Wp d 239 180 [vR (some 49), vI 12, vI (pFn0 B + 1), vI 120, l4, l5] [] al (ls1 hi l) hr Q := by
    intro l ch l4 l5 hK eqN
    have eqN : namP B = ch.bind fun _ => lpE (nmF B) (nFn B).toNat (pFn0 B + 1) := by rw [eqN, hK.cst]; rfl
    refine wp_cnt (N := (nFn B).toNat) (fun f ls hi' => ∃ l l4 l5, ls = [vR (some 49), vI 12, vI (pFn B f), vI (120 + f), l4, l5] ∧ hi' = ls1 hi l ∧ LK (ch.bind fun _ => lpE (nmF B) f (pFn0 B + 1)) l (pFn B f)) ?_ ?_ _ _ ⟨l, l4, l5, rfl, rfl, hK.z (by omega)⟩
    · rintro f ls hi' hf ⟨l, l4, l5, rfl, rfl, hK⟩ nx
      obtain ⟨s1, s2, s3, s4, s5, s6, s7, s8, s9, s10, s11, s12, s13, s14⟩ := hSF f (by omega) (by omega)
      obtain ⟨q1, q2, q3, q4, q5, q6⟩ := m6 f (by omega) (by omega)
      rw [show (10 * 12 + (f : Int)) = 120 + f by omega] at q1 q5 q6
      have q1 : hi 64 (120 + f) = nPar B f := q1
      have q5 : hi 68 (120 + f) = cLen B f := q5
      have q6 : hi 69 (120 + f) = cAt B f := q6
      have hcs := tyP_sk s7
      have hc2 : cAt B f ≤ 2000 := by
        obtain ⟨hI, -⟩ := cdP_at (n := (cLen B f).toNat - 1) (by rw [show (cLen B f).toNat - 1 + 1 = (cLen B f).toNat by omega]; exact s13) (by omega)
        have := hps _ hI.2.2.2.2.2.1
        omega
      have eF : nmF B (pFn B f) = ((lpE (nmT B) (nPar B f).toNat (pFn B f + 1)).bind fun q => (nmT B q).bind fun q2 => cdN B (q2 + 2) (B (q2 + 1)) (B (q2 + 1)).toNat (q2 + 2)) := rfl
      have hp5 := nP hB h52 (p := pFn B f) s1
      have T201 : ∀ l l5, LK (ch.bind fun _ => lpE (nmF B) f (pFn0 B + 1)) l (pFn B f) → Wp d 239 201 [vR (some 49), vI 12, vI (pFn B f + 1), vI (120 + f), vI 0, l5] [] al (ls1 hi l) hr Q := by
        intro l l5 hK
        refine wp_cnt (N := (nPar B f).toNat) (fun k ls hi' => ∃ l l5, ls = [vR (some 49), vI 12, vI (pPar B f k), vI (120 + f), vI k, l5] ∧ hi' = ls1 hi l ∧ LK ((ch.bind fun _ => lpE (nmF B) f (pFn0 B + 1)).bind fun _ => lpE (nmT B) k (pFn B f + 1)) l (pPar B f k)) ?_ ?_ _ _ ⟨l, l5, rfl, rfl, hK.z (by omega)⟩
        · rintro k ls hi' hk ⟨l, l5, rfl, rfl, hK2⟩ nx2
          obtain ⟨t1, t2⟩ := s4 k (by omega) (by omega)
          have hpp := htp _ _ _ _ t1
          refine s239_201.mpr (s239_203.mpr ((s239_204 kM).mpr ?_))
          rw [mr_16 hR]
          refine s239_207.mpr ?_
          refine (s239_208 (hA.k (by decide) (by decide) rfl) (by first | assumption | omega) (by first | assumption | omega)).mpr ?_
          try simp (disch := first | decide | assumption | omega) only [kon, knt_some, knt_none, Option.toList_some, Option.toList_none, List.cons_append, List.nil_append, upI_eq, upI_a, upI_i, upR_eq, upR_a, upR_i, q1, fAdd_id]
          refine s239_209.mpr (wif (fun c209 => ?_) (fun c209 => ?_))
          · skip
            refine s239_212.mpr (s239_213.mpr (s239_214.mpr ?_))
            refine (s239_215 (by omega) kM).mpr ?_
            refine m_names (B := B) hA hR (by omega) hM'.ls hWb t1 (by omega) ?_
            simp only [upI_eq, upI_up]
            refine s239_218.mpr (s239_219.mpr (s239_222.mpr ?_))
            try simp (disch := first | decide | assumption | omega) only [kon, knt_some, knt_none, Option.toList_some, Option.toList_none, List.cons_append, List.nil_append, upI_eq, upI_a, upI_i, upR_eq, upR_a, upR_i, q1, fAdd_id]
            exact nx2 _ _ ⟨_, _, rfl, rfl, hK2.lp (Wk_nmT t1) (by omega)⟩
          · skip
            exfalso; omega
        · rintro ls hi' ⟨l, l5, rfl, rfl, hK2⟩
          have hpr : pPar B f (nPar B f).toNat = pRes B f := by rw [Int.toNat_of_nonneg s1]; exact s5
          have hpp := htp _ _ _ _ s7
          rw [hpr] at hK2 ⊢
          have hK3 := hK2.st (Wk_nmT s7) (by omega)
          have hK5 := hK3.sh (j := 2) (by omega)
          rw [show cAt B f - 2 + 2 = cAt B f by omega] at hK5
          have eqX : ∀ l', LK ((((((ch.bind fun _ => lpE (nmF B) f (pFn0 B + 1)).bind fun _ => lpE (nmT B) (nPar B f).toNat (pFn B f + 1)).bind (nmT B)).bind fun q => .ok (q + 2)).bind (cdN B (cAt B f) (cLen B f) (cLen B f).toNat))) l' (cAt B f + cLen B f) → LK (ch.bind fun _ => lpE (nmF B) (f + 1) (pFn0 B + 1)) l' (pFn B (f + 1)) := by
            intro l' h
            have e1 : (ch.bind fun _ => lpE (nmF B) (f + 1) (pFn0 B + 1)) = (ch.bind fun _ => lpE (nmF B) f (pFn0 B + 1)).bind (nmF B) := by
              rw [bind_assoc]; congr 1; funext _; exact lpE_s _ _ _
            rw [e1, hK.cst, eF, ← s14]
            clear e1 nx
            generalize (ch.bind fun _ => lpE (nmF B) f (pFn0 B + 1)) = C0 at *
            generalize lpE (nmT B) (nPar B f).toNat (pFn B f + 1) = Y at *
            cases C0 with
            | error q => exact h
            | ok q =>
              cases Y with
              | error q => exact h
              | ok q2 =>
                rcases hK2 with ⟨e2, -⟩ | ⟨_, e2, -⟩
                · cases e2
                  have h : LK ((((nmT B (pRes B f)).bind fun q => .ok (q + 2))).bind (cdN B (cAt B f) (cLen B f) (cLen B f).toNat)) l' (cAt B f + cLen B f) := h
                  show LK ((nmT B (pRes B f)).bind fun q2 => cdN B (q2 + 2) (B (q2 + 1)) (B (q2 + 1)).toNat (q2 + 2)) l' (cAt B f + cLen B f)
                  have hK3 : LK (nmT B (pRes B f)) _ (cAt B f - 2) := hK3
                  generalize nmT B (pRes B f) = Z at *
                  rcases hK3 with ⟨rfl, -⟩ | ⟨_, rfl, -⟩
                  · rw [bnd_ok, bnd_ok, show cAt B f - 2 + 2 = cAt B f by omega] at h
                    rw [bnd_ok, show cAt B f - 2 + 2 = cAt B f by omega, show B (cAt B f - 2 + 1) = cLen B f by unfold cAt cLen; congr 1; omega]
                    exact h
                  · exact h
                · cases e2
          refine s239_201.mpr (s239_203.mpr ((s239_204 kM).mpr ?_))
          rw [mr_16 hR]
          refine s239_207.mpr ?_
          refine (s239_208 (hA.k (by decide) (by decide) rfl) (by first | assumption | omega) (by first | assumption | omega)).mpr ?_
          try simp (disch := first | decide | assumption | omega) only [kon, knt_some, knt_none, Option.toList_some, Option.toList_none, List.cons_append, List.nil_append, upI_eq, upI_a, upI_i, upR_eq, upR_a, upR_i, q1, q5, q6, fAdd_id]
          refine s239_209.mpr (wif (fun c209 => ?_) (fun c209 => ?_))
          · skip
            exfalso; omega
          · skip
            refine s239_225.mpr (s239_226.mpr (s239_227.mpr ?_))
            refine (s239_228 (by omega) kM).mpr ?_
            refine m_names (B := B) hA hR (by omega) hM'.ls hWb s7 (by omega) ?_
            simp only [upI_eq, upI_up]
            refine s239_231.mpr (s239_232.mpr (s239_233.mpr (s239_234.mpr ?_)))
            refine (s239_235 (by omega) kM).mpr ?_
            refine m_looksAtCode (B := B) (c := cAt B f) (n := cLen B f) (L := nLoc B f) hA hR (by omega) hM'.ls hWb (by omega) (by (try simp (disch := decide) only [upI_eq, upI_a, upI_i, upR_eq, upR_a, upR_i]); exact q6) (by (try simp (disch := decide) only [upI_eq, upI_a, upI_i, upR_eq, upR_a, upR_i]); exact q5) (by omega) (by omega) s13 upI_eq hK5 (fun l' hK4 => ?_)
            simp only [upI_up]
            refine s239_238.mpr ((s239_239 kM).mpr ?_)
            rw [mr_21 hR]
            refine s239_242.mpr ?_
            refine (s239_243 (hA.k (by decide) (by decide) rfl) (by first | assumption | omega) (by first | assumption | omega)).mpr ?_
            refine s239_244.mpr ((s239_245 kM).mpr ?_)
            rw [mr_20 hR]
            refine s239_248.mpr ?_
            try simp (disch := first | decide | assumption | omega) only [kon, knt_some, knt_none, Option.toList_some, Option.toList_none, List.cons_append, List.nil_append, upI_eq, upI_a, upI_i, upR_eq, upR_a, upR_i, q1, q5, q6, fAdd_id]
            refine (s239_249 (hA.k (by decide) (by decide) rfl) (by first | assumption | omega) (by first | assumption | omega)).mpr ?_
            refine s239_250.mpr (s239_251.mpr (s239_252.mpr (s239_255.mpr ?_)))
            try simp (disch := first | decide | assumption | omega) only [kon, knt_some, knt_none, Option.toList_some, Option.toList_none, List.cons_append, List.nil_append, upI_eq, upI_a, upI_i, upR_eq, upR_a, upR_i, q1, q5, q6, fAdd_id]
            exact nx _ _ ⟨l', _, _, by rw [cast1, s14, Int.add_assoc 120], rfl, eqX l' hK4⟩
      refine s239_180.mpr (s239_181.mpr (s239_183.mpr (s239_184.mpr (s239_185.mpr ((s239_186 kM).mpr ?_)))))
      rw [mr_7 hR]
      refine s239_189.mpr ?_
      try simp (disch := first | decide | assumption | omega) only [upI_eq, upI_a, upI_i, upR_eq, upR_a, upR_i, m5, fAdd_id, fMul_id]
      refine (s239_190 (hA.k (by decide) (by decide) rfl) (by first | assumption | omega) (by first | assumption | omega)).mpr ?_
      refine s239_191.mpr ?_
      try simp (disch := first | decide | assumption | omega) only [upI_eq, upI_a, upI_i, upR_eq, upR_a, upR_i, m5, fAdd_id, fMul_id]
      refine s239_192.mpr (wif (fun c192 => ?_) (fun c192 => ?_))
      · skip
        refine s239_195.mpr (s239_198.mpr (s239_199.mpr ?_))
        try simp (disch := first | decide | assumption | omega) only [upI_eq, upI_a, upI_i, upR_eq, upR_a, upR_i, m5, fAdd_id, fMul_id]
        exact T201 _ _ hK
      · skip
        exfalso; omega
    · rintro ls hi' ⟨l, l4, l5, rfl, rfl, hK⟩
      rw [← eqN] at hK
      refine s239_180.mpr (s239_181.mpr (s239_183.mpr (s239_184.mpr (s239_185.mpr ((s239_186 kM).mpr ?_)))))
      rw [mr_7 hR]
      refine s239_189.mpr ?_
      try simp (disch := first | decide | assumption | omega) only [upI_eq, upI_a, upI_i, upR_eq, upR_a, upR_i, m5, fAdd_id, fMul_id]
      refine (s239_190 (hA.k (by decide) (by decide) rfl) (by first | assumption | omega) (by first | assumption | omega)).mpr ?_
      refine s239_191.mpr ?_
      try simp (disch := first | decide | assumption | omega) only [upI_eq, upI_a, upI_i, upR_eq, upR_a, upR_i, m5, fAdd_id, fMul_id]
      refine s239_192.mpr (wif (fun c192 => ?_) (fun c192 => ?_))
      · skip
        exfalso; omega
      · skip
        refine s239_258.mpr ?_
        refine (s239_259 kM).mpr ?_
        refine s239_262.mpr ?_
        try simp (disch := first | decide | assumption | omega) only [upI_eq, upI_a, upI_i, upR_eq, upR_a, upR_i, m5, fAdd_id, fMul_id]
        refine s239_263.mpr (wif (fun c263 => ?_) (fun c263 => ?_))
        · skip
          refine (s239_275).mpr ?_
          rcases hK with ⟨e, e2⟩ | ⟨q, e, e2, e3, e4⟩
          · rw [e2]; exact fin _ e
          · exfalso; omega
        · skip
          refine s239_266.mpr (s239_267.mpr (s239_268.mpr ?_))
          refine (s239_269 kM).mpr ?_
          try simp (disch := first | decide | assumption | omega) only [upI_eq, upI_a, upI_i, upR_eq, upR_a, upR_i, m5, fAdd_id, fMul_id]
          refine (s239_272 (by omega) kM).mpr ?_
          refine (m_fails hA hR).mpr ?_
          show tho 239 = true ∧ Q none _ _ _
          refine ⟨rfl, ?_⟩
          rcases hK with ⟨e, e2⟩ | ⟨q, e, e2, e3, e4⟩
          · exfalso; omega
          · rw [e2]; exact err _ e
  have T67 : ∀ (l : Int) (ch : Ex) (l4 l5 : AV), LK ch l (pCt0 B) → namP B = (ch.bind fun p3 => (lpE (nmC B) (B p3).toNat (p3 + 1)).bind fun p5 => lpE (nmF B) (B p5).toNat (p5 + 1)) → Wp d 239 67 [vR (some 49), vI 12, vI (pCt0 B + 1), vI 48, l4, l5] [] al (ls1 hi l) hr Q := by
    intro l ch l4 l5 hK eqN
    have eqN : namP B = (ch.bind fun _ => lpE (nmC B) (nCtr B).toNat (pCt0 B + 1)).bind fun p5 => lpE (nmF B) (B p5).toNat (p5 + 1) := by rw [eqN, hK.cst, bind_assoc]; rfl
    refine wp_cnt (N := (nCtr B).toNat) (fun c ls hi' => ∃ l l4 l5, ls = [vR (some 49), vI 12, vI (pCtr B c), vI (48 + c), l4, l5] ∧ hi' = ls1 hi l ∧ LK (ch.bind fun _ => lpE (nmC B) c (pCt0 B + 1)) l (pCtr B c)) ?_ ?_ _ _ ⟨l, l4, l5, rfl, rfl, hK.z (by omega)⟩
    · rintro c ls hi' hc ⟨l, l4, l5, rfl, rfl, hK⟩ nx
      obtain ⟨s1, s2, s3, s4, s5⟩ := hSC c (by omega) (by omega)
      obtain ⟨q1, q2⟩ := m4 c (by omega) (by omega)
      rw [show (4 * 12 + (c : Int)) = 48 + c by omega] at q1 q2
      have q1 : hi 59 (48 + c) = nSt B c := q1
      have hp5 := nP hB h52 (p := pCtr B c) (by show 0 ≤ nSt B c; omega)
      have T90 : ∀ l l5, LK (ch.bind fun _ => lpE (nmC B) c (pCt0 B + 1)) l (pCtr B c) → Wp d 239 90 [vR (some 49), vI 12, vI (pCtr B c + 1), vI (48 + c), vI (8 * (48 + c)), l5] [] al (ls1 hi l) hr Q := by
        intro l l5 hK
        generalize hC0 : (ch.bind fun _ => lpE (nmC B) c (pCt0 B + 1)) = C0 at hK
        refine wp_cnt (N := (nSt B c).toNat) (fun s ls hi' => ∃ l l5, ls = [vR (some 49), vI 12, vI (pSt B c s), vI (48 + c), vI (8 * (48 + c) + s), l5] ∧ hi' = ls1 hi l ∧ LK (C0.bind fun _ => lpE (nmS B (nSt B c)) s (pCtr B c + 1)) l (pSt B c s)) ?_ ?_ _ _ ⟨l, l5, by rw [show (8 * (48 + (c : Int)) + ((0 : Nat) : Int)) = 8 * (48 + c) by omega]; rfl, rfl, hK.z (by omega)⟩
        · rintro s ls hi' hs ⟨l, l5, rfl, rfl, hK2⟩ nx2
          obtain ⟨t1, t2, t3, t4, t5, t6, t7, t8⟩ := s4 s (by omega) (by omega)
          obtain ⟨u1, u2, u3⟩ := q2 s (by omega) (by show (s : Int) < nSt B c; omega)
          have u2 : hi 61 (8 * (48 + c) + s) = nMs B c s := u2
          have hp6 := nP hB h52 (p := pSt B c s) t1
          generalize hC1 : (C0.bind fun _ => lpE (nmS B (nSt B c)) s (pCtr B c + 1)) = C1 at hK2
          have T112 : Wp d 239 112 [vR (some 49), vI 12, vI (pSt B c s + 2), vI (48 + c), vI (8 * (48 + c) + s), vI 0] [] al (ls1 hi l) hr Q := by
            refine wp_cnt (N := (nMs B c s).toNat) (fun t ls hi' => ∃ l, ls = [vR (some 49), vI 12, vI (pMs B c s t), vI (48 + c), vI (8 * (48 + c) + s), vI t] ∧ hi' = ls1 hi l ∧ LK (C1.bind fun _ => lpE (nmM B (nSt B c)) t (pSt B c s + 2)) l (pMs B c s t)) ?_ ?_ _ _ ⟨l, rfl, rfl, hK2.z (by omega)⟩
            · rintro t ls hi' ht ⟨l, rfl, rfl, hK3⟩ nx3
              obtain ⟨v1, v2, v3, v4, v5⟩ := t7 t (by omega) (by omega)
              have hpp := htp _ _ _ _ v1
              have hpq := tyP_ge v1
              have hS1 := hK3.st (Wk_nmT v1) (by omega)
              have hpt := nP hB h52 (p := skT B (pMs B c s t)) v2
              have hW2 : Wk (fun q => if nSt B c ≤ B q then .error q else .ok (q + 1)) (skT B (pMs B c s t)) (skT B (pMs B c s t) + 1) := by
                refine ⟨by omega, ?_⟩
                by_cases h : nSt B c ≤ B (skT B (pMs B c s t))
                · right; exact ⟨_, if_pos h, by omega, by omega⟩
                · left; exact if_neg h
              have hS2 := hS1.st hW2 (by omega)
              have e9 : ((((C1.bind fun _ => lpE (nmM B (nSt B c)) t (pSt B c s + 2)).bind (nmT B))).bind fun q => if nSt B c ≤ B q then .error q else .ok (q + 1)) = C1.bind fun _ => lpE (nmM B (nSt B c)) (t + 1) (pSt B c s + 2) := by
                rw [bind_assoc, bind_assoc]
                congr 1; funext _
                exact (lpE_s (nmM B (nSt B c)) t (pSt B c s + 2)).symm
              rw [e9] at hS2
              have v4 : pMs B c s ((t + 1 : Nat) : Int) = skT B (pMs B c s t) + 1 := v4
              refine s239_112.mpr (s239_114.mpr ((s239_115 kM).mpr ?_))
              rw [mr_13 hR]
              refine s239_118.mpr ?_
              refine (s239_120 (hA.k (by decide) (by decide) rfl) (by first | assumption | omega) (by first | assumption | omega)).mpr ?_
              try simp (disch := first | decide | assumption | omega) only [kon, knt_some, knt_none, Option.toList_some, Option.toList_none, List.cons_append, List.nil_append, upI_eq, upI_a, upI_i, upR_eq, upR_a, upR_i, u2, q1, hBl, fAdd_id]
              refine s239_121.mpr (wif (fun c121 => ?_) (fun c121 => ?_))
              · skip
                refine s239_124.mpr (s239_125.mpr (s239_126.mpr ?_))
                refine (s239_127 (by omega) kM).mpr ?_
                refine m_names (B := B) hA hR (by omega) hM'.ls hWb v1 (by omega) ?_
                simp only [upI_eq, upI_up]
                refine s239_130.mpr (s239_131.mpr (s239_132.mpr (s239_133.mpr ?_)))
                refine (s239_134 (by omega) kM).mpr ?_
                refine (m_byteAt hA hR (by omega) (by omega) (by (try simp (disch := decide) only [upI_eq, upI_a, upI_i, upR_eq, upR_a, upR_i]); exact h52)).mpr ?_
                rw [hBl]
                refine s239_137.mpr ((s239_138 kM).mpr ?_)
                rw [mr_11 hR]
                refine s239_141.mpr ?_
                refine (s239_142 (hA.k (by decide) (by decide) rfl) (by first | assumption | omega) (by first | assumption | omega)).mpr ?_
                try simp (disch := first | decide | assumption | omega) only [kon, knt_some, knt_none, Option.toList_some, Option.toList_none, List.cons_append, List.nil_append, upI_eq, upI_a, upI_i, upR_eq, upR_a, upR_i, u2, q1, hBl, fAdd_id]
                refine s239_143.mpr (wif (fun c143 => ?_) (fun c143 => ?_))
                · skip
                  refine s239_151.mpr (s239_154.mpr (s239_157.mpr ?_))
                  try simp (disch := first | decide | assumption | omega) only [kon, knt_some, knt_none, Option.toList_some, Option.toList_none, List.cons_append, List.nil_append, upI_eq, upI_a, upI_i, upR_eq, upR_a, upR_i, u2, q1, hBl, fAdd_id]
                  first | exact nx3 _ _ ⟨_, by rw [v4]; rfl, rfl, by have h9 := hS2; rw [if_neg (by omega), lst_ok] at h9; rw [v4]; exact h9⟩ | exact nx3 _ _ ⟨_, by rw [v4]; rfl, rfl, by have h9 := hS2; rw [if_pos (by omega), lst_er] at h9; rw [v4]; exact h9⟩
                · skip
                  refine s239_146.mpr (s239_147.mpr ?_)
                  refine (s239_148 (by omega) kM).mpr ?_
                  refine m_missing hA ?_
                  simp only [upI_eq, upI_up]
                  refine s239_151.mpr (s239_154.mpr (s239_157.mpr ?_))
                  try simp (disch := first | decide | assumption | omega) only [kon, knt_some, knt_none, Option.toList_some, Option.toList_none, List.cons_append, List.nil_append, upI_eq, upI_a, upI_i, upR_eq, upR_a, upR_i, u2, q1, hBl, fAdd_id]
                  first | exact nx3 _ _ ⟨_, by rw [v4]; rfl, rfl, by have h9 := hS2; rw [if_neg (by omega), lst_ok] at h9; rw [v4]; exact h9⟩ | exact nx3 _ _ ⟨_, by rw [v4]; rfl, rfl, by have h9 := hS2; rw [if_pos (by omega), lst_er] at h9; rw [v4]; exact h9⟩
              · skip
                exfalso; omega
            · rintro ls hi' ⟨l, rfl, rfl, hK3⟩
              have e9 : pMs B c s (nMs B c s).toNat = pSt B c ((s + 1 : Nat) : Int) := by rw [Int.toNat_of_nonneg t3]; exact t8
              rw [e9] at hK3 ⊢
              refine s239_112.mpr (s239_114.mpr ((s239_115 kM).mpr ?_))
              rw [mr_13 hR]
              refine s239_118.mpr ?_
              refine (s239_120 (hA.k (by decide) (by decide) rfl) (by first | assumption | omega) (by first | assumption | omega)).mpr ?_
              try simp (disch := first | decide | assumption | omega) only [upI_eq, upI_a, upI_i, upR_eq, upR_a, upR_i, u2, fAdd_id]
              refine s239_121.mpr (wif (fun c121 => ?_) (fun c121 => ?_))
              · skip
                exfalso; omega
              · skip
                refine s239_160.mpr (s239_163.mpr ?_)
                try simp (disch := first | decide | assumption | omega) only [upI_eq, upI_a, upI_i, upR_eq, upR_a, upR_i, u2, fAdd_id]
                refine nx2 _ _ ⟨_, _, by rw [cast1, Int.add_assoc], rfl, ?_⟩
                rw [show (fun _ : Int => lpE (nmS B (nSt B c)) (s + 1) (pCtr B c + 1)) = fun _ => (lpE (nmS B (nSt B c)) s (pCtr B c + 1)).bind (nmS B (nSt B c)) from funext fun _ => lpE_s _ _ _, ← bind_assoc, hC1, hK2.cst]
                exact hK3
          refine s239_90.mpr (s239_92.mpr (s239_94.mpr (s239_95.mpr (s239_96.mpr ((s239_97 kM).mpr ?_)))))
          rw [mr_11 hR]
          refine s239_100.mpr ?_
          try simp (disch := first | decide | assumption | omega) only [upI_eq, upI_a, upI_i, upR_eq, upR_a, upR_i, q1, fAdd_id, fMul_id]
          refine (s239_101 (hA.k (by decide) (by decide) rfl) (by first | assumption | omega) (by first | assumption | omega)).mpr ?_
          refine s239_102.mpr ?_
          try simp (disch := first | decide | assumption | omega) only [upI_eq, upI_a, upI_i, upR_eq, upR_a, upR_i, q1, fAdd_id, fMul_id]
          refine s239_103.mpr (wif (fun c103 => ?_) (fun c103 => ?_))
          · skip
            refine s239_106.mpr (s239_109.mpr (s239_110.mpr ?_))
            try simp (disch := first | decide | assumption | omega) only [upI_eq, upI_a, upI_i, upR_eq, upR_a, upR_i, q1, fAdd_id, fMul_id]
            exact T112
          · skip
            exfalso; omega
        · rintro ls hi' ⟨l, l5, rfl, rfl, hK2⟩
          have e9 : pSt B c (nSt B c).toNat = pCtr B ((c + 1 : Nat) : Int) := by rw [Int.toNat_of_nonneg (by omega)]; exact s5
          rw [e9] at hK2 ⊢
          refine s239_90.mpr (s239_92.mpr (s239_94.mpr (s239_95.mpr (s239_96.mpr ((s239_97 kM).mpr ?_)))))
          rw [mr_11 hR]
          refine s239_100.mpr ?_
          try simp (disch := first | decide | assumption | omega) only [upI_eq, upI_a, upI_i, upR_eq, upR_a, upR_i, q1, fAdd_id, fMul_id]
          refine (s239_101 (hA.k (by decide) (by decide) rfl) (by first | assumption | omega) (by first | assumption | omega)).mpr ?_
          refine s239_102.mpr ?_
          try simp (disch := first | decide | assumption | omega) only [upI_eq, upI_a, upI_i, upR_eq, upR_a, upR_i, q1, fAdd_id, fMul_id]
          refine s239_103.mpr (wif (fun c103 => ?_) (fun c103 => ?_))
          · skip
            exfalso; omega
          · skip
            refine s239_166.mpr (s239_169.mpr ?_)
            try simp (disch := first | decide | assumption | omega) only [upI_eq, upI_a, upI_i, upR_eq, upR_a, upR_i, q1, fAdd_id, fMul_id]
            refine nx _ _ ⟨_, _, _, by rw [cast1, ← Int.add_assoc 48], rfl, ?_⟩
            rw [show (fun _ : Int => lpE (nmC B) (c + 1) (pCt0 B + 1)) = fun _ => (lpE (nmC B) c (pCt0 B + 1)).bind (nmC B) from funext fun _ => lpE_s _ _ _, ← bind_assoc, hC0, hK.cst]
            exact hK2
      refine s239_67.mpr (s239_68.mpr (s239_69.mpr (s239_70.mpr (s239_71.mpr ((s239_72 kM).mpr ?_)))))
      rw [mr_6 hR]
      refine s239_75.mpr ?_
      try simp (disch := first | decide | assumption | omega) only [upI_eq, upI_a, upI_i, upR_eq, upR_a, upR_i, m3, fAdd_id, fMul_id]
      refine (s239_76 (hA.k (by decide) (by decide) rfl) (by first | assumption | omega) (by first | assumption | omega)).mpr ?_
      refine s239_77.mpr ?_
      try simp (disch := first | decide | assumption | omega) only [upI_eq, upI_a, upI_i, upR_eq, upR_a, upR_i, m3, fAdd_id, fMul_id]
      refine s239_78.mpr (wif (fun c78 => ?_) (fun c78 => ?_))
      · skip
        refine s239_81.mpr (s239_84.mpr (s239_86.mpr (s239_87.mpr (s239_88.mpr ?_))))
        try simp (disch := first | decide | assumption | omega) only [upI_eq, upI_a, upI_i, upR_eq, upR_a, upR_i, m3, fAdd_id, fMul_id]
        exact T90 _ _ hK
      · skip
        exfalso; omega
    · rintro ls hi' ⟨l, l4, l5, rfl, rfl, hK⟩
      have e9 : pCtr B (nCtr B).toNat = pFn0 B := by rw [Int.toNat_of_nonneg c0]; rfl
      rw [e9] at hK ⊢
      have hp7 := nP hB h52 (p := pFn0 B) (by show 0 ≤ nFn B; omega)
      refine s239_67.mpr (s239_68.mpr (s239_69.mpr (s239_70.mpr (s239_71.mpr ((s239_72 kM).mpr ?_)))))
      rw [mr_6 hR]
      refine s239_75.mpr ?_
      try simp (disch := first | decide | assumption | omega) only [upI_eq, upI_a, upI_i, upR_eq, upR_a, upR_i, m3, fAdd_id, fMul_id]
      refine (s239_76 (hA.k (by decide) (by decide) rfl) (by first | assumption | omega) (by first | assumption | omega)).mpr ?_
      refine s239_77.mpr ?_
      try simp (disch := first | decide | assumption | omega) only [upI_eq, upI_a, upI_i, upR_eq, upR_a, upR_i, m3, fAdd_id, fMul_id]
      refine s239_78.mpr (wif (fun c78 => ?_) (fun c78 => ?_))
      · skip
        exfalso; omega
      · skip
        refine s239_172.mpr (s239_175.mpr (s239_177.mpr (s239_178.mpr (s239_179.mpr ?_))))
        try simp (disch := first | decide | assumption | omega) only [upI_eq, upI_a, upI_i, upR_eq, upR_a, upR_i, m3, fAdd_id, fMul_id]
        exact T180 _ _ _ _ hK eqN
  have T9 : Wp d 239 9 [vR (some 49), vI 12, vI 3, vI 0, none, none] [] al (ls1 hi (-1)) hr Q := by
    refine wp_cnt (N := (nRec B).toNat) (fun r ls hi' => ∃ l l4 l5, ls = [vR (some 49), vI 12, vI (pRec B r), vI r, l4, l5] ∧ hi' = ls1 hi l ∧ LK (lpE (nmR B) r 3) l (pRec B r)) ?_ ?_ _ _ ⟨-1, _, _, rfl, rfl, Or.inl ⟨rfl, rfl⟩⟩
    · rintro r ls hi' hr9 ⟨l, l4, l5, rfl, rfl, hK⟩ nx
      obtain ⟨s1, s2, s3, s4, s5⟩ := hSR r (by omega) (by omega)
      obtain ⟨q1, q2⟩ := m2 r (by omega) (by omega)
      have q1 : hi 57 (96 + r) = nFld B r := q1
      have hp5 := nP hB h52 (p := pRec B r) (by show 0 ≤ nFld B r; omega)
      have T25 : Wp d 239 25 [vR (some 49), vI 12, vI (pRec B r + 1), vI r, vI 0, l5] [] al (ls1 hi l) hr Q := by
        refine wp_cnt (N := (nFld B r).toNat) (fun k ls hi' => ∃ l, ls = [vR (some 49), vI 12, vI (pFld B r k), vI r, vI k, l5] ∧ hi' = ls1 hi l ∧ LK ((lpE (nmR B) r 3).bind fun _ => lpE (nmT B) k (pRec B r + 1)) l (pFld B r k)) ?_ ?_ _ _ ⟨l, rfl, rfl, hK.z (by omega)⟩
        · rintro k ls hi' hk ⟨l, rfl, rfl, hK2⟩ nx2
          obtain ⟨t1, t2⟩ := s4 k (by omega) (by omega)
          have hpp := htp _ _ _ _ t1
          refine s239_25.mpr (s239_27.mpr ((s239_28 kM).mpr ?_))
          rw [mr_9 hR]
          refine s239_31.mpr (s239_33.mpr (s239_34.mpr (s239_35.mpr (s239_36.mpr ?_))))
          try simp (disch := first | decide | assumption | omega) only [kon, knt_some, knt_none, Option.toList_some, Option.toList_none, List.cons_append, List.nil_append, upI_eq, upI_a, upI_i, upR_eq, upR_a, upR_i, fAdd_id, fMul_id, show (8 : Int) * 12 = 96 from rfl, q1]
          refine (s239_37 (hA.k (by decide) (by decide) rfl) (by first | assumption | omega) (by first | assumption | omega)).mpr ?_
          try simp (disch := first | decide | assumption | omega) only [kon, knt_some, knt_none, Option.toList_some, Option.toList_none, List.cons_append, List.nil_append, upI_eq, upI_a, upI_i, upR_eq, upR_a, upR_i, fAdd_id, fMul_id, show (8 : Int) * 12 = 96 from rfl, q1]
          refine s239_38.mpr (wif (fun c38 => ?_) (fun c38 => ?_))
          · skip
            refine s239_41.mpr (s239_42.mpr (s239_43.mpr ?_))
            refine (s239_44 (by omega) kM).mpr ?_
            refine m_names (B := B) hA hR (by omega) hM'.ls hWb t1 (by omega) ?_
            simp only [upI_eq, upI_up]
            refine s239_47.mpr (s239_48.mpr (s239_51.mpr ?_))
            try simp (disch := first | decide | assumption | omega) only [kon, knt_some, knt_none, Option.toList_some, Option.toList_none, List.cons_append, List.nil_append, upI_eq, upI_a, upI_i, upR_eq, upR_a, upR_i, fAdd_id, fMul_id, show (8 : Int) * 12 = 96 from rfl, q1]
            exact nx2 _ _ ⟨_, rfl, rfl, hK2.lp (Wk_nmT t1) (by omega)⟩
          · skip
            exfalso; omega
        · rintro ls hi' ⟨l, rfl, rfl, hK2⟩
          have e9 : pFld B r (nFld B r).toNat = pRec B ((r + 1 : Nat) : Int) := by rw [Int.toNat_of_nonneg (by omega)]; exact s5
          rw [e9] at hK2 ⊢
          refine s239_25.mpr (s239_27.mpr ((s239_28 kM).mpr ?_))
          rw [mr_9 hR]
          refine s239_31.mpr (s239_33.mpr (s239_34.mpr (s239_35.mpr (s239_36.mpr ?_))))
          try simp (disch := first | decide | assumption | omega) only [upI_eq, upI_a, upI_i, upR_eq, upR_a, upR_i, fAdd_id, fMul_id, show (8 : Int) * 12 = 96 from rfl, q1]
          refine (s239_37 (hA.k (by decide) (by decide) rfl) (by first | assumption | omega) (by first | assumption | omega)).mpr ?_
          try simp (disch := first | decide | assumption | omega) only [upI_eq, upI_a, upI_i, upR_eq, upR_a, upR_i, fAdd_id, fMul_id, show (8 : Int) * 12 = 96 from rfl, q1]
          refine s239_38.mpr (wif (fun c38 => ?_) (fun c38 => ?_))
          · skip
            exfalso; omega
          · skip
            refine s239_54.mpr (s239_57.mpr ?_)
            try simp (disch := first | decide | assumption | omega) only [upI_eq, upI_a, upI_i, upR_eq, upR_a, upR_i, fAdd_id, fMul_id, show (8 : Int) * 12 = 96 from rfl, q1]
            refine nx _ _ ⟨_, _, _, by rw [cast1], rfl, ?_⟩
            rw [lpE_s, hK.cst]; exact hK2
      refine s239_9.mpr (s239_10.mpr ((s239_11 kM).mpr ?_))
      rw [mr_5 hR]
      refine s239_14.mpr ?_
      refine (s239_15 (hA.k (by decide) (by decide) rfl) (by first | assumption | omega) (by first | assumption | omega)).mpr ?_
      try simp (disch := first | decide | assumption | omega) only [upI_eq, upI_a, upI_i, upR_eq, upR_a, upR_i, m1, fAdd_id]
      refine s239_16.mpr (wif (fun c16 => ?_) (fun c16 => ?_))
      · skip
        refine s239_19.mpr (s239_22.mpr (s239_23.mpr ?_))
        try simp (disch := first | decide | assumption | omega) only [upI_eq, upI_a, upI_i, upR_eq, upR_a, upR_i, m1, fAdd_id]
        exact T25
      · skip
        exfalso; omega
    · rintro ls hi' ⟨l, l4, l5, rfl, rfl, hK⟩
      have e9 : pRec B (nRec B).toNat = pCt0 B := by rw [Int.toNat_of_nonneg r0]; rfl
      rw [e9] at hK ⊢
      have hp7 := nP hB h52 (p := pCt0 B) (by show 0 ≤ nCtr B; omega)
      refine s239_9.mpr (s239_10.mpr ((s239_11 kM).mpr ?_))
      rw [mr_5 hR]
      refine s239_14.mpr ?_
      refine (s239_15 (hA.k (by decide) (by decide) rfl) (by first | assumption | omega) (by first | assumption | omega)).mpr ?_
      try simp (disch := first | decide | assumption | omega) only [upI_eq, upI_a, upI_i, upR_eq, upR_a, upR_i, m1, fAdd_id, fMul_id, show (4 : Int) * 12 = 48 from rfl]
      refine s239_16.mpr (wif (fun c16 => ?_) (fun c16 => ?_))
      · skip
        exfalso; omega
      · skip
        refine s239_60.mpr (s239_63.mpr (s239_64.mpr (s239_65.mpr (s239_66.mpr ?_))))
        try simp (disch := first | decide | assumption | omega) only [upI_eq, upI_a, upI_i, upR_eq, upR_a, upR_i, m1, fAdd_id, fMul_id, show (4 : Int) * 12 = 48 from rfl]
        exact T67 _ _ _ _ hK rfl
  rw [e239]
  refine s239_0.mpr (s239_1.mpr ?_)
  refine (s239_2 kM).mpr ?_
  refine s239_5.mpr (s239_6.mpr (s239_7.mpr (s239_8.mpr ?_)))
  exact T9
end ML4
