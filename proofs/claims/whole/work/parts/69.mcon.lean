section MP5
variable {d : Nat} {al : AL} {hi : HI} {hr : HR} {Q : QQ}
theorem msP_sk {B : Int → Int} {p q : Int} (h : msP B p = .ok q) : q = skM B p ∧ 0 ≤ B (q - 1) := by
  unfold msP at h
  cases hp : tyP B 49 1 p with
  | error r => rw [hp] at h; cases h
  | ok r => rw [hp, bnd_ok] at h; have := nmb_b h (by omega); obtain ⟨rfl, -⟩ := nmb_ok h; exact ⟨by rw [tyP_sk hp]; rfl, this⟩
theorem msP_ge {B : Int → Int} {p q : Int} (h : msP B p = .ok q) : p + 2 ≤ q := by
  unfold msP at h
  cases hp : tyP B 49 1 p with
  | error r => rw [hp] at h; cases h
  | ok r => rw [hp, bnd_ok] at h; obtain ⟨rfl, -⟩ := nmb_ok h; have := tyP_ge hp; omega
theorem stP_hd {B : Int → Int} {p q : Int} (h : stP B p = .ok q) : 0 ≤ B p ∧ B p ≤ 2 ∧ 0 ≤ B (p + 1) ∧ B (p + 1) ≤ 4 ∧ (B p = 0 ↔ B (p + 1) = 0) ∧ lpE (msP B) (B (p + 1)).toNat (p + 2) = .ok q := by
  unfold stP at h
  cases hp : nmb B 0 2 p with
  | error r => rw [hp] at h; cases h
  | ok r =>
    rw [hp, bnd_ok] at h
    obtain ⟨rfl, a1, a2⟩ := nmb_ok hp
    split at h
    · rename_i c
      cases h2 : nmb B 0 0 (p + 1) with
      | error r => rw [h2] at h; cases h
      | ok r => rw [h2, bnd_ok] at h; obtain ⟨rfl, a3, a4⟩ := nmb_ok h2; exact ⟨a1, a2, by omega, by omega, ⟨fun _ => by omega, fun _ => c⟩, by rw [show p + 2 = p + 1 + 1 by omega]; exact h⟩
    · rename_i c
      cases h2 : nmb B 1 4 (p + 1) with
      | error r => rw [h2] at h; cases h
      | ok r => rw [h2, bnd_ok] at h; obtain ⟨rfl, a3, a4⟩ := nmb_ok h2; exact ⟨a1, a2, by omega, by omega, ⟨fun q => absurd q c, fun _ => by omega⟩, by rw [show p + 2 = p + 1 + 1 by omega]; exact h⟩
theorem lpE_ge {f : Int → Ex} (hf : ∀ p q, f p = .ok q → p ≤ q) : ∀ (n : Nat) (p q : Int), lpE f n p = .ok q → p ≤ q
  | 0, p, q, h => by cases h; exact Int.le_refl _
  | n + 1, p, q, h => by
    have h : (f p).bind (lpE f n) = .ok q := h
    cases hp : f p with
    | error r => rw [hp] at h; cases h
    | ok r => rw [hp] at h; have := hf p r hp; have := lpE_ge hf n r q h; omega
theorem stP_sk {B : Int → Int} {p q : Int} (h : stP B p = .ok q) : q = skS B p ∧ 0 ≤ B (q - 1) ∧ p + 2 ≤ q := by
  obtain ⟨a1, a2, a3, a4, -, h9⟩ := stP_hd h
  refine ⟨lpE_itr (fun q q' h => (msP_sk h).1) _ _ _ h9, ?_, ?_⟩
  · rcases lpE_b (B := B) (fun p q h => (msP_sk h).2) _ _ _ h9 with e | e
    · rw [e, show p + 2 - 1 = p + 1 by omega]; exact a3
    · exact e
  · exact lpE_ge (fun p q h => by have := msP_ge h; omega) _ _ _ h9
theorem ctP_sk {B : Int → Int} {p q : Int} (h : ctP B p = .ok q) : q = skC B p ∧ 0 ≤ B (q - 1) ∧ p + 1 ≤ q := by
  unfold ctP at h
  cases hp : nmb B 1 8 p with
  | error r => rw [hp] at h; cases h
  | ok r =>
    rw [hp, bnd_ok] at h
    have hb := nmb_b hp (by omega)
    obtain ⟨rfl, a1, a2⟩ := nmb_ok hp
    refine ⟨lpE_itr (fun q q' h => (stP_sk h).1) _ _ _ h, ?_, ?_⟩
    · rcases lpE_b (B := B) (fun p q h => (stP_sk h).2.1) _ _ _ h with e | e
      · rw [e]; exact hb
      · exact e
    · exact lpE_ge (fun p q h => by have := (stP_sk h).2.2; omega) _ _ _ h
theorem lpE_mid {f : Int → Ex} {n : Nat} {p q : Int} (h : lpE f n p = .ok q) {j : Nat} (hj : j < n) : ∃ r, lpE f j p = .ok r ∧ ∃ q', f r = .ok q' := by
  obtain ⟨k, rfl⟩ : ∃ k, n = j + (k + 1) := ⟨n - j - 1, by omega⟩
  rw [lpE_add] at h
  cases hr : lpE f j p with
  | error e => rw [hr] at h; cases h
  | ok r =>
    rw [hr] at h
    have h : (f r).bind (lpE f k) = .ok q := h
    cases hq : f r with
    | error e => rw [hq] at h; cases h
    | ok q' => exact ⟨r, rfl, q', hq⟩
def wC (c : Int) (a : Nat) (i : Int) : Prop := (a = 49 ∧ i = 26) ∨ (a = 59 ∧ i = c) ∨ ((a = 60 ∨ a = 61) ∧ 8 * c ≤ i ∧ i < 8 * c + 8) ∨ ((a = 62 ∨ a = 63) ∧ 32 * c ≤ i ∧ i < 32 * c + 32)
/-- the messages of a state, the first n -/
def SM (hi : HI) (k : Int) (B : Int → Int) (q n : Int) : Prop := ∀ t, 0 ≤ t → t < n → hi 62 (4 * k + t) = tyV B (itr (skM B) t.toNat q) ∧ hi 63 (4 * k + t) = B (skT B (itr (skM B) t.toNat q))
def SD (hi : HI) (k : Int) (B : Int → Int) (p : Int) : Prop := hi 60 k = B p ∧ hi 61 k = B (p + 1) ∧ SM hi k B (p + 2) (B (p + 1))
def CDn (hi : HI) (c : Int) (B : Int → Int) (p n : Int) : Prop := ∀ s, 0 ≤ s → s < n → SD hi (8 * c + s) B (itr (skS B) s.toNat (p + 1))
def CD (hi : HI) (c : Int) (B : Int → Int) (p : Int) : Prop := hi 59 c = B p ∧ CDn hi c B p (B p)
theorem SD.eq {hi' : HI} {k : Int} {B : Int → Int} {p : Int} (h : SD hi k B p) (hb : B (p + 1) ≤ 4) (h1 : hi' 60 k = hi 60 k) (h2 : hi' 61 k = hi 61 k) (h3 : ∀ i, 4 * k ≤ i → i < 4 * k + 4 → hi' 62 i = hi 62 i ∧ hi' 63 i = hi 63 i) : SD hi' k B p :=
  ⟨h1.trans h.1, h2.trans h.2.1, fun t a b => by rw [(h3 _ (by omega) (by omega)).1, (h3 _ (by omega) (by omega)).2]; exact h.2.2 t a b⟩
theorem m_contract {c p : Int} {B : Int → Int} (hA : SA al) (hR : MR hr) (hd : 5 ≤ d) (hc : 0 ≤ c ∧ c < 52) (h27 : hi 49 27 = 12) (h52 : hi 52 12 ≤ 2000) (hB : bAt hi 12 = B) (h26 : hi 49 26 = p) (h0 : 0 ≤ p) (h1 : p ≤ 2000)
    (fin : ∀ p' hi', ctP B p = .ok p' → FW (wC c) hi hi' → hi' 49 26 = p' → CD hi' c B p → Q (some none) al hi' hr)
    (err : ∀ q hi', ctP B p = .error q → FW (wE (wC c)) hi hi' → hi' 49 22 = 1 → hi' 49 23 = q → Q none al hi' hr) : Ev d 231 [vR (some 49), vI c] al hi hr Q := by
  have kM : isK al 49 13 := hA.k (by decide) (by decide) rfl
  have l59 := SA.len (a := 59) (n := 52) hA (by decide) (by decide) rfl
  have l60 := SA.len (a := 60) (n := 416) hA (by decide) (by decide) rfl
  have l61 := SA.len (a := 61) (n := 416) hA (by decide) (by decide) rfl
  have l62 := SA.len (a := 62) (n := 1664) hA (by decide) (by decide) rfl
  have l63 := SA.len (a := 63) (n := 1664) hA (by decide) (by decide) rfl
  have hBr : ∀ k, -1 ≤ B k ∧ B k ≤ 255 := fun k => by rw [← hB]; exact bAt_rng 12 k
  have hrd : ∀ q, 0 ≤ B (q - 1) → q ≤ 2000 := fun q h => rd_le h52 (by rw [hB]; exact h)
  have T15 : ∀ hi' l3 l4, nmb B 1 8 p = .ok (p + 1) → FW (wC c) hi hi' → hi' 49 26 = p + 1 → p + 1 ≤ 2000 → hi' 59 c = B p → Wp d 231 15 [vR (some 49), vI c, vI 0, l3, l4] [] al hi' hr Q := by
    intro hi' l3 l4 e1 hw h26 hp1 h59
    obtain ⟨-, b0, b1⟩ := nmb_ok e1
    have eqC : ctP B p = lpE (stP B) (B p).toNat (p + 1) := by unfold ctP; rw [e1, bnd_ok]
    refine wp_lpE (N := (B p).toNat) (f := stP B) (p0 := p + 1) (fun i p' ls hi' => (∃ l3 l4, ls = [vR (some 49), vI c, vI i, l3, l4]) ∧ FW (wC c) hi hi' ∧ hi' 49 26 = p' ∧ (0 ≤ p' ∧ p' ≤ 2000) ∧ hi' 59 c = B p ∧ CDn hi' c B p i) ?_ ?_ _ _ ⟨⟨l3, l4, rfl⟩, hw, h26, by omega, h59, fun k a b => absurd b (by omega)⟩
    · rintro i p' ls hi' hi4 hok ⟨⟨l3, l4, rfl⟩, hw, h26, hp', h59, hC⟩ nx er
      have hB' : bAt hi' 12 = B := (hw.B (by unfold wC; omega) (by unfold wC; omega)).trans hB
      obtain ⟨h27', h52'⟩ := hw.bt h27 h52 (by unfold wC; omega) (by unfold wC; omega)
      have hpi : p' = itr (skS B) i (p + 1) := lpE_itr (fun q q' h => (stP_sk h).1) _ _ _ hok
      have hb4' : ∀ s : Int, 0 ≤ s → s < i → B (itr (skS B) s.toNat (p + 1) + 1) ≤ 4 := by
        intro s s0 s1
        obtain ⟨r, hr1, hr2⟩ := lpE_mid hok (j := s.toNat) (by omega)
        rw [lpE_itr (fun q q' h => (stP_sk h).1) _ _ _ hr1] at hr2
        obtain ⟨q, hq⟩ := hr2
        exact (stP_hd hq).2.2.2.1
      have hb5 := hb4'
      have T77 : ∀ hi'', (B p' = 0 → nmb B 0 0 (p' + 1) = .ok (p' + 1 + 1)) → (¬ B p' = 0 → nmb B 1 4 (p' + 1) = .ok (p' + 1 + 1)) → nmb B 0 2 p' = .ok (p' + 1) → FW (wC c) hi hi'' → hi'' 49 26 = p' + 1 + 1 → p' + 1 + 1 ≤ 2000 → hi'' 59 c = B p → hi'' 60 (8 * c + i) = B p' → hi'' 61 (8 * c + i) = B (p' + 1) → CDn hi'' c B p i → Wp d 231 77 [vR (some 49), vI c, vI i, vI (8 * c + i), vI 0] [] al hi'' hr Q := by
        intro hi'' k1 k2 k3 hw h26 hp2 h59 h60 h61 hC
        have hS : stP B p' = lpE (msP B) (B (p' + 1)).toNat (p' + 1 + 1) := by
          unfold stP
          rw [k3, bnd_ok]
          split
          · rename_i c0; rw [k1 c0, bnd_ok]
          · rename_i c0; rw [k2 c0, bnd_ok]
        have hb4 : 0 ≤ B (p' + 1) ∧ B (p' + 1) ≤ 4 := by
          by_cases c0 : B p' = 0
          · have := nmb_ok (k1 c0); omega
          · have := nmb_ok (k2 c0); omega
        refine wp_lpE (N := (B (p' + 1)).toNat) (f := msP B) (p0 := p' + 1 + 1) (fun t p2 ls hi'' => ls = [vR (some 49), vI c, vI i, vI (8 * c + i), vI t] ∧ FW (wC c) hi hi'' ∧ hi'' 49 26 = p2 ∧ (0 ≤ p2 ∧ p2 ≤ 2000) ∧ hi'' 59 c = B p ∧ hi'' 60 (8 * c + i) = B p' ∧ hi'' 61 (8 * c + i) = B (p' + 1) ∧ CDn hi'' c B p i ∧ SM hi'' (8 * c + i) B (p' + 1 + 1) t) ?_ ?_ _ _ ⟨rfl, hw, h26, by omega, h59, h60, h61, hC, fun k a b => absurd b (by omega)⟩
        · rintro t p2 ls hi'' ht hok2 ⟨rfl, hw, h26, hp2, h59, h60, h61, hC, hM⟩ nx2 er2
          have hB' : bAt hi'' 12 = B := (hw.B (by unfold wC; omega) (by unfold wC; omega)).trans hB
          obtain ⟨h27', h52'⟩ := hw.bt h27 h52 (by unfold wC; omega) (by unfold wC; omega)
          refine s231_77.mpr (s231_79.mpr ((s231_80 kM).mpr ?_))
          rw [mr_13 hR]
          refine s231_83.mpr ?_
          refine (s231_84 (hA.k (by decide) (by decide) rfl) (by first | assumption | omega) (by first | assumption | omega)).mpr ?_
          try simp (disch := first | decide | assumption | omega) only [kon, knt_some, knt_none, Option.toList_some, Option.toList_none, List.cons_append, List.nil_append, upI_eq, upI_a, upI_i, upR_eq, upR_a, upR_i, h61, h26, fAdd_id, fMul_id]
          refine s231_85.mpr (wif (fun c85 => ?_) (fun c85 => ?_))
          · skip
            refine s231_88.mpr ((s231_89 kM).mpr ?_)
            rw [mr_14 hR]
            refine s231_92.mpr (s231_93.mpr (s231_94.mpr (s231_95.mpr (s231_97.mpr (s231_98.mpr ?_)))))
            refine s231_99.mpr (s231_101.mpr ?_)
            try simp (disch := first | decide | assumption | omega) only [kon, knt_some, knt_none, Option.toList_some, Option.toList_none, List.cons_append, List.nil_append, upI_eq, upI_a, upI_i, upR_eq, upR_a, upR_i, h61, h26, fAdd_id, fMul_id]
            refine (s231_102 (by omega) kM).mpr ?_
            refine m_type hA hR ⟨by (try simp (disch := decide) only [upI_eq, upI_a, upI_i, upR_eq, upR_a, upR_i]); assumption, by (try simp (disch := decide) only [upI_eq, upI_a, upI_i, upR_eq, upR_a, upR_i]); assumption, by (try simp (disch := decide) only [upI_eq, upI_a, upI_i, upR_eq, upR_a, upR_i]); omega, by (try simp (disch := decide) only [upI_eq, upI_a, upI_i, upR_eq, upR_a, upR_i]); omega⟩ (by omega) (by decide) (Or.inr rfl) ?_
            simp (disch := decide) only [upI_eq, upI_a, upI_i, upR_eq, upR_a, upR_i, at1, fl1, bAt_up, hB', h26]
            refine kEx_of (fun q102 e102 => ?_) (fun q102 e102 => ?_)
            · skip
              have g102 := hrd _ (tyP_b e102)
              have u102 := tyP_ge e102
              refine (s231_105 (hA.k (by decide) (by decide) rfl) (by first | assumption | omega) (by first | assumption | omega)).mpr ?_
              refine s231_106.mpr ((s231_107 kM).mpr ?_)
              rw [mr_15 hR]
              refine s231_110.mpr (s231_111.mpr (s231_112.mpr (s231_113.mpr (s231_115.mpr (s231_116.mpr ?_)))))
              refine s231_117.mpr (s231_118.mpr ?_)
              try simp (disch := first | decide | assumption | omega) only [kon, knt_some, knt_none, Option.toList_some, Option.toList_none, List.cons_append, List.nil_append, upI_eq, upI_a, upI_i, upR_eq, upR_a, upR_i, h61, h26, fAdd_id, fMul_id]
              refine (s231_121 (by omega) kM).mpr ?_
              refine m_numberE hA hR ⟨by (try simp (disch := decide) only [upI_eq, upI_a, upI_i, upR_eq, upR_a, upR_i]); assumption, by (try simp (disch := decide) only [upI_eq, upI_a, upI_i, upR_eq, upR_a, upR_i]); assumption, by (try simp (disch := decide) only [upI_eq, upI_a, upI_i, upR_eq, upR_a, upR_i]); omega, by (try simp (disch := decide) only [upI_eq, upI_a, upI_i, upR_eq, upR_a, upR_i]); omega⟩ (by omega) ?_
              simp (disch := decide) only [upI_eq, upI_a, upI_i, upR_eq, upR_a, upR_i, at1, fl1, bAt_up, hB', h26]
              refine kEx_of (fun q121 e121 => ?_) (fun q121 e121 => ?_)
              · skip
                obtain ⟨rfl, v121, w121⟩ := nmb_ok e121
                have g121 := hrd _ (nmb_b e121 (by omega))
                refine (s231_124 (hA.k (by decide) (by decide) rfl) (by first | assumption | omega) (by first | assumption | omega)).mpr ?_
                refine s231_125.mpr (s231_128.mpr ?_)
                try simp (disch := first | decide | assumption | omega) only [kon, knt_some, knt_none, Option.toList_some, Option.toList_none, List.cons_append, List.nil_append, upI_eq, upI_a, upI_i, upR_eq, upR_a, upR_i, h61, h26, fAdd_id, fMul_id]
                have hm9 : msP B p2 = .ok (q102 + 1) := by unfold msP; rw [e102, bnd_ok, e121]
                have hpt := lpE_itr (fun q q' h => (msP_sk h).1) _ _ _ hok2
                refine nx2 _ _ _ hm9 ⟨rfl, (by repeat' (first | assumption | exact FW.rf | refine FW.up ?_ (by unfold wC; omega) | refine FW.up ?_ (Or.inr ⟨rfl, by omega⟩) | refine FW.up ?_ (Or.inl (by unfold wC; omega)) | exact FW.mn (by assumption) (fun _ _ h => Or.inl h))), by (try simp (disch := decide) only [upI_eq, upI_a, upI_i, upR_eq, upR_a, upR_i]), by omega, by (try simp (disch := decide) only [upI_eq, upI_a, upI_i, upR_eq, upR_a, upR_i]); exact h59, by (try simp (disch := decide) only [upI_eq, upI_a, upI_i, upR_eq, upR_a, upR_i]); exact h60, by (try simp (disch := decide) only [upI_eq, upI_a, upI_i, upR_eq, upR_a, upR_i]); exact h61, ?_, ?_⟩
                · intro s s0 s1
                  have hS9 := hC s s0 s1
                  refine ⟨by (try simp (disch := decide) only [upI_eq, upI_a, upI_i, upR_eq, upR_a, upR_i]); exact hS9.1, by (try simp (disch := decide) only [upI_eq, upI_a, upI_i, upR_eq, upR_a, upR_i]); exact hS9.2.1, fun t2 a b => ?_⟩
                  have hb9 : B (itr (skS B) s.toNat (p + 1) + 1) ≤ 4 := hb4' s s0 s1
                  simp (disch := first | decide | omega) only [upI_eq, upI_a, upI_i, upR_eq, upR_a, upR_i]; exact hS9.2.2 t2 a b
                · intro t2 a b
                  by_cases ht2 : t2 = t
                  · subst ht2; simp (disch := first | decide | omega) only [upI_eq, upI_a, upI_i, upR_eq, upR_a, upR_i]; rw [tyP_sk e102, hpt]; exact ⟨rfl, rfl⟩
                  · simp (disch := first | decide | omega) only [upI_eq, upI_a, upI_i, upR_eq, upR_a, upR_i]; exact hM t2 a (by omega)
              · skip
                show tho 231 = true ∧ Q none _ _ _
                refine ⟨rfl, ?_⟩
                have hm9 : ∃ q, msP B p2 = .error q ∧ q = _ := ⟨_, by unfold msP; first | (rw [e102]; rfl) | (rw [e102, bnd_ok, e121]), rfl⟩
                obtain ⟨q9, hm9, rfl⟩ := hm9
                exact err _ _ (by rw [eqC]; exact er _ (by rw [hS]; exact er2 _ hm9)) (by repeat' (first | assumption | exact FW.rf | refine FW.up ?_ (by unfold wC; omega) | refine FW.up ?_ (Or.inr ⟨rfl, by omega⟩) | refine FW.up ?_ (Or.inl (by unfold wC; omega)) | exact FW.mn (by assumption) (fun _ _ h => Or.inl h))) (by (try simp (disch := decide) only [upI_eq, upI_a, upI_i, upR_eq, upR_a, upR_i])) (by (try simp (disch := decide) only [upI_eq, upI_a, upI_i, upR_eq, upR_a, upR_i]))
            · skip
              show tho 231 = true ∧ Q none _ _ _
              refine ⟨rfl, ?_⟩
              have hm9 : ∃ q, msP B p2 = .error q ∧ q = _ := ⟨_, by unfold msP; first | (rw [e102]; rfl) | (rw [e102, bnd_ok, e121]), rfl⟩
              obtain ⟨q9, hm9, rfl⟩ := hm9
              exact err _ _ (by rw [eqC]; exact er _ (by rw [hS]; exact er2 _ hm9)) (by repeat' (first | assumption | exact FW.rf | refine FW.up ?_ (by unfold wC; omega) | refine FW.up ?_ (Or.inr ⟨rfl, by omega⟩) | refine FW.up ?_ (Or.inl (by unfold wC; omega)) | exact FW.mn (by assumption) (fun _ _ h => Or.inl h))) (by (try simp (disch := decide) only [upI_eq, upI_a, upI_i, upR_eq, upR_a, upR_i])) (by (try simp (disch := decide) only [upI_eq, upI_a, upI_i, upR_eq, upR_a, upR_i]))
          · skip
            exfalso; omega
        · rintro p2 ls hi'' hok2 ⟨rfl, hw, h26, hp2, h59, h60, h61, hC, hM⟩
          refine s231_77.mpr (s231_79.mpr ((s231_80 kM).mpr ?_))
          rw [mr_13 hR]
          refine s231_83.mpr ?_
          refine (s231_84 (hA.k (by decide) (by decide) rfl) (by first | assumption | omega) (by first | assumption | omega)).mpr ?_
          try simp (disch := first | decide | assumption | omega) only [h61, fAdd_id]
          refine s231_85.mpr (wif (fun c85 => ?_) (fun c85 => ?_))
          · skip
            exfalso; omega
          · skip
            refine s231_131.mpr (s231_134.mpr ?_)
            try simp (disch := first | decide | assumption | omega) only [h61, fAdd_id]
            refine nx _ _ _ (by rw [hS]; exact hok2) ⟨⟨_, _, rfl⟩, hw, h26, hp2, h59, fun s s0 s1 => ?_⟩
            by_cases hs : s = i
            · subst hs
              rw [show ((i : Int)).toNat = i from rfl, ← hpi]
              exact ⟨h60, h61, fun t a b => by rw [show p' + 2 = p' + 1 + 1 by omega]; exact hM t a (by omega)⟩
            · exact hC s s0 (by omega)
      refine s231_15.mpr (s231_16.mpr ((s231_17 kM).mpr ?_))
      rw [mr_11 hR]
      refine s231_20.mpr ?_
      refine (s231_21 (hA.k (by decide) (by decide) rfl) (by first | assumption | omega) (by first | assumption | omega)).mpr ?_
      try simp (disch := first | decide | assumption | omega) only [kon, knt_some, knt_none, Option.toList_some, Option.toList_none, List.cons_append, List.nil_append, upI_eq, upI_a, upI_i, upR_eq, upR_a, upR_i, h59, h26, fAdd_id, fMul_id]
      refine s231_22.mpr (wif (fun c22 => ?_) (fun c22 => ?_))
      · skip
        refine s231_25.mpr (s231_27.mpr (s231_28.mpr (s231_29.mpr (s231_30.mpr (s231_31.mpr ?_)))))
        refine s231_32.mpr ((s231_33 kM).mpr ?_)
        rw [mr_12 hR]
        refine s231_36.mpr (s231_37.mpr (s231_38.mpr (s231_39.mpr ?_)))
        try simp (disch := first | decide | assumption | omega) only [kon, knt_some, knt_none, Option.toList_some, Option.toList_none, List.cons_append, List.nil_append, upI_eq, upI_a, upI_i, upR_eq, upR_a, upR_i, h59, h26, fAdd_id, fMul_id]
        refine (s231_40 (by omega) kM).mpr ?_
        refine m_numberE hA hR ⟨by (try simp (disch := decide) only [upI_eq, upI_a, upI_i, upR_eq, upR_a, upR_i]); assumption, by (try simp (disch := decide) only [upI_eq, upI_a, upI_i, upR_eq, upR_a, upR_i]); assumption, by (try simp (disch := decide) only [upI_eq, upI_a, upI_i, upR_eq, upR_a, upR_i]); omega, by (try simp (disch := decide) only [upI_eq, upI_a, upI_i, upR_eq, upR_a, upR_i]); omega⟩ (by omega) ?_
        simp (disch := decide) only [upI_eq, upI_a, upI_i, upR_eq, upR_a, upR_i, at1, fl1, bAt_up, hB', h26]
        refine kEx_of (fun q40 e40 => ?_) (fun q40 e40 => ?_)
        · skip
          obtain ⟨rfl, v40, w40⟩ := nmb_ok e40
          have g40 := hrd _ (nmb_b e40 (by omega))
          refine (s231_43 (hA.k (by decide) (by decide) rfl) (by first | assumption | omega) (by first | assumption | omega)).mpr ?_
          refine s231_44.mpr ((s231_45 kM).mpr ?_)
          rw [mr_13 hR]
          refine s231_48.mpr (s231_49.mpr ((s231_50 kM).mpr ?_))
          rw [mr_12 hR]
          refine s231_53.mpr ?_
          try simp (disch := first | decide | assumption | omega) only [kon, knt_some, knt_none, Option.toList_some, Option.toList_none, List.cons_append, List.nil_append, upI_eq, upI_a, upI_i, upR_eq, upR_a, upR_i, h59, h26, fAdd_id, fMul_id]
          refine (s231_54 (hA.k (by decide) (by decide) rfl) (by first | assumption | omega) (by first | assumption | omega)).mpr ?_
          try simp (disch := first | decide | assumption | omega) only [kon, knt_some, knt_none, Option.toList_some, Option.toList_none, List.cons_append, List.nil_append, upI_eq, upI_a, upI_i, upR_eq, upR_a, upR_i, h59, h26, fAdd_id, fMul_id]
          refine s231_55.mpr (wif (fun c55 => ?_) (fun c55 => ?_))
          · skip
            refine s231_58.mpr (s231_59.mpr (s231_60.mpr ?_))
            refine (s231_61 (by omega) kM).mpr ?_
            refine m_numberE hA hR ⟨by (try simp (disch := decide) only [upI_eq, upI_a, upI_i, upR_eq, upR_a, upR_i]); assumption, by (try simp (disch := decide) only [upI_eq, upI_a, upI_i, upR_eq, upR_a, upR_i]); assumption, by (try simp (disch := decide) only [upI_eq, upI_a, upI_i, upR_eq, upR_a, upR_i]); omega, by (try simp (disch := decide) only [upI_eq, upI_a, upI_i, upR_eq, upR_a, upR_i]); omega⟩ (by omega) ?_
            simp (disch := decide) only [upI_eq, upI_a, upI_i, upR_eq, upR_a, upR_i, at1, fl1, bAt_up, hB', h26]
            refine kEx_of (fun q61 e61 => ?_) (fun q61 e61 => ?_)
            · skip
              obtain ⟨rfl, v61, w61⟩ := nmb_ok e61
              have g61 := hrd _ (nmb_b e61 (by omega))
              refine s231_64.mpr ?_
              refine (s231_73 (hA.k (by decide) (by decide) rfl) (by first | assumption | omega) (by first | assumption | omega)).mpr ?_
              refine s231_74.mpr (s231_75.mpr ?_)
              try simp (disch := first | decide | assumption | omega) only [kon, knt_some, knt_none, Option.toList_some, Option.toList_none, List.cons_append, List.nil_append, upI_eq, upI_a, upI_i, upR_eq, upR_a, upR_i, h59, h26, fAdd_id, fMul_id]
              refine T77 _ (fun c0 => by first | exact e61 | exact absurd c0 c55) (fun c0 => by first | exact e70 | exact absurd c55 c0) e40 (by repeat' (first | assumption | exact FW.rf | refine FW.up ?_ (by unfold wC; omega) | refine FW.up ?_ (Or.inr ⟨rfl, by omega⟩) | refine FW.up ?_ (Or.inl (by unfold wC; omega)) | exact FW.mn (by assumption) (fun _ _ h => Or.inl h))) (by (try simp (disch := decide) only [upI_eq, upI_a, upI_i, upR_eq, upR_a, upR_i])) (by omega) (by (try simp (disch := decide) only [upI_eq, upI_a, upI_i, upR_eq, upR_a, upR_i]); exact h59) (by (try simp (disch := decide) only [upI_eq, upI_a, upI_i, upR_eq, upR_a, upR_i])) (by (try simp (disch := decide) only [upI_eq, upI_a, upI_i, upR_eq, upR_a, upR_i])) (fun s s0 s1 => (hC s s0 s1).eq (hb5 s s0 s1) (by simp (disch := first | decide | omega) only [upI_eq, upI_a, upI_i, upR_eq, upR_a, upR_i]) (by simp (disch := first | decide | omega) only [upI_eq, upI_a, upI_i, upR_eq, upR_a, upR_i]) (fun i _ _ => by simp (disch := first | decide | omega) only [upI_eq, upI_a, upI_i, upR_eq, upR_a, upR_i, and_self]))
            · skip
              show tho 231 = true ∧ Q none _ _ _
              refine ⟨rfl, ?_⟩
              have hm9 : ∃ q, stP B p' = .error q ∧ q = _ := ⟨_, by unfold stP; first | (rw [e40]; rfl) | (rw [e40, bnd_ok, if_pos c55, e61]; rfl) | (rw [e40, bnd_ok, if_neg c55, e70]; rfl), rfl⟩
              obtain ⟨q9, hm9, rfl⟩ := hm9
              exact err _ _ (by rw [eqC]; exact er _ hm9) (by repeat' (first | assumption | exact FW.rf | refine FW.up ?_ (by unfold wC; omega) | refine FW.up ?_ (Or.inr ⟨rfl, by omega⟩) | refine FW.up ?_ (Or.inl (by unfold wC; omega)) | exact FW.mn (by assumption) (fun _ _ h => Or.inl h))) (by (try simp (disch := decide) only [upI_eq, upI_a, upI_i, upR_eq, upR_a, upR_i])) (by (try simp (disch := decide) only [upI_eq, upI_a, upI_i, upR_eq, upR_a, upR_i]))
          · skip
            refine s231_67.mpr (s231_68.mpr (s231_69.mpr ?_))
            refine (s231_70 (by omega) kM).mpr ?_
            refine m_numberE hA hR ⟨by (try simp (disch := decide) only [upI_eq, upI_a, upI_i, upR_eq, upR_a, upR_i]); assumption, by (try simp (disch := decide) only [upI_eq, upI_a, upI_i, upR_eq, upR_a, upR_i]); assumption, by (try simp (disch := decide) only [upI_eq, upI_a, upI_i, upR_eq, upR_a, upR_i]); omega, by (try simp (disch := decide) only [upI_eq, upI_a, upI_i, upR_eq, upR_a, upR_i]); omega⟩ (by omega) ?_
            simp (disch := decide) only [upI_eq, upI_a, upI_i, upR_eq, upR_a, upR_i, at1, fl1, bAt_up, hB', h26]
            refine kEx_of (fun q70 e70 => ?_) (fun q70 e70 => ?_)
            · skip
              obtain ⟨rfl, v70, w70⟩ := nmb_ok e70
              have g70 := hrd _ (nmb_b e70 (by omega))
              refine (s231_73 (hA.k (by decide) (by decide) rfl) (by first | assumption | omega) (by first | assumption | omega)).mpr ?_
              refine s231_74.mpr (s231_75.mpr ?_)
              try simp (disch := first | decide | assumption | omega) only [kon, knt_some, knt_none, Option.toList_some, Option.toList_none, List.cons_append, List.nil_append, upI_eq, upI_a, upI_i, upR_eq, upR_a, upR_i, h59, h26, fAdd_id, fMul_id]
              refine T77 _ (fun c0 => by first | exact e61 | exact absurd c0 c55) (fun c0 => by first | exact e70 | exact absurd c55 c0) e40 (by repeat' (first | assumption | exact FW.rf | refine FW.up ?_ (by unfold wC; omega) | refine FW.up ?_ (Or.inr ⟨rfl, by omega⟩) | refine FW.up ?_ (Or.inl (by unfold wC; omega)) | exact FW.mn (by assumption) (fun _ _ h => Or.inl h))) (by (try simp (disch := decide) only [upI_eq, upI_a, upI_i, upR_eq, upR_a, upR_i])) (by omega) (by (try simp (disch := decide) only [upI_eq, upI_a, upI_i, upR_eq, upR_a, upR_i]); exact h59) (by (try simp (disch := decide) only [upI_eq, upI_a, upI_i, upR_eq, upR_a, upR_i])) (by (try simp (disch := decide) only [upI_eq, upI_a, upI_i, upR_eq, upR_a, upR_i])) (fun s s0 s1 => (hC s s0 s1).eq (hb5 s s0 s1) (by simp (disch := first | decide | omega) only [upI_eq, upI_a, upI_i, upR_eq, upR_a, upR_i]) (by simp (disch := first | decide | omega) only [upI_eq, upI_a, upI_i, upR_eq, upR_a, upR_i]) (fun i _ _ => by simp (disch := first | decide | omega) only [upI_eq, upI_a, upI_i, upR_eq, upR_a, upR_i, and_self]))
            · skip
              show tho 231 = true ∧ Q none _ _ _
              refine ⟨rfl, ?_⟩
              have hm9 : ∃ q, stP B p' = .error q ∧ q = _ := ⟨_, by unfold stP; first | (rw [e40]; rfl) | (rw [e40, bnd_ok, if_pos c55, e61]; rfl) | (rw [e40, bnd_ok, if_neg c55, e70]; rfl), rfl⟩
              obtain ⟨q9, hm9, rfl⟩ := hm9
              exact err _ _ (by rw [eqC]; exact er _ hm9) (by repeat' (first | assumption | exact FW.rf | refine FW.up ?_ (by unfold wC; omega) | refine FW.up ?_ (Or.inr ⟨rfl, by omega⟩) | refine FW.up ?_ (Or.inl (by unfold wC; omega)) | exact FW.mn (by assumption) (fun _ _ h => Or.inl h))) (by (try simp (disch := decide) only [upI_eq, upI_a, upI_i, upR_eq, upR_a, upR_i])) (by (try simp (disch := decide) only [upI_eq, upI_a, upI_i, upR_eq, upR_a, upR_i]))
        · skip
          show tho 231 = true ∧ Q none _ _ _
          refine ⟨rfl, ?_⟩
          have hm9 : ∃ q, stP B p' = .error q ∧ q = _ := ⟨_, by unfold stP; first | (rw [e40]; rfl) | (rw [e40, bnd_ok, if_pos c55, e61]; rfl) | (rw [e40, bnd_ok, if_neg c55, e70]; rfl), rfl⟩
          obtain ⟨q9, hm9, rfl⟩ := hm9
          exact err _ _ (by rw [eqC]; exact er _ hm9) (by repeat' (first | assumption | exact FW.rf | refine FW.up ?_ (by unfold wC; omega) | refine FW.up ?_ (Or.inr ⟨rfl, by omega⟩) | refine FW.up ?_ (Or.inl (by unfold wC; omega)) | exact FW.mn (by assumption) (fun _ _ h => Or.inl h))) (by (try simp (disch := decide) only [upI_eq, upI_a, upI_i, upR_eq, upR_a, upR_i])) (by (try simp (disch := decide) only [upI_eq, upI_a, upI_i, upR_eq, upR_a, upR_i]))
      · skip
        exfalso; omega
    · rintro p' ls hi' hok ⟨⟨l3, l4, rfl⟩, hw, h26, hp', h59, hC⟩
      refine s231_15.mpr (s231_16.mpr ((s231_17 kM).mpr ?_))
      rw [mr_11 hR]
      refine s231_20.mpr ?_
      refine (s231_21 (hA.k (by decide) (by decide) rfl) (by first | assumption | omega) (by first | assumption | omega)).mpr ?_
      try simp (disch := first | decide | assumption | omega) only [h59]
      refine s231_22.mpr (wif (fun c22 => ?_) (fun c22 => ?_))
      · skip
        exfalso; omega
      · skip
        refine (s231_137).mpr ?_
        exact fin p' hi' (by rw [eqC]; exact hok) hw h26 ⟨h59, fun s s0 s1 => hC s s0 (by omega)⟩
  have hB' := hB
  rw [e231]
  refine s231_0.mpr ((s231_1 kM).mpr ?_)
  rw [mr_11 hR]
  refine s231_4.mpr (s231_5.mpr (s231_6.mpr (s231_7.mpr ?_)))
  refine (s231_9 (by omega) kM).mpr ?_
  refine m_numberE hA hR ⟨h27, h52, by omega, by omega⟩ (by omega) ?_
  simp (disch := decide) only [upI_eq, upI_a, upI_i, upR_eq, upR_a, upR_i, at1, fl1, bAt_up, hB', h26]
  refine kEx_of (fun q9 e9 => ?_) (fun q9 e9 => ?_)
  · skip
    obtain ⟨rfl, v9, w9⟩ := nmb_ok e9
    have g9 := hrd _ (nmb_b e9 (by omega))
    refine (s231_12 (hA.k (by decide) (by decide) rfl) (by first | assumption | omega) (by first | assumption | omega)).mpr ?_
    refine s231_13.mpr (s231_14.mpr ?_)
    try simp (disch := first | decide | assumption | omega) only [kon, knt_some, knt_none, Option.toList_some, Option.toList_none, List.cons_append, List.nil_append, upI_eq, upI_a, upI_i, upR_eq, upR_a, upR_i]
    exact T15 _ _ _ e9 (by repeat' (first | assumption | exact FW.rf | refine FW.up ?_ (by unfold wC; omega) | refine FW.up ?_ (Or.inr ⟨rfl, by omega⟩) | refine FW.up ?_ (Or.inl (by unfold wC; omega)) | exact FW.mn (by assumption) (fun _ _ h => Or.inl h))) (by (try simp (disch := decide) only [upI_eq, upI_a, upI_i, upR_eq, upR_a, upR_i])) g9 (by (try simp (disch := decide) only [upI_eq, upI_a, upI_i, upR_eq, upR_a, upR_i]))
  · skip
    show tho 231 = true ∧ Q none _ _ _
    refine ⟨rfl, ?_⟩
    exact err _ _ (by unfold ctP; rw [e9]; rfl) (by repeat' (first | assumption | exact FW.rf | refine FW.up ?_ (by unfold wC; omega) | refine FW.up ?_ (Or.inr ⟨rfl, by omega⟩) | refine FW.up ?_ (Or.inl (by unfold wC; omega)) | exact FW.mn (by assumption) (fun _ _ h => Or.inl h))) (by (try simp (disch := decide) only [upI_eq, upI_a, upI_i, upR_eq, upR_a, upR_i])) (by (try simp (disch := decide) only [upI_eq, upI_a, upI_i, upR_eq, upR_a, upR_i]))
end MP5
