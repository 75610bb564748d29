section MP6
variable {d : Nat} {al : AL} {hi : HI} {hr : HR} {Q : QQ}
theorem recP_sk {B : Int → Int} {p q : Int} (h : recP B p = .ok q) : q = skR B p ∧ 0 ≤ B (q - 1) ∧ p + 1 ≤ q ∧ 1 ≤ B p ∧ B p ≤ 6 := by
  unfold recP at h
  cases hp : nmb B 1 6 p with
  | error r => rw [hp] at h; cases h
  | ok r =>
    rw [hp, bnd_ok] at h
    have hb := nmb_b hp (by omega)
    obtain ⟨rfl, a1, a2⟩ := nmb_ok hp
    refine ⟨lpE_itr (fun q q' h => tyP_sk h) _ _ _ h, ?_, ?_, a1, a2⟩
    · rcases lpE_b (B := B) (fun p q h => tyP_b h) _ _ _ h with e | e
      · rw [e]; exact hb
      · exact e
    · exact lpE_ge (fun p q h => by have := tyP_ge h; omega) _ _ _ h
/-- what a function's text holds -/
theorem fnP_hd {B : Int → Int} {p q : Int} (h : fnP B p = .ok q) : 0 ≤ B p ∧ B p ≤ 4 ∧ lpE (tyP B 63 0) (B p).toNat (p + 1) = .ok (fR_ B p) ∧ tyP B 63 1 (fR_ B p) = .ok (fL_ B p) ∧ B p ≤ B (fL_ B p) ∧ B (fL_ B p) ≤ 10 ∧ 1 ≤ B (fL_ B p + 1) ∧ B (fL_ B p + 1) ≤ 240 ∧ p + 4 ≤ fL_ B p + 2 ∧ cdP B (fL_ B p + 2 + B (fL_ B p + 1)) (B (fL_ B p)) (B (fL_ B p + 1)).toNat (fL_ B p + 2) = .ok q := by
  unfold fnP at h
  cases h1 : nmb B 0 4 p with
  | error r => rw [h1] at h; cases h
  | ok r =>
    rw [h1, bnd_ok] at h
    obtain ⟨rfl, a1, a2⟩ := nmb_ok h1
    cases h2 : lpE (tyP B 63 0) (B p).toNat (p + 1) with
    | error r => rw [h2] at h; cases h
    | ok r =>
      rw [h2, bnd_ok] at h
      have hr : r = fR_ B p := lpE_itr (fun q q' h => tyP_sk h) _ _ _ h2
      have hge := lpE_ge (fun p q h => by have := tyP_ge h; omega) _ _ _ h2
      subst hr
      cases h3 : tyP B 63 1 (fR_ B p) with
      | error r => rw [h3] at h; cases h
      | ok r =>
        rw [h3, bnd_ok] at h
        have hr : r = fL_ B p := tyP_sk h3
        have hge2 := tyP_ge h3
        subst hr
        cases h4 : nmb B (B p) 10 (fL_ B p) with
        | error r => rw [h4] at h; cases h
        | ok r =>
          rw [h4, bnd_ok] at h
          obtain ⟨rfl, a3, a4⟩ := nmb_ok h4
          cases h5 : nmb B 1 240 (fL_ B p + 1) with
          | error r => rw [h5] at h; cases h
          | ok r =>
            rw [h5, bnd_ok] at h
            obtain ⟨rfl, a5, a6⟩ := nmb_ok h5
            rw [show fL_ B p + 1 + 1 = fL_ B p + 2 by omega] at h
            exact ⟨a1, a2, rfl, rfl, a3, a4, a5, a6, by omega, h⟩
theorem lpE_stay {B : Int → Int} {e lo hg : Int} : ∀ (n : Nat) (p q : Int), p ≤ e → lpE (prt B e lo hg) n p = .ok q → q ≤ e
  | 0, p, q, hp, h => by cases h; exact hp
  | n + 1, p, q, hp, h => by
    have h : (prt B e lo hg p).bind (lpE (prt B e lo hg) n) = .ok q := h
    cases h1 : prt B e lo hg p with
    | error r => rw [h1] at h; cases h
    | ok r => rw [h1] at h; obtain ⟨rfl, h2, -⟩ := prt_ok h1; exact lpE_stay n _ _ (by omega) h
theorem ins_stay {B : Int → Int} {e L p q : Int} (hp : p < e) (h : insP B e L p = .ok q) : q ≤ e := by
  unfold insP at h
  cases h0 : prt B e 0 43 p with
  | error r => rw [h0] at h; cases h
  | ok r =>
    rw [h0, bnd_ok] at h
    obtain ⟨rfl, -⟩ := prt_ok h0
    have one : ∀ lo hg q, prt B e lo hg (p + 1) = .ok q → q ≤ e := fun lo hg q h => by obtain ⟨rfl, h2, -⟩ := prt_ok h; omega
    unfold insK at h
    split at h
    · exact lpE_stay _ _ _ (by omega) h
    · split at h
      · split at h
        · cases h
        · exact one _ _ _ h
      · split at h
        · exact one _ _ _ h
        · split at h
          · exact one _ _ _ h
          · split at h
            · exact one _ _ _ h
            · split at h
              · cases ha : prt B e 1 4 (p + 1) with
                | error r => rw [ha] at h; cases h
                | ok r => rw [ha] at h; exact lpE_stay _ _ _ (one _ _ _ ha) h
              · cases h; omega
theorem cd_end {B : Int → Int} {e L : Int} : ∀ (n : Nat) (p q : Int), p ≤ e → e - p ≤ n → cdP B e L n p = .ok q → q = e ∧ (p < e → 0 ≤ B (q - 1))
  | 0, p, q, h1, h2, h => by cases h; exact ⟨by omega, fun h => by omega⟩
  | n + 1, p, q, h1, h2, h => by
    unfold cdP at h
    split at h
    · rename_i c
      cases hi : insP B e L p with
      | error r => rw [hi] at h; cases h
      | ok r =>
        rw [hi] at h
        have g1 := ins_ge hi
        have g2 := ins_stay c hi
        have g3 := ins_b hi
        obtain ⟨k1, k2⟩ := cd_end n r q g2 (by omega) h
        refine ⟨k1, fun _ => ?_⟩
        by_cases hr : r < e
        · exact k2 hr
        · rw [show q = r by omega]; exact g3
    · rename_i c; cases h; exact ⟨by omega, fun h => absurd h c⟩
theorem fnP_sk {B : Int → Int} {p q : Int} (h : fnP B p = .ok q) : q = skF B p ∧ 0 ≤ B (q - 1) ∧ p + 1 ≤ q := by
  obtain ⟨a1, a2, a3, a4, a5, a6, a7, a8, a9, h9⟩ := fnP_hd h
  obtain ⟨k1, k2⟩ := cd_end _ _ _ (by omega) (by omega) h9
  refine ⟨by rw [k1]; rfl, k2 (by omega), ?_⟩
  omega
def wMd (a : Nat) (i : Int) : Prop := (a = 49 ∧ i = 26) ∨ ((a = 53 ∨ a = 54 ∨ a = 55) ∧ i = 12) ∨ (a = 57 ∧ 96 ≤ i ∧ i < 104) ∨ (a = 58 ∧ 576 ≤ i ∧ i < 624) ∨ (a = 59 ∧ 48 ≤ i ∧ i < 52) ∨ ((a = 60 ∨ a = 61) ∧ 384 ≤ i ∧ i < 416) ∨ ((a = 62 ∨ a = 63) ∧ 1536 ≤ i ∧ i < 1664) ∨ ((a = 64 ∨ a = 66 ∨ a = 67 ∨ a = 68 ∨ a = 69) ∧ 120 ≤ i ∧ i < 130) ∨ (a = 65 ∧ 480 ≤ i ∧ i < 520)
theorem wM_49 {i : Int} (h : i = 26) : wMd 49 i := Or.inl ⟨rfl, h⟩
theorem wM_53 {a : Nat} (h : a = 53 ∨ a = 54 ∨ a = 55) : wMd a 12 := Or.inr (Or.inl ⟨h, rfl⟩)
theorem wM_57 {i : Int} (h : 96 ≤ i) (h2 : i < 104) : wMd 57 i := Or.inr (Or.inr (Or.inl ⟨rfl, h, h2⟩))
theorem wM_58 {i : Int} (h : 576 ≤ i) (h2 : i < 624) : wMd 58 i := Or.inr (Or.inr (Or.inr (Or.inl ⟨rfl, h, h2⟩)))
/-- the records, the first n -/
def RDn (hi : HI) (m : Int) (B : Int → Int) (n : Int) : Prop := ∀ r, 0 ≤ r → r < n → hi 57 (8 * m + r) = nFld B r ∧ ∀ k, 0 ≤ k → k < nFld B r → hi 58 (48 * m + 6 * r + k) = fTy B r k
def CTn (hi : HI) (m : Int) (B : Int → Int) (n : Int) : Prop := ∀ c, 0 ≤ c → c < n → CD hi (4 * m + c) B (pCtr B c)
def FNn (hi : HI) (m : Int) (B : Int → Int) (n : Int) : Prop := ∀ f, 0 ≤ f → f < n → FD hi (10 * m + f) B (pFn B f)
/-- the module m of the reference is what the text B says -/
def MD (hi : HI) (m : Int) (B : Int → Int) : Prop := hi 53 m = nRec B ∧ RDn hi m B (nRec B) ∧ hi 54 m = nCtr B ∧ CTn hi m B (nCtr B) ∧ hi 55 m = nFn B ∧ FNn hi m B (nFn B)
theorem FD.eq {hi' : HI} {f : Int} {B : Int → Int} {p : Int} (h : FD hi f B p) (hb : B p ≤ 4) (h1 : ∀ a, a = 64 ∨ a = 66 ∨ a = 67 ∨ a = 68 ∨ a = 69 → hi' a f = hi a f) (h2 : ∀ i, 4 * f ≤ i → i < 4 * f + 4 → hi' 65 i = hi 65 i) : FD hi' f B p := by
  obtain ⟨a1, a2, a3, a4, a5, a6⟩ := h
  exact ⟨(h1 64 (by omega)).trans a1, fun k k0 k1 => (h2 _ (by omega) (by omega)).trans (a2 k k0 k1), (h1 66 (by omega)).trans a3, (h1 67 (by omega)).trans a4, (h1 68 (by omega)).trans a5, (h1 69 (by omega)).trans a6⟩
theorem CD.eq {hi' : HI} {c : Int} {B : Int → Int} {p : Int} (h : CD hi c B p) (hb : B p ≤ 8) (hb2 : ∀ s : Int, 0 ≤ s → s < B p → B (itr (skS B) s.toNat (p + 1) + 1) ≤ 4) (h1 : hi' 59 c = hi 59 c) (h2 : ∀ i, 8 * c ≤ i → i < 8 * c + 8 → hi' 60 i = hi 60 i ∧ hi' 61 i = hi 61 i) (h3 : ∀ i, 32 * c ≤ i → i < 32 * c + 32 → hi' 62 i = hi 62 i ∧ hi' 63 i = hi 63 i) : CD hi' c B p :=
  ⟨h1.trans h.1, fun s s0 s1 => (h.2 s s0 s1).eq (hb2 s s0 s1) (h2 _ (by omega) (by omega)).1 (h2 _ (by omega) (by omega)).2 (fun i i0 i1 => h3 i (by omega) (by omega))⟩
theorem ctP_b {B : Int → Int} {p q : Int} (h : ctP B p = .ok q) : 1 ≤ B p ∧ B p ≤ 8 ∧ ∀ s : Int, 0 ≤ s → s < B p → ∃ r, stP B (itr (skS B) s.toNat (p + 1)) = .ok r := by
  unfold ctP at h
  cases hp : nmb B 1 8 p with
  | error r => rw [hp] at h; cases h
  | ok r =>
    rw [hp, bnd_ok] at h
    obtain ⟨rfl, a1, a2⟩ := nmb_ok hp
    refine ⟨a1, a2, fun s s0 s1 => ?_⟩
    obtain ⟨r, hr1, hr2⟩ := lpE_mid h (j := s.toNat) (by omega)
    rw [lpE_itr (fun q q' h => (stP_sk h).1) _ _ _ hr1] at hr2
    exact hr2
end MP6
section MP7
variable {d : Nat} {al : AL} {hi : HI} {hr : HR} {Q : QQ}
theorem RDn.fw {w : Nat → Int → Prop} {hi' : HI} {m n : Int} {B : Int → Int} (h : RDn hi m B n) (hw : FW w hi hi') (h1 : ∀ i, 8 * m ≤ i → i < 8 * m + n → ¬ w 57 i) (h2 : ∀ i, 48 * m ≤ i → i < 48 * m + 6 * n → ¬ w 58 i) (hb : ∀ r, 0 ≤ r → r < n → nFld B r ≤ 6) : RDn hi' m B n := fun r r0 r1 => ⟨(hw 57 _ (h1 _ (by omega) (by omega))).trans (h r r0 r1).1, fun k k0 k1 => (hw 58 _ (h2 _ (by omega) (by have := hb r r0 r1; omega))).trans ((h r r0 r1).2 k k0 k1)⟩
theorem wF_Md {f i : Int} {a : Nat} (h1 : 120 ≤ f) (h2 : f < 130) (h : wF f a i) : wMd a i := by
  unfold wF at h
  unfold wMd
  rcases h with ⟨rfl, h⟩ | ⟨rfl | rfl | rfl | rfl | rfl, rfl⟩ | ⟨rfl, h⟩ <;> omega
theorem wC_Md {f i : Int} {a : Nat} (h1 : 48 ≤ f) (h2 : f < 52) (h : wC f a i) : wMd a i := by
  unfold wC at h
  unfold wMd
  rcases h with ⟨rfl, h⟩ | ⟨rfl, rfl⟩ | ⟨rfl | rfl, h⟩ | ⟨rfl | rfl, h⟩ <;> omega
theorem m_mustE {v : Int} (hA : SA al) (hR : MR hr) (h : PT hi) (hd : 2 ≤ d) (hq : kEx (nmb (bAt hi 12) v v (hi 49 26)) (fun p' => Q (some none) al (at1 hi p') hr) (fun q => Q none al (fl1 hi 1 q) hr)) : Ev d 222 [vR (some 49), vI v] al hi hr Q := by
  refine (m_must hA hR h hd).mpr ?_
  unfold nmb at hq
  split
  · rename_i c; rw [if_pos (by omega)] at hq; exact hq
  · rename_i c; rw [if_neg (by omega)] at hq; exact hq
theorem m_module {n : Int} {B : Int → Int} (hA : SA al) (hR : MR hr) (hd : 6 ≤ d) (h27 : hi 49 27 = 12) (h52 : hi 52 12 = n) (hn : n ≤ 2000) (hB : bAt hi 12 = B) (h26 : hi 49 26 = 0)
    (fin : ∀ p' hi', modP B n = .ok p' → FW wMd hi hi' → MD hi' 12 B → Q (some none) al hi' hr)
    (err : ∀ q hi', modP B n = .error q → FW (wE wMd) hi hi' → hi' 49 22 = 1 → hi' 49 23 = q → Q none al hi' hr) : Ev d 230 [vR (some 49)] al hi hr Q := by
  have kM : isK al 49 13 := hA.k (by decide) (by decide) rfl
  have l53 := SA.len (a := 53) (n := 13) hA (by decide) (by decide) rfl
  have l57 := SA.len (a := 57) (n := 104) hA (by decide) (by decide) rfl
  have l58 := SA.len (a := 58) (n := 624) hA (by decide) (by decide) rfl
  have l54 := SA.len (a := 54) (n := 13) hA (by decide) (by decide) rfl
  have l55 := SA.len (a := 55) (n := 13) hA (by decide) (by decide) rfl
  have l52 := SA.len (a := 52) (n := 13) hA (by decide) (by decide) rfl
  have h52 : hi 52 12 ≤ 2000 := by omega
  have h52n : hi 52 12 = n := by assumption
  have hBr : ∀ k, -1 ≤ B k ∧ B k ≤ 255 := fun k => by rw [← hB]; exact bAt_rng 12 k
  have hrd : ∀ q, 0 ≤ B (q - 1) → q ≤ 2000 := fun q h => rd_le h52 (by rw [hB]; exact h)
  -- the end, from the functions on
  have T161 : ∀ p3 p5 hi' l3 l4, lpE (recP B) (B 2).toNat 3 = .ok p3 → lpE (ctP B) (B p3).toNat (p3 + 1) = .ok p5 → nmb B 83 83 0 = .ok 1 → nmb B 77 77 1 = .ok 2 → nmb B 0 8 2 = .ok 3 → nmb B 0 4 p3 = .ok (p3 + 1) → nmb B 1 10 p5 = .ok (p5 + 1) → 0 ≤ p5 → p5 + 1 ≤ 2000 → FW wMd hi hi' → hi' 49 26 = p5 + 1 → hi' 53 12 = nRec B → RDn hi' 12 B (nRec B) → hi' 54 12 = nCtr B → CTn hi' 12 B (nCtr B) → hi' 55 12 = nFn B → p3 = pCt0 B → p5 = pFn0 B → Wp d 230 161 [vR (some 49), vI 12, vI 0, l3, l4] [] al hi' hr Q := by
    intro p3 p5 hi' l3 l4 e3 e5 k1 k2 k3 k4 k5 hp50 hp5 hw h26 h53 hRD h54 hCT h55 hp3 hp5e
    have eqM : modP B n = (lpE (fnP B) (B p5).toNat (p5 + 1)).bind fun p7 => if p7 < n then .error p7 else .ok p7 := by
      unfold modP; rw [k1, bnd_ok, k2, bnd_ok, k3, bnd_ok, e3, bnd_ok, k4, bnd_ok, e5, bnd_ok, k5, bnd_ok]
    obtain ⟨-, b0, b1⟩ := nmb_ok k5
    have hbR : ∀ r : Int, 0 ≤ r → r < nRec B → nFld B r ≤ 6 := by
      intro r r0 r1
      have e9 : nRec B = B 2 := rfl
      obtain ⟨q, hr1, q', hr2⟩ := lpE_mid e3 (j := r.toNat) (by omega)
      rw [lpE_itr (fun q q' h => (recP_sk h).1) _ _ _ hr1] at hr2
      exact (recP_sk hr2).2.2.2.2
    have hnF : nFn B = B p5 := by rw [hp5e]; rfl
    have hbC : ∀ c : Int, 0 ≤ c → c < nCtr B → ∃ q, ctP B (pCtr B c) = .ok q := by
      intro c c0 c1
      have e9 : nCtr B = B p3 := by rw [hp3]; rfl
      obtain ⟨r, hr1, hr2⟩ := lpE_mid e5 (j := c.toNat) (by omega)
      rw [lpE_itr (fun q q' h => (ctP_sk h).1) _ _ _ hr1] at hr2
      rw [hp3] at hr2
      exact hr2
    refine wp_lpE (N := (B p5).toNat) (f := fnP B) (p0 := p5 + 1) (fun i p' ls hi' => (ls = [vR (some 49), vI 12, vI i, l3, l4]) ∧ FW wMd hi hi' ∧ hi' 49 26 = p' ∧ (0 ≤ p' ∧ p' ≤ 2000) ∧ hi' 53 12 = nRec B ∧ RDn hi' 12 B (nRec B) ∧ hi' 54 12 = nCtr B ∧ CTn hi' 12 B (nCtr B) ∧ hi' 55 12 = nFn B ∧ FNn hi' 12 B i) ?_ ?_ _ _ ⟨rfl, hw, h26, by omega, h53, hRD, h54, hCT, h55, fun k a b => absurd b (by omega)⟩
    · rintro i p' ls hi' hi4 hok ⟨rfl, hw, h26, hp', h53, hRD, h54, hCT, h55, hFN⟩ nx er
      have hB' : bAt hi' 12 = B := (hw.B (by unfold wMd; omega) (by unfold wMd; omega)).trans hB
      obtain ⟨h27', h52'⟩ := hw.bt h27 h52 (by unfold wMd; omega) (by unfold wMd; omega)
      have hpi : p' = pFn B i := by rw [lpE_itr (fun q q' h => (fnP_sk h).1) _ _ _ hok, hp5e]; rfl
      have hbF : ∀ f : Int, 0 ≤ f → f < i → B (pFn B f) ≤ 4 := by
        intro f f0 f1
        obtain ⟨r, hr1, q, hr2⟩ := lpE_mid hok (j := f.toNat) (by omega)
        rw [lpE_itr (fun q q' h => (fnP_sk h).1) _ _ _ hr1, hp5e] at hr2
        exact (fnP_hd hr2).2.1
      refine s230_161.mpr (s230_162.mpr ((s230_163 kM).mpr ?_))
      rw [mr_7 hR]
      refine s230_166.mpr ?_
      refine (s230_167 (hA.k (by decide) (by decide) rfl) (by first | assumption | omega) (by first | assumption | omega)).mpr ?_
      try simp (disch := first | decide | assumption | omega) only [kon, knt_some, knt_none, Option.toList_some, Option.toList_none, List.cons_append, List.nil_append, h55, hnF, fAdd_id, fMul_id]
      refine s230_168.mpr (wif (fun c168 => ?_) (fun c168 => ?_))
      · skip
        refine s230_171.mpr (s230_172.mpr (s230_174.mpr (s230_175.mpr (s230_176.mpr (s230_177.mpr ?_)))))
        try simp (disch := first | decide | assumption | omega) only [kon, knt_some, knt_none, Option.toList_some, Option.toList_none, List.cons_append, List.nil_append, h55, hnF, fAdd_id, fMul_id]
        refine (s230_178 (by omega) kM).mpr ?_
        refine m_functionText (B := B) (p := p') hA hR (by omega) (by omega) h27' h52' hB' h26 hp'.1 hp'.2 (fun q178 hi2 e178 w178 a178 f178 => ?_) (fun q178 hi2 e178 w178 a178 f178 => ?_)
        · skip
          refine s230_181.mpr (s230_184.mpr ?_)
          try simp (disch := first | decide | assumption | omega) only [kon, knt_some, knt_none, Option.toList_some, Option.toList_none, List.cons_append, List.nil_append, h55, hnF, fAdd_id, fMul_id]
          have g9 := fnP_sk e178
          have hw2 : FW wMd hi hi2 := hw.tr (w178.mn (fun a i h => wF_Md (by omega) (by omega) h))
          refine nx _ _ _ e178 ⟨rfl, hw2, a178, ⟨by omega, hrd _ g9.2.1⟩, (w178 53 12 (by unfold wF; omega)).trans h53, hRD.fw w178 (fun i _ _ => by unfold wF; omega) (fun i _ _ => by unfold wF; omega) hbR, (w178 54 12 (by unfold wF; omega)).trans h54, fun c c0 c1 => ?_, (w178 55 12 (by unfold wF; omega)).trans h55, fun f f0 f1 => ?_⟩
          · obtain ⟨q, hq⟩ := hbC c c0 c1
            obtain ⟨z1, z2, z3⟩ := ctP_b hq
            exact (hCT c c0 c1).eq z2 (fun s s0 s1 => by obtain ⟨r, hr⟩ := z3 s s0 s1; exact (stP_hd hr).2.2.2.1) (w178 59 _ (by unfold wF; omega)) (fun j _ _ => ⟨w178 60 _ (by unfold wF; omega), w178 61 _ (by unfold wF; omega)⟩) (fun j _ _ => ⟨w178 62 _ (by unfold wF; omega), w178 63 _ (by unfold wF; omega)⟩)
          · by_cases hf : f = i
            · subst hf; rw [← hpi]; exact f178
            · exact (hFN f f0 (by omega)).eq (hbF f f0 (by omega)) (fun a ha => w178 a _ (by unfold wF; omega)) (fun j _ _ => w178 65 _ (by unfold wF; omega))
        · skip
          show tho 230 = true ∧ Q none _ _ _
          refine ⟨rfl, ?_⟩
          exact err _ _ (by rw [eqM, er _ e178]; rfl) ((hw.mn (fun _ _ h => Or.inl h)).tr (w178.mn (fun a i h => h.imp (fun h => wF_Md (by omega) (by omega) h) id))) a178 f178
      · skip
        exfalso; omega
    · rintro p' ls hi' hok ⟨rfl, hw, h26, hp', h53, hRD, h54, hCT, h55, hFN⟩
      have h52' : hi' 52 12 = n := (hw 52 12 (by unfold wMd; omega)).trans h52n
      refine s230_161.mpr (s230_162.mpr ((s230_163 kM).mpr ?_))
      rw [mr_7 hR]
      refine s230_166.mpr ?_
      refine (s230_167 (hA.k (by decide) (by decide) rfl) (by first | assumption | omega) (by first | assumption | omega)).mpr ?_
      try simp (disch := first | decide | assumption | omega) only [kon, knt_some, knt_none, Option.toList_some, Option.toList_none, List.cons_append, List.nil_append, h55, hnF, h26, h52']
      refine s230_168.mpr (wif (fun c168 => ?_) (fun c168 => ?_))
      · skip
        exfalso; omega
      · skip
        refine s230_187.mpr ?_
        refine (s230_188 kM).mpr ?_
        refine s230_191.mpr ((s230_192 kM).mpr ?_)
        rw [mr_4 hR]
        refine s230_195.mpr ?_
        try simp (disch := first | decide | assumption | omega) only [kon, knt_some, knt_none, Option.toList_some, Option.toList_none, List.cons_append, List.nil_append, h55, hnF, h26, h52']
        refine (s230_196 (hA.k (by decide) (by decide) rfl) (by first | assumption | omega) (by first | assumption | omega)).mpr ?_
        try simp (disch := first | decide | assumption | omega) only [kon, knt_some, knt_none, Option.toList_some, Option.toList_none, List.cons_append, List.nil_append, h55, hnF, h26, h52']
        refine s230_197.mpr (wif (fun c197 => ?_) (fun c197 => ?_))
        · skip
          refine s230_200.mpr (s230_201.mpr (s230_202.mpr ?_))
          refine (s230_203 kM).mpr ?_
          try simp (disch := first | decide | assumption | omega) only [kon, knt_some, knt_none, Option.toList_some, Option.toList_none, List.cons_append, List.nil_append, h55, hnF, h26, h52']
          refine (s230_206 (by omega) kM).mpr ?_
          refine (m_fails hA hR).mpr ?_
          show tho 230 = true ∧ Q none _ _ _
          refine ⟨rfl, ?_⟩
          exact err p' _ (by rw [eqM, hok, bnd_ok]; exact if_pos (by omega)) (by repeat' (first | assumption | exact FW.rf | refine FW.up ?_ (by first | exact wM_49 (by decide) | exact wM_53 (by decide) | exact wM_57 (by omega) (by omega) | exact wM_58 (by omega) (by omega)) | refine FW.up ?_ (Or.inr ⟨rfl, by omega⟩) | refine FW.up ?_ (Or.inl (by first | exact wM_49 (by decide) | exact wM_53 (by decide) | exact wM_57 (by omega) (by omega) | exact wM_58 (by omega) (by omega))) | exact FW.mn (by assumption) (fun _ _ h => Or.inl h))) (by (try simp (disch := decide) only [upI_eq, upI_a, upI_i, upR_eq, upR_a, upR_i])) (by (try simp (disch := decide) only [upI_eq, upI_a, upI_i, upR_eq, upR_a, upR_i]))
        · skip
          refine (s230_209).mpr ?_
          exact fin p' hi' (by rw [eqM, hok, bnd_ok]; exact if_neg (by omega)) hw ⟨h53, hRD, h54, hCT, h55, fun f f0 f1 => hFN f f0 (by omega)⟩
  have T121 : ∀ p3 hi' l3 l4, lpE (recP B) (B 2).toNat 3 = .ok p3 → nmb B 83 83 0 = .ok 1 → nmb B 77 77 1 = .ok 2 → nmb B 0 8 2 = .ok 3 → nmb B 0 4 p3 = .ok (p3 + 1) → 0 ≤ p3 → p3 + 1 ≤ 2000 → FW wMd hi hi' → hi' 49 26 = p3 + 1 → hi' 53 12 = nRec B → RDn hi' 12 B (nRec B) → hi' 54 12 = nCtr B → p3 = pCt0 B → Wp d 230 121 [vR (some 49), vI 12, vI 0, l3, l4] [] al hi' hr Q := by
    intro p3 hi' l3 l4 e3 k1 k2 k3 k4 hp30 hp3 hw h26 h53 hRD h54 hp3e
    have eqM : modP B n = (lpE (ctP B) (B p3).toNat (p3 + 1)).bind fun p5 => (nmb B 1 10 p5).bind fun p6 => (lpE (fnP B) (B p5).toNat p6).bind fun p7 => if p7 < n then .error p7 else .ok p7 := by
      unfold modP; rw [k1, bnd_ok, k2, bnd_ok, k3, bnd_ok, e3, bnd_ok, k4, bnd_ok]
    obtain ⟨-, b0, b1⟩ := nmb_ok k4
    have hnC : nCtr B = B p3 := by rw [hp3e]; rfl
    have hbR : ∀ r : Int, 0 ≤ r → r < nRec B → nFld B r ≤ 6 := by
      intro r r0 r1
      have e9 : nRec B = B 2 := rfl
      obtain ⟨q, hr1, q', hr2⟩ := lpE_mid e3 (j := r.toNat) (by omega)
      rw [lpE_itr (fun q q' h => (recP_sk h).1) _ _ _ hr1] at hr2
      exact (recP_sk hr2).2.2.2.2
    have hnR : 0 ≤ nRec B ∧ nRec B ≤ 8 := (nmb_ok k3).2
    refine wp_lpE (N := (B p3).toNat) (f := ctP B) (p0 := p3 + 1) (fun i p' ls hi' => (ls = [vR (some 49), vI 12, vI i, l3, l4]) ∧ FW wMd hi hi' ∧ hi' 49 26 = p' ∧ (0 ≤ p' ∧ p' ≤ 2000) ∧ hi' 53 12 = nRec B ∧ RDn hi' 12 B (nRec B) ∧ hi' 54 12 = nCtr B ∧ CTn hi' 12 B i) ?_ ?_ _ _ ⟨rfl, hw, h26, by omega, h53, hRD, h54, fun k a b => absurd b (by omega)⟩
    · rintro i p' ls hi' hi4 hok ⟨rfl, hw, h26, hp', h53, hRD, h54, hCT⟩ nx er
      have hB' : bAt hi' 12 = B := (hw.B (by unfold wMd; omega) (by unfold wMd; omega)).trans hB
      obtain ⟨h27', h52'⟩ := hw.bt h27 h52 (by unfold wMd; omega) (by unfold wMd; omega)
      have hpi : p' = pCtr B i := by rw [lpE_itr (fun q q' h => (ctP_sk h).1) _ _ _ hok, hp3e]; rfl
      have hbC : ∀ c : Int, 0 ≤ c → c < i → ∃ q, ctP B (pCtr B c) = .ok q := by
        intro c c0 c1
        obtain ⟨r, hr1, hr2⟩ := lpE_mid hok (j := c.toNat) (by omega)
        rw [lpE_itr (fun q q' h => (ctP_sk h).1) _ _ _ hr1, hp3e] at hr2
        exact hr2
      refine s230_121.mpr (s230_122.mpr ((s230_123 kM).mpr ?_))
      rw [mr_6 hR]
      refine s230_126.mpr ?_
      refine (s230_127 (hA.k (by decide) (by decide) rfl) (by first | assumption | omega) (by first | assumption | omega)).mpr ?_
      try simp (disch := first | decide | assumption | omega) only [kon, knt_some, knt_none, Option.toList_some, Option.toList_none, List.cons_append, List.nil_append, h54, hnC, fAdd_id, fMul_id]
      refine s230_128.mpr (wif (fun c128 => ?_) (fun c128 => ?_))
      · skip
        refine s230_131.mpr (s230_132.mpr (s230_133.mpr (s230_134.mpr (s230_135.mpr (s230_136.mpr ?_)))))
        try simp (disch := first | decide | assumption | omega) only [kon, knt_some, knt_none, Option.toList_some, Option.toList_none, List.cons_append, List.nil_append, h54, hnC, fAdd_id, fMul_id]
        refine (s230_137 (by omega) kM).mpr ?_
        refine m_contract (B := B) (p := p') hA hR (by omega) (by omega) h27' h52' hB' h26 hp'.1 hp'.2 (fun q137 hi2 e137 w137 a137 f137 => ?_) (fun q137 hi2 e137 w137 a137 f137 => ?_)
        · skip
          refine s230_140.mpr (s230_143.mpr ?_)
          try simp (disch := first | decide | assumption | omega) only [kon, knt_some, knt_none, Option.toList_some, Option.toList_none, List.cons_append, List.nil_append, h54, hnC, fAdd_id, fMul_id]
          have g9 := ctP_sk e137
          have hw2 : FW wMd hi hi2 := hw.tr (w137.mn (fun a i h => wC_Md (by omega) (by omega) h))
          refine nx _ _ _ e137 ⟨rfl, hw2, a137, ⟨by omega, hrd _ g9.2.1⟩, (w137 53 12 (by unfold wC; omega)).trans h53, hRD.fw w137 (fun i _ _ => by unfold wC; omega) (fun i _ _ => by unfold wC; omega) hbR, (w137 54 12 (by unfold wC; omega)).trans h54, fun c c0 c1 => ?_⟩
          by_cases hc : c = i
          · subst hc; rw [← hpi]; exact f137
          · obtain ⟨q, hq⟩ := hbC c c0 (by omega)
            obtain ⟨z1, z2, z3⟩ := ctP_b hq
            exact (hCT c c0 (by omega)).eq z2 (fun s s0 s1 => by obtain ⟨r, hr⟩ := z3 s s0 s1; exact (stP_hd hr).2.2.2.1) (w137 59 _ (by unfold wC; omega)) (fun j _ _ => ⟨w137 60 _ (by unfold wC; omega), w137 61 _ (by unfold wC; omega)⟩) (fun j _ _ => ⟨w137 62 _ (by unfold wC; omega), w137 63 _ (by unfold wC; omega)⟩)
        · skip
          show tho 230 = true ∧ Q none _ _ _
          refine ⟨rfl, ?_⟩
          exact err _ _ (by rw [eqM, er _ e137]; rfl) ((hw.mn (fun _ _ h => Or.inl h)).tr (w137.mn (fun a i h => h.imp (fun h => wC_Md (by omega) (by omega) h) id))) a137 f137
      · skip
        exfalso; omega
    · rintro p' ls hi' hok ⟨rfl, hw, h26, hp', h53, hRD, h54, hCT⟩
      have hB' : bAt hi' 12 = B := (hw.B (by unfold wMd; omega) (by unfold wMd; omega)).trans hB
      obtain ⟨h27', h52'⟩ := hw.bt h27 h52 (by unfold wMd; omega) (by unfold wMd; omega)
      have hp5e : p' = pFn0 B := by rw [lpE_itr (fun q q' h => (ctP_sk h).1) _ _ _ hok, hp3e]; unfold pFn0 pCtr; rw [hnC, hp3e]
      refine s230_121.mpr (s230_122.mpr ((s230_123 kM).mpr ?_))
      rw [mr_6 hR]
      refine s230_126.mpr ?_
      refine (s230_127 (hA.k (by decide) (by decide) rfl) (by first | assumption | omega) (by first | assumption | omega)).mpr ?_
      try simp (disch := first | decide | assumption | omega) only [kon, knt_some, knt_none, Option.toList_some, Option.toList_none, List.cons_append, List.nil_append, upI_eq, upI_a, upI_i, upR_eq, upR_a, upR_i, h54, hnC, h26]
      refine s230_128.mpr (wif (fun c128 => ?_) (fun c128 => ?_))
      · skip
        exfalso; omega
      · skip
        refine s230_146.mpr ((s230_147 kM).mpr ?_)
        rw [mr_7 hR]
        refine s230_150.mpr (s230_151.mpr (s230_152.mpr (s230_153.mpr ?_)))
        refine (s230_155 (by omega) kM).mpr ?_
        refine m_numberE hA hR ⟨by (try simp (disch := decide) only [upI_eq, upI_a, upI_i, upR_eq, upR_a, upR_i]); assumption, by (try simp (disch := decide) only [upI_eq, upI_a, upI_i, upR_eq, upR_a, upR_i]); assumption, by (try simp (disch := decide) only [upI_eq, upI_a, upI_i, upR_eq, upR_a, upR_i]); omega, by (try simp (disch := decide) only [upI_eq, upI_a, upI_i, upR_eq, upR_a, upR_i]); omega⟩ (by omega) ?_
        simp (disch := decide) only [upI_eq, upI_a, upI_i, upR_eq, upR_a, upR_i, at1, fl1, bAt_up, hB', h26]
        refine kEx_of (fun q155 e155 => ?_) (fun q155 e155 => ?_)
        · skip
          obtain ⟨rfl, v155, w155⟩ := nmb_ok e155
          have g155 := hrd _ (nmb_b e155 (by omega))
          refine (s230_158 (hA.k (by decide) (by decide) rfl) (by first | assumption | omega) (by first | assumption | omega)).mpr ?_
          refine s230_159.mpr (s230_160.mpr ?_)
          try simp (disch := first | decide | assumption | omega) only [kon, knt_some, knt_none, Option.toList_some, Option.toList_none, List.cons_append, List.nil_append, upI_eq, upI_a, upI_i, upR_eq, upR_a, upR_i, h54, hnC, h26]
          have hbC : ∀ c : Int, 0 ≤ c → c < nCtr B → ∃ q, ctP B (pCtr B c) = .ok q := by
            intro c c0 c1
            obtain ⟨r, hr1, hr2⟩ := lpE_mid hok (j := c.toNat) (by omega)
            rw [lpE_itr (fun q q' h => (ctP_sk h).1) _ _ _ hr1, hp3e] at hr2
            exact hr2
          refine T161 p3 p' _ _ _ e3 hok k1 k2 k3 k4 e155 hp'.1 (by omega) (by repeat' (first | assumption | exact FW.rf | refine FW.up ?_ (by first | exact wM_49 (by decide) | exact wM_53 (by decide) | exact wM_57 (by omega) (by omega) | exact wM_58 (by omega) (by omega)) | refine FW.up ?_ (Or.inr ⟨rfl, by omega⟩) | refine FW.up ?_ (Or.inl (by first | exact wM_49 (by decide) | exact wM_53 (by decide) | exact wM_57 (by omega) (by omega) | exact wM_58 (by omega) (by omega))) | exact FW.mn (by assumption) (fun _ _ h => Or.inl h))) (by (try simp (disch := decide) only [upI_eq, upI_a, upI_i, upR_eq, upR_a, upR_i])) (by (try simp (disch := decide) only [upI_eq, upI_a, upI_i, upR_eq, upR_a, upR_i]); exact h53) (fun r r0 r1 => ⟨by (try simp (disch := decide) only [upI_eq, upI_a, upI_i, upR_eq, upR_a, upR_i]); exact (hRD r r0 r1).1, fun k k0 k1 => by (try simp (disch := decide) only [upI_eq, upI_a, upI_i, upR_eq, upR_a, upR_i]); exact (hRD r r0 r1).2 k k0 k1⟩) (by (try simp (disch := decide) only [upI_eq, upI_a, upI_i, upR_eq, upR_a, upR_i]); exact h54) (fun c c0 c1 => ?_) (by (try simp (disch := decide) only [upI_eq, upI_a, upI_i, upR_eq, upR_a, upR_i]); rw [hp5e]; rfl) hp3e hp5e
          obtain ⟨q, hq⟩ := hbC c c0 c1
          obtain ⟨z1, z2, z3⟩ := ctP_b hq
          exact (hCT c c0 (by omega)).eq z2 (fun s s0 s1 => by obtain ⟨r, hr⟩ := z3 s s0 s1; exact (stP_hd hr).2.2.2.1) (by (try simp (disch := decide) only [upI_eq, upI_a, upI_i, upR_eq, upR_a, upR_i])) (fun j _ _ => ⟨by (try simp (disch := decide) only [upI_eq, upI_a, upI_i, upR_eq, upR_a, upR_i]), by (try simp (disch := decide) only [upI_eq, upI_a, upI_i, upR_eq, upR_a, upR_i])⟩) (fun j _ _ => ⟨by (try simp (disch := decide) only [upI_eq, upI_a, upI_i, upR_eq, upR_a, upR_i]), by (try simp (disch := decide) only [upI_eq, upI_a, upI_i, upR_eq, upR_a, upR_i])⟩)
        · skip
          show tho 230 = true ∧ Q none _ _ _
          refine ⟨rfl, ?_⟩
          exact err _ _ (by rw [eqM, hok, bnd_ok, e155]; rfl) (by repeat' (first | assumption | exact FW.rf | refine FW.up ?_ (by first | exact wM_49 (by decide) | exact wM_53 (by decide) | exact wM_57 (by omega) (by omega) | exact wM_58 (by omega) (by omega)) | refine FW.up ?_ (Or.inr ⟨rfl, by omega⟩) | refine FW.up ?_ (Or.inl (by first | exact wM_49 (by decide) | exact wM_53 (by decide) | exact wM_57 (by omega) (by omega) | exact wM_58 (by omega) (by omega))) | exact FW.mn (by assumption) (fun _ _ h => Or.inl h))) (by (try simp (disch := decide) only [upI_eq, upI_a, upI_i, upR_eq, upR_a, upR_i])) (by (try simp (disch := decide) only [upI_eq, upI_a, upI_i, upR_eq, upR_a, upR_i]))
  have T32 : ∀ hi' l3 l4, nmb B 83 83 0 = .ok 1 → nmb B 77 77 1 = .ok 2 → nmb B 0 8 2 = .ok 3 → FW wMd hi hi' → hi' 49 26 = 3 → hi' 53 12 = nRec B → Wp d 230 32 [vR (some 49), vI 12, vI 0, l3, l4] [] al hi' hr Q := by
    intro hi' l3 l4 k1 k2 k3 hw h26 h53
    have eqM : modP B n = (lpE (recP B) (B 2).toNat 3).bind fun p3 => (nmb B 0 4 p3).bind fun p4 => (lpE (ctP B) (B p3).toNat p4).bind fun p5 => (nmb B 1 10 p5).bind fun p6 => (lpE (fnP B) (B p5).toNat p6).bind fun p7 => if p7 < n then .error p7 else .ok p7 := by
      unfold modP; rw [k1, bnd_ok, k2, bnd_ok, k3, bnd_ok]
    have hnR : nRec B = B 2 := rfl
    have hnR2 : 0 ≤ B 2 ∧ B 2 ≤ 8 := (nmb_ok k3).2
    refine wp_lpE (N := (B 2).toNat) (f := recP B) (p0 := 3) (fun i p' ls hi' => (∃ l3 l4, ls = [vR (some 49), vI 12, vI i, l3, l4]) ∧ FW wMd hi hi' ∧ hi' 49 26 = p' ∧ (0 ≤ p' ∧ p' ≤ 2000) ∧ hi' 53 12 = nRec B ∧ RDn hi' 12 B i) ?_ ?_ _ _ ⟨⟨_, _, rfl⟩, hw, h26, by omega, h53, fun k a b => absurd b (by omega)⟩
    · rintro i p' ls hi' hi4 hok ⟨⟨l3, l4, rfl⟩, hw, h26, hp', h53, hRD⟩ nx er
      have hpi : p' = pRec B i := lpE_itr (fun q q' h => (recP_sk h).1) _ _ _ hok
      have hbR : ∀ r : Int, 0 ≤ r → r < i → nFld B r ≤ 6 := by
        intro r r0 r1
        obtain ⟨q, hr1, q', hr2⟩ := lpE_mid hok (j := r.toNat) (by omega)
        rw [lpE_itr (fun q q' h => (recP_sk h).1) _ _ _ hr1] at hr2
        exact (recP_sk hr2).2.2.2.2
      have T65 : ∀ hi', nmb B 1 6 p' = .ok (p' + 1) → p' + 1 ≤ 2000 → FW wMd hi hi' → hi' 49 26 = p' + 1 → hi' 53 12 = nRec B → hi' 57 (8 * 12 + i) = B p' → RDn hi' 12 B i → Wp d 230 65 [vR (some 49), vI 12, vI i, vI (B p'), vI 0] [] al hi' hr Q := by
        intro hi' k4 hpp hw h26 h53 h57 hRD
        obtain ⟨-, b0, b1⟩ := nmb_ok k4
        refine wp_lpE (N := (B p').toNat) (f := tyP B 15 0) (p0 := p' + 1) (fun j p2 ls hi' => (ls = [vR (some 49), vI 12, vI i, vI (B p'), vI j]) ∧ FW wMd hi hi' ∧ hi' 49 26 = p2 ∧ (0 ≤ p2 ∧ p2 ≤ 2000) ∧ hi' 53 12 = nRec B ∧ hi' 57 (8 * 12 + i) = B p' ∧ RDn hi' 12 B i ∧ ∀ k : Int, 0 ≤ k → k < j → hi' 58 (48 * 12 + 6 * i + k) = fTy B i k) ?_ ?_ _ _ ⟨rfl, hw, h26, by omega, h53, h57, hRD, fun k a b => absurd b (by omega)⟩
        · rintro j p2 ls hi' hj hok2 ⟨rfl, hw, h26, hp2, h53, h57, hRD, hF⟩ nx2 er2
          have hB' : bAt hi' 12 = B := (hw.B (by unfold wMd; omega) (by unfold wMd; omega)).trans hB
          obtain ⟨h27', h52'⟩ := hw.bt h27 h52 (by unfold wMd; omega) (by unfold wMd; omega)
          refine s230_65.mpr (s230_67.mpr ?_)
          refine s230_68.mpr (wif (fun c68 => ?_) (fun c68 => ?_))
          · skip
            refine s230_71.mpr ((s230_72 kM).mpr ?_)
            rw [mr_10 hR]
            refine s230_75.mpr (s230_77.mpr (s230_78.mpr (s230_79.mpr (s230_81.mpr (s230_82.mpr ?_)))))
            refine s230_83.mpr (s230_84.mpr (s230_86.mpr (s230_87.mpr (s230_88.mpr (s230_90.mpr ?_)))))
            try simp (disch := first | decide | assumption | omega) only [kon, knt_some, knt_none, Option.toList_some, Option.toList_none, List.cons_append, List.nil_append, upI_eq, upI_a, upI_i, upR_eq, upR_a, upR_i, h26, fAdd_id, fMul_id]
            refine (s230_91 (by omega) kM).mpr ?_
            refine m_type hA hR ⟨by (try simp (disch := decide) only [upI_eq, upI_a, upI_i, upR_eq, upR_a, upR_i]); assumption, by (try simp (disch := decide) only [upI_eq, upI_a, upI_i, upR_eq, upR_a, upR_i]); assumption, by (try simp (disch := decide) only [upI_eq, upI_a, upI_i, upR_eq, upR_a, upR_i]); omega, by (try simp (disch := decide) only [upI_eq, upI_a, upI_i, upR_eq, upR_a, upR_i]); omega⟩ (by omega) (by decide) (Or.inl rfl) ?_
            simp (disch := decide) only [upI_eq, upI_a, upI_i, upR_eq, upR_a, upR_i, at1, fl1, bAt_up, hB', h26]
            refine kEx_of (fun q91 e91 => ?_) (fun q91 e91 => ?_)
            · skip
              have g91 := hrd _ (tyP_b e91)
              have u91 := tyP_ge e91
              refine (s230_94 (hA.k (by decide) (by decide) rfl) (by first | assumption | omega) (by first | assumption | omega)).mpr ?_
              refine s230_95.mpr (s230_98.mpr ?_)
              try simp (disch := first | decide | assumption | omega) only [kon, knt_some, knt_none, Option.toList_some, Option.toList_none, List.cons_append, List.nil_append, upI_eq, upI_a, upI_i, upR_eq, upR_a, upR_i, h26, fAdd_id, fMul_id]
              have hpt := lpE_itr (fun q q' h => tyP_sk h) _ _ _ hok2
              refine nx2 _ _ _ e91 ⟨rfl, (by repeat' (first | assumption | exact FW.rf | refine FW.up ?_ (by first | exact wM_49 (by decide) | exact wM_53 (by decide) | exact wM_57 (by omega) (by omega) | exact wM_58 (by omega) (by omega)) | refine FW.up ?_ (Or.inr ⟨rfl, by omega⟩) | refine FW.up ?_ (Or.inl (by first | exact wM_49 (by decide) | exact wM_53 (by decide) | exact wM_57 (by omega) (by omega) | exact wM_58 (by omega) (by omega))) | exact FW.mn (by assumption) (fun _ _ h => Or.inl h))), by (try simp (disch := decide) only [upI_eq, upI_a, upI_i, upR_eq, upR_a, upR_i]), by omega, by (try simp (disch := decide) only [upI_eq, upI_a, upI_i, upR_eq, upR_a, upR_i]); exact h53, by (try simp (disch := decide) only [upI_eq, upI_a, upI_i, upR_eq, upR_a, upR_i]); exact h57, fun r r0 r1 => ⟨by (try simp (disch := decide) only [upI_eq, upI_a, upI_i, upR_eq, upR_a, upR_i]); exact (hRD r r0 r1).1, fun k k0 k1 => ?_⟩, fun k k0 k1 => ?_⟩
              · have := hbR r r0 r1
                simp (disch := first | decide | omega) only [upI_eq, upI_a, upI_i, upR_eq, upR_a, upR_i]; exact (hRD r r0 r1).2 k k0 k1
              · by_cases hk : k = j
                · subst hk; simp (disch := first | decide | omega) only [upI_eq, upI_a, upI_i, upR_eq, upR_a, upR_i]; unfold fTy pFld; rw [hpt, hpi]; rfl
                · simp (disch := first | decide | omega) only [upI_eq, upI_a, upI_i, upR_eq, upR_a, upR_i]; exact hF k k0 (by omega)
            · skip
              show tho 230 = true ∧ Q none _ _ _
              refine ⟨rfl, ?_⟩
              exact err _ _ (by rw [eqM, er q91 (by unfold recP; rw [k4, bnd_ok]; exact er2 _ e91)]; rfl) (by repeat' (first | assumption | exact FW.rf | refine FW.up ?_ (by first | exact wM_49 (by decide) | exact wM_53 (by decide) | exact wM_57 (by omega) (by omega) | exact wM_58 (by omega) (by omega)) | refine FW.up ?_ (Or.inr ⟨rfl, by omega⟩) | refine FW.up ?_ (Or.inl (by first | exact wM_49 (by decide) | exact wM_53 (by decide) | exact wM_57 (by omega) (by omega) | exact wM_58 (by omega) (by omega))) | exact FW.mn (by assumption) (fun _ _ h => Or.inl h))) (by (try simp (disch := decide) only [upI_eq, upI_a, upI_i, upR_eq, upR_a, upR_i])) (by (try simp (disch := decide) only [upI_eq, upI_a, upI_i, upR_eq, upR_a, upR_i]))
          · skip
            exfalso; omega
        · rintro p2 ls hi' hok2 ⟨rfl, hw, h26, hp2, h53, h57, hRD, hF⟩
          refine s230_65.mpr (s230_67.mpr ?_)
          refine s230_68.mpr (wif (fun c68 => ?_) (fun c68 => ?_))
          · skip
            exfalso; omega
          · skip
            refine s230_101.mpr (s230_104.mpr ?_)
            try simp (disch := first | decide | assumption | omega) only [fAdd_id]
            refine nx _ _ _ (by unfold recP; rw [k4, bnd_ok]; exact hok2) ⟨⟨_, _, rfl⟩, hw, h26, hp2, h53, fun r r0 r1 => ?_⟩
            by_cases hr : r = i
            · subst hr
              have e9 : nFld B i = B p' := by unfold nFld; rw [← hpi]
              exact ⟨by rw [e9]; exact h57, fun k k0 k1 => hF k k0 (by omega)⟩
            · exact hRD r r0 (by omega)
      have hB' : bAt hi' 12 = B := (hw.B (by unfold wMd; omega) (by unfold wMd; omega)).trans hB
      obtain ⟨h27', h52'⟩ := hw.bt h27 h52 (by unfold wMd; omega) (by unfold wMd; omega)
      refine s230_32.mpr (s230_33.mpr ((s230_34 kM).mpr ?_))
      rw [mr_5 hR]
      refine s230_37.mpr ?_
      refine (s230_38 (hA.k (by decide) (by decide) rfl) (by first | assumption | omega) (by first | assumption | omega)).mpr ?_
      try simp (disch := first | decide | assumption | omega) only [kon, knt_some, knt_none, Option.toList_some, Option.toList_none, List.cons_append, List.nil_append, upI_eq, upI_a, upI_i, upR_eq, upR_a, upR_i, h53, hnR, h26, fAdd_id, fMul_id]
      refine s230_39.mpr (wif (fun c39 => ?_) (fun c39 => ?_))
      · skip
        refine s230_42.mpr (s230_43.mpr (s230_44.mpr ?_))
        refine (s230_46 (by omega) kM).mpr ?_
        refine m_numberE hA hR ⟨by (try simp (disch := decide) only [upI_eq, upI_a, upI_i, upR_eq, upR_a, upR_i]); assumption, by (try simp (disch := decide) only [upI_eq, upI_a, upI_i, upR_eq, upR_a, upR_i]); assumption, by (try simp (disch := decide) only [upI_eq, upI_a, upI_i, upR_eq, upR_a, upR_i]); omega, by (try simp (disch := decide) only [upI_eq, upI_a, upI_i, upR_eq, upR_a, upR_i]); omega⟩ (by omega) ?_
        simp (disch := decide) only [upI_eq, upI_a, upI_i, upR_eq, upR_a, upR_i, at1, fl1, bAt_up, hB', h26]
        refine kEx_of (fun q46 e46 => ?_) (fun q46 e46 => ?_)
        · skip
          obtain ⟨rfl, v46, w46⟩ := nmb_ok e46
          have g46 := hrd _ (nmb_b e46 (by omega))
          refine s230_49.mpr (s230_50.mpr ((s230_51 kM).mpr ?_))
          rw [mr_9 hR]
          refine s230_54.mpr (s230_56.mpr (s230_57.mpr (s230_58.mpr (s230_59.mpr (s230_60.mpr ?_)))))
          try simp (disch := first | decide | assumption | omega) only [kon, knt_some, knt_none, Option.toList_some, Option.toList_none, List.cons_append, List.nil_append, upI_eq, upI_a, upI_i, upR_eq, upR_a, upR_i, h53, hnR, h26, fAdd_id, fMul_id]
          refine (s230_61 (hA.k (by decide) (by decide) rfl) (by first | assumption | omega) (by first | assumption | omega)).mpr ?_
          refine s230_62.mpr (s230_63.mpr ?_)
          try simp (disch := first | decide | assumption | omega) only [kon, knt_some, knt_none, Option.toList_some, Option.toList_none, List.cons_append, List.nil_append, upI_eq, upI_a, upI_i, upR_eq, upR_a, upR_i, h53, hnR, h26, fAdd_id, fMul_id]
          refine T65 _ e46 (by omega) (by repeat' (first | assumption | exact FW.rf | refine FW.up ?_ (by first | exact wM_49 (by decide) | exact wM_53 (by decide) | exact wM_57 (by omega) (by omega) | exact wM_58 (by omega) (by omega)) | refine FW.up ?_ (Or.inr ⟨rfl, by omega⟩) | refine FW.up ?_ (Or.inl (by first | exact wM_49 (by decide) | exact wM_53 (by decide) | exact wM_57 (by omega) (by omega) | exact wM_58 (by omega) (by omega))) | exact FW.mn (by assumption) (fun _ _ h => Or.inl h))) (by (try simp (disch := decide) only [upI_eq, upI_a, upI_i, upR_eq, upR_a, upR_i])) (by (try simp (disch := decide) only [upI_eq, upI_a, upI_i, upR_eq, upR_a, upR_i]); exact h53) (by (try simp (disch := decide) only [upI_eq, upI_a, upI_i, upR_eq, upR_a, upR_i])) (fun r r0 r1 => ⟨?_, fun k k0 k1 => ?_⟩)
          · simp (disch := first | decide | omega) only [upI_eq, upI_a, upI_i, upR_eq, upR_a, upR_i]; exact (hRD r r0 r1).1
          · (try simp (disch := decide) only [upI_eq, upI_a, upI_i, upR_eq, upR_a, upR_i]); exact (hRD r r0 r1).2 k k0 k1
        · skip
          show tho 230 = true ∧ Q none _ _ _
          refine ⟨rfl, ?_⟩
          exact err _ _ (by rw [eqM, er _ (by unfold recP; rw [e46]; rfl)]; rfl) (by repeat' (first | assumption | exact FW.rf | refine FW.up ?_ (by first | exact wM_49 (by decide) | exact wM_53 (by decide) | exact wM_57 (by omega) (by omega) | exact wM_58 (by omega) (by omega)) | refine FW.up ?_ (Or.inr ⟨rfl, by omega⟩) | refine FW.up ?_ (Or.inl (by first | exact wM_49 (by decide) | exact wM_53 (by decide) | exact wM_57 (by omega) (by omega) | exact wM_58 (by omega) (by omega))) | exact FW.mn (by assumption) (fun _ _ h => Or.inl h))) (by (try simp (disch := decide) only [upI_eq, upI_a, upI_i, upR_eq, upR_a, upR_i])) (by (try simp (disch := decide) only [upI_eq, upI_a, upI_i, upR_eq, upR_a, upR_i]))
      · skip
        exfalso; omega
    · rintro p' ls hi' hok ⟨⟨l3, l4, rfl⟩, hw, h26, hp', h53, hRD⟩
      have hB' : bAt hi' 12 = B := (hw.B (by unfold wMd; omega) (by unfold wMd; omega)).trans hB
      obtain ⟨h27', h52'⟩ := hw.bt h27 h52 (by unfold wMd; omega) (by unfold wMd; omega)
      have hp3e : p' = pCt0 B := lpE_itr (fun q q' h => (recP_sk h).1) _ _ _ hok
      refine s230_32.mpr (s230_33.mpr ((s230_34 kM).mpr ?_))
      rw [mr_5 hR]
      refine s230_37.mpr ?_
      refine (s230_38 (hA.k (by decide) (by decide) rfl) (by first | assumption | omega) (by first | assumption | omega)).mpr ?_
      try simp (disch := first | decide | assumption | omega) only [kon, knt_some, knt_none, Option.toList_some, Option.toList_none, List.cons_append, List.nil_append, upI_eq, upI_a, upI_i, upR_eq, upR_a, upR_i, h53, hnR, h26]
      refine s230_39.mpr (wif (fun c39 => ?_) (fun c39 => ?_))
      · skip
        exfalso; omega
      · skip
        refine s230_107.mpr ((s230_108 kM).mpr ?_)
        rw [mr_6 hR]
        refine s230_111.mpr (s230_112.mpr (s230_113.mpr (s230_114.mpr ?_)))
        refine (s230_115 (by omega) kM).mpr ?_
        refine m_numberE hA hR ⟨by (try simp (disch := decide) only [upI_eq, upI_a, upI_i, upR_eq, upR_a, upR_i]); assumption, by (try simp (disch := decide) only [upI_eq, upI_a, upI_i, upR_eq, upR_a, upR_i]); assumption, by (try simp (disch := decide) only [upI_eq, upI_a, upI_i, upR_eq, upR_a, upR_i]); omega, by (try simp (disch := decide) only [upI_eq, upI_a, upI_i, upR_eq, upR_a, upR_i]); omega⟩ (by omega) ?_
        simp (disch := decide) only [upI_eq, upI_a, upI_i, upR_eq, upR_a, upR_i, at1, fl1, bAt_up, hB', h26]
        refine kEx_of (fun q115 e115 => ?_) (fun q115 e115 => ?_)
        · skip
          obtain ⟨rfl, v115, w115⟩ := nmb_ok e115
          have g115 := hrd _ (nmb_b e115 (by omega))
          refine (s230_118 (hA.k (by decide) (by decide) rfl) (by first | assumption | omega) (by first | assumption | omega)).mpr ?_
          refine s230_119.mpr (s230_120.mpr ?_)
          try simp (disch := first | decide | assumption | omega) only [kon, knt_some, knt_none, Option.toList_some, Option.toList_none, List.cons_append, List.nil_append, upI_eq, upI_a, upI_i, upR_eq, upR_a, upR_i, h53, hnR, h26]
          exact T121 p' _ _ _ hok k1 k2 k3 e115 hp'.1 (by omega) (by repeat' (first | assumption | exact FW.rf | refine FW.up ?_ (by first | exact wM_49 (by decide) | exact wM_53 (by decide) | exact wM_57 (by omega) (by omega) | exact wM_58 (by omega) (by omega)) | refine FW.up ?_ (Or.inr ⟨rfl, by omega⟩) | refine FW.up ?_ (Or.inl (by first | exact wM_49 (by decide) | exact wM_53 (by decide) | exact wM_57 (by omega) (by omega) | exact wM_58 (by omega) (by omega))) | exact FW.mn (by assumption) (fun _ _ h => Or.inl h))) (by (try simp (disch := decide) only [upI_eq, upI_a, upI_i, upR_eq, upR_a, upR_i])) (by (try simp (disch := decide) only [upI_eq, upI_a, upI_i, upR_eq, upR_a, upR_i]); exact h53) (fun r r0 r1 => ⟨by (try simp (disch := decide) only [upI_eq, upI_a, upI_i, upR_eq, upR_a, upR_i]); exact (hRD r r0 (by omega)).1, fun k k0 k1 => by (try simp (disch := decide) only [upI_eq, upI_a, upI_i, upR_eq, upR_a, upR_i]); exact (hRD r r0 (by omega)).2 k k0 k1⟩) (by (try simp (disch := decide) only [upI_eq, upI_a, upI_i, upR_eq, upR_a, upR_i]); rw [hp3e]; rfl) hp3e
        · skip
          show tho 230 = true ∧ Q none _ _ _
          refine ⟨rfl, ?_⟩
          exact err _ _ (by rw [eqM, hok, bnd_ok, e115]; rfl) (by repeat' (first | assumption | exact FW.rf | refine FW.up ?_ (by first | exact wM_49 (by decide) | exact wM_53 (by decide) | exact wM_57 (by omega) (by omega) | exact wM_58 (by omega) (by omega)) | refine FW.up ?_ (Or.inr ⟨rfl, by omega⟩) | refine FW.up ?_ (Or.inl (by first | exact wM_49 (by decide) | exact wM_53 (by decide) | exact wM_57 (by omega) (by omega) | exact wM_58 (by omega) (by omega))) | exact FW.mn (by assumption) (fun _ _ h => Or.inl h))) (by (try simp (disch := decide) only [upI_eq, upI_a, upI_i, upR_eq, upR_a, upR_i])) (by (try simp (disch := decide) only [upI_eq, upI_a, upI_i, upR_eq, upR_a, upR_i]))
  have hB' := hB
  have h27' := h27
  have h52' := h52
  rw [e230]
  refine s230_0.mpr ?_
  refine (s230_1 kM).mpr ?_
  refine s230_4.mpr (s230_5.mpr (s230_6.mpr ?_))
  try simp (disch := first | decide | assumption | omega) only [kon, knt_some, knt_none, Option.toList_some, Option.toList_none, List.cons_append, List.nil_append, upI_eq, upI_a, upI_i, upR_eq, upR_a, upR_i, h27, h26]
  refine (s230_8 (by omega) kM).mpr ?_
  refine m_mustE hA hR ⟨by (try simp (disch := decide) only [upI_eq, upI_a, upI_i, upR_eq, upR_a, upR_i]); assumption, by (try simp (disch := decide) only [upI_eq, upI_a, upI_i, upR_eq, upR_a, upR_i]); assumption, by (try simp (disch := decide) only [upI_eq, upI_a, upI_i, upR_eq, upR_a, upR_i]); omega, by (try simp (disch := decide) only [upI_eq, upI_a, upI_i, upR_eq, upR_a, upR_i]); omega⟩ (by omega) ?_
  simp (disch := decide) only [upI_eq, upI_a, upI_i, upR_eq, upR_a, upR_i, at1, fl1, bAt_up, hB', h26]
  refine kEx_of (fun q8 e8 => ?_) (fun q8 e8 => ?_)
  · skip
    obtain ⟨rfl, v8, w8⟩ := nmb_ok e8
    have g8 := hrd _ (nmb_b e8 (by omega))
    refine s230_11.mpr (s230_12.mpr ?_)
    refine (s230_14 (by omega) kM).mpr ?_
    refine m_mustE hA hR ⟨by (try simp (disch := decide) only [upI_eq, upI_a, upI_i, upR_eq, upR_a, upR_i]); assumption, by (try simp (disch := decide) only [upI_eq, upI_a, upI_i, upR_eq, upR_a, upR_i]); assumption, by (try simp (disch := decide) only [upI_eq, upI_a, upI_i, upR_eq, upR_a, upR_i]); omega, by (try simp (disch := decide) only [upI_eq, upI_a, upI_i, upR_eq, upR_a, upR_i]); omega⟩ (by omega) ?_
    simp (disch := decide) only [upI_eq, upI_a, upI_i, upR_eq, upR_a, upR_i, at1, fl1, bAt_up, hB', h26]
    refine kEx_of (fun q14 e14 => ?_) (fun q14 e14 => ?_)
    · skip
      obtain ⟨rfl, v14, w14⟩ := nmb_ok e14
      have g14 := hrd _ (nmb_b e14 (by omega))
      refine s230_17.mpr ((s230_18 kM).mpr ?_)
      rw [mr_5 hR]
      refine s230_21.mpr (s230_22.mpr (s230_23.mpr (s230_24.mpr ?_)))
      refine (s230_26 (by omega) kM).mpr ?_
      refine m_numberE hA hR ⟨by (try simp (disch := decide) only [upI_eq, upI_a, upI_i, upR_eq, upR_a, upR_i]); assumption, by (try simp (disch := decide) only [upI_eq, upI_a, upI_i, upR_eq, upR_a, upR_i]); assumption, by (try simp (disch := decide) only [upI_eq, upI_a, upI_i, upR_eq, upR_a, upR_i]); omega, by (try simp (disch := decide) only [upI_eq, upI_a, upI_i, upR_eq, upR_a, upR_i]); omega⟩ (by omega) ?_
      simp (disch := decide) only [upI_eq, upI_a, upI_i, upR_eq, upR_a, upR_i, at1, fl1, bAt_up, hB', h26]
      refine kEx_of (fun q26 e26 => ?_) (fun q26 e26 => ?_)
      · skip
        obtain ⟨rfl, v26, w26⟩ := nmb_ok e26
        have g26 := hrd _ (nmb_b e26 (by omega))
        refine (s230_29 (hA.k (by decide) (by decide) rfl) (by first | assumption | omega) (by first | assumption | omega)).mpr ?_
        refine s230_30.mpr (s230_31.mpr ?_)
        try simp (disch := first | decide | assumption | omega) only [kon, knt_some, knt_none, Option.toList_some, Option.toList_none, List.cons_append, List.nil_append, upI_eq, upI_a, upI_i, upR_eq, upR_a, upR_i, h27, h26]
        exact T32 _ _ _ e8 e14 e26 (by repeat' (first | assumption | exact FW.rf | refine FW.up ?_ (by first | exact wM_49 (by decide) | exact wM_53 (by decide) | exact wM_57 (by omega) (by omega) | exact wM_58 (by omega) (by omega)) | refine FW.up ?_ (Or.inr ⟨rfl, by omega⟩) | refine FW.up ?_ (Or.inl (by first | exact wM_49 (by decide) | exact wM_53 (by decide) | exact wM_57 (by omega) (by omega) | exact wM_58 (by omega) (by omega))) | exact FW.mn (by assumption) (fun _ _ h => Or.inl h))) (by (try simp (disch := decide) only [upI_eq, upI_a, upI_i, upR_eq, upR_a, upR_i]); omega) (by (try simp (disch := decide) only [upI_eq, upI_a, upI_i, upR_eq, upR_a, upR_i]); rfl)
      · skip
        show tho 230 = true ∧ Q none _ _ _
        refine ⟨rfl, ?_⟩
        exact err _ _ (by unfold modP; first | (rw [e8]; rfl) | (rw [e8, bnd_ok, e14]; rfl) | (rw [e8, bnd_ok, e14, bnd_ok, e26]; rfl)) (by repeat' (first | assumption | exact FW.rf | refine FW.up ?_ (by first | exact wM_49 (by decide) | exact wM_53 (by decide) | exact wM_57 (by omega) (by omega) | exact wM_58 (by omega) (by omega)) | refine FW.up ?_ (Or.inr ⟨rfl, by omega⟩) | refine FW.up ?_ (Or.inl (by first | exact wM_49 (by decide) | exact wM_53 (by decide) | exact wM_57 (by omega) (by omega) | exact wM_58 (by omega) (by omega))) | exact FW.mn (by assumption) (fun _ _ h => Or.inl h))) (by (try simp (disch := decide) only [upI_eq, upI_a, upI_i, upR_eq, upR_a, upR_i])) (by (try simp (disch := decide) only [upI_eq, upI_a, upI_i, upR_eq, upR_a, upR_i]))
    · skip
      show tho 230 = true ∧ Q none _ _ _
      refine ⟨rfl, ?_⟩
      exact err _ _ (by unfold modP; first | (rw [e8]; rfl) | (rw [e8, bnd_ok, e14]; rfl) | (rw [e8, bnd_ok, e14, bnd_ok, e26]; rfl)) (by repeat' (first | assumption | exact FW.rf | refine FW.up ?_ (by first | exact wM_49 (by decide) | exact wM_53 (by decide) | exact wM_57 (by omega) (by omega) | exact wM_58 (by omega) (by omega)) | refine FW.up ?_ (Or.inr ⟨rfl, by omega⟩) | refine FW.up ?_ (Or.inl (by first | exact wM_49 (by decide) | exact wM_53 (by decide) | exact wM_57 (by omega) (by omega) | exact wM_58 (by omega) (by omega))) | exact FW.mn (by assumption) (fun _ _ h => Or.inl h))) (by (try simp (disch := decide) only [upI_eq, upI_a, upI_i, upR_eq, upR_a, upR_i])) (by (try simp (disch := decide) only [upI_eq, upI_a, upI_i, upR_eq, upR_a, upR_i]))
  · skip
    show tho 230 = true ∧ Q none _ _ _
    refine ⟨rfl, ?_⟩
    exact err _ _ (by unfold modP; first | (rw [e8]; rfl) | (rw [e8, bnd_ok, e14]; rfl) | (rw [e8, bnd_ok, e14, bnd_ok, e26]; rfl)) (by repeat' (first | assumption | exact FW.rf | refine FW.up ?_ (by first | exact wM_49 (by decide) | exact wM_53 (by decide) | exact wM_57 (by omega) (by omega) | exact wM_58 (by omega) (by omega)) | refine FW.up ?_ (Or.inr ⟨rfl, by omega⟩) | refine FW.up ?_ (Or.inl (by first | exact wM_49 (by decide) | exact wM_53 (by decide) | exact wM_57 (by omega) (by omega) | exact wM_58 (by omega) (by omega))) | exact FW.mn (by assumption) (fun _ _ h => Or.inl h))) (by (try simp (disch := decide) only [upI_eq, upI_a, upI_i, upR_eq, upR_a, upR_i])) (by (try simp (disch := decide) only [upI_eq, upI_a, upI_i, upR_eq, upR_a, upR_i]))
end MP7
