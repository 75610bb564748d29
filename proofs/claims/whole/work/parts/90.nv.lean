/-! what holds of the names of a text that was read -/
section NVS
variable {B : Int → Int}
theorem nmT_sk {p q : Int} (h : nmT B p = .ok q) : q = skT B p := by
  unfold nmT at h
  unfold skT
  split at h
  · rename_i c; cases h; rw [if_pos c]
  · rename_i c
    rw [if_neg c]
    split at h
    · rename_i c2
      rw [if_pos c2]
      unfold ckE at h; split at h
      · cases h; rfl
      · cases h
    · rename_i c2
      rw [if_neg c2]
      split at h
      · cases h
      · unfold ckE at h; split at h
        · cases h; rfl
        · cases h
theorem ckE_ok {c : Prop} {p q r : Int} (h : ckE c p q = .ok r) : c ∧ r = p := by
  by_cases hc : c
  · rw [ckE_y hc] at h; cases h; exact ⟨hc, rfl⟩
  · rw [ckE_n hc] at h; cases h
/-- a type that stands in the text, with right names -/
theorem tyV_v {ks no p q q' : Int} (hB : ∀ k, -1 ≤ B k ∧ B k ≤ 255) (h : tyP B ks no p = .ok q) (hn : nmT B p = .ok q') : (B p = 255 ∧ no ≠ 0 ∧ tyV B p = -1) ∨ (vT B (tyV B p) ∧ kindM (tyV B p) = B p ∧ 0 ≤ B p ∧ B p ≤ 5 ∧ ks / 2 ^ (B p).toNat % 2 ≠ 0) := by
  have b1 := hB (p + 1)
  have b2 := hB (p + 2)
  unfold tyP at h
  by_cases c0 : no ≠ 0 ∧ B p = 255
  · left; exact ⟨c0.2, c0.1, by unfold tyV; rw [if_pos c0.2]⟩
  rw [if_neg c0] at h
  by_cases c1 : B p < 0 ∨ 5 < B p ∨ ks / 2 ^ (B p).toNat % 2 = 0
  · rw [if_pos c1] at h; cases h
  rw [if_neg c1] at h
  right
  have hk : ks / 2 ^ (B p).toNat % 2 ≠ 0 := fun e => c1 (Or.inr (Or.inr e))
  have h0 : 0 ≤ B p := by omega
  have h5 : B p ≤ 5 := by omega
  clear c1 c0
  unfold nmT at hn
  by_cases c2 : B p = 0 ∨ B p = 2
  · have e : tyV B p = B p := by unfold tyV; rw [if_neg (by omega), if_pos c2]
    rw [e]
    exact ⟨vT_of (by omega), by unfold kindM; rw [if_neg (by omega)]; omega, h0, h5, hk⟩
  rw [if_neg c2] at h
  rw [if_neg (by omega)] at hn
  by_cases c3 : B (p + 1) < 0
  · rw [if_pos c3] at h; cases h
  rw [if_neg c3] at h
  by_cases c4 : B p ≠ 5
  · have e : tyV B p = B p + 8 * B (p + 1) := by unfold tyV; rw [if_neg (by omega), if_neg c2, if_pos c4]
    rw [if_pos c4] at hn
    obtain ⟨⟨n1, -⟩, -⟩ := ckE_ok hn
    rw [e]
    have ek : kindM (B p + 8 * B (p + 1)) = B p := by unfold kindM; rw [if_neg (by omega)]; omega
    have ew : whichM (B p + 8 * B (p + 1)) = B (p + 1) := by unfold whichM; omega
    refine ⟨⟨by omega, by omega, fun q => by omega, fun q => by omega, fun q => by omega, fun q => by omega, fun _ => by rw [ew]; exact n1, fun q => by omega⟩, ek, h0, h5, hk⟩
  rw [if_neg c4] at h hn
  by_cases c5 : B (p + 2) < 0
  · rw [if_pos c5] at h; cases h
  rw [if_neg c5] at h
  obtain ⟨-, d0, d1⟩ := nmb_ok h
  by_cases c6 : nCtr B ≤ B (p + 1)
  · rw [if_pos c6] at hn; cases hn
  rw [if_neg c6] at hn
  obtain ⟨n1, -⟩ := ckE_ok hn
  have e : tyV B p = B p + 8 * B (p + 1) + 2048 * B (p + 2) + 524288 * B (p + 3) := by unfold tyV; rw [if_neg (by omega), if_neg c2, if_neg c4]
  rw [e]
  have ek : kindM (B p + 8 * B (p + 1) + 2048 * B (p + 2) + 524288 * B (p + 3)) = B p := by unfold kindM; rw [if_neg (by omega)]; omega
  have ew : whichM (B p + 8 * B (p + 1) + 2048 * B (p + 2) + 524288 * B (p + 3)) = B (p + 1) := by unfold whichM; omega
  have es : stateM (B p + 8 * B (p + 1) + 2048 * B (p + 2) + 524288 * B (p + 3)) = B (p + 2) := by unfold stateM; omega
  refine ⟨⟨by omega, by omega, fun q => by omega, fun q => by omega, fun q => by omega, fun q => by omega, fun q => by omega, fun _ => ?_⟩, ek, h0, h5, hk⟩
  rw [ew, es]
  exact ⟨by omega, n1⟩
/-- the names of an instruction -/
def InsV (B : Int → Int) (f p : Int) : Prop := (opA B f p = 20 ∨ opA B f p = 21 → bgn B (cAt B f) (cLen B f) (agA B f p)) ∧ (opA B f p = 22 ∨ opA B f p = 26 → agA B f p < nRec B) ∧ (opA B f p = 32 → agA B f p < nRec B ∧ plainR B (agA B f p)) ∧ (opA B f p = 36 → agA B f p < nCtr B) ∧ (opA B f p = 30 ∨ opA B f p = 40 → agA B f p < nFn B) ∧ (opA B f p = 38 → ∀ k : Int, 0 ≤ k → k < agA B f p → bgn B (cAt B f) (cLen B f) (B (cAt B f + p + 2 + k)))
def NV (B : Int → Int) : Prop := (∀ r k, 0 ≤ r → r < nRec B → 0 ≤ k → k < nFld B r → vT B (fTy B r k) ∧ kindM (fTy B r k) ≤ 3) ∧
  (∀ c s t, 0 ≤ c → c < nCtr B → 0 ≤ s → s < nSt B c → 0 ≤ t → t < nMs B c s → (ldM B c s t = -1 ∨ (vT B (ldM B c s t) ∧ (kindM (ldM B c s t) = 0 ∨ kindM (ldM B c s t) = 4 ∨ kindM (ldM B c s t) = 5))) ∧ thM B c s t < nSt B c) ∧
  (∀ f, 0 ≤ f → f < nFn B → (∀ k, 0 ≤ k → k < nPar B f → vT B (pTy B f k) ∧ kindM (pTy B f k) ≤ 5) ∧ (rTy B f = -1 ∨ (vT B (rTy B f) ∧ kindM (rTy B f) ≤ 5)) ∧ ∀ p, bgn B (cAt B f) (cLen B f) p → InsI B (cAt B f + cLen B f) (nLoc B f) (cAt B f + p) ∧ InsV B f p)
theorem lpE_tg {c n : Int} : ∀ (j : Nat) (r s : Int), lpE (tgN B c n) j r = .ok s → s = r + j ∧ ∀ k : Int, 0 ≤ k → k < j → bgn B c n (B (r + k))
  | 0, r, s, h => by cases h; exact ⟨by omega, fun k a b => absurd b (by omega)⟩
  | j + 1, r, s, h => by
    have h : (tgN B c n r).bind (lpE (tgN B c n) j) = .ok s := h
    cases h1 : tgN B c n r with
    | error e => rw [h1] at h; cases h
    | ok r1 =>
      rw [h1, bnd_ok] at h
      obtain ⟨h2, rfl⟩ := ckE_ok h1
      obtain ⟨h3, h4⟩ := lpE_tg j _ _ h
      refine ⟨by omega, fun k a b => ?_⟩
      by_cases e : k = 0
      · subst e; rw [Int.add_zero]; exact h2
      · have := h4 (k - 1) (by omega) (by omega)
        rw [show r + 1 + (k - 1) = r + k by omega] at this
        exact this
theorem insN_ok {f p r : Int} (hB : ∀ k, -1 ≤ B k ∧ B k ≤ 255) (h38 : B (cAt B f + p) = 38 → 0 ≤ B (cAt B f + p + 1)) (h : insN B (cAt B f) (cLen B f) (cAt B f + p) = .ok r) : r = cAt B f + p + ilen B (cAt B f + p) ∧ InsV B f p := by
  refine ⟨?_, ?_, ?_, ?_, ?_, ?_, ?_⟩
  · rcases (Wk_insN (c := cAt B f) (n := cLen B f) hB h38).2 with e | ⟨q, e, -⟩
    · rw [h] at e; cases e; rfl
    · rw [h] at e; cases e
  all_goals (unfold opA agA; intro c)
  · rw [insN_j (by simp only [List.mem_cons, List.not_mem_nil, or_false]; exact c)] at h; exact (ckE_ok h).1
  · rw [insN_r (by simp only [List.mem_cons, List.not_mem_nil, or_false]; exact c)] at h; exact (ckE_ok h).1
  · rw [insN_b c] at h; exact (ckE_ok h).1
  · rw [insN_c c] at h; exact (ckE_ok h).1
  · rw [insN_f (by simp only [List.mem_cons, List.not_mem_nil, or_false]; exact c)] at h; exact (ckE_ok h).1
  · rw [insN_t c] at h
    intro k a b
    exact (lpE_tg _ _ _ h).2 k a (by have := h38 c; omega)
/-- the instructions, one behind the other -/
theorem cd_all {f : Int} (hB : ∀ k, -1 ≤ B k ∧ B k ≤ 255) (hn : 1 ≤ cLen B f) (h1 : cdP B (cAt B f + cLen B f) (nLoc B f) (cLen B f).toNat (cAt B f) = .ok (cAt B f + cLen B f)) {r : Int} (h2 : cdN B (cAt B f) (cLen B f) (cLen B f).toNat (cAt B f) = .ok r) : ∀ (j : Nat) (p : Int), itr (fun q => q + ilen B (cAt B f + q)) j 0 = p → 0 ≤ p ∧ (p < cLen B f → ∃ k, cdP B (cAt B f + cLen B f) (nLoc B f) (k + 1) (cAt B f + p) = .ok (cAt B f + cLen B f) ∧ cdN B (cAt B f) (cLen B f) (k + 1) (cAt B f + p) = .ok r)
  | 0, p, hp => by
    have hp : (0 : Int) = p := hp
    subst hp
    refine ⟨Int.le_refl _, fun _ => ⟨(cLen B f).toNat - 1, ?_⟩⟩
    rw [show (cLen B f).toNat - 1 + 1 = (cLen B f).toNat by omega, Int.add_zero]
    exact ⟨h1, h2⟩
  | j + 1, p, hp => by
    rw [itr_s] at hp
    obtain ⟨g0, ih⟩ := cd_all hB hn h1 h2 j _ rfl
    generalize itr (fun q => q + ilen B (cAt B f + q)) j 0 = p0 at hp g0 ih
    have hil := ilen_b hB (cAt B f + p0)
    refine ⟨by omega, fun hlt => ?_⟩
    obtain ⟨k, k1, k2⟩ := ih (by omega)
    obtain ⟨q1, q2⟩ := cdP_at k1 (by omega)
    have h38 : B (cAt B f + p0) = 38 → 0 ≤ B (cAt B f + p0 + 1) := fun e => q1.1 (by rw [oprn_10 e]; decide)
    have k2 : (if cAt B f + p0 < cAt B f + cLen B f then (insN B (cAt B f) (cLen B f) (cAt B f + p0)).bind (cdN B (cAt B f) (cLen B f) k) else .ok (cAt B f + p0)) = .ok r := k2
    rw [if_pos (by omega)] at k2
    cases h3 : insN B (cAt B f) (cLen B f) (cAt B f + p0) with
    | error e => rw [h3] at k2; cases k2
    | ok r1 =>
      rw [h3, bnd_ok] at k2
      obtain ⟨rfl, -⟩ := insN_ok hB h38 h3
      have ep : cAt B f + p0 + ilen B (cAt B f + p0) = cAt B f + p := by omega
      rw [ep] at q2 k2
      cases k with
      | zero =>
        have q2 : (.ok (cAt B f + p) : Ex) = .ok (cAt B f + cLen B f) := q2
        have := Except.ok.inj q2
        omega
      | succ k => exact ⟨k, q2, k2⟩
theorem ins_all {f : Int} (hB : ∀ k, -1 ≤ B k ∧ B k ≤ 255) (hn : 1 ≤ cLen B f) (h1 : cdP B (cAt B f + cLen B f) (nLoc B f) (cLen B f).toNat (cAt B f) = .ok (cAt B f + cLen B f)) {r : Int} (h2 : cdN B (cAt B f) (cLen B f) (cLen B f).toNat (cAt B f) = .ok r) {p : Int} (hp : bgn B (cAt B f) (cLen B f) p) : InsI B (cAt B f + cLen B f) (nLoc B f) (cAt B f + p) ∧ InsV B f p := by
  obtain ⟨p0, p1, j, hj⟩ := hp
  obtain ⟨-, ih⟩ := cd_all hB hn h1 h2 j p hj
  obtain ⟨k, k1, k2⟩ := ih p1
  obtain ⟨q1, q2⟩ := cdP_at k1 (by omega)
  refine ⟨q1, ?_⟩
  have k2 : (if cAt B f + p < cAt B f + cLen B f then (insN B (cAt B f) (cLen B f) (cAt B f + p)).bind (cdN B (cAt B f) (cLen B f) k) else .ok (cAt B f + p)) = .ok r := k2
  rw [if_pos (by omega)] at k2
  cases h3 : insN B (cAt B f) (cLen B f) (cAt B f + p) with
  | error e => rw [h3] at k2; cases k2
  | ok r1 => exact (insN_ok hB (fun e => q1.1 (by rw [oprn_10 e]; decide)) h3).2
theorem cdN_end {f : Int} (hB : ∀ k, -1 ≤ B k ∧ B k ≤ 255) : ∀ (k : Nat) (p r : Int), cdP B (cAt B f + cLen B f) (nLoc B f) k (cAt B f + p) = .ok (cAt B f + cLen B f) → cdN B (cAt B f) (cLen B f) k (cAt B f + p) = .ok r → r = cAt B f + cLen B f
  | 0, p, r, h1, h2 => by
    cases h2
    exact Except.ok.inj h1
  | k + 1, p, r, h1, h2 => by
    by_cases c : cAt B f + p < cAt B f + cLen B f
    · obtain ⟨q1, q2⟩ := cdP_at h1 c
      have h2 : (if cAt B f + p < cAt B f + cLen B f then (insN B (cAt B f) (cLen B f) (cAt B f + p)).bind (cdN B (cAt B f) (cLen B f) k) else .ok (cAt B f + p)) = .ok r := h2
      rw [if_pos c] at h2
      cases h3 : insN B (cAt B f) (cLen B f) (cAt B f + p) with
      | error e => rw [h3] at h2; cases h2
      | ok r1 =>
        rw [h3, bnd_ok] at h2
        obtain ⟨rfl, -⟩ := insN_ok hB (fun e => q1.1 (by rw [oprn_10 e]; decide)) h3
        rw [Int.add_assoc] at q2 h2
        exact cdN_end hB k _ r q2 h2
    · have h2 : (if cAt B f + p < cAt B f + cLen B f then (insN B (cAt B f) (cLen B f) (cAt B f + p)).bind (cdN B (cAt B f) (cLen B f) k) else .ok (cAt B f + p)) = .ok r := h2
      have h1 : (if cAt B f + p < cAt B f + cLen B f then (insP B (cAt B f + cLen B f) (nLoc B f) (cAt B f + p)).bind (cdP B (cAt B f + cLen B f) (nLoc B f) k) else .ok (cAt B f + p)) = .ok (cAt B f + cLen B f) := h1
      rw [if_neg c] at h1 h2
      cases h2
      exact Except.ok.inj h1
theorem nmM_ok {n p q : Int} (h : nmM B n p = .ok q) : nmT B p = .ok (skT B p) ∧ B (skT B p) < n ∧ q = skM B p := by
  unfold nmM at h
  cases h1 : nmT B p with
  | error e => rw [h1] at h; cases h
  | ok r =>
    rw [h1, bnd_ok] at h
    have := nmT_sk h1
    subst this
    by_cases c : n ≤ B (skT B p)
    · rw [if_pos c] at h; cases h
    · rw [if_neg c] at h; cases h
      exact ⟨rfl, by omega, rfl⟩
/-- a function's text with right names -/
theorem nmF_ok {f r : Int} (hB : ∀ k, -1 ≤ B k ∧ B k ≤ 255) (hS : ShF B f) (h : nmF B (pFn B f) = .ok r) : r = pFn B (f + 1) ∧ (∀ k, 0 ≤ k → k < nPar B f → ∃ q, nmT B (pPar B f k) = .ok q) ∧ (∃ q, nmT B (pRes B f) = .ok q) ∧ ∃ r, cdN B (cAt B f) (cLen B f) (cLen B f).toNat (cAt B f) = .ok r := by
  obtain ⟨s1, s2, s3, s4, s5, s6, s7, s8, s9, s10, s11, s12, s13, s14⟩ := hS
  unfold nmF at h
  cases h1 : lpE (nmT B) (B (pFn B f)).toNat (pFn B f + 1) with
  | error e => rw [h1] at h; cases h
  | ok q =>
    rw [h1, bnd_ok] at h
    have hq : q = pRes B f := lpE_itr (fun q q' h => nmT_sk h) _ _ _ h1
    subst hq
    cases h2 : nmT B (pRes B f) with
    | error e => rw [h2] at h; cases h
    | ok q2 =>
      rw [h2, bnd_ok] at h
      have hq2 : q2 = cAt B f - 2 := by rw [nmT_sk h2, tyP_sk s7]
      subst hq2
      have e2 : B (cAt B f - 2 + 1) = cLen B f := by unfold cAt cLen; congr 1; omega
      rw [e2, show cAt B f - 2 + 2 = cAt B f by omega] at h
      refine ⟨?_, fun k a b => ⟨_, lp_at (g := skT B) (fun q q' h => nmT_sk h) h1 a b⟩, ⟨_, rfl⟩, ⟨_, h⟩⟩
      rw [← s14]
      exact cdN_end hB _ 0 r (by rw [Int.add_zero]; exact s13) (by rw [Int.add_zero]; exact h)
theorem nv_of {p' : Int} (hB : ∀ k, -1 ≤ B k ∧ B k ≤ 255) (hS : Sh B) (h : namP B = .ok p') : NV B := by
  unfold namP at h
  cases h1 : lpE (nmR B) (nRec B).toNat 3 with
  | error e => rw [h1] at h; cases h
  | ok p3 =>
    rw [h1, bnd_ok] at h
    have hR : ∀ q q', nmR B q = .ok q' → q' = skR B q := fun q q' h => lpE_itr (fun q q' h => nmT_sk h) _ _ _ h
    have e3 : p3 = pCt0 B := lpE_itr hR _ _ _ h1
    subst e3
    cases h2 : lpE (nmC B) (B (pCt0 B)).toNat (pCt0 B + 1) with
    | error e => rw [h2] at h; cases h
    | ok p5 =>
      rw [h2, bnd_ok] at h
      have hSS : ∀ n q q', nmS B n q = .ok q' → q' = skS B q := fun n q q' h => lpE_itr (fun q q' h => (nmM_ok h).2.2) _ _ _ h
      have hC : ∀ q q', nmC B q = .ok q' → q' = skC B q := fun q q' h => lpE_itr (hSS _) _ _ _ h
      have e5 : p5 = pFn0 B := lpE_itr hC _ _ _ h2
      subst e5
      refine ⟨fun r k r0 r1 k0 k1 => ?_, fun c s t c0 c1 s0 s1 t0 t1 => ?_, fun f f0 f1 => ?_⟩
      · have hr := lp_at hR h1 r0 r1
        have hk := lp_at (g := skT B) (fun q q' h => nmT_sk h) hr k0 k1
        have ht := ((hS.2.2.1 r r0 r1).2.2.2.1 k k0 k1).1
        rcases tyV_v hB ht hk with ⟨-, a, -⟩ | ⟨a, b, c, d, e⟩
        · exact absurd rfl a
        · refine ⟨a, ?_⟩
          show kindM (tyV B (pFld B r k)) ≤ 3
          rw [b]
          apply Classical.byContradiction
          intro hc
          rcases (show B (pFld B r k) = 4 ∨ B (pFld B r k) = 5 by omega) with q | q <;> (rw [q] at e; exact e (by decide))
      · have hc := lp_at hC h2 c0 c1
        have hs := lp_at (hSS _) hc s0 s1
        have ht := lp_at (g := skM B) (fun q q' h => (nmM_ok h).2.2) hs t0 t1
        obtain ⟨m1, m2, -⟩ := nmM_ok ht
        have hy := (((hS.2.2.2.2.2.2.1 c c0 c1).2.2.2.1 s s0 s1).2.2.2.2.2.2.1 t t0 t1).1
        refine ⟨?_, m2⟩
        rcases tyV_v hB hy m1 with ⟨-, -, a⟩ | ⟨a, b, c9, d, e⟩
        · exact Or.inl a
        · refine Or.inr ⟨a, ?_⟩
          unfold ldM
          rw [b]
          apply Classical.byContradiction
          intro hc
          rcases (show B (pMs B c s t) = 1 ∨ B (pMs B c s t) = 2 ∨ B (pMs B c s t) = 3 by omega) with q | q | q <;> (rw [q] at e; exact e (by decide))
      · have hF : ∀ j : Nat, j ≤ (nFn B).toNat → lpE (nmF B) j (pFn0 B + 1) = .ok (pFn B j) := by
          intro j
          induction j with
          | zero => intro _; rfl
          | succ j ih =>
            intro hj
            have e1 := ih (by omega)
            obtain ⟨r, r1, q', r2⟩ := lpE_mid h (j := j) (by show j < (nFn B).toNat; omega)
            rw [e1] at r1; cases r1
            rw [lpE_s, e1, bnd_ok, r2]
            rw [(nmF_ok hB (hS.2.2.2.2.2.2.2.2.2.2 j (by omega) (by omega)) r2).1]
            rfl
        obtain ⟨r, r1, q', r2⟩ := lpE_mid h (j := f.toNat) (by show f.toNat < (nFn B).toNat; omega)
        rw [hF f.toNat (by omega)] at r1; cases r1
        rw [show ((f.toNat : Nat) : Int) = f by omega] at r2
        have sF := hS.2.2.2.2.2.2.2.2.2.2 f f0 f1
        obtain ⟨-, g1, ⟨q2, g2⟩, r3, g3⟩ := nmF_ok hB sF r2
        refine ⟨fun k k0 k1 => ?_, ?_, fun p hp => ins_all hB sF.2.2.2.2.2.2.2.2.2.1 sF.2.2.2.2.2.2.2.2.2.2.2.2.1 g3 hp⟩
        · obtain ⟨q, hq⟩ := g1 k k0 k1
          rcases tyV_v hB (sF.2.2.2.1 k k0 k1).1 hq with ⟨-, a, -⟩ | ⟨a, b, c, d, e⟩
          · exact absurd rfl a
          · exact ⟨a, by unfold pTy; omega⟩
        · rcases tyV_v hB sF.2.2.2.2.2.2.1 g2 with ⟨-, -, a⟩ | ⟨a, b, c, d, e⟩
          · exact Or.inl a
          · exact Or.inr ⟨a, by unfold rTy; omega⟩
end NVS
