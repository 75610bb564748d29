section MP6
variable {d : Nat} {al : AL} {hi : HI} {hr : HR} {Q : QQ}
theorem recP_sk {B : Int → Int} {p q : Int} (h : recP B p = .ok q) : q = skR B p ∧ 0 ≤ B (q - 1) ∧ p + 1 ≤ q ∧ 1 ≤ B p ∧ B p ≤ 6 := by
  unfold recP at h
  cases hp : nmb B 1 6 p with
  | error r => rw [hp] at h; cases h
  | ok r =>
    rw [hp, bnd_ok] at h
    have hb := nmb_b hp (by omega)
    obtain ⟨rfl, a1, a2⟩ := nmb_ok hp
    refine ⟨lpE_itr (fun q q' h => tyP_sk h) _ _ _ h, ?_, ?_, a1, a2⟩
    · rcases lpE_b (B := B) (fun p q h => tyP_b h) _ _ _ h with e | e
      · rw [e]; exact hb
      · exact e
    · exact lpE_ge (fun p q h => by have := tyP_ge h; omega) _ _ _ h
/-- what a function's text holds -/
theorem fnP_hd {B : Int → Int} {p q : Int} (h : fnP B p = .ok q) : 0 ≤ B p ∧ B p ≤ 4 ∧ lpE (tyP B 63 0) (B p).toNat (p + 1) = .ok (fR_ B p) ∧ tyP B 63 1 (fR_ B p) = .ok (fL_ B p) ∧ B p ≤ B (fL_ B p) ∧ B (fL_ B p) ≤ 10 ∧ 1 ≤ B (fL_ B p + 1) ∧ B (fL_ B p + 1) ≤ 240 ∧ p + 4 ≤ fL_ B p + 2 ∧ cdP B (fL_ B p + 2 + B (fL_ B p + 1)) (B (fL_ B p)) (B (fL_ B p + 1)).toNat (fL_ B p + 2) = .ok q := by
  unfold fnP at h
  cases h1 : nmb B 0 4 p with
  | error r => rw [h1] at h; cases h
  | ok r =>
    rw [h1, bnd_ok] at h
    obtain ⟨rfl, a1, a2⟩ := nmb_ok h1
    cases h2 : lpE (tyP B 63 0) (B p).toNat (p + 1) with
    | error r => rw [h2] at h; cases h
    | ok r =>
      rw [h2, bnd_ok] at h
      have hr : r = fR_ B p := lpE_itr (fun q q' h => tyP_sk h) _ _ _ h2
      have hge := lpE_ge (fun p q h => by have := tyP_ge h; omega) _ _ _ h2
      subst hr
      cases h3 : tyP B 63 1 (fR_ B p) with
      | error r => rw [h3] at h; cases h
      | ok r =>
        rw [h3, bnd_ok] at h
        have hr : r = fL_ B p := tyP_sk h3
        have hge2 := tyP_ge h3
        subst hr
        cases h4 : nmb B (B p) 10 (fL_ B p) with
        | error r => rw [h4] at h; cases h
        | ok r =>
          rw [h4, bnd_ok] at h
          obtain ⟨rfl, a3, a4⟩ := nmb_ok h4
          cases h5 : nmb B 1 240 (fL_ B p + 1) with
          | error r => rw [h5] at h; cases h
          | ok r =>
            rw [h5, bnd_ok] at h
            obtain ⟨rfl, a5, a6⟩ := nmb_ok h5
            rw [show fL_ B p + 1 + 1 = fL_ B p + 2 by omega] at h
            exact ⟨a1, a2, rfl, rfl, a3, a4, a5, a6, by omega, h⟩
theorem lpE_stay {B : Int → Int} {e lo hg : Int} : ∀ (n : Nat) (p q : Int), p ≤ e → lpE (prt B e lo hg) n p = .ok q → q ≤ e
  | 0, p, q, hp, h => by cases h; exact hp
  | n + 1, p, q, hp, h => by
    have h : (prt B e lo hg p).bind (lpE (prt B e lo hg) n) = .ok q := h
    cases h1 : prt B e lo hg p with
    | error r => rw [h1] at h; cases h
    | ok r => rw [h1] at h; obtain ⟨rfl, h2, -⟩ := prt_ok h1; exact lpE_stay n _ _ (by omega) h
theorem ins_stay {B : Int → Int} {e L p q : Int} (hp : p < e) (h : insP B e L p = .ok q) : q ≤ e := by
  unfold insP at h
  cases h0 : prt B e 0 43 p with
  | error r => rw [h0] at h; cases h
  | ok r =>
    rw [h0, bnd_ok] at h
    obtain ⟨rfl, -⟩ := prt_ok h0
    have one : ∀ lo hg q, prt B e lo hg (p + 1) = .ok q → q ≤ e := fun lo hg q h => by obtain ⟨rfl, h2, -⟩ := prt_ok h; omega
    unfold insK at h
    split at h
    · exact lpE_stay _ _ _ (by omega) h
    · split at h
      · split at h
        · cases h
        · exact one _ _ _ h
      · split at h
        · exact one _ _ _ h
        · split at h
          · exact one _ _ _ h
          · split at h
            · exact one _ _ _ h
            · split at h
              · cases ha : prt B e 1 4 (p + 1) with
                | error r => rw [ha] at h; cases h
                | ok r => rw [ha] at h; exact lpE_stay _ _ _ (one _ _ _ ha) h
              · cases h; omega
theorem cd_end {B : Int → Int} {e L : Int} : ∀ (n : Nat) (p q : Int), p ≤ e → e - p ≤ n → cdP B e L n p = .ok q → q = e ∧ (p < e → 0 ≤ B (q - 1))
  | 0, p, q, h1, h2, h => by cases h; exact ⟨by omega, fun h => by omega⟩
  | n + 1, p, q, h1, h2, h => by
    unfold cdP at h
    split at h
    · rename_i c
      cases hi : insP B e L p with
      | error r => rw [hi] at h; cases h
      | ok r =>
        rw [hi] at h
        have g1 := ins_ge hi
        have g2 := ins_stay c hi
        have g3 := ins_b hi
        obtain ⟨k1, k2⟩ := cd_end n r q g2 (by omega) h
        refine ⟨k1, fun _ => ?_⟩
        by_cases hr : r < e
        · exact k2 hr
        · rw [show q = r by omega]; exact g3
    · rename_i c; cases h; exact ⟨by omega, fun h => absurd h c⟩
theorem fnP_sk {B : Int → Int} {p q : Int} (h : fnP B p = .ok q) : q = skF B p ∧ 0 ≤ B (q - 1) ∧ p + 1 ≤ q := by
  obtain ⟨a1, a2, a3, a4, a5, a6, a7, a8, a9, h9⟩ := fnP_hd h
  obtain ⟨k1, k2⟩ := cd_end _ _ _ (by omega) (by omega) h9
  refine ⟨by rw [k1]; rfl, k2 (by omega), ?_⟩
  omega
def wMd (a : Nat) (i : Int) : Prop := (a = 49 ∧ (i = 22 ∨ i = 23 ∨ i = 26)) ∨ ((a = 53 ∨ a = 54 ∨ a = 55) ∧ i = 12) ∨ (a = 57 ∧ 96 ≤ i ∧ i < 104) ∨ (a = 58 ∧ 576 ≤ i ∧ i < 624) ∨ (a = 59 ∧ 48 ≤ i ∧ i < 52) ∨ ((a = 60 ∨ a = 61) ∧ 384 ≤ i ∧ i < 416) ∨ ((a = 62 ∨ a = 63) ∧ 1536 ≤ i ∧ i < 1664) ∨ ((a = 64 ∨ a = 66 ∨ a = 67 ∨ a = 68 ∨ a = 69) ∧ 120 ≤ i ∧ i < 130) ∨ (a = 65 ∧ 480 ≤ i ∧ i < 520)
/-- the records, the first n -/
def RDn (hi : HI) (m : Int) (B : Int → Int) (n : Int) : Prop := ∀ r, 0 ≤ r → r < n → hi 57 (8 * m + r) = nFld B r ∧ ∀ k, 0 ≤ k → k < nFld B r → hi 58 (48 * m + 6 * r + k) = fTy B r k
def CTn (hi : HI) (m : Int) (B : Int → Int) (n : Int) : Prop := ∀ c, 0 ≤ c → c < n → CD hi (4 * m + c) B (pCtr B c)
def FNn (hi : HI) (m : Int) (B : Int → Int) (n : Int) : Prop := ∀ f, 0 ≤ f → f < n → FD hi (10 * m + f) B (pFn B f)
/-- the module m of the reference is what the text B says -/
def MD (hi : HI) (m : Int) (B : Int → Int) : Prop := hi 53 m = nRec B ∧ RDn hi m B (nRec B) ∧ hi 54 m = nCtr B ∧ CTn hi m B (nCtr B) ∧ hi 55 m = nFn B ∧ FNn hi m B (nFn B)
theorem FD.eq {hi' : HI} {f : Int} {B : Int → Int} {p : Int} (h : FD hi f B p) (hb : B p ≤ 4) (h1 : ∀ a, a = 64 ∨ a = 66 ∨ a = 67 ∨ a = 68 ∨ a = 69 → hi' a f = hi a f) (h2 : ∀ i, 4 * f ≤ i → i < 4 * f + 4 → hi' 65 i = hi 65 i) : FD hi' f B p := by
  obtain ⟨a1, a2, a3, a4, a5, a6⟩ := h
  exact ⟨(h1 64 (by omega)).trans a1, fun k k0 k1 => (h2 _ (by omega) (by omega)).trans (a2 k k0 k1), (h1 66 (by omega)).trans a3, (h1 67 (by omega)).trans a4, (h1 68 (by omega)).trans a5, (h1 69 (by omega)).trans a6⟩
theorem CD.eq {hi' : HI} {c : Int} {B : Int → Int} {p : Int} (h : CD hi c B p) (hb : B p ≤ 8) (hb2 : ∀ s : Int, 0 ≤ s → s < B p → B (itr (skS B) s.toNat (p + 1) + 1) ≤ 4) (h1 : hi' 59 c = hi 59 c) (h2 : ∀ i, 8 * c ≤ i → i < 8 * c + 8 → hi' 60 i = hi 60 i ∧ hi' 61 i = hi 61 i) (h3 : ∀ i, 32 * c ≤ i → i < 32 * c + 32 → hi' 62 i = hi 62 i ∧ hi' 63 i = hi 63 i) : CD hi' c B p :=
  ⟨h1.trans h.1, fun s s0 s1 => (h.2 s s0 s1).eq (hb2 s s0 s1) (h2 _ (by omega) (by omega)).1 (h2 _ (by omega) (by omega)).2 (fun i i0 i1 => h3 i (by omega) (by omega))⟩
theorem ctP_b {B : Int → Int} {p q : Int} (h : ctP B p = .ok q) : 1 ≤ B p ∧ B p ≤ 8 ∧ ∀ s : Int, 0 ≤ s → s < B p → ∃ r, stP B (itr (skS B) s.toNat (p + 1)) = .ok r := by
  unfold ctP at h
  cases hp : nmb B 1 8 p with
  | error r => rw [hp] at h; cases h
  | ok r =>
    rw [hp, bnd_ok] at h
    obtain ⟨rfl, a1, a2⟩ := nmb_ok hp
    refine ⟨a1, a2, fun s s0 s1 => ?_⟩
    obtain ⟨r, hr1, hr2⟩ := lpE_mid h (j := s.toNat) (by omega)
    rw [lpE_itr (fun q q' h => (stP_sk h).1) _ _ _ hr1] at hr2
    exact hr2
end MP6
