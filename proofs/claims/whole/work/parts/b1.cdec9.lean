section CD9
variable {d : Nat} {al : AL} {hi : HI} {hr : HR} {Q : QQ} {B : Int → Int} {N : Nat} {n nm : Int}
noncomputable def cdC (nm : Int) (B : Int → Int) (e L c l : Int) : Nat → Int → Ex
  | 0, p => .ok p
  | k + 1, p => if p < e then (insC nm B e L c l p).bind (cdC nm B e L c l k) else .ok p
noncomputable def fnD (nm : Int) (B : Int → Int) (p : Int) : Ex := (if nm = 0 then nmb B 0 4 p else .ok (p + 1)).bind fun q => (lpE (tyD nm B 63 0) (B p).toNat q).bind fun q1 => (tyD nm B 63 1 q1).bind fun q2 => (if nm = 0 then nmb B (B p) 10 q2 else .ok (q2 + 1)).bind fun q3 => (if nm = 0 then nmb B 1 240 q3 else .ok (q3 + 1)).bind fun q4 => cdC nm B (q4 + B q3) (B q2) q4 (B q3) (B q3).toNat q4
theorem cdC_0 {e L c l : Int} (hx : TX B n) (h : nm = 0) (hL : 0 ≤ L) : ∀ (k : Nat) (p : Int), cdC nm B e L c l k p = cdP B e L k p
  | 0, _ => rfl
  | k + 1, p => by
    unfold cdC cdP
    by_cases c9 : p < e
    · rw [if_pos c9, if_pos c9, insC_0 hx (by omega) h hL]
      cases insP B e L p with
      | error q => rfl
      | ok q => exact cdC_0 hx h hL k q
    · rw [if_neg c9, if_neg c9]
theorem cdC_1 {e L c l : Int} (hx : TX B n) (h : nm = 1) (hL : 0 ≤ L) (he : e = c + l) : ∀ (k : Nat) (p r : Int), cdP B e L k p = .ok r → cdC nm B e L c l k p = cdN B c l k p
  | 0, _, _, _ => rfl
  | k + 1, p, r, hP => by
    unfold cdP at hP
    unfold cdC cdN
    by_cases c9 : p < e
    · rw [if_pos c9] at hP
      rw [if_pos c9, if_pos (by omega)]
      cases hI : insP B e L p with
      | error q => rw [hI] at hP; cases hP
      | ok q =>
        rw [hI, bnd_ok] at hP
        rw [insC_1 (by omega) h hL hI]
        obtain ⟨e1, e2⟩ := ins_inv c9 hI
        have hW := Wk_insN (B := B) (c := c) (n := l) (q := p) (fun k => (hx k).1) (fun z => e2.1 (by rw [z]; decide))
        cases hz : insN B c l p with
        | error z => rfl
        | ok z =>
          have ez : z = q := by
            rcases hW.2 with y | ⟨y, y1, -⟩
            · rw [hz] at y; cases y; exact e1.symm
            · rw [hz] at y1; cases y1
          subst ez
          exact cdC_1 hx h hL he k z r hP
    · rw [if_neg c9, if_neg (by omega)]
theorem fnD_0 {p : Int} (hx : TX B n) (h : nm = 0) : fnD nm B p = fnP B p := by
  unfold fnD fnP
  rw [if_pos h, show tyD nm B 63 0 = tyP B 63 0 from funext fun q => tyD_0 h]
  cases e0 : nmb B 0 4 p with
  | error q => rfl
  | ok q =>
    rw [bnd_ok, bnd_ok]
    cases lpE (tyP B 63 0) (B p).toNat q with
    | error q => rfl
    | ok q1 =>
      rw [bnd_ok, bnd_ok, tyD_0 h]
      cases tyP B 63 1 q1 with
      | error q => rfl
      | ok q2 =>
        rw [bnd_ok, bnd_ok, if_pos h]
        cases e3 : nmb B (B p) 10 q2 with
        | error q => rfl
        | ok q3 =>
          rw [bnd_ok, bnd_ok, if_pos h]
          cases nmb B 1 240 q3 with
          | error q => rfl
          | ok q4 =>
            rw [bnd_ok, bnd_ok]
            exact cdC_0 hx h (by have := nmb_ok e0; have := nmb_ok e3; omega) _ _
theorem fnD_1 {f : Int} (hx : TX B n) (h : nm = 1) (hS : ShF B f) : fnD nm B (pFn B f) = nmF B (pFn B f) := by
  unfold fnD nmF
  rw [if_neg (by omega), bnd_ok, show tyD nm B 63 0 = nmT B from funext fun q => tyD_1 h]
  cases e1 : lpE (nmT B) (B (pFn B f)).toNat (pFn B f + 1) with
  | error q => rfl
  | ok q1 =>
    rw [bnd_ok, bnd_ok, tyD_1 h]
    have e2 := lpE_itr (g := skT B) (fun q q' z => nmT_sk z) _ _ _ e1
    cases e3 : nmT B q1 with
    | error q => rfl
    | ok q2 =>
      have e4 := nmT_sk e3
      rw [bnd_ok, bnd_ok, if_neg (by omega), bnd_ok, if_neg (by omega), bnd_ok]
      have e5 : q2 = fL_ B (pFn B f) := by rw [e4, e2]; rfl
      rw [show q2 + 1 + 1 = q2 + 2 by omega, e5]
      obtain ⟨h0, h1, h2, h3, h4, h5, h6, h7, h8, h9, h10, h11, h12, h13⟩ := hS
      exact cdC_1 hx h (by show 0 ≤ nLoc B f; omega) rfl _ _ _ h12
theorem NF.ga {al' : AL} {hi' : HI} {hr' : HR} {x s : Nat} (hA : SA al) (hM : MS al hr N) (hN : 119 ≤ N) (h : NF al hi hr N B) (hG : GA al al' x s) (hf : FW (wG al.1) hi hi') (hR : ∀ i, hr' (N + 4) i = hr (N + 4) i) : NF al' hi' hr' N B := by
  obtain ⟨a1, a2, a3, a4, a5, a6⟩ := h
  have k6 : isK al 6 2 := hA.k (by decide) (by decide) rfl
  have lN6 : N + 6 < al.1 := hM.2.2.2.2.2.2.2.2.1
  have key : ∀ a i, N ≤ a → a ≤ N + 6 → hi' a i = hi a i := fun a i z1 z2 => hf a i (wG_a (by omega) (by omega))
  refine ⟨(key _ _ (by omega) (by omega)).trans a1, (key _ _ (by omega) (by omega)).trans a2, (key _ _ (by omega) (by omega)).trans a3, fun r r0 r1 => ?_, fun c c0 c1 => ?_, a6⟩
  · obtain ⟨b1, b2⟩ := a4 r r0 r1
    exact ⟨(key _ _ (by omega) (by omega)).trans b1, fun j j0 j1 => (key _ _ (by omega) (by omega)).trans (b2 j j0 j1)⟩
  · obtain ⟨o, b1, b2, b3⟩ := a5 c c0 c1
    exact ⟨o, (hR c).trans b1, hG.k b2, (hf o 0 (wG_a b2.2.1 (isK_ne b2 k6 (by decide)))).trans b3⟩
/-- a routine as the text has it -/
def RoutOK (al : AL) (hi : HI) (hr : HR) (B : Int → Int) (f : Int) (t : Nat) : Prop := RtS al hr t ∧ (aln al t : Int) = nPar B f ∧ (∀ k, 0 ≤ k → k < nPar B f → hi t k = tyC B (pPar B f k)) ∧ hi (t + 1) 0 = nPar B f ∧ hi (t + 1) 2 = tyC B (pRes B f) ∧ hi (t + 1) 3 = nLoc B f ∧ hi (t + 1) 4 = cLen B f ∧ hi (t + 1) 5 = cAt B f ∧ (aln al (t + 2) : Int) = cLen B f ∧ (∀ q, bgA al hi t q ↔ bgn B (cAt B f) (cLen B f) q) ∧ (∀ q, hi (t + 2) q = 0 ∨ hi (t + 2) q = 1)
/-- .. not verified yet -/
def RoutN (hi : HI) (hr : HR) (t : Nat) : Prop := hi (t + 1) 6 = 0 ∧ hr (t + 1) 8 = none ∧ hr (t + 1) 9 = none
theorem RtS.fr {al' : AL} {hr' : HR} {t c s : Nat} (h : RtS al hr t) (hG : GA al al' c s) (hr9 : ∀ i, i = 1 ∨ i = 7 → hr' (t + 1) i = hr (t + 1) i) : RtS al' hr' t := by
  obtain ⟨x0, ⟨x1, x2⟩, y1, y2⟩ := h
  exact ⟨hG.k x0, ⟨(hr9 _ (by decide)).trans x1, hG.k x2⟩, (hr9 _ (by decide)).trans y1, hG.k y2⟩
theorem RoutOK.fr {al' : AL} {hi' : HI} {hr' : HR} {t x s : Nat} {f : Int} (h : RoutOK al hi hr B f t) (hG : GA al al' x s) (hi9 : ∀ a i, t ≤ a → a ≤ t + 2 → (a = t + 1 → i ≠ 6) → hi' a i = hi a i) (hr9 : ∀ i, i = 1 ∨ i = 7 → hr' (t + 1) i = hr (t + 1) i) : RoutOK al' hi' hr' B f t := by
  obtain ⟨h1, h2, h3, h4, h5, h6, h7, h8, h9, h10, h11⟩ := h
  have l0 := h1.2.1.2.2.1
  have l2 := h1.2.2.2.2.1
  refine ⟨h1.fr hG hr9, by rw [hG.l l0]; exact h2, fun k k0 k1 => (hi9 _ _ (by omega) (by omega) (by omega)).trans (h3 k k0 k1), (hi9 _ _ (by omega) (by omega) (fun _ => by decide)).trans h4, (hi9 _ _ (by omega) (by omega) (fun _ => by decide)).trans h5, (hi9 _ _ (by omega) (by omega) (fun _ => by decide)).trans h6, (hi9 _ _ (by omega) (by omega) (fun _ => by decide)).trans h7, (hi9 _ _ (by omega) (by omega) (fun _ => by decide)).trans h8, by rw [hG.l l2]; exact h9, fun q => ?_, fun q => by rw [hi9 _ _ (by omega) (by omega) (by omega)]; exact h11 q⟩
  rw [← h10 q]
  unfold bgA
  rw [hG.l l2, hi9 _ _ (by omega) (by omega) (by omega)]
theorem OPS.fr {al' : AL} {hi' : HI} {c s : Nat} (h : OPS al hi) (hG : GA al al' c s) (hl : 0 < al.1) (hf : ∀ i, hi' 0 i = hi 0 i) : OPS al' hi' := ⟨(hG.2.2.2 0 hl).trans h.1, fun k k0 k1 => (hf k).trans (h.2 k k0 k1)⟩
end CD9
