/-! RUNNING, the reference: linear instructions -/
section RP4
variable {d : Nat} {al : AL} {hi : HI} {hr : HR} {Q : QQ} {s : HI} {p : Int} {B : Int → Int} {f o v qx m : Int}
theorem l_32 (hA : SA al) (hR : MR hr) (hd : 56 ≤ d) (hE : RelR hi s) (hp : AP s p) (hg0 : 0 ≤ hg s p ∧ hg s p ≤ 16) (hq : QB s) (q : ∀ hi', RelR hi' (exS B f s p o v qx) → FW wRn hi hi' → Q (some none) al hi' hr) (ho : o = 32) (h1 : hg s p < 16) (hm : s 91 p = m) (m0 : 0 ≤ m ∧ m < 12) (v0 : 0 ≤ v ∧ v < 8) (hn : s 57 (8 * m + v) = nFld B v) (n0 : 0 ≤ nFld B v ∧ nFld B v ≤ 6) (hB : BkO s) (hfr : ∀ X, (∀ n : Nat, n = 128 → bcl s n = X) → X + nFld B v + 1 ≤ 256 → ∃ b, 0 ≤ b ∧ b < 128 ∧ s 109 b = -1) : Wp d 316 60 [vR (some 49), vI p, vI o, vI v, vI qx, none] [] al hi hr Q := by
  have kM : isK al 49 13 := hA.k (by decide) (by decide) rfl
  have H0 := Sm.rf hE.1
  have hp' : AP hi p := hp.n (H0.e (by omega))
  have hgg : hg hi p = hg s p := H0.hg_
  have hqq : QB hi := hq.eq (fun _ => H0.e (by omega)) (fun _ => H0.e (by omega)) (fun _ => H0.e (by omega)) (fun _ => H0.e (by omega))
  obtain ⟨X, hX⟩ : ∃ X, ∀ n : Nat, n = 128 → bcl s n = X := ⟨bcl s 128, fun n hn => by rw [hn]⟩
  have e : exS B f s p o v qx = if X + nFld B v + 1 > 256 then trpS s p 6 else mkbS s p (nFld B v) := by
    subst ho
    have : exS B f s p 32 v qx = if bcl s 128 + nFld B v + 1 > 256 then trpS s p 6 else mkbS s p (nFld B v) := by
      unfold exS
      rw [if_neg (by decide), if_neg (by decide), if_neg (by decide), if_neg (by decide), if_neg (by decide), if_neg (by decide), if_neg (by decide), if_neg (by decide), if_neg (by decide), if_neg (by decide), if_neg (by decide), if_neg (by decide), if_neg (by decide), if_neg (by decide), if_neg (by decide), if_neg (by decide), if_neg (by decide), if_neg (by decide), if_neg (by decide), if_neg (by decide), if_neg (by decide), if_pos rfl]
    rw [this, hX _ rfl]
  rw [e] at q
  obtain ⟨n, hne⟩ : ∃ n, nFld B v = n := ⟨_, rfl⟩
  rw [hne] at q hn n0 hfr
  have e91 : hi 91 p = m := (H0.e (by omega)).trans hm
  have hQ : Q (some none) al (if X + n + 1 > 256 then trpS hi p 6 else mkbS hi p n) hr := by
    by_cases c : X + n + 1 > 256
    · rw [if_pos c] at q ⊢
      exact q _ (hE.sm H0.trp_) H0.trp_.fw
    · rw [if_neg c] at q ⊢
      exact q _ (hE.sm H0.mkb_) H0.mkb_.fw
  have hBh : BkO hi := fun b b0 b1 => by rw [H0.e (a := 109) (by omega)]; exact hB b b0 b1
  refine s316_60.mpr (s316_61.mpr (s316_62.mpr ?_))
  refine (s316_63 (by omega) kM).mpr ?_
  refine r_makeBlock hA hR (by omega) hp' (by rw [hgg]; omega) hqq hBh (by rw [e91]; exact m0) v0 (by rw [e91]; exact (H0.e (by omega)).trans hn) n0 (fun n hn => (bcl_cg H0 n).trans (hX n hn)) (fun z => ?_) ?_
  try (obtain ⟨b, z1, z2, z3⟩ := hfr X hX z; exact ⟨b, z1, z2, (H0.e (by omega)).trans z3⟩)
  refine s316_66.mpr ?_
  refine (s316_300).mpr ?_
  exact hQ
end RP4
