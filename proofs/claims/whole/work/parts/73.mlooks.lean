/-! THE REFERENCE looks at code -/
section ML
variable {d : Nat} {al : AL} {hi : HI} {hr : HR} {Q : QQ} {B : Int → Int}
theorem lpE_prt {e lo hg : Int} : ∀ (n : Nat) (a b : Int), lpE (prt B e lo hg) n a = .ok b → b = a + n ∧ ∀ k : Int, 0 ≤ k → k < n → lo ≤ B (a + k) ∧ B (a + k) ≤ hg
  | 0, a, b, h => by cases h; exact ⟨by omega, fun k k0 k1 => absurd k1 (by omega)⟩
  | n + 1, a, b, h => by
    have h : (prt B e lo hg a).bind (lpE (prt B e lo hg) n) = .ok b := h
    cases h1 : prt B e lo hg a with
    | error r => rw [h1] at h; cases h
    | ok r =>
      rw [h1] at h
      obtain ⟨rfl, -, h2, h3⟩ := prt_ok h1
      obtain ⟨h4, h5⟩ := lpE_prt n _ _ h
      refine ⟨by omega, fun k k0 k1 => ?_⟩
      by_cases hk : k = 0
      · subst hk; rw [Int.add_zero]; exact ⟨h2, h3⟩
      · have := h5 (k - 1) (by omega) (by omega)
        rw [show a + 1 + (k - 1) = a + k by omega] at this
        exact this
theorem oprn_cases (x : Int) : oprn x = 0 ∨ oprn x = 1 ∨ oprn x = 2 ∨ oprn x = 3 ∨ oprn x = 5 ∨ oprn x = 9 ∨ oprn x = 10 := by
  unfold oprn
  repeat' split
  all_goals omega
/-- what is known of an instruction that was read -/
def InsI (B : Int → Int) (e L q : Int) : Prop := (oprn (B q) ≠ 0 → 0 ≤ B (q + 1)) ∧ (oprn (B q) = 2 → B (q + 1) < L) ∧ (oprn (B q) = 5 → B (q + 1) ≤ 5) ∧ (oprn (B q) = 9 → B (q + 1) ≤ 3) ∧ (oprn (B q) = 10 → 1 ≤ B (q + 1) ∧ B (q + 1) ≤ 4 ∧ ∀ k : Int, 0 ≤ k → k < B (q + 1) → 0 ≤ B (q + 2 + k)) ∧ 0 ≤ B q ∧ B q ≤ 43 ∧ q + ilen B q ≤ e
theorem ins_inv {e L q r : Int} (hq : q < e) (h : insP B e L q = .ok r) : r = q + ilen B q ∧ InsI B e L q := by
  have hst := ins_stay hq h
  unfold insP at h
  cases hp : prt B e 0 43 q with
  | error r => rw [hp] at h; cases h
  | ok r0 =>
    rw [hp, bnd_ok] at h
    obtain ⟨rfl, -, g1, g2⟩ := prt_ok hp
    unfold InsI
    rcases oprn_cases (B q) with k | k | k | k | k | k | k <;> rw [k] at h <;> unfold ilen <;> simp only [k]
    · have h : (Except.ok (q + 1) : Ex) = .ok r := h
      cases h
      exact ⟨rfl, by omega, by omega, by omega, by omega, fun h => by omega, g1, g2, hst⟩
    · have h : lpE (prt B e 0 255) 4 (q + 1) = .ok r := h
      obtain ⟨rfl, h2⟩ := lpE_prt _ _ _ h
      have := h2 0 (by omega) (by omega)
      rw [Int.add_zero] at this
      exact ⟨by show q + 1 + 4 = q + 5; omega, by omega, by omega, by omega, by omega, fun h => by omega, g1, g2, by have : q + 1 + 4 ≤ e := hst; show q + 5 ≤ e; omega⟩
    · have h : (if L = 0 then .error (q + 1) else prt B e 0 (L - 1) (q + 1) : Ex) = .ok r := h
      split at h
      · cases h
      · obtain ⟨rfl, -, h2, h3⟩ := prt_ok h
        exact ⟨by show q + 1 + 1 = q + 2; omega, by omega, by omega, by omega, by omega, fun h => by omega, g1, g2, by show q + 2 ≤ e; omega⟩
    · have h : prt B e 0 255 (q + 1) = .ok r := h
      obtain ⟨rfl, -, h2, h3⟩ := prt_ok h
      exact ⟨by show q + 1 + 1 = q + 2; omega, by omega, by omega, by omega, by omega, fun h => by omega, g1, g2, by show q + 2 ≤ e; omega⟩
    · have h : prt B e 0 5 (q + 1) = .ok r := h
      obtain ⟨rfl, -, h2, h3⟩ := prt_ok h
      exact ⟨by show q + 1 + 1 = q + 2; omega, by omega, by omega, by omega, by omega, fun h => by omega, g1, g2, by show q + 2 ≤ e; omega⟩
    · have h : prt B e 0 3 (q + 1) = .ok r := h
      obtain ⟨rfl, -, h2, h3⟩ := prt_ok h
      exact ⟨by show q + 1 + 1 = q + 2; omega, by omega, by omega, by omega, by omega, fun h => by omega, g1, g2, by show q + 2 ≤ e; omega⟩
    · have h : (prt B e 1 4 (q + 1)).bind (lpE (prt B e 0 255) (B (q + 1)).toNat) = .ok r := h
      cases h1 : prt B e 1 4 (q + 1) with
      | error r => rw [h1] at h; cases h
      | ok r1 =>
        rw [h1, bnd_ok] at h
        obtain ⟨rfl, -, h2, h3⟩ := prt_ok h1
        obtain ⟨rfl, h4⟩ := lpE_prt _ _ _ h
        refine ⟨by show _ = q + (2 + B (q + 1)); omega, by omega, by omega, by omega, by omega, fun _ => ⟨h2, h3, fun k k0 k1 => ?_⟩, g1, g2, by show q + (2 + B (q + 1)) ≤ e; omega⟩
        have := h4 k k0 (by omega)
        rw [show q + 1 + 1 + k = q + 2 + k by omega] at this
        exact this.1
theorem cdP_at {e L : Int} {n : Nat} {p r : Int} (h : cdP B e L (n + 1) p = .ok r) (hp : p < e) : InsI B e L p ∧ cdP B e L n (p + ilen B p) = .ok r := by
  unfold cdP at h
  rw [if_pos hp] at h
  cases hi : insP B e L p with
  | error q => rw [hi] at h; cases h
  | ok q =>
    rw [hi] at h
    obtain ⟨h1, h2⟩ := ins_inv hp hi
    subst h1
    exact ⟨h2, h⟩
theorem lpE_Wk {f : Int → Ex} : ∀ (n : Nat) (a : Int), (∀ i : Int, 0 ≤ i → i < n → Wk f (a + i) (a + i + 1)) → lpE f n a = .ok (a + n) ∨ ∃ q, lpE f n a = .error q ∧ a ≤ q ∧ q < a + n
  | 0, a, _ => Or.inl (by show Except.ok a = _; rw [show a + ((0 : Nat) : Int) = a by omega])
  | n + 1, a, h => by
    have h0 := (h 0 (by omega) (by omega)).2
    rw [Int.add_zero] at h0
    rcases h0 with e | ⟨q, e, g1, g2⟩
    · have ih := lpE_Wk n (a + 1) (fun i i0 i1 => by have := h (i + 1) (by omega) (by omega); rw [show a + (i + 1) = a + 1 + i by omega] at this; exact this)
      have h9 : lpE f (n + 1) a = lpE f n (a + 1) := by show (f a).bind (lpE f n) = _; rw [e]; rfl
      rw [h9]
      rcases ih with e | ⟨q, e, g1, g2⟩
      · left; rw [e]; rw [show a + 1 + (n : Int) = a + ((n + 1 : Nat) : Int) by omega]
      · right; exact ⟨q, e, by omega, by omega⟩
    · right
      refine ⟨q, ?_, g1, by omega⟩
      show (f a).bind (lpE f n) = _
      rw [e]; rfl
theorem Wk_tgN {c n r : Int} : Wk (tgN B c n) r (r + 1) := by
  refine ⟨by omega, ?_⟩
  unfold tgN
  by_cases h : bgn B c n (B r)
  · rw [ckE_y h]; exact Or.inl rfl
  · rw [ckE_n h]; exact Or.inr ⟨r, rfl, by omega, by omega⟩
theorem Wk_insN {c n q : Int} (hB : ∀ k, -1 ≤ B k ∧ B k ≤ 255) (h38 : B q = 38 → 0 ≤ B (q + 1)) : Wk (insN B c n) q (q + ilen B q) := by
  have hl := ilen_b hB q
  refine ⟨by omega, ?_⟩
  have two : ∀ C : Prop, ilen B q = 2 → ckE C (q + ilen B q) (q + 1) = .ok (q + ilen B q) ∨ ∃ q2, ckE C (q + ilen B q) (q + 1) = .error q2 ∧ q ≤ q2 ∧ q2 < q + ilen B q := by
    intro C hC
    by_cases h : C
    · rw [ckE_y h]; exact Or.inl rfl
    · rw [ckE_n h]; exact Or.inr ⟨_, rfl, by omega, by omega⟩
  have l2 : B q ∈ ([20, 21, 22, 26, 32, 36, 30, 40] : List Int) → ilen B q = 2 := fun h => il_2 (by simp only [List.mem_cons, List.not_mem_nil, or_false] at h ⊢; omega)
  unfold insN
  split
  · exact two _ (l2 (by rename_i h; simp only [List.mem_cons, List.not_mem_nil, or_false] at h ⊢; omega))
  · split
    · exact two _ (l2 (by rename_i h; simp only [List.mem_cons, List.not_mem_nil, or_false] at h ⊢; omega))
    · split
      · exact two _ (l2 (by rename_i h; simp only [List.mem_cons, List.not_mem_nil, or_false] at h ⊢; omega))
      · split
        · exact two _ (l2 (by rename_i h; simp only [List.mem_cons, List.not_mem_nil, or_false] at h ⊢; omega))
        · split
          · exact two _ (l2 (by rename_i h; simp only [List.mem_cons, List.not_mem_nil, or_false] at h ⊢; omega))
          · split
            · rename_i h
              have h := List.mem_singleton.mp h
              have h0 := h38 h
              rw [il_10 h]
              rcases lpE_Wk (f := tgN B c n) (B (q + 1)).toNat (q + 2) (fun i _ _ => Wk_tgN) with e | ⟨r, e, g1, g2⟩
              · left; rw [e]; congr 1; omega
              · right; exact ⟨r, e, by omega, by omega⟩
            · exact Or.inl rfl
theorem insN_j {c n q : Int} (h : B q ∈ ([20, 21] : List Int)) : insN B c n q = ckE (bgn B c n (B (q + 1))) (q + ilen B q) (q + 1) := if_pos h
theorem insN_r {c n q : Int} (h : B q ∈ ([22, 26] : List Int)) : insN B c n q = ckE (B (q + 1) < nRec B) (q + ilen B q) (q + 1) := by
  unfold insN
  rw [if_neg (by simp only [List.mem_cons, List.not_mem_nil, or_false] at h ⊢; omega), if_pos h]
theorem insN_b {c n q : Int} (h : B q = 32) : insN B c n q = ckE (B (q + 1) < nRec B ∧ plainR B (B (q + 1))) (q + ilen B q) (q + 1) := by
  unfold insN
  rw [h, if_neg (by decide), if_neg (by decide), if_pos (by decide)]
theorem insN_c {c n q : Int} (h : B q = 36) : insN B c n q = ckE (B (q + 1) < nCtr B) (q + ilen B q) (q + 1) := by
  unfold insN
  rw [h, if_neg (by decide), if_neg (by decide), if_neg (by decide), if_pos (by decide)]
theorem insN_f {c n q : Int} (h : B q ∈ ([30, 40] : List Int)) : insN B c n q = ckE (B (q + 1) < nFn B) (q + ilen B q) (q + 1) := by
  unfold insN
  rw [if_neg (by simp only [List.mem_cons, List.not_mem_nil, or_false] at h ⊢; omega), if_neg (by simp only [List.mem_cons, List.not_mem_nil, or_false] at h ⊢; omega), if_neg (by simp only [List.mem_cons, List.not_mem_nil, or_false] at h ⊢; omega), if_neg (by simp only [List.mem_cons, List.not_mem_nil, or_false] at h ⊢; omega), if_pos h]
theorem insN_t {c n q : Int} (h : B q = 38) : insN B c n q = lpE (tgN B c n) (B (q + 1)).toNat (q + 2) := by
  unfold insN
  rw [h, if_neg (by decide), if_neg (by decide), if_neg (by decide), if_neg (by decide), if_neg (by decide), if_pos (by decide)]
theorem insN_d {c n q : Int} (h : B q ∉ ([20, 21, 22, 26, 32, 36, 30, 40, 38] : List Int)) : insN B c n q = .ok (q + ilen B q) := by
  unfold insN
  simp only [List.mem_cons, List.not_mem_nil, or_false] at h
  rw [if_neg (by simp only [List.mem_cons, List.not_mem_nil, or_false]; omega), if_neg (by simp only [List.mem_cons, List.not_mem_nil, or_false]; omega), if_neg (by simp only [List.mem_cons, List.not_mem_nil, or_false]; omega), if_neg (by simp only [List.mem_cons, List.not_mem_nil, or_false]; omega), if_neg (by simp only [List.mem_cons, List.not_mem_nil, or_false]; omega), if_neg (by simp only [List.mem_cons, List.not_mem_nil, or_false]; omega)]
abbrev ls1 (hi : HI) (l : Int) : HI := upI hi 49 28 l
theorem MB.ls {m l : Int} (h : MB hi m B) : MB (ls1 hi l) m B := by
  obtain ⟨a, b, c, e, m1, m2, m3, m4, m5, m6⟩ := h
  have hu : ∀ a i, a ≠ 49 → ls1 hi l a i = hi a i := fun a i h => upI_a h
  refine ⟨a, b, by rw [hu 52 m (by decide)]; exact c, by rw [bAt_up (by decide) (by decide)]; exact e, (hu _ _ (by decide)).trans m1, fun r r0 r1 => ⟨(hu _ _ (by decide)).trans (m2 r r0 r1).1, fun k k0 k1 => (hu _ _ (by decide)).trans ((m2 r r0 r1).2 k k0 k1)⟩, (hu _ _ (by decide)).trans m3, fun c c0 c1 => ?_, (hu _ _ (by decide)).trans m5, fun f f0 f1 => ?_⟩
  · obtain ⟨q1, q2⟩ := m4 c c0 c1
    exact ⟨(hu _ _ (by decide)).trans q1, fun s s0 s1 => ⟨(hu _ _ (by decide)).trans (q2 s s0 s1).1, (hu _ _ (by decide)).trans (q2 s s0 s1).2.1, fun t t0 t1 => ⟨(hu _ _ (by decide)).trans ((q2 s s0 s1).2.2 t t0 t1).1, (hu _ _ (by decide)).trans ((q2 s s0 s1).2.2 t t0 t1).2⟩⟩⟩
  · obtain ⟨q1, q2, q3, q4, q5, q6⟩ := m6 f f0 f1
    exact ⟨(hu _ _ (by decide)).trans q1, fun k k0 k1 => (hu _ _ (by decide)).trans (q2 k k0 k1), (hu _ _ (by decide)).trans q3, (hu _ _ (by decide)).trans q4, (hu _ _ (by decide)).trans q5, (hu _ _ (by decide)).trans q6⟩
end ML
