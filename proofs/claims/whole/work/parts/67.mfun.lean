/-! THE REFERENCE reads functions, contracts, modules -/
section MP3
variable {d : Nat} {al : AL} {hi : HI} {hr : HR} {Q : QQ}
/-- nothing changes but what w names -/
def FW (w : Nat → Int → Prop) (hi hi' : HI) : Prop := ∀ a i, ¬ w a i → hi' a i = hi a i
theorem FW.rf {w : Nat → Int → Prop} : FW w hi hi := fun _ _ _ => rfl
theorem FW.tr {w : Nat → Int → Prop} {h1 h2 h3 : HI} (a : FW w h1 h2) (b : FW w h2 h3) : FW w h1 h3 := fun x i h => (b x i h).trans (a x i h)
theorem FW.up {w : Nat → Int → Prop} {hi' : HI} {a : Nat} {i x : Int} (h : FW w hi hi') (ht : w a i) : FW w hi (upI hi' a i x) := fun b j hb => by
  unfold upI
  rw [if_neg]
  · exact h b j hb
  · rintro ⟨rfl, rfl⟩; exact hb ht
theorem FW.mn {w w' : Nat → Int → Prop} {hi' : HI} (h : FW w hi hi') (hw : ∀ a i, w a i → w' a i) : FW w' hi hi' := fun a i q => h a i (fun q' => q (hw a i q'))
theorem FW.B {w : Nat → Int → Prop} {hi' : HI} {m : Int} (h : FW w hi hi') (h1 : ∀ i, ¬ w 51 i) (h2 : ∀ i, ¬ w 52 i) : bAt hi' m = bAt hi m := by
  funext k
  unfold bAt
  rw [h 52 _ (h2 _), h 51 _ (h1 _)]
/-- .. and what a fault writes -/
def wE (w : Nat → Int → Prop) (a : Nat) (i : Int) : Prop := w a i ∨ (a = 49 ∧ (i = 22 ∨ i = 23))
def wF (f : Int) (a : Nat) (i : Int) : Prop := (a = 49 ∧ i = 26) ∨ ((a = 64 ∨ a = 66 ∨ a = 67 ∨ a = 68 ∨ a = 69) ∧ i = f) ∨ (a = 65 ∧ 4 * f ≤ i ∧ i < 4 * f + 4)
def FD (hi : HI) (f : Int) (B : Int → Int) (p : Int) : Prop := hi 64 f = B p ∧ (∀ k, 0 ≤ k → k < B p → hi 65 (4 * f + k) = tyV B (itr (skT B) k.toNat (p + 1))) ∧ hi 66 f = tyV B (fR_ B p) ∧ hi 67 f = B (fL_ B p) ∧ hi 68 f = B (fL_ B p + 1) ∧ hi 69 f = fL_ B p + 2
theorem ins_ge {B : Int → Int} {e L p q : Int} (h : insP B e L p = .ok q) : p + 1 ≤ q := by
  unfold insP at h
  cases hp : prt B e 0 43 p with
  | error r => rw [hp] at h; cases h
  | ok r =>
    rw [hp, bnd_ok] at h
    obtain ⟨rfl, -⟩ := prt_ok hp
    have hlp : ∀ (n : Nat) (a b : Int), lpE (prt B e 0 255) n a = .ok b → a ≤ b := by
      intro n
      induction n with
      | zero => intro a b h; cases h; omega
      | succ n ih =>
        intro a b h
        have h : (prt B e 0 255 a).bind (lpE (prt B e 0 255) n) = .ok b := h
        cases ha : prt B e 0 255 a with
        | error r => rw [ha] at h; cases h
        | ok r => rw [ha] at h; obtain ⟨rfl, -⟩ := prt_ok ha; have := ih _ _ h; omega
    unfold insK at h
    split at h
    · exact hlp _ _ _ h
    · split at h
      · split at h
        · cases h
        · obtain ⟨rfl, -⟩ := prt_ok h; omega
      · split at h
        · obtain ⟨rfl, -⟩ := prt_ok h; omega
        · split at h
          · obtain ⟨rfl, -⟩ := prt_ok h; omega
          · split at h
            · obtain ⟨rfl, -⟩ := prt_ok h; omega
            · split at h
              · cases ha : prt B e 1 4 (p + 1) with
                | error r => rw [ha] at h; cases h
                | ok r => rw [ha] at h; obtain ⟨rfl, -⟩ := prt_ok ha; have := hlp _ _ _ h; omega
              · cases h; omega
theorem tyP_ge {B : Int → Int} {ks no p q : Int} (h : tyP B ks no p = .ok q) : p + 1 ≤ q ∧ q ≤ p + 4 := by
  rw [tyP_sk h]; unfold skT
  split
  · omega
  · split <;> omega
theorem tyP_b {B : Int → Int} {ks no p q : Int} (h : tyP B ks no p = .ok q) : 0 ≤ B (q - 1) := by
  unfold tyP at h
  split at h
  · rename_i c; cases h; rw [show p + 1 - 1 = p by omega]; omega
  · split at h
    · cases h
    · split at h
      · cases h; rw [show p + 1 - 1 = p by omega]; omega
      · split at h
        · cases h
        · split at h
          · cases h; rw [show p + 2 - 1 = p + 1 by omega]; omega
          · split at h
            · cases h
            · obtain ⟨rfl, h1, h2⟩ := nmb_ok h; rw [show p + 3 + 1 - 1 = p + 3 by omega]; omega
/-- places where something was read -/
theorem rd_le {p : Int} (h2 : hi 52 12 ≤ 2000) (hb : 0 ≤ bAt hi 12 (p - 1)) : p ≤ 2000 := by
  have := bAt_lt (hi := hi) (m := 12) (k := p - 1) (by omega)
  omega
theorem lpE_b {f : Int → Ex} {B : Int → Int} (hf : ∀ p q, f p = .ok q → 0 ≤ B (q - 1)) : ∀ (n : Nat) (p q : Int), lpE f n p = .ok q → q = p ∨ 0 ≤ B (q - 1)
  | 0, p, q, h => by cases h; exact Or.inl rfl
  | n + 1, p, q, h => by
    have h : (f p).bind (lpE f n) = .ok q := h
    cases hp : f p with
    | error r => rw [hp] at h; cases h
    | ok r =>
      rw [hp] at h
      rcases lpE_b hf n r q h with e | e
      · subst e; exact Or.inr (hf p _ hp)
      · exact Or.inr e
theorem prt_b {B : Int → Int} {e lo hg p q : Int} (h : prt B e lo hg p = .ok q) (hlo : 0 ≤ lo) : 0 ≤ B (q - 1) := by
  obtain ⟨rfl, -, h1, -⟩ := prt_ok h
  rw [show p + 1 - 1 = p by omega]; omega
theorem nmb_b {B : Int → Int} {lo hg p q : Int} (h : nmb B lo hg p = .ok q) (hlo : 0 ≤ lo) : 0 ≤ B (q - 1) := by
  obtain ⟨rfl, h1, -⟩ := nmb_ok h
  rw [show p + 1 - 1 = p by omega]; omega
theorem ins_b {B : Int → Int} {e L p q : Int} (h : insP B e L p = .ok q) : 0 ≤ B (q - 1) := by
  unfold insP at h
  cases hp : prt B e 0 43 p with
  | error r => rw [hp] at h; cases h
  | ok r =>
    rw [hp, bnd_ok] at h
    have h0 := prt_b hp (by omega)
    have hl : ∀ (n : Nat) (a b : Int), 0 ≤ B (a - 1) → lpE (prt B e 0 255) n a = .ok b → 0 ≤ B (b - 1) := fun n a b ha hb => by
      rcases lpE_b (B := B) (fun p q h => prt_b h (by omega)) n a b hb with q | q
      · rw [q]; exact ha
      · exact q
    unfold insK at h
    split at h
    · exact hl _ _ _ h0 h
    · split at h
      · split at h
        · cases h
        · exact prt_b h (by omega)
      · split at h
        · exact prt_b h (by omega)
        · split at h
          · exact prt_b h (by omega)
          · split at h
            · exact prt_b h (by omega)
            · split at h
              · cases ha : prt B e 1 4 r with
                | error r => rw [ha] at h; cases h
                | ok r' => rw [ha] at h; exact hl _ _ _ (prt_b ha (by omega)) h
              · cases h; exact h0
theorem m_code {f e L : Int} {B : Int → Int} (hA : SA al) (hR : MR hr) (hd : 4 ≤ d) (hf : 0 ≤ f ∧ f < 130) (hL2 : 0 ≤ L ∧ L ≤ 10) : ∀ (n : Nat) (p : Int) (hi : HI), hi 49 27 = 12 → hi 52 12 ≤ 2000 → bAt hi 12 = B → hi 67 f = L → 0 ≤ p → p ≤ 2000 → hi 49 26 = p → e - p ≤ n →
    (∀ p', cdP B e L n p = .ok p' → Q (some none) al (at1 hi p') hr) → (∀ q, cdP B e L n p = .error q → Q none al (fl1 (at1 hi q) 1 q) hr) → Wp d 232 114 [vR (some 49), vI f, vI e] [] al hi hr Q := by
  intro n
  have kM : isK al 49 13 := hA.k (by decide) (by decide) rfl
  induction n with
  | zero =>
    intro p hi h27 h52 hB hL h0 h1 hp hn fin err
    refine s232_114.mpr ?_
    refine (s232_115 kM).mpr ?_
    refine s232_118.mpr ?_
    try simp (disch := first | decide | assumption | omega) only [hp]
    refine s232_119.mpr (wif (fun c119 => ?_) (fun c119 => ?_))
    · skip
      exfalso; omega
    · skip
      refine (s232_131).mpr ?_
      have h9 := fin p rfl; rw [show at1 hi p = hi from upI_same hp] at h9; exact h9
  | succ n ih =>
    intro p hi h27 h52 hB hL h0 h1 hp hn fin err
    by_cases hc : p < e
    · have eq9 : cdP B e L (n + 1) p = (insP B e L p).bind (cdP B e L n) := if_pos hc
      refine s232_114.mpr ?_
      refine (s232_115 kM).mpr ?_
      refine s232_118.mpr ?_
      try simp (disch := first | decide | assumption | omega) only [kon, knt_some, knt_none, Option.toList_some, Option.toList_none, List.cons_append, List.nil_append, hp]
      refine s232_119.mpr (wif (fun c119 => ?_) (fun c119 => ?_))
      · skip
        refine s232_122.mpr (s232_123.mpr (s232_124.mpr ?_))
        refine (s232_125 (by omega) kM).mpr ?_
        refine m_instruction hA hR ⟨h27, h52, by omega, by omega⟩ (by omega) hf hL hL2 ?_
        rw [hB, hp]
        refine kEx_of (fun q125 e125 => ?_) (fun q125 e125 => ?_)
        · skip
          refine s232_128.mpr ?_
          have g9 := ins_ge e125
          exact ih q125 _ (by simp (disch := decide) only [upI_i, h27]) (by simp (disch := decide) only [upI_a]; exact h52) (by rw [← hB]; exact congrFun (bAt_up (by decide) (by decide)) 12) (by simp (disch := decide) only [upI_a]; exact hL) (by omega) (rd_le h52 (by rw [hB]; exact ins_b e125)) (by simp only [at1, upI_eq]) (by omega) (fun p' h' => by have := fin p' (by rw [eq9, e125]; exact h'); simpa only [at1, upI_up] using this) (fun p' h' => by have := err p' (by rw [eq9, e125]; exact h'); simpa only [at1, upI_up] using this)
        · skip
          show tho 232 = true ∧ Q none _ _ _
          refine ⟨rfl, ?_⟩
          exact err q125 (by rw [eq9, e125]; rfl)
      · skip
        exfalso; omega
    · have eq9 : cdP B e L (n + 1) p = .ok p := if_neg hc
      refine s232_114.mpr ?_
      refine (s232_115 kM).mpr ?_
      refine s232_118.mpr ?_
      try simp (disch := first | decide | assumption | omega) only [hp]
      refine s232_119.mpr (wif (fun c119 => ?_) (fun c119 => ?_))
      · skip
        exfalso; omega
      · skip
        refine (s232_131).mpr ?_
        have h9 := fin p eq9; rw [show at1 hi p = hi from upI_same hp] at h9; exact h9
end MP3
