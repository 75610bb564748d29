/-! CONTRACTS THAT ARE ALIKE, and how the reference finds it -/
section AK0
variable {d : Nat} {al : AL} {hi : HI} {hr : HR} {Q : QQ} {B B' : Int → Int} {m m' : Int}
def alL (B B' : Int → Int) (R : Int → Int → Prop) (x y : Int) : Prop := kindM x = kindM y ∧ (kindM x = 4 → nFld B (whichM x) = nFld B' (whichM y)) ∧ (kindM x = 5 → stateM x = stateM y ∧ sideM x = sideM y ∧ R (whichM x) (whichM y))
def alS (B B' : Int → Int) (R : Int → Int → Prop) (c d s : Int) : Prop := tnS B c s = tnS B' d s ∧ nMs B c s = nMs B' d s ∧ ∀ t, 0 ≤ t → t < nMs B c s → thM B c s t = thM B' d s t ∧ alL B B' R (ldM B c s t) (ldM B' d s t)
def alC (B B' : Int → Int) (R : Int → Int → Prop) (c d : Int) : Prop := nSt B c = nSt B' d ∧ ∀ s, 0 ≤ s → s < nSt B c → alS B B' R c d s
def Bis (B B' : Int → Int) (R : Int → Int → Prop) : Prop := ∀ c d, R c d → (0 ≤ c ∧ c < nCtr B) ∧ (0 ≤ d ∧ d < nCtr B') ∧ alC B B' R c d
def Alk (B B' : Int → Int) (c d : Int) : Prop := ∃ R, Bis B B' R ∧ R c d
theorem alL.mn {R R' : Int → Int → Prop} {x y : Int} (h : alL B B' R x y) (hR : ∀ c d, R c d → R' c d) : alL B B' R' x y := ⟨h.1, h.2.1, fun k => ⟨(h.2.2 k).1, (h.2.2 k).2.1, hR _ _ (h.2.2 k).2.2⟩⟩
theorem alS.mn {R R' : Int → Int → Prop} {c d s : Int} (h : alS B B' R c d s) (hR : ∀ c d, R c d → R' c d) : alS B B' R' c d s := ⟨h.1, h.2.1, fun t a b => ⟨(h.2.2 t a b).1, (h.2.2 t a b).2.mn hR⟩⟩
theorem alC.mn {R R' : Int → Int → Prop} {c d : Int} (h : alC B B' R c d) (hR : ∀ c d, R c d → R' c d) : alC B B' R' c d := ⟨h.1, fun s a b => (h.2 s a b).mn hR⟩
theorem alL.sy {R : Int → Int → Prop} {x y : Int} (h : alL B B' R x y) : alL B' B (fun a b => R b a) y x := ⟨h.1.symm, fun k => (h.2.1 (h.1.trans k)).symm, fun k => ⟨(h.2.2 (h.1.trans k)).1.symm, (h.2.2 (h.1.trans k)).2.1.symm, (h.2.2 (h.1.trans k)).2.2⟩⟩
theorem alS.sy {R : Int → Int → Prop} {c d s : Int} (h : alS B B' R c d s) : alS B' B (fun a b => R b a) d c s := ⟨h.1.symm, h.2.1.symm, fun t a b => ⟨(h.2.2 t a (by rw [h.2.1]; exact b)).1.symm, (h.2.2 t a (by rw [h.2.1]; exact b)).2.sy⟩⟩
theorem Bis.sy {R : Int → Int → Prop} (h : Bis B B' R) : Bis B' B (fun a b => R b a) := fun c d hR => ⟨(h d c hR).2.1, (h d c hR).1, (h d c hR).2.2.1.symm, fun s a b => ((h d c hR).2.2.2 s a (by rw [(h d c hR).2.2.1]; exact b)).sy⟩
theorem Alk.sy {c d : Int} (h : Alk B B' c d) : Alk B' B d c := by
  obtain ⟨R, h1, h2⟩ := h
  exact ⟨_, h1.sy, h2⟩
/-- a load, as the text has it -/
def ldO (B : Int → Int) (x : Int) : Prop := x = -1 ∨ (vT B x ∧ (kindM x = 0 ∨ kindM x = 4 ∨ kindM x = 5))
theorem ldO.g {x : Int} (h : ldO B x) : rng x ∧ (kindM x = -1 ↔ x = -1) ∧ (kindM x = 0 ↔ x = 0) ∧ (kindM x = 4 ∨ kindM x = 5 ↔ (x ≠ -1 ∧ x ≠ 0)) := by
  rcases h with rfl | ⟨h, k⟩
  · exact ⟨by decide, by decide, by decide, by decide⟩
  · have h0 := h.1
    have h1 := h.2.1
    have h2 := h.2.2.2.2.1
    have e : kindM x = x % 8 := kM_p h0
    refine ⟨⟨by omega, by omega⟩, ⟨by omega, by omega⟩, ⟨h2, by rintro rfl; rfl⟩, ⟨fun z => ⟨by omega, fun z2 => by subst z2; rcases z with z | z <;> exact absurd z (by decide)⟩, fun z => ?_⟩⟩
    rcases k with k | k | k
    · exact absurd (h2 k) z.2
    · exact Or.inl k
    · exact Or.inr k
theorem ldO.w {x : Int} (h : ldO B x) : (kindM x = 4 → 0 ≤ whichM x ∧ whichM x < nRec B) ∧ (kindM x = 5 → 0 ≤ whichM x ∧ whichM x < nCtr B) := by
  rcases h with rfl | ⟨h, k⟩
  · exact ⟨fun z => absurd z (by decide), fun z => absurd z (by decide)⟩
  · have w0 : 0 ≤ whichM x := by unfold whichM; omega
    exact ⟨fun z => ⟨w0, h.2.2.2.2.2.2.1 (Or.inr (Or.inr z))⟩, fun z => ⟨w0, (h.2.2.2.2.2.2.2 z).1⟩⟩
theorem m_alikeLoads {x y : Int} {P1 P0 : AL → HI → HR → Prop} (hA : SA al) (hR : MR hr) (hd : 2 ≤ d) (hM : MB hi m B) (hM' : MB hi m' B') (hm6 : m < 6) (hm6' : m' < 6) (hS : Sh B) (hS' : Sh B') (hx : ldO B x) (hy : ldO B' y)
    (H5 : kindM x = 5 → kindM y = 5 → stateM x = stateM y → sideM x = sideM y → Ev (d - 1) 276 [vR (some 49), vI (4 * m + whichM x), vI (4 * m' + whichM y)] al hi hr (fun r a h b => (r = some (some (vI 1)) ∧ P1 a h b) ∨ (r = some (some (vI 0)) ∧ P0 a h b)))
    (y1 : (∀ R, alL B B' R x y) → Q (some (some (vI 1))) al hi hr) (y5 : ∀ a h b, kindM x = 5 → kindM y = 5 → stateM x = stateM y → sideM x = sideM y → P1 a h b → Q (some (some (vI 1))) a h b)
    (n0 : (∀ R, ¬ alL B B' R x y) → Q (some (some (vI 0))) al hi hr) (n5 : ∀ a h b, kindM x = 5 → P0 a h b → Q (some (some (vI 0))) a h b) : Ev d 277 [vR (some 49), vI m, vI x, vI m', vI y] al hi hr Q := by
  have kM : isK al 49 13 := hA.k (by decide) (by decide) rfl
  obtain ⟨gx1, gx2, gx3, gx4⟩ := hx.g
  obtain ⟨gy1, gy2, gy3, gy4⟩ := hy.g
  have m0 := hM.1
  have m0' := hM'.1
  have l57 := SA.len (a := 57) (n := 104) hA (by decide) (by decide) rfl
  rw [e277]
  by_cases ck : kindM x = kindM y
  case neg =>
    refine s277_0.mpr ?_
    refine (s277_1 (by omega)).mpr ?_
    refine m_kind.mpr ?_
    refine s277_4.mpr ?_
    refine (s277_6 (by omega)).mpr ?_
    refine m_kind.mpr ?_
    refine s277_9.mpr (wif (fun c9 => ?_) (fun c9 => ?_))
    · skip
      exfalso; omega
    · skip
      refine s277_12.mpr ?_
      refine (s277_13 (by first | assumption | omega)).mpr ?_
      exact n0 (fun R z => ck z.1)
  by_cases c4 : kindM x = 4
  · obtain ⟨w0, w1⟩ := hx.w.1 c4
    obtain ⟨v0, v1⟩ := hy.w.1 (ck ▸ c4)
    have r8 : nRec B ≤ 8 := hS.2.1
    have r8' : nRec B' ≤ 8 := hS'.2.1
    have e57 : hi 57 (8 * m + whichM x) = nFld B (whichM x) := (hM.2.2.2.2.2.1 _ w0 w1).1
    have e57' : hi 57 (8 * m' + whichM y) = nFld B' (whichM y) := (hM'.2.2.2.2.2.1 _ v0 v1).1
    have hq : ∀ R, alL B B' R x y ↔ nFld B (whichM x) = nFld B' (whichM y) := fun R => ⟨fun z => z.2.1 c4, fun z => ⟨ck, fun _ => z, fun z5 => by omega⟩⟩
    refine s277_0.mpr ?_
    refine (s277_1 (by omega)).mpr ?_
    refine m_kind.mpr ?_
    refine s277_4.mpr ?_
    refine (s277_6 (by omega)).mpr ?_
    refine m_kind.mpr ?_
    refine s277_9.mpr (wif (fun c9 => ?_) (fun c9 => ?_))
    · first
      | (exfalso; omega)
      | skip
        refine s277_14.mpr (s277_15.mpr ?_)
        refine s277_16.mpr (wif (fun c16 => ?_) (fun c16 => ?_))
        · first
          | (exfalso; omega)
          | skip
            exfalso; omega
        · first
          | (exfalso; omega)
          | skip
            refine s277_19.mpr ?_
            refine s277_20.mpr (wif (fun c20 => ?_) (fun c20 => ?_))
            · first
              | (exfalso; omega)
              | skip
                exfalso; omega
            · first
              | (exfalso; omega)
              | skip
                refine s277_25.mpr ?_
                refine (s277_26 (by omega)).mpr ?_
                refine m_kind.mpr ?_
                refine s277_29.mpr ?_
                refine s277_30.mpr (wif (fun c30 => ?_) (fun c30 => ?_))
                · first
                  | (exfalso; omega)
                  | skip
                    refine s277_33.mpr ((s277_34 kM).mpr ?_)
                    rw [mr_9 hR]
                    refine s277_37.mpr (s277_39.mpr (s277_40.mpr (s277_41.mpr ?_)))
                    try simp (disch := first | decide | assumption | omega) only [kon, knt_some, knt_none, Option.toList_some, Option.toList_none, List.cons_append, List.nil_append, e57, e57', fAdd_id, fMul_id]
                    refine (s277_42 (by omega)).mpr ?_
                    refine (m_which (by first | exact gx1 | exact gy1)).mpr ?_
                    refine s277_45.mpr ?_
                    try simp (disch := first | decide | assumption | omega) only [kon, knt_some, knt_none, Option.toList_some, Option.toList_none, List.cons_append, List.nil_append, e57, e57', fAdd_id, fMul_id]
                    refine (s277_46 (hA.k (by decide) (by decide) rfl) (by first | assumption | omega) (by first | assumption | omega)).mpr ?_
                    refine s277_47.mpr ((s277_48 kM).mpr ?_)
                    rw [mr_9 hR]
                    refine s277_51.mpr (s277_53.mpr (s277_54.mpr (s277_55.mpr ?_)))
                    try simp (disch := first | decide | assumption | omega) only [kon, knt_some, knt_none, Option.toList_some, Option.toList_none, List.cons_append, List.nil_append, e57, e57', fAdd_id, fMul_id]
                    refine (s277_57 (by omega)).mpr ?_
                    refine (m_which (by first | exact gx1 | exact gy1)).mpr ?_
                    refine s277_60.mpr ?_
                    try simp (disch := first | decide | assumption | omega) only [kon, knt_some, knt_none, Option.toList_some, Option.toList_none, List.cons_append, List.nil_append, e57, e57', fAdd_id, fMul_id]
                    refine (s277_61 (hA.k (by decide) (by decide) rfl) (by first | assumption | omega) (by first | assumption | omega)).mpr ?_
                    try simp (disch := first | decide | assumption | omega) only [kon, knt_some, knt_none, Option.toList_some, Option.toList_none, List.cons_append, List.nil_append, e57, e57', fAdd_id, fMul_id]
                    refine s277_62.mpr (wif (fun c62 => ?_) (fun c62 => ?_))
                    · first
                      | (exfalso; omega)
                      | skip
                        refine s277_65.mpr (s277_66.mpr ?_)
                        refine (s277_70 (by first | assumption | omega)).mpr ?_
                        first | exact y1 (fun R => (hq R).mpr (by assumption)) | exact n0 (fun R z => absurd ((hq R).mp z) (by assumption))
                    · first
                      | (exfalso; omega)
                      | skip
                        refine s277_69.mpr ?_
                        refine (s277_70 (by first | assumption | omega)).mpr ?_
                        first | exact y1 (fun R => (hq R).mpr (by assumption)) | exact n0 (fun R z => absurd ((hq R).mp z) (by assumption))
                · first
                  | (exfalso; omega)
                  | skip
                    exfalso; omega
    · first
      | (exfalso; omega)
      | skip
        exfalso; omega
  by_cases c5 : kindM x = 5
  · obtain ⟨w0, w1⟩ := hx.w.2 c5
    obtain ⟨v0, v1⟩ := hy.w.2 (ck ▸ c5)
    have r8 : nCtr B ≤ 4 := hS.2.2.2.2.2.1
    have r8' : nCtr B' ≤ 4 := hS'.2.2.2.2.2.1
    have hn : ¬ (stateM x = stateM y ∧ sideM x = sideM y) → Q (some (some (vI 0))) al hi hr := fun c => n0 (fun R z => c ⟨(z.2.2 c5).1, (z.2.2 c5).2.1⟩)
    refine s277_0.mpr ?_
    refine (s277_1 (by omega)).mpr ?_
    refine m_kind.mpr ?_
    refine s277_4.mpr ?_
    refine (s277_6 (by omega)).mpr ?_
    refine m_kind.mpr ?_
    refine s277_9.mpr (wif (fun c9 => ?_) (fun c9 => ?_))
    · first
      | (exfalso; omega)
      | skip
        refine s277_14.mpr (s277_15.mpr ?_)
        refine s277_16.mpr (wif (fun c16 => ?_) (fun c16 => ?_))
        · first
          | (exfalso; omega)
          | skip
            exfalso; omega
        · first
          | (exfalso; omega)
          | skip
            refine s277_19.mpr ?_
            refine s277_20.mpr (wif (fun c20 => ?_) (fun c20 => ?_))
            · first
              | (exfalso; omega)
              | skip
                exfalso; omega
            · first
              | (exfalso; omega)
              | skip
                refine s277_25.mpr ?_
                refine (s277_26 (by omega)).mpr ?_
                refine m_kind.mpr ?_
                refine s277_29.mpr ?_
                refine s277_30.mpr (wif (fun c30 => ?_) (fun c30 => ?_))
                · first
                  | (exfalso; omega)
                  | skip
                    exfalso; omega
                · first
                  | (exfalso; omega)
                  | skip
                    refine s277_71.mpr ?_
                    refine (s277_72 (by omega)).mpr ?_
                    refine (m_state (by first | exact gx1 | exact gy1)).mpr ?_
                    refine s277_75.mpr ?_
                    refine (s277_77 (by omega)).mpr ?_
                    refine (m_state (by first | exact gx1 | exact gy1)).mpr ?_
                    refine s277_80.mpr (wif (fun c80 => ?_) (fun c80 => ?_))
                    · first
                      | (exfalso; omega)
                      | skip
                        refine s277_83.mpr ?_
                        refine (s277_84 (by omega)).mpr ?_
                        refine (m_side (by first | exact gx1 | exact gy1)).mpr ?_
                        refine s277_87.mpr ?_
                        refine (s277_89 (by omega)).mpr ?_
                        refine (m_side (by first | exact gx1 | exact gy1)).mpr ?_
                        refine s277_92.mpr (wif (fun c92 => ?_) (fun c92 => ?_))
                        · first
                          | (exfalso; omega)
                          | skip
                            refine s277_95.mpr (s277_96.mpr (s277_97.mpr (s277_98.mpr (s277_99.mpr ?_))))
                            try simp (disch := first | decide | assumption | omega) only [kon, knt_some, knt_none, Option.toList_some, Option.toList_none, List.cons_append, List.nil_append, fAdd_id, fMul_id]
                            refine (s277_100 (by omega)).mpr ?_
                            refine (m_which (by first | exact gx1 | exact gy1)).mpr ?_
                            refine s277_103.mpr (s277_104.mpr (s277_105.mpr (s277_106.mpr (s277_107.mpr ?_))))
                            try simp (disch := first | decide | assumption | omega) only [kon, knt_some, knt_none, Option.toList_some, Option.toList_none, List.cons_append, List.nil_append, fAdd_id, fMul_id]
                            refine (s277_109 (by omega)).mpr ?_
                            refine (m_which (by first | exact gx1 | exact gy1)).mpr ?_
                            refine s277_112.mpr ?_
                            try simp (disch := first | decide | assumption | omega) only [kon, knt_some, knt_none, Option.toList_some, Option.toList_none, List.cons_append, List.nil_append, fAdd_id, fMul_id]
                            refine (s277_113 (by omega) kM).mpr ?_
                            refine ev_mono (H5 c5 (ck ▸ c5) (by assumption) (by assumption)) (fun r a h b q => ?_)
                            rcases q with ⟨rfl, q⟩ | ⟨rfl, q⟩
                            · simp only [kon, knt_some, knt_none, Option.toList_some, Option.toList_none, List.cons_append, List.nil_append]
                              refine s277_116.mpr ?_
                              refine wif (fun z => absurd z (by decide)) (fun _ => ?_)
                              refine s277_119.mpr (s277_120.mpr ?_)
                              refine (s277_124 (by decide)).mpr ?_
                              exact y5 a h b c5 (ck ▸ c5) (by assumption) (by assumption) q
                            · simp only [kon, knt_some, knt_none, Option.toList_some, Option.toList_none, List.cons_append, List.nil_append]
                              refine s277_116.mpr ?_
                              refine wif (fun _ => ?_) (fun z => absurd rfl z)
                              refine s277_123.mpr ?_
                              refine (s277_124 (by decide)).mpr ?_
                              exact n5 a h b c5 q
                        · first
                          | (exfalso; omega)
                          | skip
                            refine s277_123.mpr ?_
                            refine (s277_124 (by first | assumption | omega)).mpr ?_
                            exact hn (fun z => by omega)
                    · first
                      | (exfalso; omega)
                      | skip
                        refine s277_123.mpr ?_
                        refine (s277_124 (by first | assumption | omega)).mpr ?_
                        exact hn (fun z => by omega)
    · first
      | (exfalso; omega)
      | skip
        exfalso; omega
  have hxx : x = -1 ∨ x = 0 := by
    apply Classical.byContradiction
    intro c
    have := gx4.mpr ⟨fun z => c (Or.inl z), fun z => c (Or.inr z)⟩
    omega
  have hq : ∀ R, alL B B' R x y := fun R => ⟨ck, fun z => absurd z c4, fun z => absurd z c5⟩
  refine s277_0.mpr ?_
  refine (s277_1 (by omega)).mpr ?_
  refine m_kind.mpr ?_
  refine s277_4.mpr ?_
  refine (s277_6 (by omega)).mpr ?_
  refine m_kind.mpr ?_
  refine s277_9.mpr (wif (fun c9 => ?_) (fun c9 => ?_))
  · skip
    refine s277_14.mpr (s277_15.mpr ?_)
    refine s277_16.mpr (wif (fun c16 => ?_) (fun c16 => ?_))
    · skip
      refine s277_23.mpr ?_
      refine (s277_24 (by first | assumption | omega)).mpr ?_
      exact y1 hq
    · skip
      refine s277_19.mpr ?_
      refine s277_20.mpr (wif (fun c20 => ?_) (fun c20 => ?_))
      · skip
        refine s277_23.mpr ?_
        refine (s277_24 (by first | assumption | omega)).mpr ?_
        exact y1 hq
      · skip
        exfalso; omega
  · skip
    exfalso; omega
def vis (m m' : Int) (h : HI) (x y : Int) : Prop := (0 ≤ x ∧ x < 4) ∧ (0 ≤ y ∧ y < 4) ∧ h 86 (48 * (4 * m + x) + (4 * m' + y)) = 1
theorem vis_up {h : HI} {x y i : Int} (q : vis m m' h x y) : vis m m' (upI h 86 i 1) x y := ⟨q.1, q.2.1, by
  rw [upI_self]
  by_cases c : 48 * (4 * m + x) + (4 * m' + y) = i
  · exact if_pos c
  · rw [if_neg c]; exact q.2.2⟩
noncomputable def nvis (m m' : Int) (h : HI) : Nat := smN (fun j => @ite _ (vis m m' h ((j : Int) / 4) ((j : Int) % 4)) (Classical.propDecidable _) 0 1) 16
theorem nvis_lt {h h' : HI} {x y : Int} (x0 : 0 ≤ x ∧ x < 4) (y0 : 0 ≤ y ∧ y < 4) (hm : ∀ x y, vis m m' h x y → vis m m' h' x y) (h1 : ¬ vis m m' h x y) (h2 : vis m m' h' x y) : nvis m m' h' < nvis m m' h := by
  refine smN_lt (j := (4 * x + y).toNat) 16 (fun k _ => ?_) (by omega) ?_
  · by_cases c : vis m m' h ((k : Int) / 4) ((k : Int) % 4)
    · rw [if_pos (hm _ _ c)]; exact Nat.zero_le _
    · rw [if_neg c]; split <;> omega
  · have e1 : (((4 * x + y).toNat : Nat) : Int) / 4 = x := by omega
    have e2 : (((4 * x + y).toNat : Nat) : Int) % 4 = y := by omega
    rw [e1, e2, if_pos h2, if_neg h1]; decide
theorem nvis_le {h h' : HI} (hm : ∀ x y, vis m m' h x y → vis m m' h' x y) : nvis m m' h' ≤ nvis m m' h := by
  refine smN_le 16 (fun k _ => ?_)
  by_cases c : vis m m' h ((k : Int) / 4) ((k : Int) % 4)
  · rw [if_pos (hm _ _ c)]; exact Nat.zero_le _
  · rw [if_neg c]; split <;> omega
/-- what a search leaves that ends well -/
def AY (B B' : Int → Int) (m m' : Int) (c d : Int) (h h' : HI) : Prop := FW (fun a _ => a = 86) h h' ∧ (∀ x y, vis m m' h x y → vis m m' h' x y) ∧ vis m m' h' c d ∧ (∀ x y, vis m m' h' x y → vis m m' h x y ∨ ((0 ≤ x ∧ x < nCtr B) ∧ (0 ≤ y ∧ y < nCtr B') ∧ alC B B' (vis m m' h') x y)) ∧ ∀ i, 0 ≤ i → i < 2304 → h' 86 i = 0 ∨ h' 86 i = 1
def AN (B B' : Int → Int) (c d : Int) (h h' : HI) : Prop := FW (fun a _ => a = 86) h h' ∧ ∀ R, Bis B B' R → ¬ R c d
theorem MB.p86 {hi' : HI} (h : MB hi m B) (hw : FW (fun a _ => a = 86) hi hi') : MB hi' m B := h.fw (fun a i h1 h2 => hw a i (by omega))
set_option maxRecDepth 8000 in
theorem m_alike (hA : SA al) (hR : MR hr) (hm6 : m < 6) (hm6' : m' < 6) (hS : Sh B) (hS' : Sh B') (hN : NV B) (hN' : NV B') : ∀ (k : Nat) (d : Nat) (c e : Int) (hi : HI), MB hi m B → MB hi m' B' → 0 ≤ c → c < nCtr B → 0 ≤ e → e < nCtr B' → nvis m m' hi ≤ k → 2 * k + 2 ≤ d → (∀ i, 0 ≤ i → i < 2304 → hi 86 i = 0 ∨ hi 86 i = 1) → Ev d 276 [vR (some 49), vI (4 * m + c), vI (4 * m' + e)] al hi hr (fun r a h b => (r = some (some (vI 1)) ∧ a = al ∧ b = hr ∧ AY B B' m m' c e hi h) ∨ (r = some (some (vI 0)) ∧ a = al ∧ b = hr ∧ AN B B' c e hi h)) := by
  have kM : isK al 49 13 := hA.k (by decide) (by decide) rfl
  have n4 : nCtr B ≤ 4 := hS.2.2.2.2.2.1
  have n4' : nCtr B' ≤ 4 := hS'.2.2.2.2.2.1
  have l86 := SA.len (a := 86) (n := 2304) hA (by decide) (by decide) rfl
  have l59 := SA.len (a := 59) (n := 52) hA (by decide) (by decide) rfl
  have l60 := SA.len (a := 60) (n := 416) hA (by decide) (by decide) rfl
  have l61 := SA.len (a := 61) (n := 416) hA (by decide) (by decide) rfl
  have l63 := SA.len (a := 63) (n := 1664) hA (by decide) (by decide) rfl
  have l62 := SA.len (a := 62) (n := 1664) hA (by decide) (by decide) rfl
  intro k
  induction k with
  | zero =>
    intro d c e hi hM hM' c0 c1 e0 e1 hk hd hb
    have m0 := hM.1
    have m0' := hM'.1
    have hv : vis m m' hi c e := by
      apply Classical.byContradiction
      intro hv
      have := nvis_lt (h := hi) (h' := upI hi 86 (48 * (4 * m + c) + (4 * m' + e)) 1) ⟨c0, by omega⟩ ⟨e0, by omega⟩ (fun x y q => vis_up q) hv ⟨⟨c0, by omega⟩, ⟨e0, by omega⟩, upI_eq⟩
      omega
    have hv1 := hv.2.2
    rw [e276]
    refine s276_0.mpr ((s276_1 kM).mpr ?_)
    rw [mr_50 hR]
    refine s276_4.mpr (s276_6.mpr (s276_7.mpr (s276_8.mpr (s276_9.mpr ?_))))
    try simp (disch := first | decide | assumption | omega) only [fAdd_id, fMul_id, hv1]
    refine (s276_10Z (hA.k (by decide) (by decide) rfl) (by first | assumption | omega) (by first | assumption | omega)).mpr ?_
    try simp (disch := first | decide | assumption | omega) only [fAdd_id, fMul_id, hv1]
    refine s276_11.mpr (wif (fun c11 => ?_) (fun c11 => ?_))
    · first
      | (exfalso; omega)
      | skip
        exfalso; omega
    · first
      | (exfalso; omega)
      | skip
        refine s276_14.mpr ?_
        refine (s276_15 (by first | assumption | omega)).mpr ?_
        exact Or.inl ⟨rfl, rfl, rfl, FW.rf, fun _ _ q => q, hv, fun x y q => Or.inl q, hb⟩
  | succ k ih =>
    intro d c e hi hM hM' c0 c1 e0 e1 hk hd hb
    have m0 := hM.1
    have m0' := hM'.1
    rw [e276]
    by_cases hv : vis m m' hi c e
    · have hv1 := hv.2.2
      refine s276_0.mpr ((s276_1 kM).mpr ?_)
      rw [mr_50 hR]
      refine s276_4.mpr (s276_6.mpr (s276_7.mpr (s276_8.mpr (s276_9.mpr ?_))))
      try simp (disch := first | decide | assumption | omega) only [fAdd_id, fMul_id, hv1]
      refine (s276_10Z (hA.k (by decide) (by decide) rfl) (by first | assumption | omega) (by first | assumption | omega)).mpr ?_
      try simp (disch := first | decide | assumption | omega) only [fAdd_id, fMul_id, hv1]
      refine s276_11.mpr (wif (fun c11 => ?_) (fun c11 => ?_))
      · first
        | (exfalso; omega)
        | skip
          exfalso; omega
      · first
        | (exfalso; omega)
        | skip
          refine s276_14.mpr ?_
          refine (s276_15 (by first | assumption | omega)).mpr ?_
          exact Or.inl ⟨rfl, rfl, rfl, FW.rf, fun _ _ q => q, hv, fun x y q => Or.inl q, hb⟩
    have hv0 : hi 86 (48 * (4 * m + c) + (4 * m' + e)) = 0 := by
      rcases hb (48 * (4 * m + c) + (4 * m' + e)) (by omega) (by omega) with z | z
      · exact z
      · exact absurd ⟨⟨c0, by omega⟩, ⟨e0, by omega⟩, z⟩ hv
    obtain ⟨h1, hh1⟩ : ∃ h1, h1 = upI hi 86 (48 * (4 * m + c) + (4 * m' + e)) 1 := ⟨_, rfl⟩
    have f1 : FW (fun a _ => a = 86) hi h1 := by rw [hh1]; exact FW.rf.up rfl
    have v1 : ∀ x y, vis m m' hi x y → vis m m' h1 x y := fun x y q => by rw [hh1]; exact vis_up q
    have vce : vis m m' h1 c e := ⟨⟨c0, by omega⟩, ⟨e0, by omega⟩, by rw [hh1]; exact upI_eq⟩
    have v1' : ∀ x y, vis m m' h1 x y → vis m m' hi x y ∨ (x = c ∧ y = e) := fun x y q => by
      by_cases z : x = c ∧ y = e
      · exact Or.inr z
      · obtain ⟨q1, q2, q3⟩ := q
        refine Or.inl ⟨q1, q2, ?_⟩
        rw [hh1, upI_i (by omega)] at q3
        exact q3
    have k1 : nvis m m' h1 ≤ k := by
      have := nvis_lt (h := hi) (h' := h1) ⟨c0, by omega⟩ ⟨e0, by omega⟩ v1 hv vce
      omega
    have b1 : ∀ i, 0 ≤ i → i < 2304 → h1 86 i = 0 ∨ h1 86 i = 1 := fun i a b => by
      rw [hh1, upI_self]
      by_cases z : i = 48 * (4 * m + c) + (4 * m' + e)
      · rw [if_pos z]; exact Or.inr rfl
      · rw [if_neg z]; exact hb i a b
    have hM1 := fun {h : HI} (f : FW (fun a _ => a = 86) h1 h) => hM.p86 (f1.tr f)
    have hM1' := fun {h : HI} (f : FW (fun a _ => a = 86) h1 h) => hM'.p86 (f1.tr f)
    have s8 := (hS.2.2.2.2.2.2.1 c c0 c1)
    have s8' := (hS'.2.2.2.2.2.2.1 e e0 e1)
    have s8a := s8.1
    have s8b := s8.2.1
    have s8b' := s8'.2.1
    have e59 : ∀ {h : HI}, FW (fun a _ => a = 86) h1 h → h 59 (4 * m + c) = nSt B c := fun f => ((hM1 f).2.2.2.2.2.2.2.1 c c0 c1).1
    have e59' : ∀ {h : HI}, FW (fun a _ => a = 86) h1 h → h 59 (4 * m' + e) = nSt B' e := fun f => ((hM1' f).2.2.2.2.2.2.2.1 e e0 e1).1
    have edm : fDiv (4 * m + c) 4 = m := by unfold fDiv; rw [Int.tdiv_eq_ediv_of_nonneg (by omega), wr_id ⟨by omega, by omega⟩]; omega
    have edm' : fDiv (4 * m' + e) 4 = m' := by unfold fDiv; rw [Int.tdiv_eq_ediv_of_nonneg (by omega), wr_id ⟨by omega, by omega⟩]; omega
    let Q9 : QQ := fun r a h b => (r = some (some (vI 1)) ∧ a = al ∧ b = hr ∧ AY B B' m m' c e hi h) ∨ (r = some (some (vI 0)) ∧ a = al ∧ b = hr ∧ AN B B' c e hi h)
    have NO : ∀ {h : HI}, FW (fun a _ => a = 86) h1 h → (∀ R, Bis B B' R → ¬ R c e) → Q9 (some (some (vI 0))) al h hr := fun f z => Or.inr ⟨rfl, rfl, rfl, f1.tr f, z⟩
    have T47 : nSt B c = nSt B' e → ∀ (j : Nat) (s : Int) (h : HI) l4 l5 l6, s + j = nSt B c → 0 ≤ s → FW (fun a _ => a = 86) h1 h → (∀ x y, vis m m' h1 x y → vis m m' h x y) → (∀ x y, vis m m' h x y → vis m m' h1 x y ∨ ((0 ≤ x ∧ x < nCtr B) ∧ (0 ≤ y ∧ y < nCtr B') ∧ alC B B' (vis m m' h) x y)) → (∀ i, 0 ≤ i → i < 2304 → h 86 i = 0 ∨ h 86 i = 1) → (∀ s', 0 ≤ s' → s' < s → alS B B' (vis m m' h) c e s') → Wp d 276 47 [vR (some 49), vI (4 * m + c), vI (4 * m' + e), vI s, l4, l5, l6] [] al h hr Q9 := by
      intro hst j
      induction j with
      | zero =>
        intro s h l4 l5 l6 hj s0 w hv3 hv4 hb3 hs
        have x59 := e59 w
        refine s276_47.mpr (s276_48.mpr ((s276_49 kM).mpr ?_))
        rw [mr_11 hR]
        refine s276_52.mpr ?_
        refine (s276_53 (hA.k (by decide) (by decide) rfl) (by first | assumption | omega) (by first | assumption | omega)).mpr ?_
        try simp (disch := first | decide | assumption | omega) only [x59]
        refine s276_54.mpr (wif (fun c54 => ?_) (fun c54 => ?_))
        · skip
          exfalso; omega
        · skip
          refine s276_202.mpr ?_
          refine (s276_203 (by first | assumption | omega)).mpr ?_
          refine Or.inl ⟨rfl, rfl, rfl, f1.tr w, fun x y q => hv3 x y (v1 x y q), hv3 c e vce, fun x y q => ?_, hb3⟩
          rcases hv4 x y q with z | z
          · rcases v1' x y z with z | ⟨rfl, rfl⟩
            · exact Or.inl z
            · exact Or.inr ⟨⟨c0, c1⟩, ⟨e0, e1⟩, hst, fun s' a b => hs s' a (by omega)⟩
          · exact Or.inr z
      | succ j ihs =>
        intro s h l4 l5 l6 hj s0 w hv3 hv4 hb3 hs
        have x59 := e59 w
        have sl : s < nSt B c := by omega
        obtain ⟨a60, a61, a62⟩ := (hM1 w).ct hS c0 c1 s0 sl
        obtain ⟨b60, b61, b62⟩ := (hM1' w).ct hS' e0 e1 s0 (by omega)
        have q8 := (s8.2.2.2.1 s s0 sl).2.2.2.1
        have q80 := (s8.2.2.2.1 s s0 sl).2.2.1
        by_cases ctn : tnS B c s = tnS B' e s ∧ nMs B c s = nMs B' e s
        case neg =>
          have N := NO w (fun R hR hce => ctn ⟨((hR c e hce).2.2.2 s s0 sl).1, ((hR c e hce).2.2.2 s s0 sl).2.1⟩)
          refine s276_47.mpr (s276_48.mpr ((s276_49 kM).mpr ?_))
          rw [mr_11 hR]
          refine s276_52.mpr ?_
          refine (s276_53 (hA.k (by decide) (by decide) rfl) (by first | assumption | omega) (by first | assumption | omega)).mpr ?_
          try simp (disch := first | decide | assumption | omega) only [x59, a60, a61, b60, b61, fAdd_id, fMul_id]
          refine s276_54.mpr (wif (fun c54 => ?_) (fun c54 => ?_))
          · first
            | (exfalso; omega)
            | skip
              refine s276_57.mpr (s276_59.mpr (s276_60.mpr (s276_61.mpr (s276_62.mpr (s276_63.mpr ?_)))))
              refine s276_65.mpr (s276_67.mpr (s276_68.mpr (s276_69.mpr (s276_70.mpr (s276_71.mpr ?_)))))
              refine s276_73.mpr ((s276_74 kM).mpr ?_)
              rw [mr_12 hR]
              refine s276_77.mpr ?_
              try simp (disch := first | decide | assumption | omega) only [x59, a60, a61, b60, b61, fAdd_id, fMul_id]
              refine (s276_79 (hA.k (by decide) (by decide) rfl) (by first | assumption | omega) (by first | assumption | omega)).mpr ?_
              refine s276_80.mpr ((s276_81 kM).mpr ?_)
              rw [mr_12 hR]
              refine s276_84.mpr ?_
              try simp (disch := first | decide | assumption | omega) only [x59, a60, a61, b60, b61, fAdd_id, fMul_id]
              refine (s276_86 (hA.k (by decide) (by decide) rfl) (by first | assumption | omega) (by first | assumption | omega)).mpr ?_
              try simp (disch := first | decide | assumption | omega) only [x59, a60, a61, b60, b61, fAdd_id, fMul_id]
              refine s276_87.mpr (wif (fun c87 => ?_) (fun c87 => ?_))
              · first
                | (exfalso; omega)
                | skip
                  refine s276_90.mpr ((s276_91 kM).mpr ?_)
                  rw [mr_13 hR]
                  refine s276_94.mpr ?_
                  refine (s276_96 (hA.k (by decide) (by decide) rfl) (by first | assumption | omega) (by first | assumption | omega)).mpr ?_
                  refine s276_97.mpr ((s276_98 kM).mpr ?_)
                  rw [mr_13 hR]
                  refine s276_101.mpr ?_
                  try simp (disch := first | decide | assumption | omega) only [x59, a60, a61, b60, b61, fAdd_id, fMul_id]
                  refine (s276_103 (hA.k (by decide) (by decide) rfl) (by first | assumption | omega) (by first | assumption | omega)).mpr ?_
                  try simp (disch := first | decide | assumption | omega) only [x59, a60, a61, b60, b61, fAdd_id, fMul_id]
                  refine s276_104.mpr (wif (fun c104 => ?_) (fun c104 => ?_))
                  · first
                    | (exfalso; omega)
                    | skip
                      exfalso; omega
                  · first
                    | (exfalso; omega)
                    | skip
                      refine s276_107.mpr ?_
                      refine (s276_108 (by first | assumption | omega)).mpr ?_
                      exact N
              · first
                | (exfalso; omega)
                | skip
                  refine s276_107.mpr ?_
                  refine (s276_108 (by first | assumption | omega)).mpr ?_
                  exact N
          · first
            | (exfalso; omega)
            | skip
              exfalso; omega
        have T112 : ∀ (i : Nat) (t : Int) (h : HI), t + i = nMs B c s → 0 ≤ t → FW (fun a _ => a = 86) h1 h → (∀ x y, vis m m' h1 x y → vis m m' h x y) → (∀ x y, vis m m' h x y → vis m m' h1 x y ∨ ((0 ≤ x ∧ x < nCtr B) ∧ (0 ≤ y ∧ y < nCtr B') ∧ alC B B' (vis m m' h) x y)) → (∀ i, 0 ≤ i → i < 2304 → h 86 i = 0 ∨ h 86 i = 1) → (∀ s', 0 ≤ s' → s' < s → alS B B' (vis m m' h) c e s') → (∀ t', 0 ≤ t' → t' < t → thM B c s t' = thM B' e s t' ∧ alL B B' (vis m m' h) (ldM B c s t') (ldM B' e s t')) → Wp d 276 112 [vR (some 49), vI (4 * m + c), vI (4 * m' + e), vI s, vI (8 * (4 * m + c) + s), vI (8 * (4 * m' + e) + s), vI t] [] al h hr Q9 := by
          intro i
          induction i with
          | zero =>
            intro t h hi9 t0 w hv3 hv4 hb3 hs ht
            obtain ⟨a60, a61, a62⟩ := (hM1 w).ct hS c0 c1 s0 sl
            have NX : Wp d 276 47 [vR (some 49), vI (4 * m + c), vI (4 * m' + e), vI (s + 1), vI (8 * (4 * m + c) + s), vI (8 * (4 * m' + e) + s), vI t] [] al h hr Q9 := by
              refine ihs (s + 1) h _ _ _ (by omega) (by omega) w hv3 hv4 hb3 (fun s' x0 x1 => ?_)
              by_cases z : s' = s
              · subst z; exact ⟨ctn.1, ctn.2, fun t' y0 y1 => ht t' y0 (by omega)⟩
              · exact hs s' x0 (by omega)
            refine s276_112.mpr (s276_114.mpr ((s276_115 kM).mpr ?_))
            rw [mr_13 hR]
            refine s276_118.mpr ?_
            refine (s276_120 (hA.k (by decide) (by decide) rfl) (by first | assumption | omega) (by first | assumption | omega)).mpr ?_
            try simp (disch := first | decide | assumption | omega) only [a61, fAdd_id]
            refine s276_121.mpr (wif (fun c121 => ?_) (fun c121 => ?_))
            · skip
              exfalso; omega
            · skip
              refine s276_196.mpr (s276_199.mpr ?_)
              try simp (disch := first | decide | assumption | omega) only [a61, fAdd_id]
              exact NX
          | succ i iht =>
            intro t h hi9 t0 w hv3 hv4 hb3 hs ht
            have tl : t < nMs B c s := by omega
            obtain ⟨a60, a61, a62⟩ := (hM1 w).ct hS c0 c1 s0 sl
            obtain ⟨b60, b61, b62⟩ := (hM1' w).ct hS' e0 e1 s0 (by omega)
            obtain ⟨a62, a63⟩ := a62 t t0 tl
            obtain ⟨b62, b63⟩ := b62 t t0 (by omega)
            have lx : ldO B (ldM B c s t) := (hN.2.1 c s t c0 c1 s0 sl t0 tl).1
            have ly : ldO B' (ldM B' e s t) := (hN'.2.1 e s t e0 e1 s0 (by omega) t0 (by omega)).1
            by_cases cth : thM B c s t = thM B' e s t
            case neg =>
              have N := NO w (fun R hR hce => cth (((hR c e hce).2.2.2 s s0 sl).2.2 t t0 tl).1)
              refine s276_112.mpr (s276_114.mpr ((s276_115 kM).mpr ?_))
              rw [mr_13 hR]
              refine s276_118.mpr ?_
              refine (s276_120 (hA.k (by decide) (by decide) rfl) (by first | assumption | omega) (by first | assumption | omega)).mpr ?_
              try simp (disch := first | decide | assumption | omega) only [a61, a63, b63, fAdd_id, fMul_id]
              refine s276_121.mpr (wif (fun c121 => ?_) (fun c121 => ?_))
              · first
                | (exfalso; omega)
                | skip
                  refine s276_124.mpr ((s276_125 kM).mpr ?_)
                  rw [mr_15 hR]
                  refine s276_128.mpr (s276_129.mpr (s276_131.mpr (s276_132.mpr (s276_134.mpr ?_))))
                  try simp (disch := first | decide | assumption | omega) only [a61, a63, b63, fAdd_id, fMul_id]
                  refine (s276_135 (hA.k (by decide) (by decide) rfl) (by first | assumption | omega) (by first | assumption | omega)).mpr ?_
                  refine s276_136.mpr ((s276_137 kM).mpr ?_)
                  rw [mr_15 hR]
                  refine s276_140.mpr (s276_141.mpr (s276_143.mpr (s276_144.mpr (s276_146.mpr ?_))))
                  try simp (disch := first | decide | assumption | omega) only [a61, a63, b63, fAdd_id, fMul_id]
                  refine (s276_147 (hA.k (by decide) (by decide) rfl) (by first | assumption | omega) (by first | assumption | omega)).mpr ?_
                  try simp (disch := first | decide | assumption | omega) only [a61, a63, b63, fAdd_id, fMul_id]
                  refine s276_148.mpr (wif (fun c148 => ?_) (fun c148 => ?_))
                  · first
                    | (exfalso; omega)
                    | skip
                      exfalso; omega
                  · first
                    | (exfalso; omega)
                    | skip
                      refine s276_188.mpr ?_
                      refine (s276_189 (by first | assumption | omega)).mpr ?_
                      exact N
              · first
                | (exfalso; omega)
                | skip
                  exfalso; omega
            have NX : ∀ h', FW (fun a _ => a = 86) h1 h' → (∀ x y, vis m m' h1 x y → vis m m' h' x y) → (∀ x y, vis m m' h' x y → vis m m' h1 x y ∨ ((0 ≤ x ∧ x < nCtr B) ∧ (0 ≤ y ∧ y < nCtr B') ∧ alC B B' (vis m m' h') x y)) → (∀ i, 0 ≤ i → i < 2304 → h' 86 i = 0 ∨ h' 86 i = 1) → (∀ x y, vis m m' h x y → vis m m' h' x y) → alL B B' (vis m m' h') (ldM B c s t) (ldM B' e s t) → Wp d 276 112 [vR (some 49), vI (4 * m + c), vI (4 * m' + e), vI s, vI (8 * (4 * m + c) + s), vI (8 * (4 * m' + e) + s), vI (t + 1)] [] al h' hr Q9 := by
              intro h' w' hv3' hv4' hb3' hmn hal
              refine iht (t + 1) h' (by omega) (by omega) w' hv3' hv4' hb3' (fun s' x0 x1 => (hs s' x0 x1).mn hmn) (fun t' x0 x1 => ?_)
              by_cases z : t' = t
              · subst z; exact ⟨cth, hal⟩
              · exact ⟨(ht t' x0 (by omega)).1, (ht t' x0 (by omega)).2.mn hmn⟩
            have R182 : Ev (d - 1) 277 [vR (some 49), vI m, vI (ldM B c s t), vI m', vI (ldM B' e s t)] al h hr (kon d 276 182 185 [vR (some 49), vI (4 * m + c), vI (4 * m' + e), vI s, vI (8 * (4 * m + c) + s), vI (8 * (4 * m' + e) + s), vI t] [] Q9) := by
              have Y : ∀ h', Wp d 276 112 [vR (some 49), vI (4 * m + c), vI (4 * m' + e), vI s, vI (8 * (4 * m + c) + s), vI (8 * (4 * m' + e) + s), vI (t + 1)] [] al h' hr Q9 → Wp d 276 185 [vR (some 49), vI (4 * m + c), vI (4 * m' + e), vI s, vI (8 * (4 * m + c) + s), vI (8 * (4 * m' + e) + s), vI t] [vI 1] al h' hr Q9 := by
                intro h' hq
                refine s276_185.mpr (wif (fun c185 => ?_) (fun c185 => ?_))
                · skip
                  exact absurd ‹(1 : Int) = 0› (by decide)
                · skip
                  refine s276_190.mpr (s276_193.mpr ?_)
                  try simp (disch := first | decide | assumption | omega) only [fAdd_id]
                  exact hq
              have Z : ∀ h', Q9 (some (some (vI 0))) al h' hr → Wp d 276 185 [vR (some 49), vI (4 * m + c), vI (4 * m' + e), vI s, vI (8 * (4 * m + c) + s), vI (8 * (4 * m' + e) + s), vI t] [vI 0] al h' hr Q9 := by
                intro h' hq
                refine s276_185.mpr (wif (fun c185 => ?_) (fun c185 => ?_))
                · skip
                  refine s276_188.mpr ?_
                  refine (s276_189 (by first | assumption | omega)).mpr ?_
                  exact hq
                · skip
                  exact absurd rfl ‹¬ (0 : Int) = 0›
              refine m_alikeLoads (P1 := fun a h2 b => a = al ∧ b = hr ∧ AY B B' m m' (whichM (ldM B c s t)) (whichM (ldM B' e s t)) h h2) (P0 := fun a h2 b => a = al ∧ b = hr ∧ AN B B' (whichM (ldM B c s t)) (whichM (ldM B' e s t)) h h2) hA hR (by omega) (hM1 w) (hM1' w) hm6 hm6' hS hS' lx ly (fun k5 k5' _ _ => ?_) (fun hal => ?_) (fun a h2 b k5 k5' q1 q2 hP => ?_) (fun hno => ?_) (fun a h2 b k5 hP => ?_)
              · have := nvis_le (m := m) (m' := m') hv3
                exact ih (d - 1 - 1) _ _ h (hM1 w) (hM1' w) (lx.w.2 k5).1 (lx.w.2 k5).2 (ly.w.2 k5').1 (ly.w.2 k5').2 (by omega) (by omega) hb3
              · simp only [kon, knt_some, knt_none, Option.toList_some, Option.toList_none, List.cons_append, List.nil_append]
                exact Y h (NX h w hv3 hv4 hb3 (fun _ _ q => q) (hal _))
              · obtain ⟨rfl, rfl, p1, p2, p3, p4, p5⟩ := hP
                simp only [kon, knt_some, knt_none, Option.toList_some, Option.toList_none, List.cons_append, List.nil_append]
                refine Y h2 (NX h2 (w.tr p1) (fun x y q => p2 x y (hv3 x y q)) (fun x y q => ?_) p5 p2 ⟨k5.trans k5'.symm, fun z => absurd (z.symm.trans k5) (by decide), fun _ => ⟨q1, q2, p3⟩⟩)
                rcases p4 x y q with z | z
                · rcases hv4 x y z with z | ⟨z1, z2, z3⟩
                  · exact Or.inl z
                  · exact Or.inr ⟨z1, z2, z3.mn p2⟩
                · exact Or.inr z
              · simp only [kon, knt_some, knt_none, Option.toList_some, Option.toList_none, List.cons_append, List.nil_append]
                exact Z h (NO w (fun R hR hce => hno R (((hR c e hce).2.2.2 s s0 sl).2.2 t t0 tl).2))
              · obtain ⟨rfl, rfl, p1, p2⟩ := hP
                simp only [kon, knt_some, knt_none, Option.toList_some, Option.toList_none, List.cons_append, List.nil_append]
                exact Z h2 (NO (w.tr p1) (fun R hR hce => p2 R hR ((((hR c e hce).2.2.2 s s0 sl).2.2 t t0 tl).2.2.2 k5).2.2))
            refine s276_112.mpr (s276_114.mpr ((s276_115 kM).mpr ?_))
            rw [mr_13 hR]
            refine s276_118.mpr ?_
            refine (s276_120 (hA.k (by decide) (by decide) rfl) (by first | assumption | omega) (by first | assumption | omega)).mpr ?_
            try simp (disch := first | decide | assumption | omega) only [a61, a62, b62, a63, b63, edm, edm', fAdd_id, fMul_id]
            refine s276_121.mpr (wif (fun c121 => ?_) (fun c121 => ?_))
            · first
              | (exfalso; omega)
              | skip
                refine s276_124.mpr ((s276_125 kM).mpr ?_)
                rw [mr_15 hR]
                refine s276_128.mpr (s276_129.mpr (s276_131.mpr (s276_132.mpr (s276_134.mpr ?_))))
                try simp (disch := first | decide | assumption | omega) only [a61, a62, b62, a63, b63, edm, edm', fAdd_id, fMul_id]
                refine (s276_135 (hA.k (by decide) (by decide) rfl) (by first | assumption | omega) (by first | assumption | omega)).mpr ?_
                refine s276_136.mpr ((s276_137 kM).mpr ?_)
                rw [mr_15 hR]
                refine s276_140.mpr (s276_141.mpr (s276_143.mpr (s276_144.mpr (s276_146.mpr ?_))))
                try simp (disch := first | decide | assumption | omega) only [a61, a62, b62, a63, b63, edm, edm', fAdd_id, fMul_id]
                refine (s276_147 (hA.k (by decide) (by decide) rfl) (by first | assumption | omega) (by first | assumption | omega)).mpr ?_
                try simp (disch := first | decide | assumption | omega) only [a61, a62, b62, a63, b63, edm, edm', fAdd_id, fMul_id]
                refine s276_148.mpr (wif (fun c148 => ?_) (fun c148 => ?_))
                · first
                  | (exfalso; omega)
                  | skip
                    refine s276_151.mpr (s276_152.mpr (s276_153.mpr ?_))
                    refine (s276_154 (by first | assumption | omega)).mpr ?_
                    refine s276_155.mpr ((s276_156 kM).mpr ?_)
                    rw [mr_14 hR]
                    refine s276_159.mpr (s276_160.mpr (s276_162.mpr (s276_163.mpr (s276_165.mpr ?_))))
                    try simp (disch := first | decide | assumption | omega) only [a61, a62, b62, a63, b63, edm, edm', fAdd_id, fMul_id]
                    refine (s276_166 (hA.k (by decide) (by decide) rfl) (by first | assumption | omega) (by first | assumption | omega)).mpr ?_
                    refine s276_167.mpr (s276_168.mpr ?_)
                    try simp (disch := first | decide | assumption | omega) only [a61, a62, b62, a63, b63, edm, edm', fAdd_id, fMul_id]
                    refine (s276_169 (by first | assumption | omega)).mpr ?_
                    refine s276_170.mpr ((s276_171 kM).mpr ?_)
                    rw [mr_14 hR]
                    refine s276_174.mpr (s276_175.mpr (s276_177.mpr (s276_178.mpr (s276_180.mpr ?_))))
                    try simp (disch := first | decide | assumption | omega) only [a61, a62, b62, a63, b63, edm, edm', fAdd_id, fMul_id]
                    refine (s276_181 (hA.k (by decide) (by decide) rfl) (by first | assumption | omega) (by first | assumption | omega)).mpr ?_
                    try simp (disch := first | decide | assumption | omega) only [a61, a62, b62, a63, b63, edm, edm', fAdd_id, fMul_id]
                    refine (s276_182 (by omega) kM).mpr ?_
                    exact R182
                · first
                  | (exfalso; omega)
                  | skip
                    exfalso; omega
            · first
              | (exfalso; omega)
              | skip
                exfalso; omega
        refine s276_47.mpr (s276_48.mpr ((s276_49 kM).mpr ?_))
        rw [mr_11 hR]
        refine s276_52.mpr ?_
        refine (s276_53 (hA.k (by decide) (by decide) rfl) (by first | assumption | omega) (by first | assumption | omega)).mpr ?_
        try simp (disch := first | decide | assumption | omega) only [x59, a60, a61, b60, b61, fAdd_id, fMul_id]
        refine s276_54.mpr (wif (fun c54 => ?_) (fun c54 => ?_))
        · first
          | (exfalso; omega)
          | skip
            refine s276_57.mpr (s276_59.mpr (s276_60.mpr (s276_61.mpr (s276_62.mpr (s276_63.mpr ?_)))))
            refine s276_65.mpr (s276_67.mpr (s276_68.mpr (s276_69.mpr (s276_70.mpr (s276_71.mpr ?_)))))
            refine s276_73.mpr ((s276_74 kM).mpr ?_)
            rw [mr_12 hR]
            refine s276_77.mpr ?_
            try simp (disch := first | decide | assumption | omega) only [x59, a60, a61, b60, b61, fAdd_id, fMul_id]
            refine (s276_79 (hA.k (by decide) (by decide) rfl) (by first | assumption | omega) (by first | assumption | omega)).mpr ?_
            refine s276_80.mpr ((s276_81 kM).mpr ?_)
            rw [mr_12 hR]
            refine s276_84.mpr ?_
            try simp (disch := first | decide | assumption | omega) only [x59, a60, a61, b60, b61, fAdd_id, fMul_id]
            refine (s276_86 (hA.k (by decide) (by decide) rfl) (by first | assumption | omega) (by first | assumption | omega)).mpr ?_
            try simp (disch := first | decide | assumption | omega) only [x59, a60, a61, b60, b61, fAdd_id, fMul_id]
            refine s276_87.mpr (wif (fun c87 => ?_) (fun c87 => ?_))
            · first
              | (exfalso; omega)
              | skip
                refine s276_90.mpr ((s276_91 kM).mpr ?_)
                rw [mr_13 hR]
                refine s276_94.mpr ?_
                refine (s276_96 (hA.k (by decide) (by decide) rfl) (by first | assumption | omega) (by first | assumption | omega)).mpr ?_
                refine s276_97.mpr ((s276_98 kM).mpr ?_)
                rw [mr_13 hR]
                refine s276_101.mpr ?_
                try simp (disch := first | decide | assumption | omega) only [x59, a60, a61, b60, b61, fAdd_id, fMul_id]
                refine (s276_103 (hA.k (by decide) (by decide) rfl) (by first | assumption | omega) (by first | assumption | omega)).mpr ?_
                try simp (disch := first | decide | assumption | omega) only [x59, a60, a61, b60, b61, fAdd_id, fMul_id]
                refine s276_104.mpr (wif (fun c104 => ?_) (fun c104 => ?_))
                · first
                  | (exfalso; omega)
                  | skip
                    refine s276_109.mpr (s276_110.mpr ?_)
                    exact T112 (nMs B c s).toNat 0 h (by omega) (Int.le_refl _) w hv3 hv4 hb3 hs (fun t' x0 x1 => absurd x1 (by omega))
                · first
                  | (exfalso; omega)
                  | skip
                    exfalso; omega
            · first
              | (exfalso; omega)
              | skip
                exfalso; omega
        · first
          | (exfalso; omega)
          | skip
            exfalso; omega
    have ez : (upI hi 86 (48 * (4 * m + c) + (4 * m' + e)) (fZ 1)) = h1 := by rw [hh1]; rfl
    have x59 := e59 (h := h1) FW.rf
    have x59' := e59' (h := h1) FW.rf
    by_cases hst : nSt B c = nSt B' e
    · skip
      refine s276_0.mpr ((s276_1 kM).mpr ?_)
      rw [mr_50 hR]
      refine s276_4.mpr (s276_6.mpr (s276_7.mpr (s276_8.mpr (s276_9.mpr ?_))))
      try simp (disch := first | decide | assumption | omega) only [fAdd_id, fMul_id, hv0, ez, x59, x59']
      refine (s276_10Z (hA.k (by decide) (by decide) rfl) (by first | assumption | omega) (by first | assumption | omega)).mpr ?_
      try simp (disch := first | decide | assumption | omega) only [fAdd_id, fMul_id, hv0, ez, x59, x59']
      refine s276_11.mpr (wif (fun c11 => ?_) (fun c11 => ?_))
      · first
        | (exfalso; omega)
        | skip
          refine s276_16.mpr ((s276_17 kM).mpr ?_)
          rw [mr_50 hR]
          refine s276_20.mpr (s276_22.mpr (s276_23.mpr (s276_24.mpr (s276_25.mpr (s276_26.mpr ?_)))))
          try simp (disch := first | decide | assumption | omega) only [fAdd_id, fMul_id, hv0, ez, x59, x59']
          refine (s276_27Z (hA.k (by decide) (by decide) rfl) (by first | assumption | omega) (by first | assumption | omega)).mpr ?_
          refine s276_28.mpr ((s276_29 kM).mpr ?_)
          rw [mr_11 hR]
          refine s276_32.mpr ?_
          try simp (disch := first | decide | assumption | omega) only [fAdd_id, fMul_id, hv0, ez, x59, x59']
          refine (s276_33 (hA.k (by decide) (by decide) rfl) (by first | assumption | omega) (by first | assumption | omega)).mpr ?_
          refine s276_34.mpr ((s276_35 kM).mpr ?_)
          rw [mr_11 hR]
          refine s276_38.mpr ?_
          try simp (disch := first | decide | assumption | omega) only [fAdd_id, fMul_id, hv0, ez, x59, x59']
          refine (s276_39 (hA.k (by decide) (by decide) rfl) (by first | assumption | omega) (by first | assumption | omega)).mpr ?_
          try simp (disch := first | decide | assumption | omega) only [fAdd_id, fMul_id, hv0, ez, x59, x59']
          refine s276_40.mpr (wif (fun c40 => ?_) (fun c40 => ?_))
          · first
            | (exfalso; omega)
            | skip
              refine s276_45.mpr (s276_46.mpr ?_)
              exact T47 hst (nSt B c).toNat 0 h1 _ _ _ (by omega) (Int.le_refl _) FW.rf (fun _ _ q => q) (fun x y q => Or.inl q) b1 (fun s' x0 x1 => absurd x1 (by omega))
          · first
            | (exfalso; omega)
            | skip
              exfalso; omega
      · first
        | (exfalso; omega)
        | skip
          exfalso; omega
    · have N := NO (h := h1) FW.rf (fun R hR hce => hst (hR c e hce).2.2.1)
      refine s276_0.mpr ((s276_1 kM).mpr ?_)
      rw [mr_50 hR]
      refine s276_4.mpr (s276_6.mpr (s276_7.mpr (s276_8.mpr (s276_9.mpr ?_))))
      try simp (disch := first | decide | assumption | omega) only [fAdd_id, fMul_id, hv0, ez, x59, x59']
      refine (s276_10Z (hA.k (by decide) (by decide) rfl) (by first | assumption | omega) (by first | assumption | omega)).mpr ?_
      try simp (disch := first | decide | assumption | omega) only [fAdd_id, fMul_id, hv0, ez, x59, x59']
      refine s276_11.mpr (wif (fun c11 => ?_) (fun c11 => ?_))
      · first
        | (exfalso; omega)
        | skip
          refine s276_16.mpr ((s276_17 kM).mpr ?_)
          rw [mr_50 hR]
          refine s276_20.mpr (s276_22.mpr (s276_23.mpr (s276_24.mpr (s276_25.mpr (s276_26.mpr ?_)))))
          try simp (disch := first | decide | assumption | omega) only [fAdd_id, fMul_id, hv0, ez, x59, x59']
          refine (s276_27Z (hA.k (by decide) (by decide) rfl) (by first | assumption | omega) (by first | assumption | omega)).mpr ?_
          refine s276_28.mpr ((s276_29 kM).mpr ?_)
          rw [mr_11 hR]
          refine s276_32.mpr ?_
          try simp (disch := first | decide | assumption | omega) only [fAdd_id, fMul_id, hv0, ez, x59, x59']
          refine (s276_33 (hA.k (by decide) (by decide) rfl) (by first | assumption | omega) (by first | assumption | omega)).mpr ?_
          refine s276_34.mpr ((s276_35 kM).mpr ?_)
          rw [mr_11 hR]
          refine s276_38.mpr ?_
          try simp (disch := first | decide | assumption | omega) only [fAdd_id, fMul_id, hv0, ez, x59, x59']
          refine (s276_39 (hA.k (by decide) (by decide) rfl) (by first | assumption | omega) (by first | assumption | omega)).mpr ?_
          try simp (disch := first | decide | assumption | omega) only [fAdd_id, fMul_id, hv0, ez, x59, x59']
          refine s276_40.mpr (wif (fun c40 => ?_) (fun c40 => ?_))
          · first
            | (exfalso; omega)
            | skip
              exfalso; omega
          · first
            | (exfalso; omega)
            | skip
              refine s276_43.mpr ?_
              refine (s276_44 (by first | assumption | omega)).mpr ?_
              exact N
      · first
        | (exfalso; omega)
        | skip
          exfalso; omega
end AK0
