/-! BOOT, the reference: begin, whole -/
section BR4
variable {d : Nat} {al : AL} {hi : HI} {hr : HR} {Q : QQ} {S : Int → Option (Int → Int)} {G s1 s h h' h0 sO : HI} {n c e P K : Int}
def wCp (m : Int) (a : Nat) (i : Int) : Prop := ∃ m', (0 ≤ m' ∧ m' < m) ∧ wSl (6 + m') a i
def w49 (a : Nat) (i : Int) : Prop := a = 49 ∧ 51 ≤ i ∧ i ≤ 56
def wFi (a : Nat) (_ : Int) : Prop := a = 89 ∨ a = 109 ∨ a = 112 ∨ a = 114
def wBg (a : Nat) (i : Int) : Prop := (∃ m', (0 ≤ m' ∧ m' < 6) ∧ wSl (6 + m') a i) ∨ w49 a i ∨ (87 ≤ a ∧ a ≤ 118 ∧ ¬ (101 ≤ a ∧ a ≤ 107))
theorem wSl_c {m i : Int} {a : Nat} (h : wSl m a i) : (51 ≤ a ∧ a ≤ 55) ∨ (57 ≤ a ∧ a ≤ 69) := by unfold wSl at h; omega
/-- the memory before the processes -/
def bgH (n : Int) (h : HI) : HI := upI (upI (upI (upI (upI (upI h 49 51 1) 49 52 0) 49 53 0) 49 54 0) 49 55 0) 49 56 n
theorem bgH_fw : FW w49 h (bgH n h) := by
  unfold bgH
  exact (((((FW.rf.up (by unfold w49; omega)).up (by unfold w49; omega)).up (by unfold w49; omega)).up (by unfold w49; omega)).up (by unfold w49; omega)).up (by unfold w49; omega)
theorem bgH_v : bgH n h 49 51 = 1 ∧ bgH n h 49 52 = 0 ∧ bgH n h 49 53 = 0 ∧ bgH n h 49 54 = 0 ∧ bgH n h 49 55 = 0 ∧ bgH n h 49 56 = n := by
  unfold bgH
  refine ⟨?_, ?_, ?_, ?_, ?_, upI_eq⟩ <;> (simp (disch := decide) only [upI_i, upI_eq])
def bs1 (h sO : HI) : HI := fun a i => if 51 ≤ a ∧ a ≤ 69 then h a i else sO a i
/-- the copies of the modules -/
theorem r_bgcp (hA : SA al) (hR : MR hr) (hd : 2 ≤ d) (hSh : MSh h0 S) (hsh : ∀ m, 0 ≤ m → m < 6 → h0 56 m = 0 ∨ h0 56 m = 1) (h52 : ∀ m b, S m = some b → 0 ≤ h0 52 m) (q : ∀ h', FW (wCp 6) h0 h' → (∀ m b, S m = some b → (0 ≤ m ∧ m < 6) ∧ MB h' (6 + m) b) → Wp d 279 65 [vR (some 49), vI 6, none, none] [] al h' hr Q) : ∀ (j : Nat) (m : Int) (h : HI), m + j = 6 → 0 ≤ m → FW (wCp m) h0 h → (∀ m' b, 0 ≤ m' → m' < m → S m' = some b → MB h (6 + m') b) → Wp d 279 35 [vR (some 49), vI m, none, none] [] al h hr Q := by
  have kM : isK al 49 13 := hA.k (by decide) (by decide) rfl
  have l56 := SA.len (a := 56) (n := 13) hA (by decide) (by decide) rfl
  have l109 := SA.len (a := 109) (n := 128) hA (by decide) (by decide) rfl
  have l112 := SA.len (a := 112) (n := 24) hA (by decide) (by decide) rfl
  have l114 := SA.len (a := 114) (n := 24) hA (by decide) (by decide) rfl
  have l89 := SA.len (a := 89) (n := 12) hA (by decide) (by decide) rfl
  have l77 := SA.len (a := 77) (n := 6) hA (by decide) (by decide) rfl
  have l78 := SA.len (a := 78) (n := 6) hA (by decide) (by decide) rfl
  have l79 := SA.len (a := 79) (n := 6) hA (by decide) (by decide) rfl
  have l91 := SA.len (a := 91) (n := 12) hA (by decide) (by decide) rfl
  have l64 := SA.len (a := 64) (n := 130) hA (by decide) (by decide) rfl
  have l80 := SA.len (a := 80) (n := 24) hA (by decide) (by decide) rfl
  have l65 := SA.len (a := 65) (n := 520) hA (by decide) (by decide) rfl
  have l85 := SA.len (a := 85) (n := 8) hA (by decide) (by decide) rfl
  have l83 := SA.len (a := 83) (n := 16) hA (by decide) (by decide) rfl
  have l118 := SA.len (a := 118) (n := 24) hA (by decide) (by decide) rfl
  have l82 := SA.len (a := 82) (n := 16) hA (by decide) (by decide) rfl
  have l113 := SA.len (a := 113) (n := 24) hA (by decide) (by decide) rfl
  have l84 := SA.len (a := 84) (n := 16) hA (by decide) (by decide) rfl
  intro j
  induction j with
  | zero =>
    intro m h hm m0 w hb
    have e6 : m = 6 := by omega
    subst e6
    have E := q h w (fun m b e => by
      obtain ⟨z1, z2, z3⟩ := (hSh.y e).1
      exact ⟨⟨z1, z2⟩, hb m b z1 z2 e⟩)
    refine s279_35.mpr (s279_36.mpr ?_)
    refine s279_38.mpr (wif (fun c38 => ?_) (fun c38 => ?_))
    · skip
      exfalso; omega
    · skip
      exact E
  | succ j ih =>
    intro m h hm m0 w hb
    have e56 : h 56 m = h0 56 m := w 56 m (by rintro ⟨m', -, z⟩; have := wSl_c z; omega)
    by_cases c : h0 56 m = 1
    · cases hS : S m with
      | none => exact absurd ⟨m0, by omega, c⟩ (hSh.n hS)
      | some b =>
        obtain ⟨-, hGM⟩ := hSh.y hS
        have hSS := hGM.2.1
        have l52 := h52 m b hS
        have u52 := hGM.1.2.2.1
        have x52 : h 52 m = h0 52 m := w 52 m (by rintro ⟨m', z1, z⟩; unfold wSl at z; omega)
        have M0 : MB h m b := hGM.1.mv hSS ⟨m0, by omega⟩ (sEq_of w u52 (fun a i z y => by
          obtain ⟨m', z1, z2⟩ := y
          exact wSl_dj z2 (by omega) z))
        have M1 : MB (cpH h m (6 + m)) (6 + m) b := M0.mv hSS ⟨by omega, by omega⟩ (cp_eq (by omega) (by omega) (by omega) (by omega))
        have F1 : FW (wSl (6 + m)) h (cpH h m (6 + m)) := cp_fw (by omega)
        have NX := ih (m + 1) (cpH h m (6 + m)) (by omega) (by omega) (fun a i z => by
          rw [F1 a i (fun y => z ⟨m, ⟨m0, by omega⟩, y⟩)]
          exact w a i (fun ⟨m', z1, z2⟩ => z ⟨m', ⟨z1.1, by omega⟩, z2⟩)) (fun m' b' z0 z1 z2 => by
          by_cases y : m' = m
          · subst y; rw [hS] at z2; cases z2; exact M1
          · have hb' := hb m' b' z0 (by omega) z2
            exact hb'.mv (hSh.y z2).2.2.1 ⟨by omega, by omega⟩ (sEq_of F1 hb'.2.2.1 (fun a i z => wSl_dj z (by omega))))
        refine s279_35.mpr (s279_36.mpr ?_)
        refine s279_38.mpr (wif (fun c38 => ?_) (fun c38 => ?_))
        · first
          | (exact absurd ‹(1 : Int) = 0› (by decide))
          | skip
            refine s279_41.mpr ((s279_42 kM).mpr ?_)
            rw [mr_8 hR]
            refine s279_45.mpr ?_
            refine (s279_46Z (hA.k (by decide) (by decide) rfl) (by first | assumption | omega) (by first | assumption | omega)).mpr ?_
            try simp (disch := first | decide | assumption | omega) only [kon, knt_some, knt_none, Option.toList_some, Option.toList_none, List.cons_append, List.nil_append, e56, c, fAdd_id]
            refine s279_47.mpr (wif (fun c47 => ?_) (fun c47 => ?_))
            · first
              | (exact absurd ‹(1 : Int) = 0› (by decide))
              | skip
                refine s279_59.mpr (s279_62.mpr ?_)
                try simp (disch := first | decide | assumption | omega) only [kon, knt_some, knt_none, Option.toList_some, Option.toList_none, List.cons_append, List.nil_append, e56, c, fAdd_id]
                exact NX
            · first
              | (exact absurd ‹(1 : Int) = 0› (by decide))
              | skip
                refine s279_50.mpr (s279_51.mpr (s279_52.mpr (s279_54.mpr (s279_55.mpr ?_))))
                try simp (disch := first | decide | assumption | omega) only [kon, knt_some, knt_none, Option.toList_some, Option.toList_none, List.cons_append, List.nil_append, e56, c, fAdd_id]
                refine (s279_56 (by omega) kM).mpr ?_
                refine m_copy hA hR (by omega) (by omega) (by omega) (by omega) (by omega) ?_
                simp only [kon, knt_some, knt_none, Option.toList_some, Option.toList_none, List.cons_append, List.nil_append]
                refine s279_59.mpr (s279_62.mpr ?_)
                try simp (disch := first | decide | assumption | omega) only [kon, knt_some, knt_none, Option.toList_some, Option.toList_none, List.cons_append, List.nil_append, e56, c, fAdd_id]
                exact NX
        · first
          | (exact absurd ‹(1 : Int) = 0› (by decide))
          | skip
            exfalso; omega
    · have c0 : h0 56 m = 0 := (hsh m m0 (by omega)).resolve_right c
      have NX := ih (m + 1) h (by omega) (by omega) (fun a i z => w a i (fun ⟨m', z1, z2⟩ => z ⟨m', ⟨z1.1, by omega⟩, z2⟩)) (fun m' b' z0 z1 z2 => by
        by_cases y : m' = m
        · subst y; exact absurd (hSh.y z2).1.2.2 c
        · exact hb m' b' z0 (by omega) z2)
      refine s279_35.mpr (s279_36.mpr ?_)
      refine s279_38.mpr (wif (fun c38 => ?_) (fun c38 => ?_))
      · skip
        refine s279_41.mpr ((s279_42 kM).mpr ?_)
        rw [mr_8 hR]
        refine s279_45.mpr ?_
        refine (s279_46Z (hA.k (by decide) (by decide) rfl) (by first | assumption | omega) (by first | assumption | omega)).mpr ?_
        try simp (disch := first | decide | assumption | omega) only [e56, c0, fAdd_id]
        refine s279_47.mpr (wif (fun c47 => ?_) (fun c47 => ?_))
        · skip
          refine s279_59.mpr (s279_62.mpr ?_)
          try simp (disch := first | decide | assumption | omega) only [e56, c0, fAdd_id]
          exact NX
        · skip
          exfalso; omega
      · skip
        exfalso; omega
/-- rows are filled -/
theorem r_bgfi (hA : SA al) (hR : MR hr) (q : ∀ h', FW wFi h0 h' → (∀ i, (h' 89 i = if 0 ≤ i ∧ i < 12 then 4 else h0 89 i) ∧ (h' 109 i = if 0 ≤ i ∧ i < 128 then -1 else h0 109 i) ∧ (h' 112 i = if 0 ≤ i ∧ i < 24 then -1 else h0 112 i) ∧ h' 114 i = if 0 ≤ i ∧ i < 24 then 0 else h0 114 i) → Wp d 279 138 [vR (some 49), vI 0, none, none] [] al h' hr Q) : Wp d 279 65 [vR (some 49), vI 6, none, none] [] al h0 hr Q := by
  have kM : isK al 49 13 := hA.k (by decide) (by decide) rfl
  have l56 := SA.len (a := 56) (n := 13) hA (by decide) (by decide) rfl
  have l109 := SA.len (a := 109) (n := 128) hA (by decide) (by decide) rfl
  have l112 := SA.len (a := 112) (n := 24) hA (by decide) (by decide) rfl
  have l114 := SA.len (a := 114) (n := 24) hA (by decide) (by decide) rfl
  have l89 := SA.len (a := 89) (n := 12) hA (by decide) (by decide) rfl
  have l77 := SA.len (a := 77) (n := 6) hA (by decide) (by decide) rfl
  have l78 := SA.len (a := 78) (n := 6) hA (by decide) (by decide) rfl
  have l79 := SA.len (a := 79) (n := 6) hA (by decide) (by decide) rfl
  have l91 := SA.len (a := 91) (n := 12) hA (by decide) (by decide) rfl
  have l64 := SA.len (a := 64) (n := 130) hA (by decide) (by decide) rfl
  have l80 := SA.len (a := 80) (n := 24) hA (by decide) (by decide) rfl
  have l65 := SA.len (a := 65) (n := 520) hA (by decide) (by decide) rfl
  have l85 := SA.len (a := 85) (n := 8) hA (by decide) (by decide) rfl
  have l83 := SA.len (a := 83) (n := 16) hA (by decide) (by decide) rfl
  have l118 := SA.len (a := 118) (n := 24) hA (by decide) (by decide) rfl
  have l82 := SA.len (a := 82) (n := 16) hA (by decide) (by decide) rfl
  have l113 := SA.len (a := 113) (n := 24) hA (by decide) (by decide) rfl
  have l84 := SA.len (a := 84) (n := 16) hA (by decide) (by decide) rfl
  have T117 : ∀ (j : Nat) (m : Int) (h : HI), m + j = 12 → 0 ≤ m → FW wFi h0 h → (∀ i, (h 89 i = if 0 ≤ i ∧ i < m then 4 else h0 89 i) ∧ (h 109 i = if 0 ≤ i ∧ i < 128 then -1 else h0 109 i) ∧ (h 112 i = if 0 ≤ i ∧ i < 24 then -1 else h0 112 i) ∧ h 114 i = if 0 ≤ i ∧ i < 24 then 0 else h0 114 i) → Wp d 279 117 [vR (some 49), vI m, none, none] [] al h hr Q := by
    intro j
    induction j with
    | zero =>
      intro m h hm m0 w hv
      have e6 : m = 12 := by omega
      subst e6
      have E := q h w hv
      refine s279_117.mpr (s279_118.mpr ?_)
      refine s279_120.mpr (wif (fun c120 => ?_) (fun c120 => ?_))
      · skip
        exfalso; omega
      · skip
        refine s279_136.mpr (s279_137.mpr ?_)
        exact E
    | succ j ih =>
      intro m h hm m0 w hv
      have NX := ih (m + 1) (upI h 89 m 4) (by omega) (by omega) (w.up (by unfold wFi; omega)) (fun i => by
        obtain ⟨u1, u2, u3, u4⟩ := hv i
        rw [upI_a (b := 109) (by decide), upI_a (b := 112) (by decide), upI_a (b := 114) (by decide), upI_self]
        refine ⟨?_, u2, u3, u4⟩
        by_cases z : i = m
        · rw [if_pos z, if_pos (by omega)]
        · rw [if_neg z, u1]
          by_cases y : 0 ≤ i ∧ i < m
          · rw [if_pos y, if_pos (by omega)]
          · rw [if_neg y, if_neg (by omega)])
      refine s279_117.mpr (s279_118.mpr ?_)
      refine s279_120.mpr (wif (fun c120 => ?_) (fun c120 => ?_))
      · skip
        refine s279_123.mpr ((s279_124 kM).mpr ?_)
        rw [mr_59 hR]
        refine s279_127.mpr (s279_128.mpr ?_)
        refine (s279_129 (hA.k (by decide) (by decide) rfl) (by first | assumption | omega) (by first | assumption | omega)).mpr ?_
        refine s279_130.mpr (s279_133.mpr ?_)
        try simp (disch := first | decide | assumption | omega) only [fAdd_id]
        exact NX
      · skip
        exfalso; omega
  have T89 : ∀ (j : Nat) (m : Int) (h : HI), m + j = 24 → 0 ≤ m → FW wFi h0 h → (∀ i, h 89 i = h0 89 i ∧ (h 109 i = if 0 ≤ i ∧ i < 128 then -1 else h0 109 i) ∧ (h 112 i = if 0 ≤ i ∧ i < m then -1 else h0 112 i) ∧ h 114 i = if 0 ≤ i ∧ i < m then 0 else h0 114 i) → Wp d 279 89 [vR (some 49), vI m, none, none] [] al h hr Q := by
    intro j
    induction j with
    | zero =>
      intro m h hm m0 w hv
      have e6 : m = 24 := by omega
      subst e6
      have E := T117 12 0 h (by decide) (Int.le_refl _) w (fun i => by
        obtain ⟨u1, u2, u3, u4⟩ := hv i
        exact ⟨by rw [u1, if_neg (by omega)], u2, u3, u4⟩)
      refine s279_89.mpr (s279_90.mpr ?_)
      refine s279_92.mpr (wif (fun c92 => ?_) (fun c92 => ?_))
      · skip
        exfalso; omega
      · skip
        refine s279_115.mpr (s279_116.mpr ?_)
        exact E
    | succ j ih =>
      intro m h hm m0 w hv
      have NX := ih (m + 1) (upI (upI h 112 m (-1)) 114 m 0) (by omega) (by omega) ((w.up (by unfold wFi; omega)).up (by unfold wFi; omega)) (fun i => by
        obtain ⟨u1, u2, u3, u4⟩ := hv i
        rw [upI_a (b := 89) (by decide), upI_a (b := 89) (by decide), upI_a (b := 109) (by decide), upI_a (b := 109) (by decide), upI_a (b := 112) (by decide), upI_self, upI_self, upI_a (b := 114) (by decide)]
        refine ⟨u1, u2, ?_, ?_⟩
        · by_cases z : i = m
          · rw [if_pos z, if_pos (by omega)]
          · rw [if_neg z, u3]
            by_cases y : 0 ≤ i ∧ i < m
            · rw [if_pos y, if_pos (by omega)]
            · rw [if_neg y, if_neg (by omega)]
        · by_cases z : i = m
          · rw [if_pos z, if_pos (by omega)]
          · rw [if_neg z, u4]
            by_cases y : 0 ≤ i ∧ i < m
            · rw [if_pos y, if_pos (by omega)]
            · rw [if_neg y, if_neg (by omega)])
      refine s279_89.mpr (s279_90.mpr ?_)
      refine s279_92.mpr (wif (fun c92 => ?_) (fun c92 => ?_))
      · skip
        refine s279_95.mpr ((s279_96 kM).mpr ?_)
        rw [mr_82 hR]
        refine s279_99.mpr (s279_100.mpr ?_)
        refine (s279_101 (hA.k (by decide) (by decide) rfl) (by first | assumption | omega) (by first | assumption | omega)).mpr ?_
        refine s279_102.mpr ((s279_103 kM).mpr ?_)
        rw [mr_84 hR]
        refine s279_106.mpr (s279_107.mpr ?_)
        try simp (disch := first | decide | assumption | omega) only [fAdd_id]
        refine (s279_108 (hA.k (by decide) (by decide) rfl) (by first | assumption | omega) (by first | assumption | omega)).mpr ?_
        refine s279_109.mpr (s279_112.mpr ?_)
        try simp (disch := first | decide | assumption | omega) only [fAdd_id]
        exact NX
      · skip
        exfalso; omega
  have T67 : ∀ (j : Nat) (m : Int) (h : HI), m + j = 128 → 0 ≤ m → FW wFi h0 h → (∀ i, h 89 i = h0 89 i ∧ (h 109 i = if 0 ≤ i ∧ i < m then -1 else h0 109 i) ∧ h 112 i = h0 112 i ∧ h 114 i = h0 114 i) → Wp d 279 67 [vR (some 49), vI m, none, none] [] al h hr Q := by
    intro j
    induction j with
    | zero =>
      intro m h hm m0 w hv
      have e6 : m = 128 := by omega
      subst e6
      have E := T89 24 0 h (by decide) (Int.le_refl _) w (fun i => by
        obtain ⟨u1, u2, u3, u4⟩ := hv i
        exact ⟨u1, u2, by rw [u3, if_neg (by omega)], by rw [u4, if_neg (by omega)]⟩)
      refine s279_67.mpr (s279_68.mpr ?_)
      refine s279_71.mpr (wif (fun c71 => ?_) (fun c71 => ?_))
      · skip
        exfalso; omega
      · skip
        refine s279_87.mpr (s279_88.mpr ?_)
        exact E
    | succ j ih =>
      intro m h hm m0 w hv
      have NX := ih (m + 1) (upI h 109 m (-1)) (by omega) (by omega) (w.up (by unfold wFi; omega)) (fun i => by
        obtain ⟨u1, u2, u3, u4⟩ := hv i
        rw [upI_a (b := 89) (by decide), upI_a (b := 112) (by decide), upI_a (b := 114) (by decide), upI_self]
        refine ⟨u1, ?_, u3, u4⟩
        by_cases z : i = m
        · rw [if_pos z, if_pos (by omega)]
        · rw [if_neg z, u2]
          by_cases y : 0 ≤ i ∧ i < m
          · rw [if_pos y, if_pos (by omega)]
          · rw [if_neg y, if_neg (by omega)])
      refine s279_67.mpr (s279_68.mpr ?_)
      refine s279_71.mpr (wif (fun c71 => ?_) (fun c71 => ?_))
      · skip
        refine s279_74.mpr ((s279_75 kM).mpr ?_)
        rw [mr_79 hR]
        refine s279_78.mpr (s279_79.mpr ?_)
        refine (s279_80 (hA.k (by decide) (by decide) rfl) (by first | assumption | omega) (by first | assumption | omega)).mpr ?_
        refine s279_81.mpr (s279_84.mpr ?_)
        try simp (disch := first | decide | assumption | omega) only [fAdd_id]
        exact NX
      · skip
        exfalso; omega
  have NX := T67 128 0 h0 (by decide) (Int.le_refl _) FW.rf (fun i => ⟨rfl, by rw [if_neg (by omega)], rfl, rfl⟩)
  refine s279_65.mpr (s279_66.mpr ?_)
  exact NX
end BR4
