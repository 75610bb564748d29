/-! THE CLASS'S VERIFIER: a routine -/
section EV1
variable {d : Nat} {al : AL} {hi : HI} {hr : HR} {Q : QQ} {B : Int → Int} {N : Nat} {n : Int} {f : Int} {t H C : Nat} {l : Int}
/-- what holds while a routine is verified -/
def VI (B : Int → Int) (f : Int) (t H C : Nat) (hi : HI) (A : Asg) (h : HI) : Prop := FW (wB t H C) hi h ∧ h 8 5 = 0 ∧ (h 8 6 = 0 ∨ h 8 6 = 1) ∧ (∀ q, 0 ≤ q → q < 240 → h 13 q = 0 ∨ h 13 q = 1) ∧ MC A h t H C (cLen B f) ∧ vA B A ∧ (∀ p X, 0 ≤ p → A p = some X → X.1 ≤ 16 ∧ bgn B (cAt B f) (cLen B f) p) ∧ (∃ Z, A 0 = some Z ∧ leX (0, fun _ => 0, ent B f) Z) ∧ (∀ W, Clo B f W → leA A W) ∧ (∀ p X, 0 ≤ p → A p = some X → h 13 p = 1 ∨ Acc B f A p X) ∧ ∀ p, 0 ≤ p → p < 240 → h 13 p = 1 → A p ≠ none
theorem wB_8 {i : Int} (h : i = 4 ∨ i = 5 ∨ i = 6) : wB t H C 8 i := by unfold wB wV wA; omega
theorem wB_13 {i : Int} : wB t H C 13 i := by unfold wB wA; omega
theorem wB_12 {i : Int} : wB t H C 12 i := by unfold wB wV; omega
theorem wB_n {a : Nat} {i : Int} (h1 : a ≠ 8) (h2 : a ≠ 11) (h3 : a ≠ 12) (h4 : a ≠ 13) (h5 : a ≠ H) (h6 : a ≠ C) (h7 : a ≠ t + 1 ∨ i ≠ 6) : ¬ wB t H C a i := fun q => by unfold wB wV wA at q; omega
theorem MC.u {A : Asg} {a : Nat} {i x : Int} (h : MC A hi t H C l) (h1 : a ≠ H) (h2 : a ≠ C) (h3 : a ≠ t + 1) : MC A (upI hi a i x) t H C l := h.fr (fun j => upI_a (Ne.symm h1)) (fun j => upI_a (Ne.symm h2)) (upI_a (Ne.symm h3))
set_option maxRecDepth 8000 in
theorem v_rounds {M : Nat} (h : VR al hr) (hd : 8 ≤ d) (hM : ModV al hi hr N n B M) (hT : TxV B n) (hN : hr 8 7 = some N) (hk : hr 8 8 = some (t + 1)) (hV : RV al hr t H C l) (hH : M ≤ H) (hC : M ≤ C) (hR : RoutOK al hi hr B f t) (htM : t + 2 < M) (f0 : 0 ≤ f) (f1 : f < nFn B) (hl : l = cLen B f) (hm0 : MC (fun _ => none) hi t H C l)
    (ok : ∀ A hi', LC B f A → MC A hi' t H C l → FW (wB t H C) hi hi' → Q (some (some (vI 1))) al hi' hr)
    (no : ∀ hi', (∀ W, ¬ Clo B f W) → FW (wB t H C) hi hi' → Q (some (some (vI 0))) al hi' hr) : Wp d 160 7 [vR (some 8), none, none] [] al hi hr Q := by
  have k8 := h.k8; have k11 := h.k11; have k12 := h.k12; have l11 := h.l11; have l12 := h.l12; have r1 := h.2.2.1; have r2 := h.2.2.2.1
  have k13 := h.k13
  have l13 := h.l13
  have r3 := h.2.2.2.2
  have kT := hR.1.1
  have t119 : 119 ≤ t := hV.2.2.2.2.1
  have H119 := hV.2.2.2.2.2.1
  have C119 := hV.2.2.2.2.2.2.1
  have l240 : l ≤ 240 := hV.2.2.2.2.2.2.2.2
  have hrg := hT.rg
  have hS := hT.2.1
  have hNV := hT.2.2
  obtain ⟨s1, s2, s3, s4, s5, s6, s7, s8, s9, s10, s11, s12, s13, s14⟩ := hS.2.2.2.2.2.2.2.2.2.2 f f0 f1
  have hcn : cAt B f + cLen B f ≤ 2000 := by
    have hx := (cd_end _ _ _ (by omega) (by omega) s13).2 (by omega)
    have h2 := (hT.1.1 (cAt B f + cLen B f - 1)).2
    have h3 : n ≤ 2000 := hT.1.2.2
    apply Classical.byContradiction
    intro c
    have := h2 (by omega)
    omega
  have ho : ∀ p, bgn B (cAt B f) (cLen B f) p → Opk B f p := fun p hp => opk_of hS hNV hrg f0 f1 hp
  have e4 : hi (t + 1) 4 = l := by rw [hR.2.2.2.2.2.2.1]; exact hl.symm
  have fx : ∀ {h9 : HI} {i : Int}, FW (wB t H C) hi h9 → i ≠ 6 → h9 (t + 1) i = hi (t + 1) i := fun f9 i6 => f9 _ _ (wB_n (by omega) (by omega) (by omega) (by omega) (isK_ne kT hV.2.1.2.1 (by decide)) (isK_ne kT hV.2.2.1.2.1 (by decide)) (Or.inr i6))
  -- the end
  have N181 : ∀ h9 l1 l2, FW (wB t H C) hi h9 → h9 8 5 = 1 → (∀ W, ¬ Clo B f W) → Wp d 160 181 [vR (some 8), l1, l2] [] al h9 hr Q := by
    intro h9 l1 l2 f9 e5 hno
    refine s160_181.mpr ?_
    refine (s160_182 (by first | decide | assumption | omega)).mpr ?_
    try simp (disch := first | decide | assumption | omega) only [e5]
    refine s160_185.mpr (wif (fun c185 => ?_) (fun c185 => ?_))
    · skip
      refine s160_188.mpr (s160_189.mpr ?_)
      refine (s160_193 (by first | assumption | omega)).mpr ?_
      first | exact no h9 hno f9 | (exfalso; omega)
    · skip
      refine s160_192.mpr ?_
      refine (s160_193 (by first | assumption | omega)).mpr ?_
      first | exact no h9 hno f9 | (exfalso; omega)
  have Y181 : ∀ A h9 l1 l2, VI B f t H C hi A h9 → (∀ q, 0 ≤ q → q < cLen B f → h9 13 q = 0) → Wp d 160 181 [vR (some 8), l1, l2] [] al h9 hr Q := by
    rintro A h9 l1 l2 ⟨v1, v2, v3, v4, v5, v6, v7, v8, v9, v10, v11⟩ hz
    have OKQ : Q (some (some (vI 1))) al h9 hr := ok A h9 ⟨⟨v8, fun p X p0 hX => by
      rcases v10 p X p0 hX with z | z
      · have := (v7 p X p0 hX).2.2.1
        rw [hz p p0 this] at z; cases z
      · exact z⟩, v9, v7, v6⟩ (by rw [hl]; exact v5) v1
    refine s160_181.mpr ?_
    refine (s160_182 (by first | decide | assumption | omega)).mpr ?_
    try simp (disch := first | decide | assumption | omega) only [v2]
    refine s160_185.mpr (wif (fun c185 => ?_) (fun c185 => ?_))
    · skip
      refine s160_188.mpr (s160_189.mpr ?_)
      refine (s160_193 (by first | assumption | omega)).mpr ?_
      first | exact OKQ | (exfalso; omega)
    · skip
      refine s160_192.mpr ?_
      refine (s160_193 (by first | assumption | omega)).mpr ?_
      first | exact OKQ | (exfalso; omega)
  -- something is wrong: the way out
  have N90 : ∀ h9 x l2, FW (wB t H C) hi h9 → h9 8 5 = 1 → (∀ W, ¬ Clo B f W) → Wp d 160 90 [vR (some 8), vI x, l2] [] al h9 hr Q := by
    intro h9 x l2 f9 e5 hno
    refine s160_90.mpr (s160_91.mpr ?_)
    refine s160_94.mpr (wif (fun c94 => ?_) (fun c94 => ?_))
    · skip
      refine s160_97.mpr ?_
      refine (s160_98 (by first | decide | assumption | omega)).mpr ?_
      try simp (disch := first | decide | assumption | omega) only [e5]
      refine s160_101.mpr (wif (fun c101 => ?_) (fun c101 => ?_))
      · skip
        exact N181 h9 _ _ f9 e5 hno
      · skip
        refine s160_104.mpr ?_
        refine (s160_105 (by first | decide | assumption | omega)).mpr ?_
        try simp (disch := first | decide | assumption | omega) only [e5]
        refine s160_108.mpr (wif (fun c108 => ?_) (fun c108 => ?_))
        · skip
          exfalso; omega
        · skip
          exact N181 h9 _ _ f9 e5 hno
    · skip
      exact N181 h9 _ _ f9 e5 hno
  have N118 : ∀ h9 x y, FW (wB t H C) hi h9 → h9 8 5 = 1 → (∀ W, ¬ Clo B f W) → Wp d 160 118 [vR (some 8), vI x, vI y] [] al h9 hr Q := by
    intro h9 x y f9 e5 hno
    refine s160_118.mpr (s160_119.mpr ?_)
    refine (s160_120 (by first | decide | assumption | omega)).mpr ?_
    try simp (disch := first | decide | assumption | omega) only [e5, hk]
    refine (s160_123 (by first | decide | assumption | omega)).mpr ?_
    try simp (disch := first | decide | assumption | omega) only [e5, hk]
    refine s160_126.mpr (wif (fun c126 => ?_) (fun c126 => ?_))
    · skip
      refine s160_129.mpr ?_
      refine (s160_130 (by first | decide | assumption | omega)).mpr ?_
      try simp (disch := first | decide | assumption | omega) only [e5, hk]
      refine s160_133.mpr (wif (fun c133 => ?_) (fun c133 => ?_))
      · skip
        exfalso; omega
      · skip
        refine s160_175.mpr (s160_178.mpr ?_)
        try simp (disch := first | decide | assumption | omega) only [e5, hk]
        exact N90 h9 _ _ f9 e5 hno
    · skip
      refine s160_175.mpr (s160_178.mpr ?_)
      try simp (disch := first | decide | assumption | omega) only [e5, hk]
      exact N90 h9 _ _ f9 e5 hno
  -- one round
  have T118 : ∀ (r : Int) (K : ∀ A h9 l2, VI B f t H C hi A h9 → ((h9 8 6 = 0 ∧ ∀ q, 0 ≤ q → q < cLen B f → h9 13 q = 0) ∨ (h9 8 6 = 1 ∧ r + 2 ≤ rkA A)) → Wp d 160 175 [vR (some 8), vI r, l2] [] al h9 hr Q) (hr9 : 0 ≤ r ∧ r ≤ 9000) (m : Nat) (p : Int) A h9, 0 ≤ p → p ≤ cLen B f → cLen B f - p ≤ m → VI B f t H C hi A h9 → r + 1 ≤ rkA A → ((h9 8 6 = 0 ∧ ∀ q, 0 ≤ q → q < p → h9 13 q = 0) ∨ (h9 8 6 = 1 ∧ r + 2 ≤ rkA A)) → Wp d 160 118 [vR (some 8), vI r, vI p] [] al h9 hr Q := by
    intro r K hr9 m
    induction m with
    | zero =>
      intro p A h9 p0 p1 hm hI hr1 hc
      have pe : p = cLen B f := by omega
      subst pe
      have e44 : h9 (t + 1) 4 = cLen B f := (fx hI.1 (by decide)).trans (e4.trans hl)
      have e5 := hI.2.1
      refine s160_118.mpr (s160_119.mpr ?_)
      refine (s160_120 (by first | decide | assumption | omega)).mpr ?_
      try simp (disch := first | decide | assumption | omega) only [e5, hk, e44]
      refine (s160_123 (by first | decide | assumption | omega)).mpr ?_
      try simp (disch := first | decide | assumption | omega) only [e5, hk, e44]
      refine s160_126.mpr (wif (fun c126 => ?_) (fun c126 => ?_))
      · skip
        exfalso; omega
      · skip
        exact K A h9 _ hI hc
    | succ m ih =>
      intro p A h9 p0 p1 hm hI hr1 hc
      have e44 : h9 (t + 1) 4 = cLen B f := (fx hI.1 (by decide)).trans (e4.trans hl)
      by_cases pe : p = cLen B f
      · subst pe
        have e5 := hI.2.1
        refine s160_118.mpr (s160_119.mpr ?_)
        refine (s160_120 (by first | decide | assumption | omega)).mpr ?_
        try simp (disch := first | decide | assumption | omega) only [e5, hk, e44]
        refine (s160_123 (by first | decide | assumption | omega)).mpr ?_
        try simp (disch := first | decide | assumption | omega) only [e5, hk, e44]
        refine s160_126.mpr (wif (fun c126 => ?_) (fun c126 => ?_))
        · skip
          exfalso; omega
        · skip
          exact K A h9 _ hI hc
      obtain ⟨v1, v2, v3, v4, v5, v6, v7, v8, v9, v10, v11⟩ := id hI
      rcases v4 p p0 (by omega) with z13 | z13
      · have NX : Wp d 160 118 [vR (some 8), vI r, vI (p + 1)] [] al h9 hr Q := by
          refine ih (p + 1) A h9 (by omega) (by omega) (by omega) hI hr1 ?_
          rcases hc with ⟨c1, c2⟩ | c
          · refine Or.inl ⟨c1, fun q q0 q1 => ?_⟩
            by_cases e : q = p
            · subst e; exact z13
            · exact c2 q q0 (by omega)
          · exact Or.inr c
        refine s160_118.mpr (s160_119.mpr ?_)
        refine (s160_120 (by first | decide | assumption | omega)).mpr ?_
        try simp (disch := first | decide | assumption | omega) only [v2, hk, e44, r3, z13, fAdd_id]
        refine (s160_123 (by first | decide | assumption | omega)).mpr ?_
        try simp (disch := first | decide | assumption | omega) only [v2, hk, e44, r3, z13, fAdd_id]
        refine s160_126.mpr (wif (fun c126 => ?_) (fun c126 => ?_))
        · first
          | (exfalso; omega)
          | skip
            refine s160_129.mpr ?_
            refine (s160_130 (by first | decide | assumption | omega)).mpr ?_
            try simp (disch := first | decide | assumption | omega) only [v2, hk, e44, r3, z13, fAdd_id]
            refine s160_133.mpr (wif (fun c133 => ?_) (fun c133 => ?_))
            · first
              | (exfalso; omega)
              | skip
                refine s160_136.mpr (s160_137.mpr ?_)
                refine s160_140.mpr (wif (fun c140 => ?_) (fun c140 => ?_))
                · first
                  | (exfalso; omega)
                  | skip
                    refine s160_143.mpr ?_
                    refine (s160_144 (by first | decide | assumption | omega)).mpr ?_
                    refine s160_147.mpr ?_
                    try simp (disch := first | decide | assumption | omega) only [v2, hk, e44, r3, z13, fAdd_id]
                    refine (s160_148Z (by first | decide | assumption | omega) (by first | decide | assumption | omega) (by first | decide | assumption | omega)).mpr ?_
                    try simp (disch := first | decide | assumption | omega) only [v2, hk, e44, r3, z13, fAdd_id]
                    refine s160_149.mpr (wif (fun c149 => ?_) (fun c149 => ?_))
                    · first
                      | (exfalso; omega)
                      | skip
                        refine s160_169.mpr (s160_172.mpr ?_)
                        try simp (disch := first | decide | assumption | omega) only [v2, hk, e44, r3, z13, fAdd_id]
                        exact NX
                    · first
                      | (exfalso; omega)
                      | skip
                        exfalso; omega
                · first
                  | (exfalso; omega)
                  | skip
                    refine s160_169.mpr (s160_172.mpr ?_)
                    try simp (disch := first | decide | assumption | omega) only [v2, hk, e44, r3, z13, fAdd_id]
                    exact NX
            · first
              | (exfalso; omega)
              | skip
                refine s160_175.mpr (s160_178.mpr (s160_90.mpr (s160_91.mpr ?_)))
                try simp (disch := first | decide | assumption | omega) only [v2, hk, e44, r3, z13, fAdd_id]
                refine s160_94.mpr (wif (fun c94 => ?_) (fun c94 => ?_))
                · first
                  | (exfalso; omega)
                  | skip
                    refine s160_97.mpr ?_
                    refine (s160_98 (by first | decide | assumption | omega)).mpr ?_
                    try simp (disch := first | decide | assumption | omega) only [v2, hk, e44, r3, z13, fAdd_id]
                    refine s160_101.mpr (wif (fun c101 => ?_) (fun c101 => ?_))
                    · first
                      | (exfalso; omega)
                      | skip
                        refine s160_181.mpr ?_
                        refine (s160_182 (by first | decide | assumption | omega)).mpr ?_
                        try simp (disch := first | decide | assumption | omega) only [v2, hk, e44, r3, z13, fAdd_id]
                        refine s160_185.mpr (wif (fun c185 => ?_) (fun c185 => ?_))
                        · first
                          | (exfalso; omega)
                          | skip
                            refine s160_188.mpr (s160_189.mpr ?_)
                            refine (s160_193 (by first | assumption | omega)).mpr ?_
                            exfalso; omega
                        · first
                          | (exfalso; omega)
                          | skip
                            refine s160_192.mpr ?_
                            refine (s160_193 (by first | assumption | omega)).mpr ?_
                            exfalso; omega
                    · first
                      | (exfalso; omega)
                      | skip
                        refine s160_104.mpr ?_
                        refine (s160_105 (by first | decide | assumption | omega)).mpr ?_
                        try simp (disch := first | decide | assumption | omega) only [v2, hk, e44, r3, z13, fAdd_id]
                        refine s160_108.mpr (wif (fun c108 => ?_) (fun c108 => ?_))
                        · first
                          | (exfalso; omega)
                          | skip
                            refine s160_111.mpr (s160_112.mpr ?_)
                            refine (s160_113 (by first | decide | assumption | omega) (by first | decide | assumption | omega)).mpr ?_
                            refine s160_116.mpr (s160_117.mpr ?_)
                            exact NX
                        · first
                          | (exfalso; omega)
                          | skip
                            refine s160_181.mpr ?_
                            refine (s160_182 (by first | decide | assumption | omega)).mpr ?_
                            try simp (disch := first | decide | assumption | omega) only [v2, hk, e44, r3, z13, fAdd_id]
                            refine s160_185.mpr (wif (fun c185 => ?_) (fun c185 => ?_))
                            · first
                              | (exfalso; omega)
                              | skip
                                refine s160_188.mpr (s160_189.mpr ?_)
                                refine (s160_193 (by first | assumption | omega)).mpr ?_
                                exfalso; omega
                            · first
                              | (exfalso; omega)
                              | skip
                                refine s160_192.mpr ?_
                                refine (s160_193 (by first | assumption | omega)).mpr ?_
                                exfalso; omega
                · first
                  | (exfalso; omega)
                  | skip
                    refine s160_181.mpr ?_
                    refine (s160_182 (by first | decide | assumption | omega)).mpr ?_
                    try simp (disch := first | decide | assumption | omega) only [v2, hk, e44, r3, z13, fAdd_id]
                    refine s160_185.mpr (wif (fun c185 => ?_) (fun c185 => ?_))
                    · first
                      | (exfalso; omega)
                      | skip
                        refine s160_188.mpr (s160_189.mpr ?_)
                        refine (s160_193 (by first | assumption | omega)).mpr ?_
                        exfalso; omega
                    · first
                      | (exfalso; omega)
                      | skip
                        refine s160_192.mpr ?_
                        refine (s160_193 (by first | assumption | omega)).mpr ?_
                        exfalso; omega
        · first
          | (exfalso; omega)
          | skip
            refine s160_175.mpr (s160_178.mpr (s160_90.mpr (s160_91.mpr ?_)))
            try simp (disch := first | decide | assumption | omega) only [v2, hk, e44, r3, z13, fAdd_id]
            refine s160_94.mpr (wif (fun c94 => ?_) (fun c94 => ?_))
            · first
              | (exfalso; omega)
              | skip
                refine s160_97.mpr ?_
                refine (s160_98 (by first | decide | assumption | omega)).mpr ?_
                try simp (disch := first | decide | assumption | omega) only [v2, hk, e44, r3, z13, fAdd_id]
                refine s160_101.mpr (wif (fun c101 => ?_) (fun c101 => ?_))
                · first
                  | (exfalso; omega)
                  | skip
                    refine s160_181.mpr ?_
                    refine (s160_182 (by first | decide | assumption | omega)).mpr ?_
                    try simp (disch := first | decide | assumption | omega) only [v2, hk, e44, r3, z13, fAdd_id]
                    refine s160_185.mpr (wif (fun c185 => ?_) (fun c185 => ?_))
                    · first
                      | (exfalso; omega)
                      | skip
                        refine s160_188.mpr (s160_189.mpr ?_)
                        refine (s160_193 (by first | assumption | omega)).mpr ?_
                        exfalso; omega
                    · first
                      | (exfalso; omega)
                      | skip
                        refine s160_192.mpr ?_
                        refine (s160_193 (by first | assumption | omega)).mpr ?_
                        exfalso; omega
                · first
                  | (exfalso; omega)
                  | skip
                    refine s160_104.mpr ?_
                    refine (s160_105 (by first | decide | assumption | omega)).mpr ?_
                    try simp (disch := first | decide | assumption | omega) only [v2, hk, e44, r3, z13, fAdd_id]
                    refine s160_108.mpr (wif (fun c108 => ?_) (fun c108 => ?_))
                    · first
                      | (exfalso; omega)
                      | skip
                        refine s160_111.mpr (s160_112.mpr ?_)
                        refine (s160_113 (by first | decide | assumption | omega) (by first | decide | assumption | omega)).mpr ?_
                        refine s160_116.mpr (s160_117.mpr ?_)
                        exact NX
                    · first
                      | (exfalso; omega)
                      | skip
                        refine s160_181.mpr ?_
                        refine (s160_182 (by first | decide | assumption | omega)).mpr ?_
                        try simp (disch := first | decide | assumption | omega) only [v2, hk, e44, r3, z13, fAdd_id]
                        refine s160_185.mpr (wif (fun c185 => ?_) (fun c185 => ?_))
                        · first
                          | (exfalso; omega)
                          | skip
                            refine s160_188.mpr (s160_189.mpr ?_)
                            refine (s160_193 (by first | assumption | omega)).mpr ?_
                            exfalso; omega
                        · first
                          | (exfalso; omega)
                          | skip
                            refine s160_192.mpr ?_
                            refine (s160_193 (by first | assumption | omega)).mpr ?_
                            exfalso; omega
            · first
              | (exfalso; omega)
              | skip
                refine s160_181.mpr ?_
                refine (s160_182 (by first | decide | assumption | omega)).mpr ?_
                try simp (disch := first | decide | assumption | omega) only [v2, hk, e44, r3, z13, fAdd_id]
                refine s160_185.mpr (wif (fun c185 => ?_) (fun c185 => ?_))
                · first
                  | (exfalso; omega)
                  | skip
                    refine s160_188.mpr (s160_189.mpr ?_)
                    refine (s160_193 (by first | assumption | omega)).mpr ?_
                    exfalso; omega
                · first
                  | (exfalso; omega)
                  | skip
                    refine s160_192.mpr ?_
                    refine (s160_193 (by first | assumption | omega)).mpr ?_
                    exfalso; omega
      · obtain ⟨X, hX⟩ : ∃ X, A p = some X := by
          cases e : A p with
          | none => exact absurd e (v11 p p0 (by omega) z13)
          | some X => exact ⟨X, rfl⟩
        have hbg := (v7 p X p0 hX).2
        have hI9 := (hNV.2.2 f f0 f1).2.2 p hbg
        have hop := ho p hbg
        have hvX := v6 p X p0 hX
        let h1 := upI h9 13 p 0
        have g1 : FW (wB t H C) hi h1 := v1.up wB_13
        have m1 : MC A h1 t H C (cLen B f) := v5.u (by omega) (by omega) (by omega)
        have e51 : h1 8 5 = 0 := by show upI _ _ _ _ _ _ = _; rw [upI_a (by decide)]; exact v2
        have e61 : h1 8 6 = h9 8 6 := upI_a (by decide)
        have W161 : Ev (d - 1) 161 [vR (some 8), vI p] al h1 hr (kon d 160 161 164 [vR (some 8), vI r, vI p] [] Q) := by
          refine v_takeUp h (by rw [← hl]; exact hV) hk (by omega) p0 (by omega) e51 m1 hX (fun h2 s2 g2 => ?_)
          simp only [kon, knt_some, knt_none, Option.toList_some, Option.toList_none, List.cons_append, List.nil_append]
          have gg : FW (wB t H C) hi h2 := g1.tr (wB_v g2)
          have m2 : MC A h2 t H C l := by rw [hl]; exact m1.wv (by rw [← hl]; exact hV) g2
          have e62 : h2 8 6 = h9 8 6 := (g2 8 6 (fun q => by unfold wV at q; omega)).trans e61
          have e13 : ∀ q, h2 13 q = if q = p then 0 else h9 13 q := fun q => by
            rw [g2 13 q (wV_a (by decide))]
            show upI h9 13 p 0 13 q = _
            rw [upI_self]
          refine s160_164.mpr (s160_165.mpr ?_)
          refine (s160_166 (by omega) k8).mpr ?_
          refine v_follow h (by omega) (hM.wb hV hH hC gg) hT hN hk hV hH hC (hR.wb t119 htM hV hH hC gg) htM f0 f1 hl (by omega) (by omega) hI9.1 hI9.2 hop s2 hvX m2 v6 (fun fl A' h3 y1 y2 y3 y4 y5 y6 => ?_) (fun h3 y1 y2 y3 => ?_)
          · simp only [kon, knt_some, knt_none, Option.toList_some, Option.toList_none, List.cons_append, List.nil_append]
            have hfl := hop.2.2 X fl hvX y1
            have hle := fl_le fl _ _ (hl ▸ y2)
            have hI' : VI B f t H C hi A' h3 := by
              refine ⟨gg.tr y5, y3, ?_, fun q q0 q1 => ?_, by rw [← hl]; exact y4, fl_v fl _ _ y2 hfl v6, ?_, ?_, fun W hW => ?_, fun q X' q0 hX' => ?_, fun q q0 q1 hq => ?_⟩
              · rcases y6.2.1 with ⟨z, -⟩ | ⟨z, -⟩
                · rw [z, e62]; exact v3
                · exact Or.inr z
              · rcases y6.1 q with z | ⟨z, -⟩
                · exact Or.inr z
                · rw [z, e13]
                  by_cases e : q = p
                  · rw [if_pos e]; exact Or.inl rfl
                  · rw [if_neg e]; exact v4 q q0 q1
              · exact fl_P (P := bgn B (cAt B f) (cLen B f)) fl _ _ (hl ▸ y2) (ts_bgn hrg hNV f0 f1 hbg y1) v7
              · obtain ⟨Z, z1, z2⟩ := v8
                obtain ⟨Z', z3, z4⟩ := hle 0 Z (by omega) z1
                exact ⟨Z', z3, z2.tr z4⟩
              · obtain ⟨fl', w1, -, w2⟩ := step_lub hop p0 v6 hX hW (v9 W hW)
                rw [y1] at w1; cases w1
                exact w2 _ (hl ▸ y2)
              · rcases y6.1 q with z | ⟨z, zA⟩
                · exact Or.inl z
                · rw [zA] at hX'
                  by_cases e : q = p
                  · subst e
                    rw [hX] at hX'; cases hX'
                    exact Or.inr (step_acc hop hvX y1 (hl ▸ y2))
                  · rcases v10 q X' q0 hX' with w | w
                    · exact Or.inl (by rw [z, e13, if_neg e]; exact w)
                    · exact Or.inr (acc_le hle (ho q (v7 q X' q0 hX').2) (v6 q X' q0 hX') w)
              · rcases y6.2.2.2 q q0 hq with z | z
                · rw [e13] at z
                  by_cases e : q = p
                  · rw [if_pos e] at z; cases z
                  · rw [if_neg e] at z
                    exact y6.2.2.1 q q0 (v11 q q0 q1 z)
                · exact z
            have hrk := rkA_le v6 hle
            have NX : Wp d 160 118 [vR (some 8), vI r, vI (p + 1)] [] al h3 hr Q := by
              refine ih (p + 1) A' h3 (by omega) (by omega) (by omega) hI' (by omega) ?_
              rcases y6.2.1 with ⟨z, rfl, z3⟩ | ⟨z, z2⟩
              · rcases hc with ⟨c1, c2⟩ | ⟨c1, c2⟩
                · refine Or.inl ⟨by rw [z, e62]; exact c1, fun q q0 q1 => ?_⟩
                  rw [z3, e13]
                  by_cases e : q = p
                  · rw [if_pos e]
                  · rw [if_neg e]; exact c2 q q0 (by omega)
                · exact Or.inr ⟨by rw [z, e62]; exact c1, c2⟩
              · exact Or.inr ⟨z, by omega⟩
            refine s160_169.mpr (s160_172.mpr ?_)
            try simp (disch := first | decide | assumption | omega) only [fAdd_id]
            exact NX
          · simp only [kon, knt_some, knt_none, Option.toList_some, Option.toList_none, List.cons_append, List.nil_append]
            have hno : ∀ W, ¬ Clo B f W := by
              intro W hW
              obtain ⟨fl', w1, w2, -⟩ := step_lub hop p0 v6 hX hW (v9 W hW)
              rcases y1 with e | ⟨fl, e, e2⟩
              · rw [w1] at e; cases e
              · rw [w1] at e; cases e; exact w2 (hl ▸ e2)
            refine s160_169.mpr (s160_172.mpr ?_)
            try simp (disch := first | decide | assumption | omega) only [fAdd_id]
            exact N118 h3 _ _ (gg.tr y3) y2.1 hno
        refine s160_118.mpr (s160_119.mpr ?_)
        refine (s160_120 (by first | decide | assumption | omega)).mpr ?_
        try simp (disch := first | decide | assumption | omega) only [v2, hk, e44, r3, z13, fAdd_id]
        refine (s160_123 (by first | decide | assumption | omega)).mpr ?_
        try simp (disch := first | decide | assumption | omega) only [v2, hk, e44, r3, z13, fAdd_id]
        refine s160_126.mpr (wif (fun c126 => ?_) (fun c126 => ?_))
        · first
          | (exfalso; omega)
          | skip
            refine s160_129.mpr ?_
            refine (s160_130 (by first | decide | assumption | omega)).mpr ?_
            try simp (disch := first | decide | assumption | omega) only [v2, hk, e44, r3, z13, fAdd_id]
            refine s160_133.mpr (wif (fun c133 => ?_) (fun c133 => ?_))
            · first
              | (exfalso; omega)
              | skip
                refine s160_136.mpr (s160_137.mpr ?_)
                refine s160_140.mpr (wif (fun c140 => ?_) (fun c140 => ?_))
                · first
                  | (exfalso; omega)
                  | skip
                    refine s160_143.mpr ?_
                    refine (s160_144 (by first | decide | assumption | omega)).mpr ?_
                    refine s160_147.mpr ?_
                    try simp (disch := first | decide | assumption | omega) only [v2, hk, e44, r3, z13, fAdd_id]
                    refine (s160_148Z (by first | decide | assumption | omega) (by first | decide | assumption | omega) (by first | decide | assumption | omega)).mpr ?_
                    try simp (disch := first | decide | assumption | omega) only [v2, hk, e44, r3, z13, fAdd_id]
                    refine s160_149.mpr (wif (fun c149 => ?_) (fun c149 => ?_))
                    · first
                      | (exfalso; omega)
                      | skip
                        exfalso; omega
                    · first
                      | (exfalso; omega)
                      | skip
                        refine s160_152.mpr ?_
                        refine (s160_153 (by first | decide | assumption | omega)).mpr ?_
                        refine s160_156.mpr (s160_157.mpr ?_)
                        try simp (disch := first | decide | assumption | omega) only [v2, hk, e44, r3, z13, fAdd_id]
                        refine (s160_158Z (by first | decide | assumption | omega) (by first | decide | assumption | omega) (by first | decide | assumption | omega)).mpr ?_
                        refine s160_159.mpr (s160_160.mpr ?_)
                        try simp (disch := first | decide | assumption | omega) only [v2, hk, e44, r3, z13, fAdd_id]
                        refine (s160_161 (by first | decide | assumption | omega) (by first | decide | assumption | omega)).mpr ?_
                        exact W161
                · first
                  | (exfalso; omega)
                  | skip
                    exfalso; omega
            · first
              | (exfalso; omega)
              | skip
                exfalso; omega
        · first
          | (exfalso; omega)
          | skip
            exfalso; omega
  -- the rounds
  have T90 : ∀ (m : Nat) (r : Int) A h9 l2, 0 ≤ r → r + m = 9000 → VI B f t H C hi A h9 → (h9 8 6 = 0 ∧ (∀ q, 0 ≤ q → q < cLen B f → h9 13 q = 0) ∧ r ≤ 8900 ∨ (h9 8 6 = 1 ∧ r + 1 ≤ rkA A)) → Wp d 160 90 [vR (some 8), vI r, l2] [] al h9 hr Q := by
    intro m
    induction m with
    | zero =>
      intro r A h9 l2 r0 hm hI hc
      exfalso
      have := rkA_ub (A := A) (fun p X hp hX => (hI.2.2.2.2.2.2.1 p X hp hX).1)
      rcases hc with ⟨-, -, c⟩ | ⟨-, c⟩ <;> omega
    | succ m ih =>
      intro r A h9 l2 r0 hm hI hc
      have e5 := hI.2.1
      have hub := rkA_ub (A := A) (fun p X hp hX => (hI.2.2.2.2.2.2.1 p X hp hX).1)
      rcases hc with ⟨c1, c2, c3⟩ | ⟨c1, c2⟩
      · skip
        refine s160_90.mpr (s160_91.mpr ?_)
        refine s160_94.mpr (wif (fun c94 => ?_) (fun c94 => ?_))
        · first
          | (exfalso; omega)
          | skip
            refine s160_97.mpr ?_
            refine (s160_98 (by first | decide | assumption | omega)).mpr ?_
            try simp (disch := first | decide | assumption | omega) only [e5, c1]
            refine s160_101.mpr (wif (fun c101 => ?_) (fun c101 => ?_))
            · first
              | (exfalso; omega)
              | skip
                exact Y181 A h9 _ _ hI c2
            · first
              | (exfalso; omega)
              | skip
                exfalso; omega
        · first
          | (exfalso; omega)
          | skip
            exact Y181 A h9 _ _ hI c2
      · have hI' : VI B f t H C hi A (upI h9 8 6 0) := by
          obtain ⟨v1, v2, v3, v4, v5, v6, v7, v8, v9, v10, v11⟩ := id hI
          have u13 : ∀ q, (upI h9 8 6 0) 13 q = h9 13 q := fun q => upI_a (by decide)
          exact ⟨v1.up (wB_8 (by decide)), by rw [upI_i (by decide)]; exact v2, Or.inl upI_eq, fun q q0 q1 => by rw [u13]; exact v4 q q0 q1, v5.u (by omega) (by omega) (by omega), v6, v7, v8, v9, fun p X p0 hX => by rw [u13]; exact v10 p X p0 hX, fun p p0 p1 hp => v11 p p0 p1 (by rw [← u13]; exact hp)⟩
        have K : ∀ A h9 l2, VI B f t H C hi A h9 → ((h9 8 6 = 0 ∧ ∀ q, 0 ≤ q → q < cLen B f → h9 13 q = 0) ∨ (h9 8 6 = 1 ∧ r + 2 ≤ rkA A)) → Wp d 160 175 [vR (some 8), vI r, l2] [] al h9 hr Q := by
          intro A2 h2 l2 hI2 hc2
          have NX : Wp d 160 90 [vR (some 8), vI (r + 1), l2] [] al h2 hr Q := by
            refine ih (r + 1) A2 h2 _ (by omega) (by omega) hI2 ?_
            rcases hc2 with ⟨c1, c2⟩ | ⟨c1, c2⟩
            · exact Or.inl ⟨c1, c2, by omega⟩
            · exact Or.inr ⟨c1, by omega⟩
          refine s160_175.mpr (s160_178.mpr ?_)
          try simp (disch := first | decide | assumption | omega) only [fAdd_id]
          exact NX
        refine s160_90.mpr (s160_91.mpr ?_)
        refine s160_94.mpr (wif (fun c94 => ?_) (fun c94 => ?_))
        · first
          | (exfalso; omega)
          | skip
            refine s160_97.mpr ?_
            refine (s160_98 (by first | decide | assumption | omega)).mpr ?_
            try simp (disch := first | decide | assumption | omega) only [e5, c1]
            refine s160_101.mpr (wif (fun c101 => ?_) (fun c101 => ?_))
            · first
              | (exfalso; omega)
              | skip
                exfalso; omega
            · first
              | (exfalso; omega)
              | skip
                refine s160_104.mpr ?_
                refine (s160_105 (by first | decide | assumption | omega)).mpr ?_
                try simp (disch := first | decide | assumption | omega) only [e5, c1]
                refine s160_108.mpr (wif (fun c108 => ?_) (fun c108 => ?_))
                · first
                  | (exfalso; omega)
                  | skip
                    refine s160_111.mpr (s160_112.mpr ?_)
                    refine (s160_113 (by first | decide | assumption | omega) (by first | decide | assumption | omega)).mpr ?_
                    refine s160_116.mpr (s160_117.mpr ?_)
                    exact T118 r K (by omega) (cLen B f).toNat 0 A _ (by omega) (by omega) (by omega) hI' c2 (Or.inl ⟨upI_eq, fun q q0 q1 => absurd q1 (by omega)⟩)
                · first
                  | (exfalso; omega)
                  | skip
                    exfalso; omega
        · first
          | (exfalso; omega)
          | skip
            exfalso; omega
  -- the entry's types
  have T83 : ∀ h9 l1 l2, FW (wB t H C) hi h9 → h9 8 5 = 0 → h9 8 4 = 0 → (∀ q, 0 ≤ q → q < 240 → h9 13 q = 0) → (∀ k, 0 ≤ k → k < 10 → h9 12 k = cv (ent B f k)) → MC (fun _ => none) h9 t H C l → Wp d 160 83 [vR (some 8), l1, l2] [] al h9 hr Q := by
    intro h9 l1 l2 g9 e5 e4 h13 h12 m9
    have hvE : vX B (0, fun _ => 0, ent B f) := ⟨Int.le_refl _, fun k a b => absurd b (by show ¬ k < 0; omega), fun k a b => by
      show vT B (ent B f k)
      unfold ent
      split
      · exact ((hNV.2.2 f f0 f1).1 k a (by assumption)).1
      · exact vT_of (by omega)⟩
    have hvA : vA B (fun _ => none) := fun p X hp hX => by cases hX
    have hs : VS (some (0, fun _ => 0, ent B f)) h9 := ⟨e5, e4, Int.le_refl _, by show (0 : Int) ≤ 16; decide, fun k a b => absurd b (by show ¬ k < 0; omega), h12⟩
    have R1 : Ev (d - 1) 162 [vR (some 8), vI 0] al h9 hr (kon d 160 85 88 [vR (some 8), l1, l2] [] Q) := by
      refine v_arrive h hV hk ((fx g9 (by decide)).trans ‹_›) (by omega) (by omega) (by omega) hs m9 hvE hvA (fun A2 h6 y1 y2 y3 y4 y5 y6 => ?_) (fun h6 y1 y2 y3 => ?_)
      · simp only [kon, knt_some, knt_none, Option.toList_some, Option.toList_none, List.cons_append, List.nil_append]
        have hF := FS.of hvA y2 (Int.le_refl _) (by omega) y6
        have c86 : h6 8 6 = 1 ∧ (0 : Int) + 1 ≤ rkA A2 := by
          have hlt := arr_rk hvA y2 (Int.le_refl _) (by omega) (Or.inl rfl)
          rcases hF.2.1 with ⟨-, z, -⟩ | ⟨z, z2⟩
          · rw [z] at hlt; omega
          · exact ⟨z, by omega⟩
        have hI : VI B f t H C hi A2 h6 := by
          refine ⟨g9.tr (wB_a y5), y3.1, Or.inr c86.1, fun q q0 q1 => ?_, by rw [← hl]; exact y4, arr_v y2 hvA (Int.le_refl _) hvE, ?_, ?_, fun W hW => ?_, fun p X p0 hX => ?_, fun p p0 p1 hp => ?_⟩
          · rcases hF.1 q with z | ⟨z, -⟩
            · exact Or.inr z
            · rw [z]; exact Or.inl (h13 q q0 q1)
          · exact fl_P (P := bgn B (cAt B f) (cLen B f)) (n := cLen B f) [(0, (0, fun _ => 0, ent B f))] (fun _ => none) A2 ⟨by show (0 : Int) < _; omega, by show (0 : Int) ≤ 16; decide, A2, y2, fun _ _ => rfl⟩ (fun q hq _ => by rw [List.mem_singleton] at hq; subst hq; exact bgn_0 (by omega)) (fun p X _ hX => by cases hX)
          · obtain ⟨Z, z1, z2⟩ := arr_at y2
            exact ⟨Z, z1, z2⟩
          · obtain ⟨Z, z1, z2⟩ := hW.1
            exact arr_lub y2 hvA (Int.le_refl _) (fun p X hp hX => by cases hX) z1 z2
          · by_cases e : p = 0
            · subst e
              rcases hF.1 0 with z | ⟨-, z⟩
              · exact Or.inl z
              · rw [z] at hX; cases hX
            · rw [y2.1 p p0 e] at hX; cases hX
          · rcases hF.2.2.2 p p0 hp with z | z
            · rw [h13 p p0 p1] at z; cases z
            · exact z
        have NX : ∀ l2, Wp d 160 90 [vR (some 8), vI 0, l2] [] al h6 hr Q := fun l2 => T90 9000 0 A2 h6 l2 (by omega) (by omega) hI (Or.inr c86)
        refine s160_88.mpr (s160_89.mpr ?_)
        exact NX _
      · exfalso
        rcases y1 with z | ⟨Y, z, -⟩
        · omega
        · cases z
    refine s160_83.mpr (s160_84.mpr ?_)
    refine (s160_85 (by first | decide | assumption | omega) (by first | decide | assumption | omega)).mpr ?_
    exact R1
  have fz : ∀ {h9 : HI}, FW (wB t H C) hi h9 → h9 (t + 1) 0 = nPar B f := fun g9 => (fx g9 (by decide)).trans hR.2.2.2.1
  have T39 : ∀ h9 l1, FW (wB t H C) hi h9 → h9 8 5 = 0 → h9 8 4 = 0 → (∀ q, 0 ≤ q → q < 240 → h9 13 q = 0) → MC (fun _ => none) h9 t H C l → Wp d 160 39 [vR (some 8), l1, none] [] al h9 hr Q := by
    intro h9 l1 g9 e5 e4 h13 m9
    have T41 : Wp d 160 41 [vR (some 8), vI 0, none] [] al h9 hr Q := by
      refine wp_cnt (N := 10) (fun k ls h3 => ls = [vR (some 8), vI k, none] ∧ FW (wB t H C) hi h3 ∧ h3 8 5 = 0 ∧ h3 8 4 = 0 ∧ (∀ q, 0 ≤ q → q < 240 → h3 13 q = 0) ∧ (∀ j : Int, 0 ≤ j → j < k → h3 12 j = cv (ent B f j)) ∧ MC (fun _ => none) h3 t H C l) ?_ ?_ _ _ ⟨rfl, g9, e5, e4, h13, fun j a b => absurd b (by omega), m9⟩
      · rintro k ls h3 hk9 ⟨rfl, w3, a5, a4, a13, a12, am⟩ nx
        have e0 := fz w3
        have hR3 := hR.wb t119 htM hV hH hC w3
        have fin : ∀ x, x = cv (ent B f k) → Wp d 160 41 [vR (some 8), vI ((k : Int) + 1), none] [] al (upI h3 12 k x) hr Q := by
          intro x hx
          refine nx _ _ ⟨by rw [cast1], w3.up wB_12, by (try simp (disch := decide) only [upI_eq, upI_a, upI_i, upR_eq, upR_a, upR_i]); exact a5, by (try simp (disch := decide) only [upI_eq, upI_a, upI_i, upR_eq, upR_a, upR_i]); exact a4, fun q q0 q1 => by rw [upI_a (by decide)]; exact a13 q q0 q1, fun j a b => ?_, am.u (by omega) (by omega) (by omega)⟩
          by_cases e : j = k
          · subst e; rw [upI_eq]; exact hx
          · rw [upI_i e]; exact a12 j a (by omega)
        refine s160_41.mpr (s160_42.mpr ?_)
        refine s160_44.mpr (wif (fun c44 => ?_) (fun c44 => ?_))
        · first
          | (exfalso; omega)
          | skip
            refine s160_47.mpr ?_
            refine (s160_48 (by first | decide | assumption | omega)).mpr ?_
            refine s160_51.mpr (s160_52.mpr (s160_53.mpr ?_))
            try simp (disch := first | decide | assumption | omega) only [kon, knt_some, knt_none, Option.toList_some, Option.toList_none, List.cons_append, List.nil_append, hk, r2, e0, fAdd_id]
            refine (s160_54 (by first | decide | assumption | omega)).mpr ?_
            try simp (disch := first | decide | assumption | omega) only [kon, knt_some, knt_none, Option.toList_some, Option.toList_none, List.cons_append, List.nil_append, hk, r2, e0, fAdd_id]
            refine (s160_57 (by first | decide | assumption | omega)).mpr ?_
            try simp (disch := first | decide | assumption | omega) only [kon, knt_some, knt_none, Option.toList_some, Option.toList_none, List.cons_append, List.nil_append, hk, r2, e0, fAdd_id]
            refine s160_60.mpr (wif (fun c60 => ?_) (fun c60 => ?_))
            · first
              | (exfalso; omega)
              | skip
                refine s160_63.mpr ?_
                refine (s160_64 (by first | decide | assumption | omega)).mpr ?_
                refine s160_67.mpr ?_
                try simp (disch := first | decide | assumption | omega) only [kon, knt_some, knt_none, Option.toList_some, Option.toList_none, List.cons_append, List.nil_append, hk, r2, e0, fAdd_id]
                refine (s160_68 (by first | decide | assumption | omega) (by first | decide | assumption | omega)).mpr ?_
                refine r_typeOfParameter hR3.1 ?_
                simp only [kon, knt_some, knt_none, Option.toList_some, Option.toList_none, List.cons_append, List.nil_append, hR3.par (k := k) hT f0 f1 (by omega) (by omega)]
                refine s160_71.mpr ?_
                refine (s160_76 (by first | decide | assumption | omega) (by first | decide | assumption | omega) (by first | decide | assumption | omega)).mpr ?_
                refine s160_77.mpr (s160_80.mpr ?_)
                try simp (disch := first | decide | assumption | omega) only [kon, knt_some, knt_none, Option.toList_some, Option.toList_none, List.cons_append, List.nil_append, hk, r2, e0, fAdd_id]
                refine fin _ (by unfold ent; first | rw [if_pos (by assumption)] | (rw [if_neg (by assumption)]; rfl))
            · first
              | (exfalso; omega)
              | skip
                refine s160_74.mpr ?_
                refine (s160_76 (by first | decide | assumption | omega) (by first | decide | assumption | omega) (by first | decide | assumption | omega)).mpr ?_
                refine s160_77.mpr (s160_80.mpr ?_)
                try simp (disch := first | decide | assumption | omega) only [kon, knt_some, knt_none, Option.toList_some, Option.toList_none, List.cons_append, List.nil_append, hk, r2, e0, fAdd_id]
                refine fin _ (by unfold ent; first | rw [if_pos (by assumption)] | (rw [if_neg (by assumption)]; rfl))
        · first
          | (exfalso; omega)
          | skip
            exfalso; omega
      · rintro ls h3 ⟨rfl, w3, a5, a4, a13, a12, am⟩
        refine s160_41.mpr (s160_42.mpr ?_)
        refine s160_44.mpr (wif (fun c44 => ?_) (fun c44 => ?_))
        · skip
          exfalso; omega
        · skip
          exact T83 h3 _ _ w3 a5 a4 a13 (fun k k0 k1 => a12 k k0 (by omega)) am
    refine s160_39.mpr (s160_40.mpr ?_)
    exact T41
  have T19 : ∀ h9, FW (wB t H C) hi h9 → h9 8 5 = 0 → h9 8 4 = 0 → MC (fun _ => none) h9 t H C l → Wp d 160 19 [vR (some 8), vI 0, none] [] al h9 hr Q := by
    intro h9 g9 e5 e4 m9
    obtain ⟨N2, hN9⟩ : ∃ N2 : Nat, (N2 : Int) = 240 := ⟨240, rfl⟩
    refine wp_cnt (N := N2) (fun k ls h3 => ls = [vR (some 8), vI k, none] ∧ FW (wB t H C) hi h3 ∧ h3 8 5 = 0 ∧ h3 8 4 = 0 ∧ (∀ q : Int, 0 ≤ q → q < k → h3 13 q = 0) ∧ MC (fun _ => none) h3 t H C l) ?_ ?_ _ _ ⟨rfl, g9, e5, e4, fun j a b => absurd b (by omega), m9⟩
    · rintro k ls h3 hk9 ⟨rfl, w3, a5, a4, a13, am⟩ nx
      refine s160_19.mpr (s160_20.mpr ?_)
      refine s160_23.mpr (wif2 (fun c23 => ?_) (fun c23 => ?_))
      · skip
        refine s160_26.mpr ?_
        refine (s160_27 (by first | decide | assumption | omega)).mpr ?_
        refine s160_30.mpr (s160_31.mpr ?_)
        try simp (disch := first | decide | assumption | omega) only [r3, fAdd_id]
        refine (s160_32Z (by first | decide | assumption | omega) (by first | decide | assumption | omega) (by first | decide | assumption | omega)).mpr ?_
        refine s160_33.mpr (s160_36.mpr ?_)
        try simp (disch := first | decide | assumption | omega) only [r3, fAdd_id]
        refine nx _ _ ⟨by rw [cast1], w3.up wB_13, by (try simp (disch := decide) only [upI_eq, upI_a, upI_i, upR_eq, upR_a, upR_i]); exact a5, by (try simp (disch := decide) only [upI_eq, upI_a, upI_i, upR_eq, upR_a, upR_i]); exact a4, fun j a b => ?_, am.u (by omega) (by omega) (by omega)⟩
        by_cases e : j = k
        · subst e; rw [upI_eq]; rfl
        · rw [upI_i e]; exact a13 j a (by omega)
      · skip
        exfalso; omega
    · rintro ls h3 ⟨rfl, w3, a5, a4, a13, am⟩
      refine s160_19.mpr (s160_20.mpr ?_)
      refine s160_23.mpr (wif2 (fun c23 => ?_) (fun c23 => ?_))
      · skip
        exfalso; omega
      · skip
        exact T39 h3 _ w3 a5 a4 (fun q q0 q1 => a13 q q0 (by omega)) am
  refine s160_7.mpr (s160_8.mpr ?_)
  refine (s160_9 (by first | decide | assumption | omega) (by first | decide | assumption | omega)).mpr ?_
  refine s160_12.mpr (s160_13.mpr ?_)
  refine (s160_14 (by first | decide | assumption | omega)).mpr ?_
  refine s160_17.mpr (s160_18.mpr ?_)
  try simp (disch := first | decide | assumption | omega) only [hk]
  exact T19 _ ((FW.rf.up (wB_8 (by decide))).up (wB_8 (by decide))) (by (try simp (disch := decide) only [upI_eq, upI_a, upI_i, upR_eq, upR_a, upR_i])) (by (try simp (disch := decide) only [upI_eq, upI_a, upI_i, upR_eq, upR_a, upR_i])) ((hm0.u (by omega) (by omega) (by omega)).u (by omega) (by omega) (by omega))
/-- what the verifying of a routine may write -/
def wVt (m t : Nat) (a : Nat) (i : Int) : Prop := (a = 8 ∧ (i = 4 ∨ i = 5 ∨ i = 6)) ∨ a = 11 ∨ a = 12 ∨ a = 13 ∨ (a = t + 1 ∧ i = 6) ∨ m ≤ a
def rVt (m t : Nat) (a : Nat) (i : Int) : Prop := (a = t + 1 ∧ (i = 8 ∨ i = 9)) ∨ m ≤ a
theorem v_isRoutineRight {M : Nat} (h : VR al hr) (hd : 8 ≤ d) (hM : ModV al hi hr N n B M) (hT : TxV B n) (hN : hr 8 7 = some N) (hk : hr 8 8 = some (t + 1)) (hR : RoutOK al hi hr B f t) (hRn : RoutN hi hr t) (ht : 119 ≤ t) (htM : t + 2 < M) (f0 : 0 ≤ f) (f1 : f < nFn B)
    (ok : ∀ A al' hi' hr', LC B f A → GA al al' 2 6480 → al'.1 = al.1 + 2 → RV al' hr' t al.1 (al.1 + 1) (cLen B f) → MC A hi' t al.1 (al.1 + 1) (cLen B f) → FW (wVt al.1 t) hi hi' → RW (rVt al.1 t) hr hr' → Q (some (some (vI 1))) al' hi' hr')
    (no : ∀ al' hi' hr', (∀ W, ¬ Clo B f W) → GA al al' 2 6480 → FW (wVt al.1 t) hi hi' → RW (rVt al.1 t) hr hr' → Q (some (some (vI 0))) al' hi' hr') : Ev d 160 [vR (some 8)] al hi hr Q := by
  have k8 := h.k8; have k11 := h.k11; have k12 := h.k12; have l11 := h.l11; have l12 := h.l12; have r1 := h.2.2.1; have r2 := h.2.2.2.1
  have kT := hR.1.1
  obtain ⟨s1, s2, s3, s4, s5, s6, s7, s8, s9, s10, s11, s12, s13, s14⟩ := hT.2.1.2.2.2.2.2.2.2.2.2.2 f f0 f1
  have Mal := hM.1.2.2.2
  rw [e160]
  refine s160_0.mpr ?_
  refine (s160_1 (by first | decide | assumption | omega)).mpr ?_
  try simp (disch := first | decide | assumption | omega) only [hk]
  refine (s160_4 (by first | decide | assumption | omega) (by first | decide | assumption | omega)).mpr ?_
  skip
  refine r_prepare (l := cLen B f) hR.1 hR.2.2.2.2.2.2.2.2.1 (by omega) (by omega) ht hRn.1 (fun al2 hi2 hr2 g1 g2 g3 g4 g5 g6 => ?_)
  have h' : VR al2 hr2 := ⟨g1.sa h.1, (g6 _ _ (by omega) (by omega)).trans h.2.1, (g6 _ _ (by omega) (by omega)).trans r1, (g6 _ _ (by omega) (by omega)).trans r2, (g6 _ _ (by omega) (by omega)).trans h.2.2.2.2⟩
  have hM' : ModV al2 hi2 hr2 N n B M := hM.fr g1 (fun i => g5 0 i (by omega)) (fun a i _ z2 _ => g5 a i (by omega)) (fun a i _ z2 z3 => g6 a i (by omega) (fun q => z3 q.2 (by rw [q.1]; exact kT)))
  have hR' : RoutOK al2 hi2 hr2 B f t := hR.fr g1 (fun a i _ z2 _ => g5 a i (by omega)) (fun i z => g6 _ _ (by omega) (fun q => by omega))
  have e1 : FW (wVt al.1 t) hi hi2 := fun a i q => g5 a i (by unfold wVt at q; omega)
  have e2 : RW (rVt al.1 t) hr hr2 := fun a i q => g6 a i (by unfold rVt at q; omega) (fun z => q (Or.inl z))
  have e3 : ∀ {h1 h2 : HI}, FW (wB t al.1 (al.1 + 1)) h1 h2 → FW (wVt al.1 t) h1 h2 := fun z => z.mn (fun a i q => by unfold wB wV wA at q; unfold wVt; omega)
  refine v_rounds h' hd hM' hT ((g6 _ _ (by omega) (by omega)).trans hN) ((g6 _ _ (by omega) (by omega)).trans hk) g3 (by omega) (by omega) hR' htM f0 f1 rfl g4 (fun A h3 y1 y2 y3 => ?_) (fun h3 y1 y2 => ?_)
  · exact ok A al2 h3 hr2 y1 g1 g2 g3 y2 (e1.tr (e3 y3)) e2
  · exact no al2 h3 hr2 y1 g1 (e1.tr (e3 y2)) e2
end EV1
