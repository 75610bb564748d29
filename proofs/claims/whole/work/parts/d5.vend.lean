section DV5
variable {d : Nat} {al : AL} {hi : HI} {hr : HR} {Q : QQ} {B : Int → Int} {N : Nat} {n : Int} {f : Int}
theorem c_stateOfEndG {t : Int} (q : ∀ x, 0 ≤ x → x < 256 → (rng t → x = t / 4096 % 256) → Q (some (some (vI x))) al hi hr) : Ev d 209 [vI t] al hi hr Q := by
  rw [e209]
  refine s209_0.mpr (s209_1.mpr (s209_3.mpr (s209_4.mpr (s209_7.mpr ?_))))
  try simp (disch := first | decide | assumption | omega) only [fAnd_255]
  refine (s209_8).mpr ?_
  exact q _ (by omega) (by omega) (fun z => by rw [fShr_12 z])
theorem c_sideOfEndG {t : Int} (q : ∀ x, 0 ≤ x → x < 2 → (rng t → x = t / 1048576 % 2) → Q (some (some (vI x))) al hi hr) : Ev d 210 [vI t] al hi hr Q := by
  rw [e210]
  refine s210_0.mpr (s210_1.mpr (s210_3.mpr (s210_4.mpr (s210_5.mpr ?_))))
  try simp (disch := first | decide | assumption | omega) only [fAnd_1]
  refine (s210_6).mpr ?_
  exact q _ (by omega) (by omega) (fun z => by rw [fShr_20 z])
theorem c_namedByH {t : Int} (q : ∀ x, 0 ≤ x → x < 256 → (rng t → x = t / 16 % 256) → Q (some (some (vI x))) al hi hr) : Ev d 208 [vI t] al hi hr Q := by
  rw [e208]
  refine s208_0.mpr (s208_1.mpr (s208_2.mpr (s208_3.mpr (s208_6.mpr ?_))))
  try simp (disch := first | decide | assumption | omega) only [fAnd_255]
  refine (s208_7).mpr ?_
  exact q _ (by omega) (by omega) (fun z => by rw [fShr_4 z])
/-- a byte, 0 where there is none -/
def bZ (B : Int → Int) (i : Int) : Int := if B i < 0 then 0 else B i
theorem bZ_p {i : Int} (h : 0 ≤ B i) : bZ B i = B i := if_neg (by omega)
theorem bZ_r (hT : TxV B n) (i : Int) : 0 ≤ bZ B i ∧ bZ B i ≤ 255 := by have := hT.rg i; unfold bZ; split <;> omega
theorem t_byteAt {i : Int} {M : Nat} (hM : ModV al hi hr N n B M) (hT : TxV B n) (q : Q (some (some (vI (bZ B i)))) al hi hr) : Ev d 145 [vR (some N), vI i] al hi hr Q := by
  obtain ⟨⟨a1, a2, a3, a4⟩, ⟨b1, b2, b3⟩, -⟩ := hM
  have kN := a1.1
  have kb := a1.2.2.2.2.2.2.2
  have eb := a1.2.2.2.2.2.2.1
  have hx := hT.1.1 i
  rw [e145]
  refine s145_0.mpr ?_
  refine s145_1.mpr (wif (fun c1 => ?_) (fun c1 => ?_))
  · skip
    refine s145_12.mpr (s145_13.mpr ?_)
    refine (s145_22).mpr ?_
    first
    | (have e := hx.2 (by omega); unfold bZ at q; rw [if_pos (by omega)] at q; exact q)
    | (have e := hx.1 (by omega); unfold bZ at q; rw [if_neg (by omega), ← b3 i (by omega) (by omega)] at q; exact q)
  · skip
    refine s145_4.mpr (s145_5.mpr ?_)
    refine (s145_6 (by first | decide | assumption | omega)).mpr ?_
    try simp (disch := first | decide | assumption | omega) only [b1, eb]
    refine s145_9.mpr (wif (fun c9 => ?_) (fun c9 => ?_))
    · skip
      refine s145_16.mpr ?_
      refine (s145_17 (by first | decide | assumption | omega)).mpr ?_
      refine s145_20.mpr ?_
      try simp (disch := first | decide | assumption | omega) only [b1, eb]
      refine (s145_21 (by first | decide | assumption | omega) (by first | decide | assumption | omega) (by first | decide | assumption | omega)).mpr ?_
      try simp (disch := first | decide | assumption | omega) only [b1, eb]
      refine (s145_22).mpr ?_
      first
      | (have e := hx.2 (by omega); unfold bZ at q; rw [if_pos (by omega)] at q; exact q)
      | (have e := hx.1 (by omega); unfold bZ at q; rw [if_neg (by omega), ← b3 i (by omega) (by omega)] at q; exact q)
    · skip
      refine s145_12.mpr (s145_13.mpr ?_)
      refine (s145_22).mpr ?_
      first
      | (have e := hx.2 (by omega); unfold bZ at q; rw [if_pos (by omega)] at q; exact q)
      | (have e := hx.1 (by omega); unfold bZ at q; rw [if_neg (by omega), ← b3 i (by omega) (by omega)] at q; exact q)
theorem v_operandOf {t : Nat} {p : Int} {M : Nat} (h : VR al hr) (hd : 1 ≤ d) (hM : ModV al hi hr N n B M) (hT : TxV B n) (hN : hr 8 7 = some N) (hk : hr 8 8 = some (t + 1)) (hR : RoutOK al hi hr B f t) (hc : 0 ≤ cAt B f ∧ cAt B f ≤ 3000) (p0 : 0 ≤ p ∧ p ≤ 1000) (q : Q (some (some (vI (bZ B (cAt B f + p + 1))))) al hi hr) : Ev d 168 [vR (some 8), vI p] al hi hr Q := by
  have k8 := h.k8
  have kT := hR.1.1
  have kN := hM.1.1.1
  have e5 : hi (t + 1) 5 = cAt B f := hR.2.2.2.2.2.2.2.1
  rw [e168]
  refine s168_0.mpr ?_
  refine (s168_1 (by first | decide | assumption | omega)).mpr ?_
  refine s168_4.mpr ?_
  try simp (disch := first | decide | assumption | omega) only [kon, knt_some, knt_none, Option.toList_some, Option.toList_none, List.cons_append, List.nil_append, hN, hk, e5, fAdd_id]
  refine (s168_5 (by first | decide | assumption | omega)).mpr ?_
  try simp (disch := first | decide | assumption | omega) only [kon, knt_some, knt_none, Option.toList_some, Option.toList_none, List.cons_append, List.nil_append, hN, hk, e5, fAdd_id]
  refine (s168_8 (by first | decide | assumption | omega)).mpr ?_
  refine s168_11.mpr (s168_12.mpr (s168_13.mpr (s168_14.mpr ?_)))
  try simp (disch := first | decide | assumption | omega) only [kon, knt_some, knt_none, Option.toList_some, Option.toList_none, List.cons_append, List.nil_append, hN, hk, e5, fAdd_id]
  refine (s168_15 (by first | decide | assumption | omega) (by first | decide | assumption | omega)).mpr ?_
  refine t_byteAt hM hT ?_
  refine (s168_18).mpr ?_
  exact q
theorem t_lengthOf {i : Int} {M : Nat} (hM : ModV al hi hr N n B M) (hT : TxV B n) (hd : 1 ≤ d) (i0 : 0 ≤ i ∧ i ≤ 5000) (h0 : 0 ≤ B i ∧ B i ≤ 43) (h38 : B i = 38 → 0 ≤ B (i + 1)) (q : Q (some (some (vI (ilen B i)))) al hi hr) : Ev d 147 [vR (some N), vI i] al hi hr Q := by
  have hO := hM.2.2.2.2.2.2.2
  have kN := hM.1.1.1
  have kF : isF al 0 = true := by unfold isF; rw [hO.1]; rfl
  have kR : isR al 0 = true := by unfold isR; rw [kF]; simp
  have l44 : aln al 0 = 44 := by show (al.2.2 0).2 = 44; rw [hO.1]
  have eO : hi 0 (B i) = oprC (B i) := hO.2 _ h0.1 (by omega)
  have eb := bZ_p h0.1
  have hq := opr_f (B i) h0.1 h0.2
  have hrg := hT.rg (i + 1)
  rw [e147]
  have T24 : Wp d 147 24 [vR (some N), vI i, vI (B i), vI (oprC (B i))] [] al hi hr Q := by
    have q0 : oprC (B i) = 0 → Q (some (some (vI 1))) al hi hr := fun e => by
      have : ilen B i = 1 := by
        unfold ilen; rcases hq with ⟨a, b, -⟩ | ⟨a, b, -⟩ | ⟨a, b, -⟩ | ⟨a, b, -⟩ | ⟨a, b, -⟩ | ⟨a, b, -⟩ | ⟨a, b, -⟩ | ⟨a, b, -⟩ | ⟨a, b, -⟩ | ⟨a, b, -⟩ | ⟨a, b, -⟩ <;> first | (rw [b]; rfl) | (exfalso; omega)
      rw [this] at q; exact q
    have q1 : oprC (B i) = 1 → Q (some (some (vI 5))) al hi hr := fun e => by
      have : ilen B i = 5 := by
        unfold ilen; rcases hq with ⟨a, b, -⟩ | ⟨a, b, -⟩ | ⟨a, b, -⟩ | ⟨a, b, -⟩ | ⟨a, b, -⟩ | ⟨a, b, -⟩ | ⟨a, b, -⟩ | ⟨a, b, -⟩ | ⟨a, b, -⟩ | ⟨a, b, -⟩ | ⟨a, b, -⟩ <;> first | (rw [b]; rfl) | (exfalso; omega)
      rw [this] at q; exact q
    have q10 : oprC (B i) = 10 → Q (some (some (vI (2 + B (i + 1))))) al hi hr ∧ 0 ≤ B (i + 1) := fun e => by
      have : ilen B i = 2 + B (i + 1) ∧ B i = 38 := by
        unfold ilen; rcases hq with ⟨a, b, c⟩ | ⟨a, b, c⟩ | ⟨a, b, c⟩ | ⟨a, b, c⟩ | ⟨a, b, c⟩ | ⟨a, b, c⟩ | ⟨a, b, c⟩ | ⟨a, b, c⟩ | ⟨a, b, c⟩ | ⟨a, b, c⟩ | ⟨a, b, c⟩ <;> first | (rw [b]; exact ⟨rfl, c⟩) | (exfalso; omega)
      rw [this.1] at q; exact ⟨q, h38 this.2⟩
    have q2 : oprC (B i) ≠ 0 → oprC (B i) ≠ 1 → oprC (B i) ≠ 10 → Q (some (some (vI 2))) al hi hr := fun e1 e2 e3 => by
      have : ilen B i = 2 := by
        unfold ilen; rcases hq with ⟨a, b, -⟩ | ⟨a, b, -⟩ | ⟨a, b, -⟩ | ⟨a, b, -⟩ | ⟨a, b, -⟩ | ⟨a, b, -⟩ | ⟨a, b, -⟩ | ⟨a, b, -⟩ | ⟨a, b, -⟩ | ⟨a, b, -⟩ | ⟨a, b, -⟩ <;> first | (rw [b]; rfl) | (exfalso; omega)
      rw [this] at q; exact q
    clear hq
    refine s147_24.mpr ?_
    refine g147_25 (fun c25 => ?_) (fun c25 => ?_) (fun c25 => ?_) (fun c25 => ?_)
    · skip
      have c25 := List.mem_singleton.mp c25
      refine s147_60.mpr ?_
      refine (s147_61).mpr ?_
      first | exact q0 c25 | exact q1 c25 | exact q2 (fun z => by rw [z] at c25; simp at c25) (fun z => by rw [z] at c25; simp at c25) (fun z => by rw [z] at c25; simp at c25)
    · skip
      have c25 := List.mem_singleton.mp c25
      refine s147_62.mpr ?_
      refine (s147_63).mpr ?_
      first | exact q0 c25 | exact q1 c25 | exact q2 (fun z => by rw [z] at c25; simp at c25) (fun z => by rw [z] at c25; simp at c25) (fun z => by rw [z] at c25; simp at c25)
    · skip
      have c25 := List.mem_singleton.mp c25
      skip
      obtain ⟨qa, qb⟩ := q10 c25
      refine s147_64.mpr (s147_65.mpr (s147_66.mpr (s147_67.mpr (s147_68.mpr ?_))))
      rw [fAdd_id (by omega) (by omega)]
      refine (s147_69 (by omega) kN).mpr ?_
      refine t_byteAt hM hT ?_
      simp only [kon, knt_some, knt_none, Option.toList_some, Option.toList_none, List.cons_append, List.nil_append, bZ_p qb]
      refine s147_72.mpr ?_
      rw [fAdd_id (by omega) (by omega)]
      refine s147_73.mpr ?_
      exact qa
    · skip
      refine s147_74.mpr ?_
      refine (s147_75).mpr ?_
      first | exact q0 c25 | exact q1 c25 | exact q2 (fun z => by rw [z] at c25; simp at c25) (fun z => by rw [z] at c25; simp at c25) (fun z => by rw [z] at c25; simp at c25)
  clear hq
  refine s147_0.mpr (s147_1.mpr ?_)
  refine (s147_2 (by omega) kN).mpr ?_
  refine t_byteAt hM hT ?_
  simp only [kon, knt_some, knt_none, Option.toList_some, Option.toList_none, List.cons_append, List.nil_append, eb]
  refine s147_5.mpr (s147_6.mpr (s147_7.mpr ?_))
  refine (s147_10 kR).mpr ?_
  rw [l44]
  refine s147_11.mpr (wif (fun c => ?_) (fun c => absurd (by omega) c))
  refine s147_14.mpr (s147_17.mpr ?_)
  refine (s147_18F kF h0.1 (by rw [l44]; omega)).mpr ?_
  rw [eO]
  refine s147_19.mpr (s147_23.mpr ?_)
  exact T24
/-- the contract of an end's type -/
def CtR (al : AL) (hi : HI) (hr : HR) (N : Nat) (B : Int → Int) (v : Int) (r : Option Nat) : Prop := (∃ c o, r = some o ∧ v % 16 = 5 ∧ 0 ≤ c ∧ c < nCtr B ∧ CtrOK al hi hr B c o ∧ (119 ≤ o ∧ hr (N + 4) c = some o) ∧ (rng v → c = v / 16 % 256)) ∨ (r = none ∧ (v % 16 ≠ 5 ∨ (rng v → ¬ v / 16 % 256 < nCtr B)))
theorem v_contractOf {v : Int} {M : Nat} (h : VR al hr) (hd : 1 ≤ d) (hM : ModV al hi hr N n B M) (hT : TxV B n) (hN : hr 8 7 = some N) (q : ∀ r, CtR al hi hr N B v r → Q (some (some (vR r))) al hi hr) : Ev d 182 [vR (some 8), vI v] al hi hr Q := by
  have k8 := h.k8
  have kN := hM.1.1.1
  have c4 := hT.2.1.2.2.2.2.2.1
  have key : ∀ x, 0 ≤ x → (rng v → x = v / 16 % 256) → v % 16 = 5 → CtR al hi hr N B v (ctA hi hr N x) := fun x x0 w e => by
    unfold ctA
    by_cases c : x < nCtr B
    · rw [if_pos ⟨x0, by rw [hM.2.2.1.2.1]; exact c, by omega⟩]
      obtain ⟨o, z1, z2, z3, z4⟩ := hM.2.2.2.2.1 x x0 c
      exact Or.inl ⟨x, o, z1, e, x0, c, z4, ⟨by have := hM.1.2.1; omega, z1⟩, w⟩
    · rw [if_neg (fun z => c (by rw [← hM.2.2.1.2.1]; exact z.2.1))]
      exact Or.inr ⟨rfl, Or.inr (fun z => by rw [← w z]; exact c)⟩
  rw [e182]
  refine s182_0.mpr ?_
  refine (s182_1 (by omega)).mpr ?_
  refine c_kindOf.mpr ?_
  refine s182_4.mpr ?_
  refine s182_5.mpr (wif (fun c5 => ?_) (fun c5 => ?_))
  · skip
    refine s182_8.mpr ?_
    refine (s182_9 (by first | decide | assumption | omega)).mpr ?_
    refine s182_12.mpr ?_
    try simp (disch := first | decide | assumption | omega) only [kon, knt_some, knt_none, Option.toList_some, Option.toList_none, List.cons_append, List.nil_append, hN]
    refine (s182_13 (by omega)).mpr ?_
    refine c_namedByH (fun x9 x0 x1 w1 => ?_)
    refine (s182_16 (by first | decide | assumption | omega) (by first | decide | assumption | omega)).mpr ?_
    refine t_contractAt hM.1.1 ?_
    refine s182_19.mpr ?_
    refine (s182_23).mpr ?_
    first | exact q _ (key x9 x0 w1 (by assumption)) | exact q _ (Or.inr ⟨rfl, Or.inl (by assumption)⟩)
  · skip
    refine s182_22.mpr ?_
    refine (s182_23).mpr ?_
    first | exact q _ (key x9 x0 w1 (by assumption)) | exact q _ (Or.inr ⟨rfl, Or.inl (by assumption)⟩)
theorem CtR.wv {v : Int} {r : Option Nat} {hi' : HI} (h : CtR al hi hr N B v r) (hf : FW wV hi hi') : CtR al hi' hr N B v r := by
  rcases h with ⟨c, o, z1, z2, z3, z4, z5, z6, z7⟩ | z
  · exact Or.inl ⟨c, o, z1, z2, z3, z4, z5.fr GA.rf (fun a i y1 y2 => hf a i (wV_a (by have := z6.1; omega))) (fun _ => rfl), z6, z7⟩
  · exact Or.inr z
end DV5
