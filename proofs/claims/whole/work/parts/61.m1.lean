/-! THE REFERENCE, leaves -/
section M1
variable {d : Nat} {al : AL} {hi : HI} {hr : HR} {Q : QQ}
def kindM (t : Int) : Int := if t < 0 then -1 else t % 8
def whichM (t : Int) : Int := t / 8 % 256
def stateM (t : Int) : Int := t / 2048 % 256
def sideM (t : Int) : Int := t / 524288 % 2
theorem m_kind {t : Int} : Ev d 224 [vI t] al hi hr Q ↔ Q (some (some (vI (kindM t)))) al hi hr := by
  unfold kindM
  by_cases h : t < 0
  · simp (disch := first | assumption | exact SA.k (by assumption) (by decide) (by decide) rfl | exact SA.q (by assumption) (by decide) (by decide) (by decide) | exact SA.r (by assumption) (by decide) (by decide) (by decide) | decide | omega | rfl) only [e224, s224_0, s224_1, s224_4, s224_5, s224_8, s224_9, s224_11, s224_12, if_pos, if_neg, fAnd_7]
  · simp (disch := first | assumption | exact SA.k (by assumption) (by decide) (by decide) rfl | exact SA.q (by assumption) (by decide) (by decide) (by decide) | exact SA.r (by assumption) (by decide) (by decide) (by decide) | decide | omega | rfl) only [e224, s224_0, s224_1, s224_4, s224_5, s224_8, s224_9, s224_11, s224_12, if_pos, if_neg, fAnd_7]
theorem m_which {t : Int} (ht : rng t) : Ev d 225 [vI t] al hi hr Q ↔ Q (some (some (vI (whichM t)))) al hi hr := by
  simp (disch := first | assumption | exact SA.k (by assumption) (by decide) (by decide) rfl | exact SA.q (by assumption) (by decide) (by decide) (by decide) | exact SA.r (by assumption) (by decide) (by decide) (by decide) | decide | omega | rfl) only [e225, s225_0, s225_1, s225_2, s225_3, s225_6, s225_7, fAnd_255, show (3 : Int) = ((3 : Nat) : Int) from rfl, fShr_k]
  rfl
/-- the byte at k of the module m; -1 where there is none -/
def bAt (hi : HI) (m k : Int) : Int := if 0 ≤ k ∧ k < hi 52 m then hi 51 (2000 * m + k) % 256 else -1
theorem m_byteAt {m k : Int} (hA : SA al) (hR : MR hr) (hm : 0 ≤ m) (hm2 : m < 13) (hs : hi 52 m ≤ 2000) : Ev d 220 [vR (some 49), vI m, vI k] al hi hr Q ↔ Q (some (some (vI (bAt hi m k)))) al hi hr := by
  unfold bAt
  have l52 := SA.len (a := 52) (n := 13) hA (by decide) (by decide) rfl
  have l51 := SA.len (a := 51) (n := 26000) hA (by decide) (by decide) rfl
  by_cases h1 : k < 0
  · rw [if_neg (by omega)]
    simp (disch := first | assumption | exact SA.k (by assumption) (by decide) (by decide) rfl | exact SA.q (by assumption) (by decide) (by decide) (by decide) | exact SA.r (by assumption) (by decide) (by decide) (by decide) | decide | omega | rfl) only [e220, s220_0, s220_1, s220_4, s220_5, s220_6, s220_9, s220_10, s220_11, s220_14, s220_15, s220_18, s220_21, s220_22, s220_23, s220_24, s220_25, s220_25Z, s220_26, s220_29, s220_30, s220_33, s220_34, mr_1 hR, mr_3 hR, mr_4 hR, mr_5 hR, mr_6 hR, mr_7 hR, mr_8 hR, mr_9 hR, mr_10 hR, mr_11 hR, mr_12 hR, mr_13 hR, mr_14 hR, mr_15 hR, mr_16 hR, mr_17 hR, mr_18 hR, mr_19 hR, mr_20 hR, mr_21 hR, mr_25 hR, mr_29 hR, mr_30 hR, mr_31 hR, mr_32 hR, mr_33 hR, mr_34 hR, mr_39 hR, mr_40 hR, mr_41 hR, mr_42 hR, mr_43 hR, mr_44 hR, mr_45 hR, mr_46 hR, mr_47 hR, mr_50 hR, mr_57 hR, mr_58 hR, mr_59 hR, mr_60 hR, mr_61 hR, mr_62 hR, mr_63 hR, mr_64 hR, mr_65 hR, mr_66 hR, mr_67 hR, mr_68 hR, mr_69 hR, mr_70 hR, mr_71 hR, mr_72 hR, mr_73 hR, mr_74 hR, mr_75 hR, mr_76 hR, mr_77 hR, mr_78 hR, mr_79 hR, mr_80 hR, mr_81 hR, mr_82 hR, mr_83 hR, mr_84 hR, mr_85 hR, mr_86 hR, mr_87 hR, mr_88 hR, if_pos, if_neg]
  · by_cases h2 : k < hi 52 m
    · rw [if_pos (by omega)]
      simp (disch := first | assumption | exact SA.k (by assumption) (by decide) (by decide) rfl | exact SA.q (by assumption) (by decide) (by decide) (by decide) | exact SA.r (by assumption) (by decide) (by decide) (by decide) | decide | omega | rfl) only [e220, s220_0, s220_1, s220_4, s220_5, s220_6, s220_9, s220_10, s220_11, s220_14, s220_15, s220_18, s220_21, s220_22, s220_23, s220_24, s220_25, s220_25Z, s220_26, s220_29, s220_30, s220_33, s220_34, mr_1 hR, mr_3 hR, mr_4 hR, mr_5 hR, mr_6 hR, mr_7 hR, mr_8 hR, mr_9 hR, mr_10 hR, mr_11 hR, mr_12 hR, mr_13 hR, mr_14 hR, mr_15 hR, mr_16 hR, mr_17 hR, mr_18 hR, mr_19 hR, mr_20 hR, mr_21 hR, mr_25 hR, mr_29 hR, mr_30 hR, mr_31 hR, mr_32 hR, mr_33 hR, mr_34 hR, mr_39 hR, mr_40 hR, mr_41 hR, mr_42 hR, mr_43 hR, mr_44 hR, mr_45 hR, mr_46 hR, mr_47 hR, mr_50 hR, mr_57 hR, mr_58 hR, mr_59 hR, mr_60 hR, mr_61 hR, mr_62 hR, mr_63 hR, mr_64 hR, mr_65 hR, mr_66 hR, mr_67 hR, mr_68 hR, mr_69 hR, mr_70 hR, mr_71 hR, mr_72 hR, mr_73 hR, mr_74 hR, mr_75 hR, mr_76 hR, mr_77 hR, mr_78 hR, mr_79 hR, mr_80 hR, mr_81 hR, mr_82 hR, mr_83 hR, mr_84 hR, mr_85 hR, mr_86 hR, mr_87 hR, mr_88 hR, if_pos, if_neg, fAnd_255, fMul_id, fAdd_id]
    · rw [if_neg (by omega)]
      simp (disch := first | assumption | exact SA.k (by assumption) (by decide) (by decide) rfl | exact SA.q (by assumption) (by decide) (by decide) (by decide) | exact SA.r (by assumption) (by decide) (by decide) (by decide) | decide | omega | rfl) only [e220, s220_0, s220_1, s220_4, s220_5, s220_6, s220_9, s220_10, s220_11, s220_14, s220_15, s220_18, s220_21, s220_22, s220_23, s220_24, s220_25, s220_25Z, s220_26, s220_29, s220_30, s220_33, s220_34, mr_1 hR, mr_3 hR, mr_4 hR, mr_5 hR, mr_6 hR, mr_7 hR, mr_8 hR, mr_9 hR, mr_10 hR, mr_11 hR, mr_12 hR, mr_13 hR, mr_14 hR, mr_15 hR, mr_16 hR, mr_17 hR, mr_18 hR, mr_19 hR, mr_20 hR, mr_21 hR, mr_25 hR, mr_29 hR, mr_30 hR, mr_31 hR, mr_32 hR, mr_33 hR, mr_34 hR, mr_39 hR, mr_40 hR, mr_41 hR, mr_42 hR, mr_43 hR, mr_44 hR, mr_45 hR, mr_46 hR, mr_47 hR, mr_50 hR, mr_57 hR, mr_58 hR, mr_59 hR, mr_60 hR, mr_61 hR, mr_62 hR, mr_63 hR, mr_64 hR, mr_65 hR, mr_66 hR, mr_67 hR, mr_68 hR, mr_69 hR, mr_70 hR, mr_71 hR, mr_72 hR, mr_73 hR, mr_74 hR, mr_75 hR, mr_76 hR, mr_77 hR, mr_78 hR, mr_79 hR, mr_80 hR, mr_81 hR, mr_82 hR, mr_83 hR, mr_84 hR, mr_85 hR, mr_86 hR, mr_87 hR, mr_88 hR, if_pos, if_neg]
end M1
