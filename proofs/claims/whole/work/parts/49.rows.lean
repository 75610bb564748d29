/-! the steps as rows that rewrite -/
section RW
variable {d k pc : Nat} {ls st : List AV} {al : AL} {hi : HI} {hr : HR} {Q : QQ}
theorem wp_e {sp : Sp} (h : cd k pc = sp) {pc' : Nat} {ls' st' : List AV} {al' : AL} {hi' : HI} {hr' : HR} (h2 : sp ls st al hi hr = oN pc' ls' st' al' hi' hr') : Wp d k pc ls st al hi hr Q ↔ Wp d k pc' ls' st' al' hi' hr' Q := wp_n (by rw [h]; exact h2)
theorem wr_I1 {c t nx : Nat} (h : cd k pc = sI1 c t nx) {x : Int} : Wp d k pc ls (vI x :: st) al hi hr Q ↔ (if cnd c x 0 = true then Wp d k t ls st al hi hr Q else Wp d k nx ls st al hi hr Q) := wp_if (by rw [h]; rfl)
theorem wr_I2 {c t nx : Nat} (h : cd k pc = sI2 c t nx) {x y : Int} : Wp d k pc ls (vI y :: vI x :: st) al hi hr Q ↔ (if cnd c x y = true then Wp d k t ls st al hi hr Q else Wp d k nx ls st al hi hr Q) := wp_if (by rw [h]; rfl)
section
variable {P1 P2 : Prop} {x y : Int}
theorem cn_eq : (if cnd 0 x y = true then P1 else P2) = (if x = y then P1 else P2) := by by_cases h : x = y <;> simp [cnd, h]
theorem cn_ne : (if cnd 1 x y = true then P1 else P2) = (if x = y then P2 else P1) := by by_cases h : x = y <;> simp [cnd, h]
theorem cn_lt : (if cnd 2 x y = true then P1 else P2) = (if x < y then P1 else P2) := by by_cases h : x < y <;> simp [cnd, h]
theorem cn_ge : (if cnd 3 x y = true then P1 else P2) = (if x < y then P2 else P1) := by by_cases h : x < y <;> simp [cnd, h, Int.not_le.mpr, Int.not_lt.mp]
theorem cn_gt : (if cnd 4 x y = true then P1 else P2) = (if y < x then P1 else P2) := by by_cases h : y < x <;> simp [cnd, h]
theorem cn_le : (if cnd 5 x y = true then P1 else P2) = (if y < x then P2 else P1) := by by_cases h : y < x <;> simp [cnd, h, Int.not_le.mpr, Int.not_lt.mp]
end
theorem wr_eq1 {t nx : Nat} (h : cd k pc = sI1 0 t nx) {x : Int} : Wp d k pc ls (vI x :: st) al hi hr Q ↔ (if x = 0 then Wp d k t ls st al hi hr Q else Wp d k nx ls st al hi hr Q) := by rw [wr_I1 h, cn_eq]
theorem wr_ne1 {t nx : Nat} (h : cd k pc = sI1 1 t nx) {x : Int} : Wp d k pc ls (vI x :: st) al hi hr Q ↔ (if x = 0 then Wp d k nx ls st al hi hr Q else Wp d k t ls st al hi hr Q) := by rw [wr_I1 h, cn_ne]
theorem wr_lt1 {t nx : Nat} (h : cd k pc = sI1 2 t nx) {x : Int} : Wp d k pc ls (vI x :: st) al hi hr Q ↔ (if x < 0 then Wp d k t ls st al hi hr Q else Wp d k nx ls st al hi hr Q) := by rw [wr_I1 h, cn_lt]
theorem wr_ge1 {t nx : Nat} (h : cd k pc = sI1 3 t nx) {x : Int} : Wp d k pc ls (vI x :: st) al hi hr Q ↔ (if x < 0 then Wp d k nx ls st al hi hr Q else Wp d k t ls st al hi hr Q) := by rw [wr_I1 h, cn_ge]
theorem wr_gt1 {t nx : Nat} (h : cd k pc = sI1 4 t nx) {x : Int} : Wp d k pc ls (vI x :: st) al hi hr Q ↔ (if 0 < x then Wp d k t ls st al hi hr Q else Wp d k nx ls st al hi hr Q) := by rw [wr_I1 h, cn_gt]
theorem wr_le1 {t nx : Nat} (h : cd k pc = sI1 5 t nx) {x : Int} : Wp d k pc ls (vI x :: st) al hi hr Q ↔ (if 0 < x then Wp d k nx ls st al hi hr Q else Wp d k t ls st al hi hr Q) := by rw [wr_I1 h, cn_le]
theorem wr_eq2 {t nx : Nat} (h : cd k pc = sI2 0 t nx) {x y : Int} : Wp d k pc ls (vI y :: vI x :: st) al hi hr Q ↔ (if x = y then Wp d k t ls st al hi hr Q else Wp d k nx ls st al hi hr Q) := by rw [wr_I2 h, cn_eq]
theorem wr_ne2 {t nx : Nat} (h : cd k pc = sI2 1 t nx) {x y : Int} : Wp d k pc ls (vI y :: vI x :: st) al hi hr Q ↔ (if x = y then Wp d k nx ls st al hi hr Q else Wp d k t ls st al hi hr Q) := by rw [wr_I2 h, cn_ne]
theorem wr_lt2 {t nx : Nat} (h : cd k pc = sI2 2 t nx) {x y : Int} : Wp d k pc ls (vI y :: vI x :: st) al hi hr Q ↔ (if x < y then Wp d k t ls st al hi hr Q else Wp d k nx ls st al hi hr Q) := by rw [wr_I2 h, cn_lt]
theorem wr_ge2 {t nx : Nat} (h : cd k pc = sI2 3 t nx) {x y : Int} : Wp d k pc ls (vI y :: vI x :: st) al hi hr Q ↔ (if x < y then Wp d k nx ls st al hi hr Q else Wp d k t ls st al hi hr Q) := by rw [wr_I2 h, cn_ge]
theorem wr_gt2 {t nx : Nat} (h : cd k pc = sI2 4 t nx) {x y : Int} : Wp d k pc ls (vI y :: vI x :: st) al hi hr Q ↔ (if y < x then Wp d k t ls st al hi hr Q else Wp d k nx ls st al hi hr Q) := by rw [wr_I2 h, cn_gt]
theorem wr_le2 {t nx : Nat} (h : cd k pc = sI2 5 t nx) {x y : Int} : Wp d k pc ls (vI y :: vI x :: st) al hi hr Q ↔ (if y < x then Wp d k nx ls st al hi hr Q else Wp d k t ls st al hi hr Q) := by rw [wr_I2 h, cn_le]
theorem wr_nl {t nx : Nat} (h : cd k pc = sNl t nx) {r : Option Nat} : Wp d k pc ls (vR r :: st) al hi hr Q ↔ (if r = none then Wp d k t ls st al hi hr Q else Wp d k nx ls st al hi hr Q) := by
  cases r with
  | none => rw [if_pos rfl]; exact wp_e h rfl
  | some a => rw [if_neg (by simp)]; exact wp_e h rfl
/-- a switch, target by target -/
def swW : List (Int × Nat) → Int → (Nat → Prop) → Prop → Prop
  | [], _, _, D => D
  | (v, t) :: l, x, W9, D => if x = v then W9 t else swW l x W9 D
theorem swW_eq (W9 : Nat → Prop) (dn : Nat) (x : Int) : ∀ l, W9 (swt l dn x) = swW l x W9 (W9 dn)
  | [] => rfl
  | (v, t) :: l => by
    unfold swt swW
    by_cases h : x = v
    · rw [if_pos h, if_pos h]
    · rw [if_neg h, if_neg h]; exact swW_eq W9 dn x l
theorem wr_sw {l : List (Int × Nat)} {dn : Nat} (h : cd k pc = sSw l dn) {x : Int} : Wp d k pc ls (vI x :: st) al hi hr Q ↔ swW l x (fun t => Wp d k t ls st al hi hr Q) (Wp d k dn ls st al hi hr Q) := by
  rw [← swW_eq (fun t => Wp d k t ls st al hi hr Q) dn x l]
  exact wp_e h rfl
theorem wr_d2 {f : Int → Int → Int} {nx : Nat} (h : cd k pc = sD2 f nx) {x y : Int} (hy : y ≠ 0) : Wp d k pc ls (vI y :: vI x :: st) al hi hr Q ↔ Wp d k nx ls (vI (f x y) :: st) al hi hr Q := wp_e h (by unfold sD2; simp only [hy, if_false])
theorem wr_gi {c j nx : Nat} (h : cd k pc = sGI c j nx) {a : Nat} (hK : isK al a c) : Wp d k pc ls (vR (some a) :: st) al hi hr Q ↔ Wp d k nx ls (vI (hi a j) :: st) al hi hr Q := wp_e h (by unfold sGI; simp only [isKb_iff.mpr hK, if_true])
theorem wr_gr {c j nx : Nat} (h : cd k pc = sGR c j nx) {a : Nat} (hK : isK al a c) : Wp d k pc ls (vR (some a) :: st) al hi hr Q ↔ Wp d k nx ls (vR (hr a j) :: st) al hi hr Q := wp_e h (by unfold sGR; simp only [isKb_iff.mpr hK, if_true])
theorem wr_pi {c j nx : Nat} (h : cd k pc = sPI c j nx) {a : Nat} {x : Int} (hK : isK al a c) : Wp d k pc ls (vI x :: vR (some a) :: st) al hi hr Q ↔ Wp d k nx ls st al (upI hi a j x) hr Q := wp_e h (by unfold sPI; simp only [isKb_iff.mpr hK, if_true])
theorem wr_pz {c j nx : Nat} (h : cd k pc = sPZ c j nx) {a : Nat} {x : Int} (hK : isK al a c) (hx : x = 0 ∨ x = 1) : Wp d k pc ls (vI x :: vR (some a) :: st) al hi hr Q ↔ Wp d k nx ls st al (upI hi a j x) hr Q := wp_e h (by
  have h9 : (isKb al a c && (decide (x = 0) || decide (x = 1))) = true := by rw [isKb_iff.mpr hK]; simpa using hx
  unfold sPZ; simp only [h9, if_true])
theorem wr_pr {c j nx : Nat} (h : cd k pc = sPR c j nx) {a : Nat} {r : Option Nat} (hK : isK al a c) : Wp d k pc ls (vR r :: vR (some a) :: st) al hi hr Q ↔ Wp d k nx ls st al hi (upR hr a j r) Q := wp_e h (by unfold sPR; simp only [isKb_iff.mpr hK, if_true])
theorem wr_na {c nx : Nat} (h : cd k pc = sNA c nx) {x : Int} (h0 : 0 ≤ x) (h1 : x ≤ 100000) : Wp d k pc ls (vI x :: st) al hi hr Q ↔ Wp d k nx ls (vR (some al.1) :: st) (nwA al c x.toNat x.toNat) (zeI hi al.1) (zeR hr al.1) Q := wp_e h (by unfold sNA; simp only [h0, h1, and_self, if_true])
theorem inA_of {a : Nat} {i : Int} (h0 : 0 ≤ i) (h1 : i < aln al a) : inA al a i = true := by simp [inA, h0, h1]
theorem wr_ia {nx : Nat} (h : cd k pc = sIA nx) {a : Nat} {i : Int} (hK : isK al a 15) (h0 : 0 ≤ i) (h1 : i < aln al a) : Wp d k pc ls (vI i :: vR (some a) :: st) al hi hr Q ↔ Wp d k nx ls (vI (hi a i) :: st) al hi hr Q := wp_e h (by unfold sIA; simp only [isKb_iff.mpr hK, inA_of h0 h1, Bool.true_or, Bool.and_self, if_true])
theorem wr_iaF {nx : Nat} (h : cd k pc = sIA nx) {a : Nat} {i : Int} (hK : isF al a = true) (h0 : 0 ≤ i) (h1 : i < aln al a) : Wp d k pc ls (vI i :: vR (some a) :: st) al hi hr Q ↔ Wp d k nx ls (vI (hi a i) :: st) al hi hr Q := wp_e h (by unfold sIA; simp only [hK, inA_of h0 h1, Bool.or_true, Bool.and_self, if_true])
theorem wr_ba {nx : Nat} (h : cd k pc = sBA nx) {a : Nat} {i : Int} (hK : isK al a 14) (h0 : 0 ≤ i) (h1 : i < aln al a) : Wp d k pc ls (vI i :: vR (some a) :: st) al hi hr Q ↔ Wp d k nx ls (vI (hi a i) :: st) al hi hr Q := wp_e h (by unfold sBA; simp only [isKb_iff.mpr hK, inA_of h0 h1, Bool.true_or, Bool.and_self, if_true])
theorem wr_za {nx : Nat} (h : cd k pc = sBA nx) {a : Nat} {i : Int} (hK : isK al a 16) (h0 : 0 ≤ i) (h1 : i < aln al a) : Wp d k pc ls (vI i :: vR (some a) :: st) al hi hr Q ↔ Wp d k nx ls (vI (hi a i) :: st) al hi hr Q := wp_e h (by unfold sBA; simp only [isKb_iff.mpr hK, inA_of h0 h1, Bool.or_true, Bool.and_self, if_true])
theorem isQ_iff2 {al : AL} {a : Nat} : isQ al a = true ↔ 2 ≤ a ∧ a < al.1 ∧ 17 ≤ (al.2.2 a).1 ∧ (al.2.2 a).1 ≤ 20 := by simp [isQ, and_assoc]
theorem isQ_of {a c : Nat} (hK : isK al a c) (h1 : 17 ≤ c) (h2 : c ≤ 20) : isQ al a = true := by
  obtain ⟨q1, q2, q3⟩ := hK
  rw [isQ_iff2, q3]
  exact ⟨q1, q2, h1, h2⟩
theorem wr_ra {nx : Nat} (h : cd k pc = sRA nx) {a : Nat} {i : Int} (hK : isQ al a = true) (h0 : 0 ≤ i) (h1 : i < aln al a) : Wp d k pc ls (vI i :: vR (some a) :: st) al hi hr Q ↔ Wp d k nx ls (vR (hr a i) :: st) al hi hr Q := wp_e h (by unfold sRA; simp only [hK, inA_of h0 h1, Bool.and_self, if_true])
theorem wr_is {nx : Nat} (h : cd k pc = sIS nx) {a : Nat} {i x : Int} (hK : isK al a 15) (h0 : 0 ≤ i) (h1 : i < aln al a) : Wp d k pc ls (vI x :: vI i :: vR (some a) :: st) al hi hr Q ↔ Wp d k nx ls st al (upI hi a i x) hr Q := wp_e h (by unfold sIS; simp only [isKb_iff.mpr hK, inA_of h0 h1, Bool.and_self, if_true])
theorem wr_bs {nx : Nat} (h : cd k pc = sBS nx) {a : Nat} {i x : Int} (hK : isK al a 14) (h0 : 0 ≤ i) (h1 : i < aln al a) : Wp d k pc ls (vI x :: vI i :: vR (some a) :: st) al hi hr Q ↔ Wp d k nx ls st al (upI hi a i (fB x)) hr Q := wp_e h (by unfold sBS; simp only [isKb_iff.mpr hK, inA_of h0 h1, Bool.true_or, Bool.and_self, if_true, hK.2.2])
theorem wr_zs {nx : Nat} (h : cd k pc = sBS nx) {a : Nat} {i x : Int} (hK : isK al a 16) (h0 : 0 ≤ i) (h1 : i < aln al a) : Wp d k pc ls (vI x :: vI i :: vR (some a) :: st) al hi hr Q ↔ Wp d k nx ls st al (upI hi a i (fZ x)) hr Q := wp_e h (by
  have h9 : ¬ (tgk al a = 14) := by show ¬ (al.2.2 a).1 = 14; rw [hK.2.2]; decide
  unfold sBS; simp only [isKb_iff.mpr hK, inA_of h0 h1, Bool.or_true, Bool.and_self, if_true, h9, if_false])
theorem wr_rsN {nx : Nat} (h : cd k pc = sRS nx) {a : Nat} {i : Int} (hK : isQ al a = true) (h0 : 0 ≤ i) (h1 : i < aln al a) : Wp d k pc ls (vR none :: vI i :: vR (some a) :: st) al hi hr Q ↔ Wp d k nx ls st al hi (upR hr a i none) Q := wp_e h (by unfold sRS; simp only [hK, inA_of h0 h1, Bool.and_self, if_true])
theorem wr_rsS {nx : Nat} (h : cd k pc = sRS nx) {a b c : Nat} {i : Int} (hK : isK al a c) (hc : 17 ≤ c ∧ c ≤ 20) (h0 : 0 ≤ i) (h1 : i < aln al a) (hb : isK al b (elc c)) : Wp d k pc ls (vR (some b) :: vI i :: vR (some a) :: st) al hi hr Q ↔ Wp d k nx ls st al hi (upR hr a i (some b)) Q := wp_e h (by
  have h8 : isKb al b (elc (tgk al a)) = true := by show isKb al b (elc (al.2.2 a).1) = true; rw [hK.2.2]; exact isKb_iff.mpr hb
  unfold sRS; simp only [isQ_of hK hc.1 hc.2, inA_of h0 h1, h8, Bool.and_self, if_true])
theorem isR_of {a c : Nat} (hK : isK al a c) (h1 : 14 ≤ c) (h2 : c ≤ 20) : isR al a = true := by
  obtain ⟨q1, q2, q3⟩ := hK
  simp [isR, q1, q2, q3, h1, h2]
theorem wr_len {nx : Nat} (h : cd k pc = sLen nx) {a : Nat} (hK : isR al a = true) : Wp d k pc ls (vR (some a) :: st) al hi hr Q ↔ Wp d k nx ls (vI (aln al a) :: st) al hi hr Q := wp_e h (by unfold sLen; simp only [hK, if_true])
theorem wr_cp {nx : Nat} (h : cd k pc = sCp nx) {a b : Nat} {sp dp n : Int} (hs : sh4 st = true) (ha : isK al a 15) (hb : isK al b 15) (h1 : 0 ≤ sp) (h2 : 0 ≤ dp) (h3 : 0 ≤ n) (h4 : sp + n ≤ aln al a) (h5 : dp + n ≤ aln al b) : Wp d k pc ls (vI n :: vI dp :: vR (some b) :: vI sp :: vR (some a) :: st) al hi hr Q ↔ Wp d k nx ls st al (cpI hi a sp b dp n) hr Q := wp_e h (by unfold sCp; simp only [hs, isKb_iff.mpr ha, isKb_iff.mpr hb, h1, h2, h3, h4, h5, and_self, decide_true, Bool.and_self, if_true])
theorem wr_rz (h : cd k pc = sRZ) {x : Int} (hx : x = 0 ∨ x = 1) : Wp d k pc ls [vI x] al hi hr Q ↔ Q (some (some (vI x))) al hi hr := wp_r (by rw [h]; unfold sRZ; simp only [hx, if_true])
theorem wr_th (h : cd k pc = sTh) (ht : tho k = true) {a : Nat} (hK : isK al a 0) : Wp d k pc ls (vR (some a) :: st) al hi hr Q ↔ Q none al hi hr := wp_t ht (by rw [h]; unfold sTh; simp only [isKb_iff.mpr hK, if_true])
/-- a call -/
abbrev kon (d k pc nx : Nat) (ls st : List AV) (Q : QQ) : QQ := fun r al hi hr => knt r (fun v => Wp d k nx ls (v.toList ++ st) al hi hr Q) (thn d k pc ls al hi hr Q)
theorem wr_call {sp : Sp} (h : cd k pc = sp) (hd : 0 < d) {k' nx : Nat} {as st' : List AV} (h2 : sp ls st al hi hr = oC k' as nx ls st') : Wp d k pc ls st al hi hr Q ↔ Ev (d - 1) k' as al hi hr (kon d k pc nx ls st' Q) := wp_call hd (by rw [h]; exact h2)
theorem wr_cv {w : Bool} {k' n c nx : Nat} (h : cd k pc = sCV w k' n c nx) (hd : 0 < d) {a : Nat} {as st' : List AV} (hK : isK al a c) (ht : tk n [] st = some (vR (some a) :: as, st')) (hc : (as.all cat1 && shw w st') = true) : Wp d k pc ls st al hi hr Q ↔ Ev (d - 1) k' (vR (some a) :: as) al hi hr (kon d k pc nx ls st' Q) := wr_call h hd (by unfold sCV; rw [ht]; simp only [isKb_iff.mpr hK, hc, Bool.and_self, if_true])
theorem wr_cl {k' c nx : Nat} (h : cd k pc = sCL k' c nx) (hd : 0 < d) {a : Nat} {p x w : Int} {st' : List AV} (hK : isK al a c) (hs : sh4 st' = true) : Wp d k pc ls (vI w :: vL x :: vI p :: vR (some a) :: st') al hi hr Q ↔ Ev (d - 1) k' [vR (some a), vI p, vL x, vI w] al hi hr (kon d k pc nx ls st' Q) := wr_call h hd (by unfold sCL; simp only [isKb_iff.mpr hK, hs, Bool.and_self, if_true])
end RW
