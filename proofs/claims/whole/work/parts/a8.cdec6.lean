section CD6
variable {d : Nat} {al : AL} {hi : HI} {hr : HR} {Q : QQ} {B : Int → Int} {N : Nat} {n nm : Int}
theorem FW.sm {w : Nat → Int → Prop} {hi' : HI} {a : Nat} {i x : Int} (h : FW w hi hi') (ht : w a i ∨ hi a i = x) : FW w hi (upI hi' a i x) := by
  rcases ht with ht | ht
  · exact h.up ht
  · intro b j hb
    unfold upI
    split
    · rename_i e; rw [e.1, e.2]; exact ht.symm
    · exact h b j hb
theorem DC.fr {w : Nat → Int → Prop} {hi' : HI} (h : DC al hi hr N n B nm) (hf : FW w hi hi') (h51 : ¬ w 5 1) (h61 : ¬ w 6 1) (hN6 : ∀ k, ¬ w (N + 6) k) (hz : szOK hi' N) : DC al hi' hr N n B nm := by
  obtain ⟨a1, a2, a3, a4, a5, a6, a7, a8, a9⟩ := h
  obtain ⟨b1, b2, b3, b4, b5, b6, b7⟩ := a5
  exact ⟨a1, a2, (hf 5 1 h51).trans a3, a4, ⟨b1, b2, b3, (hf 6 1 h61).trans b4, b5, fun k k0 k1 => (hf _ k (hN6 k)).trans (b6 k k0 k1), b7⟩, a6, a7, hz, a9⟩
noncomputable def bitP (t : Int) : Int := @ite _ (ptrC t) (Classical.propDecidable _) 1 0
theorem bitP_y {t : Int} (h : ptrC t) : bitP t = 1 := if_pos h
theorem bitP_n {t : Int} (h : ¬ ptrC t) : bitP t = 0 := if_neg h
theorem bitP_b {t : Int} : 0 ≤ bitP t ∧ bitP t ≤ 1 := by unfold bitP; split <;> decide
/-- the bits of the fields that a collection follows -/
noncomputable def ptB (B : Int → Int) (r : Int) : Nat → Int
  | 0 => 0
  | k + 1 => ptB B r k + bitP (tyC B (pFld B r k)) * 2 ^ k
theorem ptB_s {B : Int → Int} {r : Int} {k : Nat} : ptB B r (k + 1) = ptB B r k + bitP (tyC B (pFld B r k)) * 2 ^ k := rfl
theorem ptB_b (B : Int → Int) (r : Int) : ∀ k, 0 ≤ ptB B r k ∧ ptB B r k < 2 ^ k
  | 0 => by unfold ptB; decide
  | k + 1 => by
    have h := ptB_b B r k
    have hb := bitP_b (t := tyC B (pFld B r k))
    unfold ptB
    rw [show (2 : Int) ^ (k + 1) = 2 ^ k * 2 from Int.pow_succ ..]
    generalize (2 : Int) ^ k = z at h ⊢
    rcases (by omega : bitP (tyC B (pFld B r k)) = 0 ∨ bitP (tyC B (pFld B r k)) = 1) with e | e <;> rw [e] <;> omega
theorem ptB_i {B : Int → Int} {r : Int} {j m : Nat} (hj : j < m) (hm : m ≤ 6) : ptB B r m / 2 ^ j % 2 = bitP (tyC B (pFld B r j)) := by
  have b0 := bitP_b (t := tyC B (pFld B r ((0 : Nat) : Int)))
  have b1 := bitP_b (t := tyC B (pFld B r ((1 : Nat) : Int)))
  have b2 := bitP_b (t := tyC B (pFld B r ((2 : Nat) : Int)))
  have b3 := bitP_b (t := tyC B (pFld B r ((3 : Nat) : Int)))
  have b4 := bitP_b (t := tyC B (pFld B r ((4 : Nat) : Int)))
  have b5 := bitP_b (t := tyC B (pFld B r ((5 : Nat) : Int)))
  have hj6 : j = 0 ∨ j = 1 ∨ j = 2 ∨ j = 3 ∨ j = 4 ∨ j = 5 := by omega
  have hm6 : m = 1 ∨ m = 2 ∨ m = 3 ∨ m = 4 ∨ m = 5 ∨ m = 6 := by omega
  rcases hm6 with rfl | rfl | rfl | rfl | rfl | rfl <;> rcases hj6 with rfl | rfl | rfl | rfl | rfl | rfl <;> simp only [ptB] <;> omega
set_option maxRecDepth 20000 in
theorem or_bit (x f : Int) (x0 : 0 ≤ x) (x1 : x < 64) (f0 : 0 ≤ f) (f1 : f < 6) : (x / 2 ^ f.toNat % 2 = 1 → fOr x (fShl 1 f) = x) ∧ (x < 2 ^ f.toNat → fOr x (fShl 1 f) = x + 2 ^ f.toNat) ∧ fOr x 0 = x := by
  have h : ∀ y : Fin 64, ∀ g : Fin 6, ((y.val : Int) / 2 ^ g.val % 2 = 1 → fOr (y.val : Int) (fShl 1 (g.val : Int)) = (y.val : Int)) ∧ ((y.val : Int) < 2 ^ g.val → fOr (y.val : Int) (fShl 1 (g.val : Int)) = (y.val : Int) + 2 ^ g.val) ∧ fOr (y.val : Int) 0 = (y.val : Int) := by decide +kernel
  have := h ⟨x.toNat, by omega⟩ ⟨f.toNat, by omega⟩
  simp only [show ((x.toNat : Nat) : Int) = x by omega, show ((f.toNat : Nat) : Int) = f by omega] at this
  exact this
/-- what a record's walk writes -/
def wR (N : Nat) (r : Int) (a : Nat) (i : Int) : Prop := (a = N + 1 ∧ i = r) ∨ (a = N + 2 ∧ 6 * r ≤ i ∧ i < 6 * r + 6) ∨ (a = N + 3 ∧ i = r)
def wQ (nm : Int) (w : Nat → Int → Prop) (a : Nat) (i : Int) : Prop := wY 6 a i ∨ (nm = 0 ∧ w a i)
theorem wQ_0 {w : Nat → Int → Prop} {hi' : HI} (h : FW (wQ nm w) hi hi') : FW (wQ 0 w) hi hi' := h.mn (fun a i q => q.elim Or.inl (fun q => Or.inr ⟨rfl, q.2⟩))
theorem wQ_1 {w : Nat → Int → Prop} {hi' : HI} (h : FW (wQ nm w) hi hi') (e : nm = 1) : FW (wY 6) hi hi' := h.mn (fun a i q => q.elim id (fun q => absurd q.1 (by omega)))
theorem wQ_f {w : Nat → Int → Prop} {hi' : HI} (h : FW (wY 6) hi hi') : FW (wQ nm w) hi hi' := h.mn (fun a i q => Or.inl q)
def PtOK (hi : HI) (N : Nat) (B : Int → Int) (r : Int) : Prop := hi (N + 3) r = ptB B r (nFld B r).toNat
noncomputable def recD (nm : Int) (B : Int → Int) (p : Int) : Ex := (if nm = 0 then nmb B 1 6 p else .ok (p + 1)).bind (lpE (tyD nm B 15 0) (B p).toNat)
theorem recD_0 {p : Int} (h : nm = 0) : recD nm B p = recP B p := by
  unfold recD recP
  rw [if_pos h, show tyD nm B 15 0 = tyP B 15 0 from funext fun q => tyD_0 h]
theorem recD_1 {p : Int} (h : nm = 1) : recD nm B p = nmR B p := by
  unfold recD nmR
  rw [if_neg (by omega), bnd_ok, show tyD nm B 15 0 = nmT B from funext fun q => tyD_1 h]
theorem tyD_ok {ks no p q : Int} (h01 : nm = 0 ∨ nm = 1) (hT : nm = 1 → ∃ q, tyP B ks no p = .ok q) (h : tyD nm B ks no p = .ok q) : q = skT B p ∧ p < q := by
  rcases h01 with e | e
  · rw [tyD_0 e] at h
    have := tyP_ge h
    exact ⟨tyP_sk h, by omega⟩
  · rw [tyD_1 e] at h
    obtain ⟨q', hq⟩ := hT e
    have hw := Wk_nmT hq
    rcases hw.2 with z | ⟨z, z1, -⟩
    · rw [h] at z; cases z; have := tyP_sk hq; exact ⟨this, hw.1⟩
    · rw [h] at z1; cases z1
theorem szOK.up {a : Nat} {i x : Int} (h : szOK hi N) (ha : a = N + 1 → 0 ≤ x ∧ x ≤ 6) : szOK (upI hi a i x) N := fun r r0 r1 => by
  unfold upI
  split
  · rename_i e; exact ha e.1.symm
  · exact h r r0 r1
theorem szOK.fw {w : Nat → Int → Prop} {hi' : HI} (h : szOK hi N) (hf : FW w hi hi') (hw : ∀ i, ¬ w (N + 1) i) : szOK hi' N := fun r r0 r1 => by rw [hf _ _ (hw r)]; exact h r r0 r1
theorem d_walkRecord {r p : Int} (h : DC al hi hr N n B nm) (hF : nm = 1 → NF al hi hr N B) (hd : 6 ≤ d) (r0 : 0 ≤ r) (r8 : r < 8) (hrn : nm = 1 → r < nRec B ∧ PtOK hi N B r) (hz0 : nm = 0 → hi (N + 3) r = 0)
    (hp : hi 6 3 = p) (hpr : p = pRec B r) (h0 : 0 ≤ p) (hl : hi 6 2 = n) (h4 : hi 6 4 = 0)
    (ok : ∀ p' hi', recD nm B p = .ok p' → FW (wQ nm (wR N r)) hi hi' → hi' 6 3 = p' → 0 ≤ p' → hi' 6 4 = 0 → RecOK hi' N B r → PtOK hi' N B r → szOK hi' N → Q (some none) al hi' hr)
    (er : ∀ q hi', recD nm B p = .error q → FW (wQ 0 (wR N r)) hi hi' → hi' 6 4 = 1 → hi' 6 5 = q → 0 ≤ hi' 6 3 → szOK hi' N → Q (some none) al hi' hr) : Ev d 31 [vR (some 5), vR (some N), vI r] al hi hr Q := by
  have h' := h
  obtain ⟨hA, a2, a3, a4, a5, a6, a7, a8, a9⟩ := h
  have k6 : isK al 6 2 := hA.k (by decide) (by decide) rfl
  have k5 : isK al 5 4 := hA.k (by decide) (by decide) rfl
  have kN := a6.1
  have hx := a5.tx
  have q1 : ∀ nm', ¬ wQ nm' (wR N r) 5 1 := fun nm' q => by unfold wQ wY wR at q; omega
  have q2 : ∀ nm', ¬ wQ nm' (wR N r) 6 1 := fun nm' q => by unfold wQ wY wR at q; omega
  have q3 : ∀ nm' k, ¬ wQ nm' (wR N r) (N + 6) k := fun nm' k q => by unfold wQ wY wR at q; omega
  have q62 : ∀ nm', ¬ wQ nm' (wR N r) 6 2 := fun nm' q => by unfold wQ wY wR at q; omega
  have hSh : nm = 1 → ShR B r := fun e => (hF e).2.2.2.2.2.2.2.1 r r0 (hrn e).1
  have e7 : nm = 1 → nmb B 1 6 p = .ok (p + 1) := fun e => by rw [hpr]; exact nmb_y (hSh e).1 (hSh e).2.1
  -- the way out behind a fault
  have TX9 : ∀ q hi' (l3 : Int) (i : Int), recD nm B p = .error q → FW (wQ 0 (wR N r)) hi hi' → hi' 6 4 = 1 → hi' 6 5 = q → 0 ≤ hi' 6 3 → szOK hi' N → Wp d 31 20 [vR (some 5), vR (some N), vI r, vI l3, vI i] [] al hi' hr Q := by
    intro q hi' l3 i e1 hf e4 e5 e3 ez
    have E := er q hi' e1 hf e4 e5 e3 ez
    refine s31_20.mpr (s31_22.mpr ?_)
    refine s31_23.mpr (wif (fun c23 => ?_) (fun c23 => ?_))
    · skip
      refine s31_26.mpr ?_
      refine (s31_27 (by first | decide | assumption | omega)).mpr ?_
      try simp (disch := first | decide | assumption | omega) only [kon, knt_some, knt_none, Option.toList_some, Option.toList_none, List.cons_append, List.nil_append, a2]
      refine (s31_30 (by first | decide | assumption | omega) (by first | decide | assumption | omega)).mpr ?_
      refine b_isRight k6 (fun q => absurd q (by rw [e4]; decide)) (fun _ => ?_)
      refine s31_33.mpr (wif (fun c33 => ?_) (fun c33 => ?_))
      · skip
        refine (s31_56).mpr ?_
        exact E
      · skip
        exact absurd rfl c33
    · skip
      refine (s31_56).mpr ?_
      exact E
  have T20 : ∀ h1, 1 ≤ B p → B p ≤ 6 → (nm = 0 → nmb B 1 6 p = .ok (p + 1)) → FW (wQ nm (wR N r)) hi h1 → h1 6 3 = p + 1 → h1 6 4 = 0 → h1 (N + 1) r = B p → szOK h1 N → h1 (N + 3) r = hi (N + 3) r → Wp d 31 20 [vR (some 5), vR (some N), vI r, vI (B p), vI 0] [] al h1 hr Q := by
    intro h1 b1 b6 hn hf1 e3 e4 es ez ep
    have eR : recD nm B p = lpE (tyD nm B 15 0) (B p).toNat (p + 1) := by
      unfold recD
      rcases a4 with e | e
      · rw [if_pos e, hn e, bnd_ok]
      · rw [if_neg (by omega), bnd_ok]
    have eF : nFld B r = B p := by unfold nFld; rw [hpr]
    refine wp_lpE (N := (B p).toNat) (f := tyD nm B 15 0) (p0 := p + 1) (fun i p' ls h2 => ls = [vR (some 5), vR (some N), vI r, vI (B p), vI i] ∧ FW (wQ nm (wR N r)) hi h2 ∧ h2 6 3 = p' ∧ 0 ≤ p' ∧ p' = pFld B r i ∧ h2 6 4 = 0 ∧ h2 (N + 1) r = B p ∧ szOK h2 N ∧ (∀ k : Int, 0 ≤ k → k < i → h2 (N + 2) (6 * r + k) = tyC B (pFld B r k)) ∧ (nm = 0 → h2 (N + 3) r = ptB B r i) ∧ (nm = 1 → h2 (N + 3) r = ptB B r (nFld B r).toNat)) ?_ ?_ _ _ ⟨rfl, hf1, e3, by omega, by rw [hpr]; rfl, e4, es, ez, fun k k0 k1 => absurd k1 (by omega), fun e => by rw [ep, hz0 e]; rfl, fun e => by rw [ep]; exact (hrn e).2⟩
    · rintro i p' ls h2 hi6 hok ⟨rfl, hf, f3, f0, fp, f4, fs, fz, ff, g0, g1⟩ nx er2
      have hs := h'.fr hf (q1 _) (q2 _) (q3 _) fz
      have hFs : nm = 1 → NF al h2 hr N B := fun e => (hF e).fw hA a7 (wQ_1 hf e)
      have hTy : nm = 1 → ∃ q, tyP B 15 0 p' = .ok q := fun e => ⟨_, by rw [fp]; exact ((hSh e).2.2.2.1 i (by omega) (by rw [eF]; omega)).1⟩
      have hl2 : h2 6 2 = n := (hf 6 2 (q62 _)).trans hl
      refine s31_20.mpr (s31_22.mpr ?_)
      refine s31_23.mpr (wif (fun c23 => ?_) (fun c23 => ?_))
      · first
        | (exfalso; omega)
        | skip
          refine s31_26.mpr ?_
          refine (s31_27 (by first | decide | assumption | omega)).mpr ?_
          try simp (disch := first | decide | assumption | omega) only [kon, knt_some, knt_none, Option.toList_some, Option.toList_none, List.cons_append, List.nil_append, a2, fAdd_id]
          refine (s31_30 (by first | decide | assumption | omega) (by first | decide | assumption | omega)).mpr ?_
          refine b_isRight k6 (fun _ => ?_) (fun q => absurd f4 q)
          refine s31_33.mpr (wif (fun c33 => ?_) (fun c33 => ?_))
          · first
            | (exfalso; omega)
            | skip
              exact absurd (by assumption) (by decide)
          · first
            | (exfalso; omega)
            | skip
              refine s31_36.mpr (s31_37.mpr (s31_38.mpr (s31_40.mpr (s31_41.mpr (s31_42.mpr ?_)))))
              refine (s31_44 (by first | decide | assumption | omega) (by first | decide | assumption | omega)).mpr ?_
              refine d_takeType (ks := 15) (no := 0) hs hFs (by omega) f3 f0 hl2 (Or.inl ⟨rfl, rfl, rfl⟩) (fun e _ => hTy e) (fun q => absurd f4 q) (fun _ => ?_)
              refine kEx_of (fun qE eE => ?_) (fun qE eE => ?_)
              rotate_left
              intro xE hE vE
              · skip
                refine (s31_47 (by first | decide | assumption | omega) (by first | decide | assumption | omega)).mpr ?_
                refine t_setField a6 (by omega) r0 r8 (by omega) (by omega) (fun pE => ?_) (fun pE => ?_)
                · skip
                  refine s31_50.mpr (s31_53.mpr ?_)
                  try simp (disch := first | decide | assumption | omega) only [kon, knt_some, knt_none, Option.toList_some, Option.toList_none, List.cons_append, List.nil_append, a2, fAdd_id]
                  first
                  | (refine TX9 qE _ _ _ (by rw [eR]; exact er2 _ eE) ?_ ?_ ?_ ?_ ?_
                     · exact FW.up (FW.up ((wQ_0 hf).tr (wQ_f vE.1)) (Or.inr ⟨rfl, Or.inr (Or.inl ⟨rfl, by omega, by omega⟩)⟩)) (Or.inr ⟨rfl, Or.inr (Or.inr ⟨rfl, rfl⟩)⟩)
                     · rw [upI_a (by omega), upI_a (by omega)]; exact vE.2.1
                     · rw [upI_a (by omega), upI_a (by omega)]; exact vE.2.2.1
                     · rw [upI_a (by omega), upI_a (by omega)]; exact vE.2.2.2
                     · exact ((fz.fw vE.1 (fun i => wY_6 (by omega))).up (fun q => by omega)).up (fun q => by omega))
                  | (have hk := tyD_ok a4 hTy eE
                     have hpf : qE = pFld B r ((i + 1 : Nat) : Int) := by rw [hk.1, fp]; show _ = itr (skT B) ((i : Int) + 1).toNat _; rw [itr_t _ _ (by omega)]; rfl
                     have hu : ∀ a j, a ≠ 6 → (upI h2 6 3 qE) a j = h2 a j := fun a j ha => upI_a ha
                     have hbi := ptB_b B r i
                     have hbm := ptB_b B r (nFld B r).toNat
                     have h64 : ∀ k : Nat, k ≤ 6 → (2 : Int) ^ k ≤ 64 := fun k hk => by
                       have : (2 : Nat) ^ k ≤ 2 ^ 6 := Nat.pow_le_pow_right (by decide) hk
                       have h3 : ((2 ^ k : Nat) : Int) ≤ ((2 ^ 6 : Nat) : Int) := Int.ofNat_le.mpr this
                       rw [Int.natCast_pow] at h3; exact h3
                     have h64i := h64 i (by omega)
                     have h64m := h64 (nFld B r).toNat (by omega)
                     have W : ∀ y, (nm = 0 → y = ptB B r (i + 1)) → (nm = 1 → y = ptB B r (nFld B r).toNat) → Wp d 31 20 [vR (some 5), vR (some N), vI r, vI (B p), vI ((i : Int) + 1)] [] al (upI (upI (upI h2 6 3 qE) (N + 2) (6 * r + i) (tyC B p')) (N + 3) r y) hr Q := by
                       intro y y0 y1
                       refine nx _ _ _ eE ⟨rfl, ?_, ?_, by omega, hpf, ?_, ?_, ?_, fun k k0 k1 => ?_, fun e => by rw [upI_eq]; exact y0 e, fun e => by rw [upI_eq]; exact y1 e⟩
                       · refine FW.sm (FW.sm (FW.up hf (Or.inl ⟨rfl, by omega⟩)) ?_) ?_
                         · rcases a4 with e | e
                           · exact Or.inl (Or.inr ⟨e, Or.inr (Or.inl ⟨rfl, by omega, by omega⟩)⟩)
                           · refine Or.inr ?_; rw [fp]; exact ((hF e).2.2.2.1 r r0 (hrn e).1).2 i (by omega) (by rw [eF]; omega)
                         · rcases a4 with e | e
                           · exact Or.inl (Or.inr ⟨e, Or.inr (Or.inr ⟨rfl, rfl⟩)⟩)
                           · refine Or.inr ?_; rw [y1 e]; exact (hrn e).2
                       · rw [upI_a (by omega), upI_a (by omega), upI_eq]
                       · rw [upI_a (by omega), upI_a (by omega), upI_i (by decide)]; exact f4
                       · rw [upI_a (by omega), upI_a (by omega), upI_a (by omega)]; exact fs
                       · exact ((fz.up (fun q => by omega)).up (fun q => by omega)).up (fun q => by omega)
                       · rw [upI_a (by omega)]
                         by_cases e : k = i
                         · subst e; rw [upI_eq, fp]
                         · rw [upI_i (by omega), upI_a (by omega)]; exact ff k k0 (by omega)
                     have hrd : (upI h2 6 3 qE) (N + 3) r = h2 (N + 3) r := upI_a (by omega)
                     rw [hrd]
                     have ei : ((i : Int)).toNat = i := by omega
                     have obs : ∀ x : Int, 0 ≤ x → x < 64 → _ := fun x x0 x1 => or_bit x i x0 x1 (by omega) (by omega)
                     rw [ei] at obs
                     first
                     | (refine W _ (fun e => ?_) (fun e => ?_)
                        · rw [g0 e, (obs _ hbi.1 (by omega)).2.1 hbi.2]; rw [ptB_s, ← fp, bitP_y pE, Int.one_mul]
                        · rw [g1 e, (obs _ hbm.1 (by omega)).1 (by rw [ptB_i (by rw [eF]; omega) (by rw [eF]; omega), ← fp]; exact bitP_y pE)])
                     | (refine W _ (fun e => ?_) (fun e => ?_)
                        · rw [g0 e, (obs _ hbi.1 (by omega)).2.2]; rw [ptB_s, ← fp, bitP_n pE, Int.zero_mul, Int.add_zero]
                        · rw [g1 e, (obs _ hbm.1 (by omega)).2.2]))
                · skip
                  refine s31_50.mpr (s31_53.mpr ?_)
                  try simp (disch := first | decide | assumption | omega) only [kon, knt_some, knt_none, Option.toList_some, Option.toList_none, List.cons_append, List.nil_append, a2, fAdd_id]
                  first
                  | (refine TX9 qE _ _ _ (by rw [eR]; exact er2 _ eE) ?_ ?_ ?_ ?_ ?_
                     · exact FW.up (FW.up ((wQ_0 hf).tr (wQ_f vE.1)) (Or.inr ⟨rfl, Or.inr (Or.inl ⟨rfl, by omega, by omega⟩)⟩)) (Or.inr ⟨rfl, Or.inr (Or.inr ⟨rfl, rfl⟩)⟩)
                     · rw [upI_a (by omega), upI_a (by omega)]; exact vE.2.1
                     · rw [upI_a (by omega), upI_a (by omega)]; exact vE.2.2.1
                     · rw [upI_a (by omega), upI_a (by omega)]; exact vE.2.2.2
                     · exact ((fz.fw vE.1 (fun i => wY_6 (by omega))).up (fun q => by omega)).up (fun q => by omega))
                  | (have hk := tyD_ok a4 hTy eE
                     have hpf : qE = pFld B r ((i + 1 : Nat) : Int) := by rw [hk.1, fp]; show _ = itr (skT B) ((i : Int) + 1).toNat _; rw [itr_t _ _ (by omega)]; rfl
                     have hu : ∀ a j, a ≠ 6 → (upI h2 6 3 qE) a j = h2 a j := fun a j ha => upI_a ha
                     have hbi := ptB_b B r i
                     have hbm := ptB_b B r (nFld B r).toNat
                     have h64 : ∀ k : Nat, k ≤ 6 → (2 : Int) ^ k ≤ 64 := fun k hk => by
                       have : (2 : Nat) ^ k ≤ 2 ^ 6 := Nat.pow_le_pow_right (by decide) hk
                       have h3 : ((2 ^ k : Nat) : Int) ≤ ((2 ^ 6 : Nat) : Int) := Int.ofNat_le.mpr this
                       rw [Int.natCast_pow] at h3; exact h3
                     have h64i := h64 i (by omega)
                     have h64m := h64 (nFld B r).toNat (by omega)
                     have W : ∀ y, (nm = 0 → y = ptB B r (i + 1)) → (nm = 1 → y = ptB B r (nFld B r).toNat) → Wp d 31 20 [vR (some 5), vR (some N), vI r, vI (B p), vI ((i : Int) + 1)] [] al (upI (upI (upI h2 6 3 qE) (N + 2) (6 * r + i) (tyC B p')) (N + 3) r y) hr Q := by
                       intro y y0 y1
                       refine nx _ _ _ eE ⟨rfl, ?_, ?_, by omega, hpf, ?_, ?_, ?_, fun k k0 k1 => ?_, fun e => by rw [upI_eq]; exact y0 e, fun e => by rw [upI_eq]; exact y1 e⟩
                       · refine FW.sm (FW.sm (FW.up hf (Or.inl ⟨rfl, by omega⟩)) ?_) ?_
                         · rcases a4 with e | e
                           · exact Or.inl (Or.inr ⟨e, Or.inr (Or.inl ⟨rfl, by omega, by omega⟩)⟩)
                           · refine Or.inr ?_; rw [fp]; exact ((hF e).2.2.2.1 r r0 (hrn e).1).2 i (by omega) (by rw [eF]; omega)
                         · rcases a4 with e | e
                           · exact Or.inl (Or.inr ⟨e, Or.inr (Or.inr ⟨rfl, rfl⟩)⟩)
                           · refine Or.inr ?_; rw [y1 e]; exact (hrn e).2
                       · rw [upI_a (by omega), upI_a (by omega), upI_eq]
                       · rw [upI_a (by omega), upI_a (by omega), upI_i (by decide)]; exact f4
                       · rw [upI_a (by omega), upI_a (by omega), upI_a (by omega)]; exact fs
                       · exact ((fz.up (fun q => by omega)).up (fun q => by omega)).up (fun q => by omega)
                       · rw [upI_a (by omega)]
                         by_cases e : k = i
                         · subst e; rw [upI_eq, fp]
                         · rw [upI_i (by omega), upI_a (by omega)]; exact ff k k0 (by omega)
                     have hrd : (upI h2 6 3 qE) (N + 3) r = h2 (N + 3) r := upI_a (by omega)
                     rw [hrd]
                     have ei : ((i : Int)).toNat = i := by omega
                     have obs : ∀ x : Int, 0 ≤ x → x < 64 → _ := fun x x0 x1 => or_bit x i x0 x1 (by omega) (by omega)
                     rw [ei] at obs
                     first
                     | (refine W _ (fun e => ?_) (fun e => ?_)
                        · rw [g0 e, (obs _ hbi.1 (by omega)).2.1 hbi.2]; rw [ptB_s, ← fp, bitP_y pE, Int.one_mul]
                        · rw [g1 e, (obs _ hbm.1 (by omega)).1 (by rw [ptB_i (by rw [eF]; omega) (by rw [eF]; omega), ← fp]; exact bitP_y pE)])
                     | (refine W _ (fun e => ?_) (fun e => ?_)
                        · rw [g0 e, (obs _ hbi.1 (by omega)).2.2]; rw [ptB_s, ← fp, bitP_n pE, Int.zero_mul, Int.add_zero]
                        · rw [g1 e, (obs _ hbm.1 (by omega)).2.2]))
              · skip
                refine (s31_47 (by first | decide | assumption | omega) (by first | decide | assumption | omega)).mpr ?_
                refine t_setField a6 (by omega) r0 r8 (by omega) (by omega) (fun pE => ?_) (fun pE => ?_)
                · skip
                  refine s31_50.mpr (s31_53.mpr ?_)
                  try simp (disch := first | decide | assumption | omega) only [kon, knt_some, knt_none, Option.toList_some, Option.toList_none, List.cons_append, List.nil_append, a2, fAdd_id]
                  first
                  | (refine TX9 qE _ _ _ (by rw [eR]; exact er2 _ eE) ?_ ?_ ?_ ?_ ?_
                     · exact FW.up (FW.up ((wQ_0 hf).tr (wQ_f vE.1)) (Or.inr ⟨rfl, Or.inr (Or.inl ⟨rfl, by omega, by omega⟩)⟩)) (Or.inr ⟨rfl, Or.inr (Or.inr ⟨rfl, rfl⟩)⟩)
                     · rw [upI_a (by omega), upI_a (by omega)]; exact vE.2.1
                     · rw [upI_a (by omega), upI_a (by omega)]; exact vE.2.2.1
                     · rw [upI_a (by omega), upI_a (by omega)]; exact vE.2.2.2
                     · exact ((fz.fw vE.1 (fun i => wY_6 (by omega))).up (fun q => by omega)).up (fun q => by omega))
                  | (have hk := tyD_ok a4 hTy eE
                     have hpf : qE = pFld B r ((i + 1 : Nat) : Int) := by rw [hk.1, fp]; show _ = itr (skT B) ((i : Int) + 1).toNat _; rw [itr_t _ _ (by omega)]; rfl
                     have hu : ∀ a j, a ≠ 6 → (upI h2 6 3 qE) a j = h2 a j := fun a j ha => upI_a ha
                     have hbi := ptB_b B r i
                     have hbm := ptB_b B r (nFld B r).toNat
                     have h64 : ∀ k : Nat, k ≤ 6 → (2 : Int) ^ k ≤ 64 := fun k hk => by
                       have : (2 : Nat) ^ k ≤ 2 ^ 6 := Nat.pow_le_pow_right (by decide) hk
                       have h3 : ((2 ^ k : Nat) : Int) ≤ ((2 ^ 6 : Nat) : Int) := Int.ofNat_le.mpr this
                       rw [Int.natCast_pow] at h3; exact h3
                     have h64i := h64 i (by omega)
                     have h64m := h64 (nFld B r).toNat (by omega)
                     have W : ∀ y, (nm = 0 → y = ptB B r (i + 1)) → (nm = 1 → y = ptB B r (nFld B r).toNat) → Wp d 31 20 [vR (some 5), vR (some N), vI r, vI (B p), vI ((i : Int) + 1)] [] al (upI (upI (upI h2 6 3 qE) (N + 2) (6 * r + i) (tyC B p')) (N + 3) r y) hr Q := by
                       intro y y0 y1
                       refine nx _ _ _ eE ⟨rfl, ?_, ?_, by omega, hpf, ?_, ?_, ?_, fun k k0 k1 => ?_, fun e => by rw [upI_eq]; exact y0 e, fun e => by rw [upI_eq]; exact y1 e⟩
                       · refine FW.sm (FW.sm (FW.up hf (Or.inl ⟨rfl, by omega⟩)) ?_) ?_
                         · rcases a4 with e | e
                           · exact Or.inl (Or.inr ⟨e, Or.inr (Or.inl ⟨rfl, by omega, by omega⟩)⟩)
                           · refine Or.inr ?_; rw [fp]; exact ((hF e).2.2.2.1 r r0 (hrn e).1).2 i (by omega) (by rw [eF]; omega)
                         · rcases a4 with e | e
                           · exact Or.inl (Or.inr ⟨e, Or.inr (Or.inr ⟨rfl, rfl⟩)⟩)
                           · refine Or.inr ?_; rw [y1 e]; exact (hrn e).2
                       · rw [upI_a (by omega), upI_a (by omega), upI_eq]
                       · rw [upI_a (by omega), upI_a (by omega), upI_i (by decide)]; exact f4
                       · rw [upI_a (by omega), upI_a (by omega), upI_a (by omega)]; exact fs
                       · exact ((fz.up (fun q => by omega)).up (fun q => by omega)).up (fun q => by omega)
                       · rw [upI_a (by omega)]
                         by_cases e : k = i
                         · subst e; rw [upI_eq, fp]
                         · rw [upI_i (by omega), upI_a (by omega)]; exact ff k k0 (by omega)
                     have hrd : (upI h2 6 3 qE) (N + 3) r = h2 (N + 3) r := upI_a (by omega)
                     rw [hrd]
                     have ei : ((i : Int)).toNat = i := by omega
                     have obs : ∀ x : Int, 0 ≤ x → x < 64 → _ := fun x x0 x1 => or_bit x i x0 x1 (by omega) (by omega)
                     rw [ei] at obs
                     first
                     | (refine W _ (fun e => ?_) (fun e => ?_)
                        · rw [g0 e, (obs _ hbi.1 (by omega)).2.1 hbi.2]; rw [ptB_s, ← fp, bitP_y pE, Int.one_mul]
                        · rw [g1 e, (obs _ hbm.1 (by omega)).1 (by rw [ptB_i (by rw [eF]; omega) (by rw [eF]; omega), ← fp]; exact bitP_y pE)])
                     | (refine W _ (fun e => ?_) (fun e => ?_)
                        · rw [g0 e, (obs _ hbi.1 (by omega)).2.2]; rw [ptB_s, ← fp, bitP_n pE, Int.zero_mul, Int.add_zero]
                        · rw [g1 e, (obs _ hbm.1 (by omega)).2.2]))
                · skip
                  refine s31_50.mpr (s31_53.mpr ?_)
                  try simp (disch := first | decide | assumption | omega) only [kon, knt_some, knt_none, Option.toList_some, Option.toList_none, List.cons_append, List.nil_append, a2, fAdd_id]
                  first
                  | (refine TX9 qE _ _ _ (by rw [eR]; exact er2 _ eE) ?_ ?_ ?_ ?_ ?_
                     · exact FW.up (FW.up ((wQ_0 hf).tr (wQ_f vE.1)) (Or.inr ⟨rfl, Or.inr (Or.inl ⟨rfl, by omega, by omega⟩)⟩)) (Or.inr ⟨rfl, Or.inr (Or.inr ⟨rfl, rfl⟩)⟩)
                     · rw [upI_a (by omega), upI_a (by omega)]; exact vE.2.1
                     · rw [upI_a (by omega), upI_a (by omega)]; exact vE.2.2.1
                     · rw [upI_a (by omega), upI_a (by omega)]; exact vE.2.2.2
                     · exact ((fz.fw vE.1 (fun i => wY_6 (by omega))).up (fun q => by omega)).up (fun q => by omega))
                  | (have hk := tyD_ok a4 hTy eE
                     have hpf : qE = pFld B r ((i + 1 : Nat) : Int) := by rw [hk.1, fp]; show _ = itr (skT B) ((i : Int) + 1).toNat _; rw [itr_t _ _ (by omega)]; rfl
                     have hu : ∀ a j, a ≠ 6 → (upI h2 6 3 qE) a j = h2 a j := fun a j ha => upI_a ha
                     have hbi := ptB_b B r i
                     have hbm := ptB_b B r (nFld B r).toNat
                     have h64 : ∀ k : Nat, k ≤ 6 → (2 : Int) ^ k ≤ 64 := fun k hk => by
                       have : (2 : Nat) ^ k ≤ 2 ^ 6 := Nat.pow_le_pow_right (by decide) hk
                       have h3 : ((2 ^ k : Nat) : Int) ≤ ((2 ^ 6 : Nat) : Int) := Int.ofNat_le.mpr this
                       rw [Int.natCast_pow] at h3; exact h3
                     have h64i := h64 i (by omega)
                     have h64m := h64 (nFld B r).toNat (by omega)
                     have W : ∀ y, (nm = 0 → y = ptB B r (i + 1)) → (nm = 1 → y = ptB B r (nFld B r).toNat) → Wp d 31 20 [vR (some 5), vR (some N), vI r, vI (B p), vI ((i : Int) + 1)] [] al (upI (upI (upI h2 6 3 qE) (N + 2) (6 * r + i) (tyC B p')) (N + 3) r y) hr Q := by
                       intro y y0 y1
                       refine nx _ _ _ eE ⟨rfl, ?_, ?_, by omega, hpf, ?_, ?_, ?_, fun k k0 k1 => ?_, fun e => by rw [upI_eq]; exact y0 e, fun e => by rw [upI_eq]; exact y1 e⟩
                       · refine FW.sm (FW.sm (FW.up hf (Or.inl ⟨rfl, by omega⟩)) ?_) ?_
                         · rcases a4 with e | e
                           · exact Or.inl (Or.inr ⟨e, Or.inr (Or.inl ⟨rfl, by omega, by omega⟩)⟩)
                           · refine Or.inr ?_; rw [fp]; exact ((hF e).2.2.2.1 r r0 (hrn e).1).2 i (by omega) (by rw [eF]; omega)
                         · rcases a4 with e | e
                           · exact Or.inl (Or.inr ⟨e, Or.inr (Or.inr ⟨rfl, rfl⟩)⟩)
                           · refine Or.inr ?_; rw [y1 e]; exact (hrn e).2
                       · rw [upI_a (by omega), upI_a (by omega), upI_eq]
                       · rw [upI_a (by omega), upI_a (by omega), upI_i (by decide)]; exact f4
                       · rw [upI_a (by omega), upI_a (by omega), upI_a (by omega)]; exact fs
                       · exact ((fz.up (fun q => by omega)).up (fun q => by omega)).up (fun q => by omega)
                       · rw [upI_a (by omega)]
                         by_cases e : k = i
                         · subst e; rw [upI_eq, fp]
                         · rw [upI_i (by omega), upI_a (by omega)]; exact ff k k0 (by omega)
                     have hrd : (upI h2 6 3 qE) (N + 3) r = h2 (N + 3) r := upI_a (by omega)
                     rw [hrd]
                     have ei : ((i : Int)).toNat = i := by omega
                     have obs : ∀ x : Int, 0 ≤ x → x < 64 → _ := fun x x0 x1 => or_bit x i x0 x1 (by omega) (by omega)
                     rw [ei] at obs
                     first
                     | (refine W _ (fun e => ?_) (fun e => ?_)
                        · rw [g0 e, (obs _ hbi.1 (by omega)).2.1 hbi.2]; rw [ptB_s, ← fp, bitP_y pE, Int.one_mul]
                        · rw [g1 e, (obs _ hbm.1 (by omega)).1 (by rw [ptB_i (by rw [eF]; omega) (by rw [eF]; omega), ← fp]; exact bitP_y pE)])
                     | (refine W _ (fun e => ?_) (fun e => ?_)
                        · rw [g0 e, (obs _ hbi.1 (by omega)).2.2]; rw [ptB_s, ← fp, bitP_n pE, Int.zero_mul, Int.add_zero]
                        · rw [g1 e, (obs _ hbm.1 (by omega)).2.2]))
      · first
        | (exfalso; omega)
        | skip
          exact absurd (by assumption) (by decide)
    · rintro p' ls h2 hok ⟨rfl, hf, f3, f0, fp, f4, fs, fz, ff, g0, g1⟩
      have OK := ok p' h2 (by rw [eR]; exact hok) hf f3 f0 f4 ⟨fs.trans eF.symm, fun j j0 j1 => ff j j0 (by omega)⟩ (by
        unfold PtOK
        rcases a4 with e | e
        · rw [g0 e, eF]
        · exact g1 e) fz
      refine s31_20.mpr (s31_22.mpr ?_)
      refine s31_23.mpr (wif (fun c23 => ?_) (fun c23 => ?_))
      · skip
        exfalso; omega
      · skip
        refine (s31_56).mpr ?_
        exact OK
  rw [e31]
  refine s31_0.mpr ?_
  refine (s31_1 (by first | decide | assumption | omega)).mpr ?_
  refine s31_4.mpr (s31_5.mpr ?_)
  try simp (disch := first | decide | assumption | omega) only [kon, knt_some, knt_none, Option.toList_some, Option.toList_none, List.cons_append, List.nil_append, a2]
  refine (s31_7 (by first | decide | assumption | omega) (by first | decide | assumption | omega)).mpr ?_
  refine b_within a5 (by omega) (by omega) (fun q => absurd h4 q) (fun _ => ?_)
  rw [hp, hl]
  refine kEx_of (fun qE eE => ?_) (fun qE eE => ?_)
  rotate_left
  intro xE hE yE zE v1 v2 v3
  · skip
    refine s31_10.mpr (s31_11.mpr (s31_12.mpr (s31_13.mpr ?_)))
    refine (s31_14 (by first | decide | assumption | omega) (by first | decide | assumption | omega)).mpr ?_
    refine t_setSize a6 r0 r8 ?_
    refine s31_17.mpr (s31_18.mpr ?_)
    first
    | (have e9 : recD nm B p = .error qE := by
         obtain ⟨z0, z1⟩ := prL_er eE
         have z2 := (hx p).2
         have e8 : nmb B 1 6 p = .error p := nmb_n (by omega)
         unfold recD
         rcases a4 with e | e
         · rw [if_pos e, e8, z0]; rfl
         · rw [e7 e] at e8; cases e8
       have yE := yE (by decide)
       refine TX9 qE _ _ _ e9 (FW.up (wQ_f zE) (Or.inr ⟨rfl, Or.inl ⟨rfl, rfl⟩⟩)) ?_ ?_ ?_ ?_
       · rw [upI_a (by omega)]; exact v1
       · rw [upI_a (by omega)]; exact v2
       · rw [upI_a (by omega)]; exact v3
       · exact (a8.fw zE (fun i => wY_6 (by omega))).up (fun _ => by omega))
    | (obtain ⟨rfl, u1, u2, u3, u4⟩ := prL_ok eE
       refine T20 _ u2 u3 (fun _ => nmb_y u2 u3) (FW.sm (FW.up FW.rf (Or.inl ⟨rfl, by omega⟩)) ?_) ?_ ?_ upI_eq ?_ ?_
       · rcases a4 with e | e
         · exact Or.inl (Or.inr ⟨e, Or.inl ⟨rfl, rfl⟩⟩)
         · refine Or.inr ?_; rw [hpr]; exact ((hF e).2.2.2.1 r r0 (hrn e).1).1
       · rw [upI_a (by omega), upI_eq]
       · rw [upI_a (by omega), upI_i (by decide)]; exact h4
       · exact (a8.up (fun q => by omega)).up (fun _ => by omega)
       · rw [upI_a (by omega), upI_a (by omega)])
  · skip
    refine s31_10.mpr (s31_11.mpr (s31_12.mpr (s31_13.mpr ?_)))
    refine (s31_14 (by first | decide | assumption | omega) (by first | decide | assumption | omega)).mpr ?_
    refine t_setSize a6 r0 r8 ?_
    refine s31_17.mpr (s31_18.mpr ?_)
    first
    | (have e9 : recD nm B p = .error qE := by
         obtain ⟨z0, z1⟩ := prL_er eE
         have z2 := (hx p).2
         have e8 : nmb B 1 6 p = .error p := nmb_n (by omega)
         unfold recD
         rcases a4 with e | e
         · rw [if_pos e, e8, z0]; rfl
         · rw [e7 e] at e8; cases e8
       have yE := yE (by decide)
       refine TX9 qE _ _ _ e9 (FW.up (wQ_f zE) (Or.inr ⟨rfl, Or.inl ⟨rfl, rfl⟩⟩)) ?_ ?_ ?_ ?_
       · rw [upI_a (by omega)]; exact v1
       · rw [upI_a (by omega)]; exact v2
       · rw [upI_a (by omega)]; exact v3
       · exact (a8.fw zE (fun i => wY_6 (by omega))).up (fun _ => by omega))
    | (obtain ⟨rfl, u1, u2, u3, u4⟩ := prL_ok eE
       refine T20 _ u2 u3 (fun _ => nmb_y u2 u3) (FW.sm (FW.up FW.rf (Or.inl ⟨rfl, by omega⟩)) ?_) ?_ ?_ upI_eq ?_ ?_
       · rcases a4 with e | e
         · exact Or.inl (Or.inr ⟨e, Or.inl ⟨rfl, rfl⟩⟩)
         · refine Or.inr ?_; rw [hpr]; exact ((hF e).2.2.2.1 r r0 (hrn e).1).1
       · rw [upI_a (by omega), upI_eq]
       · rw [upI_a (by omega), upI_i (by decide)]; exact h4
       · exact (a8.up (fun q => by omega)).up (fun _ => by omega)
       · rw [upI_a (by omega), upI_a (by omega)])
end CD6
