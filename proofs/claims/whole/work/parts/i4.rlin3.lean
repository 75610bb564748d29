/-! RUNNING, the reference: receive and spawn as instructions -/
section RP6
variable {d : Nat} {al : AL} {hi : HI} {hr : HR} {Q : QQ} {s : HI} {p : Int} {B : Int → Int} {f o v qx m : Int}
theorem l_38 (hA : SA al) (hR : MR hr) (hd : 56 ≤ d) (hE : RelR hi s) (hp : AP s p) (hg0 : 0 ≤ hg s p ∧ hg s p ≤ 16) (hq : QB s) (q : ∀ hi', RelR hi' (exS B f s p o v qx) → FW wRn hi hi' → Q (some none) al hi' hr) (ho : o = 38) {e : Int} (h1 : (1 ≤ hg s p ∧ hg s p ≤ 16) ∧ (s 117 (4 * e) ≠ 4 → hg s p < 16)) (he : tv s p 0 = e) (hEn : EnO s e) (t0 : 0 ≤ s 115 (4 * e) ∧ s 115 (4 * e) < 4) (W1 : 1 ≤ s 114 e ∧ s 114 e ≤ 4) (hv2 : s 117 (4 * e) = 2 → 0 ≤ s 116 (4 * e) ∧ s 116 (4 * e) < 128) (hv3 : s 117 (4 * e) = 3 → 0 ≤ s 116 (4 * e) ∧ s 116 (4 * e) < 24) (hm : s 91 p = m) (m0 : 0 ≤ m ∧ m < 12) (h52 : hi 52 m ≤ 2000) (hB : bAt hi m = B) (q0 : 0 ≤ qx ∧ qx < 3000) : Wp d 316 190 [vR (some 49), vI p, vI o, vI v, vI qx, none] [] al hi hr Q := by
  have kM : isK al 49 13 := hA.k (by decide) (by decide) rfl
  have H0 := Sm.rf hE.1
  have hp' : AP hi p := hp.n (H0.e (by omega))
  have hgg : hg hi p = hg s p := H0.hg_
  have hqq : QB hi := hq.eq (fun _ => H0.e (by omega)) (fun _ => H0.e (by omega)) (fun _ => H0.e (by omega)) (fun _ => H0.e (by omega))
  have l111 := SA.len (a := 111) (n := 768) hA (by decide) (by decide) rfl
  have l98 := SA.len (a := 98) (n := 4992) hA (by decide) (by decide) rfl
  have l97 := SA.len (a := 97) (n := 192) hA (by decide) (by decide) rfl
  have l109 := SA.len (a := 109) (n := 128) hA (by decide) (by decide) rfl
  have l87 := SA.len (a := 87) (n := 500) hA (by decide) (by decide) rfl
  have l88 := SA.len (a := 88) (n := 500) hA (by decide) (by decide) rfl
  have hpb := hp.1
  have hp1 : AP (pp hi p 1) p := hp'.po
  have hh1 : hg (pp hi p 1) p = hg hi p - 1 := ppz_hg
  have et0 : tv hi p 0 = tv s p 0 := H0.tv_
  have et1 : tv hi p 1 = tv s p 1 := H0.tv_
  have ex : exS B f s p o v qx = rcvS s p (fun t => B (qx + 2 + t)) := by subst ho; rfl
  rw [ex] at q
  have E := q _ (hE.sm H0.rcv_) H0.rcv_.fw
  rw [← hB] at E
  have e114 : hi 114 e = s 114 e := H0.e (by omega)
  have e115 : hi 115 (4 * e) = s 115 (4 * e) := H0.e (by omega)
  have e116 : hi 116 (4 * e) = s 116 (4 * e) := H0.e (by omega)
  have e117 : hi 117 (4 * e) = s 117 (4 * e) := H0.e (by omega)
  refine s316_190.mpr (s316_191.mpr (s316_192.mpr ?_))
  refine (s316_194 (by omega) kM).mpr ?_
  refine r_receive hA hR (by omega) hp' (by rw [hgg]; exact h1.1) (by rw [hgg]; exact h1.2) (et0.trans he) ((EnO.e H0).mpr hEn) e115 e116 e117 t0 e114 W1 hv2 hv3 ((H0.e (by omega)).trans hm) m0 h52 q0 ?_
  refine s316_197.mpr ?_
  refine (s316_300).mpr ?_
  exact E
theorem staC_CE {h : HI} {n c j : Int} (H : CE h s) : CE (staC h n m c j) (staC s n m c j) := fun a i z => by
  unfold staC
  split; rfl
  split; rfl
  split; rfl
  split; rfl
  split; rfl
  exact H a i z
theorem actS_x {h : HI} {n : Int} {a : Nat} {i : Int} (z : a < 94 ∨ 99 < a) : actS h n f a i = h a i := actS_n z
theorem RelR.sta {n c : Int} (hE : RelR hi s) (n0 : 0 ≤ n ∧ n < 12) : RelR (staS hi n m f c) (staS s n m f c) ∧ FW wRn hi (staS hi n m f c) := by
  have C := staC_CE (m := m) (n := n) (c := c) (j := 1025) hE.1
  have A := (Sm.rf C).act_ (p := n) (f := f)
  rw [staS_eq, staS_eq]
  have sC : ∀ (g : HI) (a : Nat) (i : Int), (100 < a ∧ a ≠ 108) → staC g n m c 1025 a i = g a i := fun g a i z => by
    unfold staC; rw [if_neg (by omega), if_neg (by omega), if_neg (by omega), if_neg (by omega), if_neg (by omega)]
  refine ⟨⟨A.1, fun p' q0 q1 => ?_⟩, fun a i z => ?_⟩
  · obtain ⟨L1, L2⟩ := hE.2 p' q0 q1
    by_cases ep : p' = n
    · subst ep
      have z0 : ∀ b, 1 ≤ b → b ≤ 1024 → ¬ 0 < actS (staC s p' m c 1025) p' f 100 (1025 * p' + b) := fun b b1 b2 => by
        rw [actS_n (by omega)]
        unfold staC
        rw [if_neg (by omega), if_neg (by omega), if_neg (by omega), if_neg (by omega), if_pos (by omega)]
        decide
      exact ⟨fun b b1 b2 z => absurd z (z0 b b1 b2), fun b b' b1 b2 _ _ _ z => absurd z (z0 b b1 b2)⟩
    · have e100 : ∀ b, 1 ≤ b → b ≤ 1024 → actS (staC s n m c 1025) n f 100 (1025 * p' + b) = s 100 (1025 * p' + b) := fun b b1 b2 => by
        rw [actS_n (by omega)]
        unfold staC
        rw [if_neg (by omega), if_neg (by omega), if_neg (by omega), if_neg (by omega), if_neg (by omega)]
      have eh : ∀ (g : HI) (a : Nat) (i : Int), (100 < a ∧ a ≠ 108) → actS (staC g n m c 1025) n f a i = g a i := fun g a i z => by rw [actS_n (by omega), sC g a i z]
      refine ⟨fun b b1 b2 z => ?_, fun b b' b1 b2 b1' b2' e z z' => ?_⟩
      · rw [e100 b b1 b2] at z ⊢
        obtain ⟨q1, q2⟩ := L1 b b1 b2 z
        rw [eh hi 101 _ (by decide)]
        refine ⟨q1, fun i i0 i1 => ?_⟩
        rw [eh hi 103 _ (by decide), eh hi 104 _ (by decide), eh s 300 _ (by decide), eh s 301 _ (by decide)]
        exact q2 i i0 i1
      · rw [e100 b b1 b2] at z ⊢
        rw [e100 b' b1' b2'] at z' ⊢
        rw [eh hi 101 _ (by decide), eh hi 101 _ (by decide)]
        exact L2 b b' b1 b2 b1' b2' e z z'
  · unfold wRn at z
    unfold actS
    rw [if_neg (by omega), if_neg (by omega), if_neg (by omega), if_neg (by omega), if_neg (by omega)]
    unfold staC
    rw [if_neg (by omega), if_neg (by omega), if_neg (by omega), if_neg (by omega), if_neg (by omega)]
theorem spn_rel {np : Int} (hE : RelR hi s) (hn9 : frP s ≠ 12 → 0 ≤ frP s ∧ frP s < 12) : RelR (spnS hi p f np) (spnS s p f np) ∧ FW wRn hi (spnS hi p f np) := by
  have H0 := Sm.rf hE.1
  unfold spnS
  rw [H0.frP_]
  simp only [H0.e (a := 91) (by omega), H0.e (a := 92) (by omega), H0.hg_, H0.sk_, H0.e49 (i := 56) (by omega)]
  by_cases c : frP s = 12
  · rw [if_pos c, if_pos c]; exact ⟨hE.sm H0.trp_, H0.trp_.fw⟩
  · rw [if_neg c, if_neg c]
    have Hp := H0.pp_ (p := p) (n := np)
    obtain ⟨R1, w1⟩ := RelR.sta (n := frP s) (m := s 91 p) (f := f) (c := s 92 p) (hE.sm Hp) (hn9 c)
    have H2 := (((Sm.rf R1.1).hnd_ (f := sk s p (hg s p - np)) (i := 26 * (16 * frP s)) (n9 := frP s) np.toNat).up (a := 49) (i := 56) (v := if s 49 56 < frP s + 1 then frP s + 1 else s 49 56) (by unfold hpC; omega) rfl)
    exact ⟨R1.sm H2, (Hp.fw.tr w1).tr H2.fw⟩
theorem frL_b {g : Int → Bool} : ∀ (n : Nat) (k : Int), k ≤ frL g n k ∧ frL g n k ≤ k + n
  | 0, k => ⟨Int.le_refl _, by show k ≤ k + 0; omega⟩
  | n + 1, k => by
    unfold frL
    have := frL_b (g := g) n (k + 1)
    split <;> omega
theorem l_40 (hA : SA al) (hR : MR hr) (hd : 56 ≤ d) (hE : RelR hi s) (hp : AP s p) (hg0 : 0 ≤ hg s p ∧ hg s p ≤ 16) (hq : QB s) (q : ∀ hi', RelR hi' (exS B f s p o v qx) → FW wRn hi hi' → Q (some none) al hi' hr) (ho : o = 40) (hlive : s 89 p < 4) (hm : s 91 p = m) (m0 : 0 ≤ m ∧ m < 12) (v0 : 0 ≤ v ∧ v < 10) (hc : s 64 (10 * m + v) = nPar B v) (n0 : 0 ≤ nPar B v ∧ nPar B v ≤ 10 ∧ nPar B v ≤ hg s p)
    (hpv : ∀ k, 0 ≤ k → k < nPar B v → (s 99 (sk s p (hg s p - nPar B v) + k) = 2 → 0 ≤ s 98 (sk s p (hg s p - nPar B v) + k) ∧ s 98 (sk s p (hg s p - nPar B v) + k) < 128) ∧ (s 99 (sk s p (hg s p - nPar B v) + k) = 3 → 0 ≤ s 98 (sk s p (hg s p - nPar B v) + k) ∧ s 98 (sk s p (hg s p - nPar B v) + k) < 24)) : Wp d 316 216 [vR (some 49), vI p, vI o, vI v, vI qx, none] [] al hi hr Q := by
  have kM : isK al 49 13 := hA.k (by decide) (by decide) rfl
  have H0 := Sm.rf hE.1
  have hp' : AP hi p := hp.n (H0.e (by omega))
  have hgg : hg hi p = hg s p := H0.hg_
  have hqq : QB hi := hq.eq (fun _ => H0.e (by omega)) (fun _ => H0.e (by omega)) (fun _ => H0.e (by omega)) (fun _ => H0.e (by omega))
  have l111 := SA.len (a := 111) (n := 768) hA (by decide) (by decide) rfl
  have l98 := SA.len (a := 98) (n := 4992) hA (by decide) (by decide) rfl
  have l97 := SA.len (a := 97) (n := 192) hA (by decide) (by decide) rfl
  have l109 := SA.len (a := 109) (n := 128) hA (by decide) (by decide) rfl
  have l87 := SA.len (a := 87) (n := 500) hA (by decide) (by decide) rfl
  have l88 := SA.len (a := 88) (n := 500) hA (by decide) (by decide) rfl
  have hpb := hp.1
  have hp1 : AP (pp hi p 1) p := hp'.po
  have hh1 : hg (pp hi p 1) p = hg hi p - 1 := ppz_hg
  have et0 : tv hi p 0 = tv s p 0 := H0.tv_
  have et1 : tv hi p 1 = tv s p 1 := H0.tv_
  have ex : exS B f s p o v qx = spnS s p v (nPar B v) := by subst ho; rfl
  rw [ex] at q
  obtain ⟨np, hnp⟩ : ∃ np, nPar B v = np := ⟨_, rfl⟩
  rw [hnp] at q hc n0 hpv
  obtain ⟨R1, w1⟩ := spn_rel (p := p) (f := v) (np := np) hE (fun c => by
    have := frL_b (g := fun k => decide (s 89 k < 4)) 12 0
    have e9 : frL (fun k => decide (s 89 k < 4)) 12 0 = frP s := rfl
    rw [e9] at this
    omega)
  have E := q _ R1 w1
  have hskk : ∀ k, sk hi p k = sk s p k := fun k => H0.sk_
  refine s316_216.mpr (s316_217.mpr (s316_218.mpr ?_))
  refine (s316_219 (by omega) kM).mpr ?_
  refine r_spawn hA hR (by omega) hp' (by rw [H0.e (a := 89) (by omega)]; exact hlive) ((H0.e (by omega)).trans hm) m0 v0 ((H0.e (by omega)).trans hc) (by rw [hgg]; omega) hqq (fun k k0 k1 => by rw [hgg, hskk, H0.e (a := 98) (by omega), H0.e (a := 99) (by omega)]; exact hpv k k0 k1) ?_
  refine s316_222.mpr ?_
  refine (s316_300).mpr ?_
  exact E
end RP6
