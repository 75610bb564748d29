/-! BOOT: its state, place by place: ends -/
section BD3
variable {S : Int → Option (Int → Int)} {G s0 s s' : HI} {p m f k e j x c c' c1 H kn v w i n P K ct : Int}
/-- the end that a parameter names -/
def edn (S : Int → Option (Int → Int)) (G : HI) (P K c : Int) : Int := 2 * c + sideM (pt S G P K)
def ctn (S : Int → Option (Int → Int)) (G : HI) (P K : Int) : Int := 4 * (6 + G 77 P) + whichM (pt S G P K)
theorem sideM_b (t : Int) : 0 ≤ sideM t ∧ sideM t ≤ 1 := by unfold sideM; omega
/-- the first use -/
def fs2S (S : Int → Option (Int → Int)) (G : HI) (P K c : Int) (s : HI) : HI := st2 (enS (enS s (2 * c) P (ctn S G P K)) (2 * c + 1) P (ctn S G P K)) (416 * P + K) (edn S G P K c) 3
def sn2S (S : Int → Option (Int → Int)) (G : HI) (P K c : Int) (s : HI) : HI := st2 (upI (upI s 113 (edn S G P K c) P) 118 (edn S G P K c) (ctn S G P K)) (416 * P + K) (edn S G P K c) 3
theorem GF.pl1 (h : GF S G n) (P0 : 0 ≤ P ∧ P < n) (K0 : 0 ≤ K ∧ K < np S G P) (he : G 80 (4 * P + K) = e) (c0 : 0 ≤ c1 ∧ c1 < G 200 0) (hx : G 84 (2 * G 85 c1 + 1) = 4 * P + K) : G 85 c1 = e := by
  have K4 := (h.np4 P0).2
  obtain ⟨y1, y2, y3⟩ := h.ch c0
  exact (h.pl (j := 1) y1 (by omega) (by omega) P0 ⟨K0.1, by omega⟩ hx).2.1.symm.trans he
theorem BP.fst (h : GF S G n) (hb : BP S G kn (P + 1) (4 * P + K) c s0 s) (hc : CC G (4 * P + K) c) (P0 : 0 ≤ P ∧ P < n) (K0 : 0 ≤ K ∧ K < np S G P) (hp : pt S G P K ≠ 0) (he : G 80 (4 * P + K) = e) (e0 : 0 ≤ e ∧ e < 8) (hT : Tw S G e) (h4 : G 84 (2 * e) = 4 * P + K) (cl : c < G 200 0) (h5 : G 85 c = e) (h2 : G 82 (2 * e) = 4 * G 77 P + whichM (pt S G P K)) : BP S G kn (P + 1) (4 * P + K + 1) (c + 1) s0 (fs2S S G P K c s) := by
  have K4 := (h.np4 P0).2
  have g8 := h.2.2.2
  have c0 := hc.1.1
  have ecx := h.cx ⟨c0, cl⟩ h5
  obtain ⟨a1, a2, a3, a4, a5, a6, a7, a8, a9⟩ := hb
  obtain ⟨s1, hs1⟩ : ∃ s1, enS (enS s (2 * c) P (ctn S G P K)) (2 * c + 1) P (ctn S G P K) = s1 := ⟨_, rfl⟩
  have m9 : ∀ (a : Nat) i, a ≠ 112 ∧ a ≠ 113 ∧ a ≠ 114 ∧ a ≠ 118 → s1 a i = s a i := fun a i z => by rw [← hs1, enS_n z, enS_n z]
  have mi : ∀ (a : Nat) i, i ≠ 2 * c → i ≠ 2 * c + 1 → s1 a i = s a i := fun a i z1 z2 => by rw [← hs1, enS_i z2, enS_i z1]
  have me : ∀ i, i = 2 * c ∨ i = 2 * c + 1 → s1 112 i = 0 ∧ s1 113 i = P ∧ s1 114 i = 0 ∧ s1 118 i = ctn S G P K := fun i z => by
    rw [← hs1]
    rcases z with rfl | rfl
    · have z9 : 2 * c ≠ 2 * c + 1 := by omega
      rw [enS_i z9, enS_i z9, enS_i z9, enS_i z9]; exact enS_e
    · exact enS_e
  have n9 : ∀ (a : Nat) i, a ≠ 98 → a ≠ 99 → fs2S S G P K c s a i = s1 a i := fun a i z1 z2 => by unfold fs2S; rw [st2_n z1 z2, hs1]
  have nn : ∀ (a : Nat) i, a ≠ 98 → a ≠ 99 → a ≠ 112 ∧ a ≠ 113 ∧ a ≠ 114 ∧ a ≠ 118 → fs2S S G P K c s a i = s a i := fun a i z1 z2 z3 => (n9 a i z1 z2).trans (m9 a i z3)
  have S2 := h.s2_ (s := s1) (s0 := s0) (v := edn S G P K c) (w := 3) P0 K0 (by unfold gvV edn; rw [if_neg hp, he, ecx]) (by unfold gvW; rw [if_neg hp]) (fun i => by rw [m9 98 i (by decide), m9 99 i (by decide)]; exact a5 i)
  refine ⟨fun i => by rw [nn _ _ (by decide) (by decide) (by decide)]; exact a1 i, fun i => by rw [nn _ _ (by decide) (by decide) (by decide)]; exact a2 i, fun i => by rw [nn _ _ (by decide) (by decide) (by decide), nn _ _ (by decide) (by decide) (by decide), nn _ _ (by decide) (by decide) (by decide), nn _ _ (by decide) (by decide) (by decide), nn _ _ (by decide) (by decide) (by decide), nn _ _ (by decide) (by decide) (by decide)]; exact a3 i, fun i => by rw [nn _ _ (by decide) (by decide) (by decide), nn _ _ (by decide) (by decide) (by decide), nn _ _ (by decide) (by decide) (by decide)]; exact a4 i, fun i => ?_, fun i => by rw [nn _ _ (by decide) (by decide) (by decide)]; exact a6 i, fun i => by rw [nn _ _ (by decide) (by decide) (by decide)]; exact a7 i, fun i => ?_, fun a i z => by rw [nn _ _ (by omega) (by omega) (by omega)]; exact a9 a i z⟩
  · unfold fs2S; rw [hs1]; exact S2 i
  · rw [n9 _ _ (by decide) (by decide), n9 _ _ (by decide) (by decide), n9 _ _ (by decide) (by decide), n9 _ _ (by decide) (by decide)]
    by_cases z : i = 2 * c ∨ i = 2 * c + 1
    · obtain ⟨u1, u2, u3, u4⟩ := me i z
      have eu : uS G (4 * P + K + 1) i = 2 * e := by
        unfold uS
        rw [show i / 2 = c by omega, h5, if_neg (fun y => by have := hT.2.2; omega)]
      rw [u1, u2, u3, u4, eu, h4, h2]
      refine ⟨?_, ?_, ?_, ?_⟩
      · rw [if_pos (by omega), if_pos (by omega)]
      · rw [if_pos (by omega)]; omega
      · rw [if_pos (by omega)]
      · rw [if_pos (by omega)]; unfold ctn; omega
    · obtain ⟨u1, u2, u3, u4⟩ := a8 i
      rw [mi _ _ (fun y => z (Or.inl y)) (fun y => z (Or.inr y)), mi _ _ (fun y => z (Or.inl y)) (fun y => z (Or.inr y)), mi _ _ (fun y => z (Or.inl y)) (fun y => z (Or.inr y)), mi _ _ (fun y => z (Or.inl y)) (fun y => z (Or.inr y))]
      have NX : ∀ c1, 0 ≤ c1 → c1 < c → G 84 (2 * G 85 c1 + 1) ≠ 4 * P + K := fun c1 q0 q1 y => by
        have := h.pl1 P0 K0 he ⟨q0, by omega⟩ y
        have := h.1.1.2.2.2.1.2.2.2 c1 c q0 q1 cl
        rename_i w8
        rw [w8, h5] at this
        omega
      refine ⟨?_, ?_, u3, ?_⟩
      · rw [u1]
        by_cases y : 0 ≤ i ∧ i < 24
        · rw [if_pos y, if_pos y]
          by_cases q : i / 2 < c
          · rw [if_pos q, if_pos (by omega)]
          · rw [if_neg q, if_neg (by omega)]
        · rw [if_neg y, if_neg y]
      · rw [u2]
        by_cases q : 0 ≤ i ∧ i < 2 * c
        · rw [if_pos q, if_pos (by omega), h.us1 NX q]
        · rw [if_neg q, if_neg (by omega)]
      · rw [u4]
        by_cases q : 0 ≤ i ∧ i < 2 * c
        · rw [if_pos q, if_pos (by omega), h.us1 NX q]
        · rw [if_neg q, if_neg (by omega)]
theorem BP.snd (h : GF S G n) (hb : BP S G kn (P + 1) (4 * P + K) c s0 s) (hc : CC G (4 * P + K) c) (P0 : 0 ≤ P ∧ P < n) (K0 : 0 ≤ K ∧ K < np S G P) (hp : pt S G P K ≠ 0) (he : G 80 (4 * P + K) = e) (e0 : 0 ≤ e ∧ e < 8) (hT : Tw S G e) (cl : 0 ≤ c1 ∧ c1 < c) (h5 : G 85 c1 = e) (h4 : G 84 (2 * e + 1) = 4 * P + K) (h2 : G 82 (2 * e + 1) = 4 * G 77 P + whichM (pt S G P K)) (h3 : G 83 (2 * e + 1) = sideM (pt S G P K)) : BP S G kn (P + 1) (4 * P + K + 1) c s0 (sn2S S G P K c1 s) := by
  have K4 := (h.np4 P0).2
  have g8 := h.2.2.2
  have c0 := hc.1
  have ecx := h.cx ⟨cl.1, by omega⟩ h5
  have sb := sideM_b (pt S G P K)
  obtain ⟨a1, a2, a3, a4, a5, a6, a7, a8, a9⟩ := hb
  obtain ⟨s1, hs1⟩ : ∃ s1, upI (upI s 113 (edn S G P K c1) P) 118 (edn S G P K c1) (ctn S G P K) = s1 := ⟨_, rfl⟩
  have m9 : ∀ (a : Nat) i, a ≠ 113 → a ≠ 118 → s1 a i = s a i := fun a i z1 z2 => by rw [← hs1, upI_a z2, upI_a z1]
  have n9 : ∀ (a : Nat) i, a ≠ 98 → a ≠ 99 → sn2S S G P K c1 s a i = s1 a i := fun a i z1 z2 => by unfold sn2S; rw [st2_n z1 z2, hs1]
  have nn : ∀ (a : Nat) i, a ≠ 98 → a ≠ 99 → a ≠ 113 → a ≠ 118 → sn2S S G P K c1 s a i = s a i := fun a i z1 z2 z3 z4 => (n9 a i z1 z2).trans (m9 a i z3 z4)
  have S2 := h.s2_ (s := s1) (s0 := s0) (v := edn S G P K c1) (w := 3) P0 K0 (by unfold gvV edn; rw [if_neg hp, he, ecx]) (by unfold gvW; rw [if_neg hp]) (fun i => by rw [m9 98 i (by decide) (by decide), m9 99 i (by decide) (by decide)]; exact a5 i)
  refine ⟨fun i => by rw [nn _ _ (by decide) (by decide) (by decide) (by decide)]; exact a1 i, fun i => by rw [nn _ _ (by decide) (by decide) (by decide) (by decide)]; exact a2 i, fun i => by rw [nn _ _ (by decide) (by decide) (by decide) (by decide), nn _ _ (by decide) (by decide) (by decide) (by decide), nn _ _ (by decide) (by decide) (by decide) (by decide), nn _ _ (by decide) (by decide) (by decide) (by decide), nn _ _ (by decide) (by decide) (by decide) (by decide), nn _ _ (by decide) (by decide) (by decide) (by decide)]; exact a3 i, fun i => by rw [nn _ _ (by decide) (by decide) (by decide) (by decide), nn _ _ (by decide) (by decide) (by decide) (by decide), nn _ _ (by decide) (by decide) (by decide) (by decide)]; exact a4 i, fun i => ?_, fun i => by rw [nn _ _ (by decide) (by decide) (by decide) (by decide)]; exact a6 i, fun i => by rw [nn _ _ (by decide) (by decide) (by decide) (by decide)]; exact a7 i, fun i => ?_, fun a i z => by rw [nn _ _ (by omega) (by omega) (by omega) (by omega)]; exact a9 a i z⟩
  · unfold sn2S; rw [hs1]; exact S2 i
  · obtain ⟨u1, u2, u3, u4⟩ := a8 i
    rw [nn 112 _ (by decide) (by decide) (by decide) (by decide), nn 114 _ (by decide) (by decide) (by decide) (by decide), n9 113 _ (by decide) (by decide), n9 118 _ (by decide) (by decide)]
    have e113 : s1 113 i = if i = edn S G P K c1 then P else s 113 i := by rw [← hs1, upI_a (by decide), upI_self]
    have e118 : s1 118 i = if i = edn S G P K c1 then ctn S G P K else s 118 i := by rw [← hs1, upI_self, upI_a (by decide)]
    rw [e113, e118]
    by_cases z : i = edn S G P K c1
    · have i2 : i = 2 * c1 + sideM (pt S G P K) := z
      have eu : uS G (4 * P + K + 1) i = 2 * e + 1 := by
        unfold uS
        rw [show i / 2 = c1 by omega, h5, if_pos ⟨by omega, by omega⟩]
      rw [if_pos z, if_pos z, eu, h4, h2]
      refine ⟨u1, ?_, u3, ?_⟩
      · rw [if_pos (by omega)]; omega
      · rw [if_pos (by omega)]; unfold ctn; omega
    · rw [if_neg z, if_neg z, u2, u4]
      have i2 : i ≠ 2 * c1 + sideM (pt S G P K) := z
      have eu : 0 ≤ i ∧ i < 2 * c → uS G (4 * P + K + 1) i = uS G (4 * P + K) i := fun q => by
        by_cases y : i / 2 = c1
        · unfold uS
          rw [y, h5, if_neg (fun w => by omega), if_neg (fun w => by omega)]
        · unfold uS
          have ne : G 84 (2 * G 85 (i / 2) + 1) ≠ 4 * P + K := fun w => by
            have t1 := h.pl1 P0 K0 he ⟨by omega, by omega⟩ w
            have o1 := h.1.1.2.2.2.1.2.2.2
            have lt : i / 2 < c1 ∨ c1 < i / 2 := by omega
            rcases lt with lt | lt
            · have := o1 (i / 2) c1 (by omega) lt (by omega); rw [t1, h5] at this; omega
            · have := o1 c1 (i / 2) cl.1 lt (by omega); rw [t1, h5] at this; omega
          by_cases g : G 84 (2 * G 85 (i / 2) + 1) < 4 * P + K ∧ G 83 (2 * G 85 (i / 2) + 1) = i % 2
          · rw [if_pos g, if_pos ⟨by omega, g.2⟩]
          · rw [if_neg g, if_neg (fun w => g ⟨by omega, w.2⟩)]
      refine ⟨u1, ?_, u3, ?_⟩
      · by_cases q : 0 ≤ i ∧ i < 2 * c
        · rw [if_pos q, if_pos q, eu q]
        · rw [if_neg q, if_neg q]
      · by_cases q : 0 ≤ i ∧ i < 2 * c
        · rw [if_pos q, if_pos q, eu q]
        · rw [if_neg q, if_neg q]
/-- behind the parameters -/
theorem BP.tl1 (h : GF S G n) (hb : BP S G kn (P + 1) (4 * P + K) c s0 s) (hc : CC G (4 * P + K) c) (P0 : 0 ≤ P ∧ P < n) (K0 : np S G P ≤ K ∧ K < 4) : BP S G kn (P + 1) (4 * P + K + 1) c s0 s ∧ CC G (4 * P + K + 1) c := by
  have K4 := h.np4 P0
  refine ⟨?_, hc.nu h P0 (by omega) (fun z => by omega)⟩
  obtain ⟨a1, a2, a3, a4, a5, a6, a7, a8, a9⟩ := hb
  have NX : ∀ c1, 0 ≤ c1 → c1 < c → G 84 (2 * G 85 c1 + 1) ≠ 4 * P + K := fun c1 q0 q1 => h.nu P0 (by omega) (fun z => by omega) ⟨q0, by have := hc.1; omega⟩ (Or.inr rfl)
  refine ⟨a1, a2, a3, a4, fun i => ?_, a6, a7, fun i => ?_, a9⟩
  · obtain ⟨u1, u2⟩ := a5 i
    rw [u1, u2]
    by_cases y : (0 ≤ i ∧ i < 416 * (P + 1)) ∧ i % 416 < 26
    · simp only [if_pos y]
      have e : lV S G (4 * P + K + 1) (i / 416) (i % 416) = lV S G (4 * P + K) (i / 416) (i % 416) ∧ lW S G (4 * P + K + 1) (i / 416) (i % 416) = lW S G (4 * P + K) (i / 416) (i % 416) := by
        by_cases z : i / 416 = P ∧ i % 416 = K
        · obtain ⟨z1, z2⟩ := z
          rw [z1, z2]
          unfold lV lW
          rw [if_neg (by omega), if_neg (by omega), if_neg (by omega), if_neg (by omega)]
          exact ⟨rfl, rfl⟩
        · exact h.lv P0 (by omega) ⟨by omega, by omega⟩ ⟨by omega, y.2⟩ z
      rw [e.1, e.2]; exact ⟨rfl, rfl⟩
    · simp only [if_neg y, and_self]
  · obtain ⟨u1, u2, u3, u4⟩ := a8 i
    refine ⟨u1, ?_, u3, ?_⟩
    · rw [u2]
      by_cases q : 0 ≤ i ∧ i < 2 * c
      · rw [if_pos q, if_pos q, h.us1 NX q]
      · rw [if_neg q, if_neg q]
    · rw [u4]
      by_cases q : 0 ≤ i ∧ i < 2 * c
      · rw [if_pos q, if_pos q, h.us1 NX q]
      · rw [if_neg q, if_neg q]
theorem BP.tl (h : GF S G n) (P0 : 0 ≤ P ∧ P < n) (hb : BP S G kn (P + 1) (4 * P + np S G P) c s0 s) (hc : CC G (4 * P + np S G P) c) : BP S G kn (P + 1) (4 * (P + 1)) c s0 s ∧ CC G (4 * (P + 1)) c := by
  have K4 := h.np4 P0
  have L : ∀ (j : Nat) (K : Int), K + j = 4 → np S G P ≤ K → BP S G kn (P + 1) (4 * P + K) c s0 s → CC G (4 * P + K) c → BP S G kn (P + 1) (4 * (P + 1)) c s0 s ∧ CC G (4 * (P + 1)) c := by
    intro j
    induction j with
    | zero =>
      intro K hK K1 b1 b2
      rw [show 4 * (P + 1) = 4 * P + K by omega]
      exact ⟨b1, b2⟩
    | succ j ih =>
      intro K hK K1 b1 b2
      obtain ⟨y1, y2⟩ := BP.tl1 h b1 b2 P0 ⟨K1, by omega⟩
      exact ih (K + 1) (by omega) (by omega) (by rw [← Int.add_assoc]; exact y1) (by rw [← Int.add_assoc]; exact y2)
  exact L (4 - np S G P).toNat (np S G P) (by omega) (Int.le_refl _) hb hc
end BD3
