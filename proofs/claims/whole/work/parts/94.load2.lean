/-! THE REFERENCE: load, whole -/
section MLW
variable {d : Nat} {al : AL} {hi : HI} {hr : HR} {Q : QQ} {B : Int → Int}
/-- the rows of the place m in hi are those of the place m' in hi' -/
def sEq (hi : HI) (m : Int) (hi' : HI) (m' : Int) : Prop := (∀ k, 0 ≤ k → k < hi 52 m → hi' 51 (2000 * m' + k) % 256 = hi 51 (2000 * m + k) % 256) ∧ (∀ a, 52 ≤ a → a ≤ 55 → hi' a m' = hi a m) ∧ (∀ j, 0 ≤ j → j < 8 → hi' 57 (8 * m' + j) = hi 57 (8 * m + j)) ∧ (∀ j, 0 ≤ j → j < 48 → hi' 58 (48 * m' + j) = hi 58 (48 * m + j)) ∧ (∀ j, 0 ≤ j → j < 4 → hi' 59 (4 * m' + j) = hi 59 (4 * m + j)) ∧ (∀ j, 0 ≤ j → j < 32 → hi' 60 (32 * m' + j) = hi 60 (32 * m + j) ∧ hi' 61 (32 * m' + j) = hi 61 (32 * m + j)) ∧ (∀ j, 0 ≤ j → j < 128 → hi' 62 (128 * m' + j) = hi 62 (128 * m + j) ∧ hi' 63 (128 * m' + j) = hi 63 (128 * m + j)) ∧ (∀ a j, a = 64 ∨ a = 66 ∨ a = 67 ∨ a = 68 ∨ a = 69 → 0 ≤ j → j < 10 → hi' a (10 * m' + j) = hi a (10 * m + j)) ∧ (∀ j, 0 ≤ j → j < 40 → hi' 65 (40 * m' + j) = hi 65 (40 * m + j))
theorem MB.mv {hi' : HI} {m m' : Int} (h : MB hi m B) (hS : Sh B) (hm : 0 ≤ m' ∧ m' < 13) (he : sEq hi m hi' m') : MB hi' m' B := by
  obtain ⟨a, b, c, e, m1, m2, m3, m4, m5, m6⟩ := h
  obtain ⟨e1, e2, e3, e4, e5, e6, e7, e8, e9⟩ := he
  have g1 : nRec B ≤ 8 := hS.2.1
  have g2 : nCtr B ≤ 4 := hS.2.2.2.2.2.1
  have g3 : nFn B ≤ 10 := hS.2.2.2.2.2.2.2.2.2.1
  have hB : bAt hi' m' = bAt hi m := by
    funext k; unfold bAt; rw [e2 52 (by decide) (by decide)]
    by_cases q : 0 ≤ k ∧ k < hi 52 m
    · rw [if_pos q, if_pos q]; exact e1 k q.1 q.2
    · rw [if_neg q, if_neg q]
  refine ⟨hm.1, hm.2, by rw [e2 52 (by decide) (by decide)]; exact c, hB.trans e, (e2 53 (by decide) (by decide)).trans m1, fun r r0 r1 => ⟨(e3 r r0 (by omega)).trans (m2 r r0 r1).1, fun k k0 k1 => ?_⟩, (e2 54 (by decide) (by decide)).trans m3, fun c c0 c1 => ?_, (e2 55 (by decide) (by decide)).trans m5, fun f f0 f1 => ?_⟩
  · have := (hS.2.2.1 r r0 r1).2.1
    rw [show 48 * m' + 6 * r + k = 48 * m' + (6 * r + k) by omega, e4 _ (by omega) (by omega), show 48 * m + (6 * r + k) = 48 * m + 6 * r + k by omega]
    exact (m2 r r0 r1).2 k k0 k1
  · obtain ⟨q1, q2⟩ := m4 c c0 c1
    have s8 : nSt B c ≤ 8 := (hS.2.2.2.2.2.2.1 c c0 c1).2.1
    refine ⟨(e5 c c0 (by omega)).trans q1, fun s s0 s1 => ?_⟩
    have s1' : s < nSt B c := s1
    obtain ⟨q3, q4, q5⟩ := q2 s s0 s1
    have n4 : nMs B c s ≤ 4 := ((hS.2.2.2.2.2.2.1 c c0 c1).2.2.2.1 s s0 s1').2.2.2.1
    have x1 : 8 * (4 * m' + c) + s = 32 * m' + (8 * c + s) := by omega
    have x2 : 8 * (4 * m + c) + s = 32 * m + (8 * c + s) := by omega
    rw [x2] at q3 q4 q5
    rw [x1]
    refine ⟨(e6 _ (by omega) (by omega)).1.trans q3, (e6 _ (by omega) (by omega)).2.trans q4, fun t t0 t1 => ?_⟩
    have t1' : t < nMs B c s := t1
    have q6 := q5 t t0 t1
    rw [show 4 * (32 * m + (8 * c + s)) + t = 128 * m + (32 * c + 4 * s + t) by omega] at q6
    rw [show 4 * (32 * m' + (8 * c + s)) + t = 128 * m' + (32 * c + 4 * s + t) by omega]
    exact ⟨(e7 _ (by omega) (by omega)).1.trans q6.1, (e7 _ (by omega) (by omega)).2.trans q6.2⟩
  · obtain ⟨a1, a2, a3, a4, a5, a6⟩ := m6 f f0 f1
    have p4 : nPar B f ≤ 4 := (hS.2.2.2.2.2.2.2.2.2.2 f f0 f1).2.1
    refine ⟨(e8 64 f (by omega) f0 (by omega)).trans a1, fun k k0 k1 => ?_, (e8 66 f (by omega) f0 (by omega)).trans a3, (e8 67 f (by omega) f0 (by omega)).trans a4, (e8 68 f (by omega) f0 (by omega)).trans a5, (e8 69 f (by omega) f0 (by omega)).trans a6⟩
    have k1' : k < nPar B f := k1
    have := a2 k k0 k1
    rw [show 4 * (10 * m + f) + k = 40 * m + (4 * f + k) by omega] at this
    rw [show 4 * (10 * m' + f) + k = 40 * m' + (4 * f + k) by omega]
    exact (e9 _ (by omega) (by omega)).trans this
/-- the cells of the place m -/
def wSl (m : Int) (a : Nat) (i : Int) : Prop := (a = 51 ∧ 2000 * m ≤ i ∧ i < 2000 * m + 2000) ∨ (52 ≤ a ∧ a ≤ 55 ∧ i = m) ∨ (a = 57 ∧ 8 * m ≤ i ∧ i < 8 * m + 8) ∨ (a = 58 ∧ 48 * m ≤ i ∧ i < 48 * m + 48) ∨ (a = 59 ∧ 4 * m ≤ i ∧ i < 4 * m + 4) ∨ ((a = 60 ∨ a = 61) ∧ 32 * m ≤ i ∧ i < 32 * m + 32) ∨ ((a = 62 ∨ a = 63) ∧ 128 * m ≤ i ∧ i < 128 * m + 128) ∨ ((a = 64 ∨ a = 66 ∨ a = 67 ∨ a = 68 ∨ a = 69) ∧ 10 * m ≤ i ∧ i < 10 * m + 10) ∨ (a = 65 ∧ 40 * m ≤ i ∧ i < 40 * m + 40)
theorem sEq_of {hi' : HI} {w : Nat → Int → Prop} {m : Int} (hw : FW w hi hi') (h52 : hi 52 m ≤ 2000) (hn : ∀ a i, wSl m a i → ¬ w a i) : sEq hi m hi' m := by
  refine ⟨fun k a b => ?_, fun a h1 h2 => hw _ _ (hn _ _ (Or.inr (Or.inl ⟨h1, h2, rfl⟩))), fun j a b => hw _ _ (hn _ _ (by unfold wSl; omega)), fun j a b => hw _ _ (hn _ _ (by unfold wSl; omega)), fun j a b => hw _ _ (hn _ _ (by unfold wSl; omega)), fun j a b => ⟨hw _ _ (hn _ _ (by unfold wSl; omega)), hw _ _ (hn _ _ (by unfold wSl; omega))⟩, fun j a b => ⟨hw _ _ (hn _ _ (by unfold wSl; omega)), hw _ _ (hn _ _ (by unfold wSl; omega))⟩, fun c j h a b => hw _ _ (hn _ _ (by unfold wSl; omega)), fun j a b => hw _ _ (hn _ _ (by unfold wSl; omega))⟩
  rw [hw _ _ (hn _ _ (by unfold wSl; omega))]
theorem cp_eq {fr to : Int} (f0 : 0 ≤ fr ∧ fr < 13) (t0 : 0 ≤ to ∧ to < 13) (hne : fr ≠ to) (hs : 0 ≤ hi 52 fr ∧ hi 52 fr ≤ 2000) : sEq hi fr (cpH hi fr to) to := by
  unfold cpH
  refine ⟨fun k a b => ?_, fun a h1 h2 => ?_, fun j a b => ?_, fun j a b => ?_, fun j a b => ?_, fun j a b => ⟨?_, ?_⟩, fun j a b => ⟨?_, ?_⟩, fun c j h a b => ?_, fun j a b => ?_⟩
  · simp (disch := decide) only [mv_ne]
    rw [mb_in (by omega) (by omega), fB_m]
    congr 2; omega
  · rcases (show a = 52 ∨ a = 53 ∨ a = 54 ∨ a = 55 by omega) with rfl | rfl | rfl | rfl <;> simp (disch := first | decide | omega) only [mv_ne, mv_in, mb_ne] <;> (congr 1; omega)
  · simp (disch := first | decide | omega) only [mv_ne, mv_in, mb_ne]; congr 1; omega
  · simp (disch := first | decide | omega) only [mv_ne, mv_in, mb_ne]; congr 1; omega
  · simp (disch := first | decide | omega) only [mv_ne, mv_in, mb_ne]; congr 1; omega
  · simp (disch := first | decide | omega) only [mv_ne, mv_in, mb_ne]; congr 1; omega
  · simp (disch := first | decide | omega) only [mv_ne, mv_in, mb_ne]; congr 1; omega
  · simp (disch := first | decide | omega) only [mv_ne, mv_in, mb_ne]; congr 1; omega
  · simp (disch := first | decide | omega) only [mv_ne, mv_in, mb_ne]; congr 1; omega
  · rcases h with rfl | rfl | rfl | rfl | rfl <;> simp (disch := first | decide | omega) only [mv_ne, mv_in, mb_ne] <;> (congr 1; omega)
  · simp (disch := first | decide | omega) only [mv_ne, mv_in, mb_ne]; congr 1; omega
theorem mv_fw {w : Nat → Int → Prop} {h0 h : HI} {a : Nat} {F T n : Int} (H : FW w h0 h) (hw : ∀ i, T ≤ i → i < T + n → w a i) : FW w h0 (mvK h a F T n) := fun b i hn => by
  by_cases c : b = a ∧ T ≤ i ∧ i < T + n
  · exact absurd (by rw [c.1]; exact hw i c.2.1 c.2.2) hn
  · unfold mvK; rw [if_neg c]; exact H b i hn
theorem cp_fw {fr to : Int} (hs : hi 52 fr ≤ 2000) : FW (wSl to) hi (cpH hi fr to) := by
  unfold cpH
  have h0 : FW (wSl to) hi (mvB hi (2000 * fr) (2000 * to) (hi 52 fr)) := fun b i hn => by
    by_cases c : b = 51 ∧ 2000 * to ≤ i ∧ i < 2000 * to + hi 52 fr
    · exact absurd (by unfold wSl; omega) hn
    · unfold mvB; rw [if_neg c]
  repeat' (first | exact h0 | (refine mv_fw ?_ (fun i a b => by unfold wSl; omega)))
theorem wSl_dj {m m' : Int} {a : Nat} {i : Int} (h : wSl m a i) (hne : m ≠ m') : ¬ wSl m' a i := by
  rcases h with h | h | h | h | h | h | h | h | h <;> (rintro (h' | h' | h' | h' | h' | h' | h' | h' | h') <;> omega)
end MLW
