/-! BOOT: the state that it ends in -/
section BD1
variable {S : Int → Option (Int → Int)} {G s0 s s' : HI} {p m f k e j x c H kn v i : Int}
/-- the channel's number -/
def cix (G : HI) (e : Int) : Int := frL (fun c => decide (G 85 c ≠ e)) 8 0
/-- the use that an end has: of those before x -/
def uS (G : HI) (x i : Int) : Int := if G 84 (2 * G 85 (i / 2) + 1) < x ∧ G 83 (2 * G 85 (i / 2) + 1) = i % 2 then 2 * G 85 (i / 2) + 1 else 2 * G 85 (i / 2)
def gvV (S : Int → Option (Int → Int)) (G : HI) (p k : Int) : Int := if pt S G p k = 0 then G 80 (4 * p + k) else 2 * cix G (G 80 (4 * p + k)) + sideM (pt S G p k)
def gvW (S : Int → Option (Int → Int)) (G : HI) (p k : Int) : Int := if pt S G p k = 0 then 0 else 3
def lV (S : Int → Option (Int → Int)) (G : HI) (x p k : Int) : Int := if k < np S G p ∧ 4 * p + k < x then gvV S G p k else 0
def lW (S : Int → Option (Int → Int)) (G : HI) (x p k : Int) : Int := if k < np S G p ∧ 4 * p + k < x then gvW S G p k else 4
/-- the state's columns: H processes have begun, parameters before place x are there, and c channels -/
def BP (S : Int → Option (Int → Int)) (G : HI) (kn H x c : Int) (s0 s : HI) : Prop :=
  (∀ i, s 49 i = if i = 51 then 1 else if 52 ≤ i ∧ i ≤ 55 then 0 else if i = 56 then kn else s0 49 i) ∧
  (∀ i, s 89 i = if 0 ≤ i ∧ i < H then 1 else if 0 ≤ i ∧ i < 12 then 4 else s0 89 i) ∧
  (∀ i, (s 90 i = if 0 ≤ i ∧ i < H then 0 else s0 90 i) ∧ (s 93 i = if 0 ≤ i ∧ i < H then 0 else s0 93 i) ∧ (s 108 i = if 0 ≤ i ∧ i < H then 0 else s0 108 i) ∧ (s 91 i = if 0 ≤ i ∧ i < H then 6 + G 77 i else s0 91 i) ∧ (s 92 i = if 0 ≤ i ∧ i < H then 16 * G 79 i else s0 92 i) ∧ s 94 i = if 0 ≤ i ∧ i < H then 1 else s0 94 i) ∧
  (∀ i, (s 95 i = if (0 ≤ i ∧ i < 16 * H) ∧ i % 16 = 0 then G 78 (i / 16) else s0 95 i) ∧ (s 96 i = if (0 ≤ i ∧ i < 16 * H) ∧ i % 16 = 0 then 0 else s0 96 i) ∧ s 97 i = if (0 ≤ i ∧ i < 16 * H) ∧ i % 16 = 0 then 0 else s0 97 i) ∧
  (∀ i, (s 98 i = if (0 ≤ i ∧ i < 416 * H) ∧ i % 416 < 26 then lV S G x (i / 416) (i % 416) else s0 98 i) ∧ s 99 i = if (0 ≤ i ∧ i < 416 * H) ∧ i % 416 < 26 then lW S G x (i / 416) (i % 416) else s0 99 i) ∧
  (∀ i, s 100 i = if (0 ≤ i ∧ i < 1025 * H) ∧ i % 1025 ≠ 0 then 0 else s0 100 i) ∧
  (∀ i, s 109 i = if 0 ≤ i ∧ i < 128 then -1 else s0 109 i) ∧
  (∀ i, (s 112 i = if 0 ≤ i ∧ i < 24 then (if i / 2 < c then 0 else -1) else s0 112 i) ∧ (s 113 i = if 0 ≤ i ∧ i < 2 * c then G 84 (uS G x i) / 4 else s0 113 i) ∧ (s 114 i = if 0 ≤ i ∧ i < 24 then 0 else s0 114 i) ∧ s 118 i = if 0 ≤ i ∧ i < 2 * c then G 82 (uS G x i) + 24 else s0 118 i) ∧
  ∀ (a : Nat) i, ¬ (a = 49 ∨ (89 ≤ a ∧ a ≤ 100) ∨ a = 108 ∨ a = 109 ∨ (112 ≤ a ∧ a ≤ 114) ∨ a = 118) → s a i = s0 a i
theorem BP.un (h : BP S G kn H x c s0 s) (h' : BP S G kn H x c s0 s') : s = s' := by
  obtain ⟨a1, a2, a3, a4, a5, a6, a7, a8, a9⟩ := h
  obtain ⟨b1, b2, b3, b4, b5, b6, b7, b8, b9⟩ := h'
  funext a i
  by_cases z : a = 49 ∨ (89 ≤ a ∧ a ≤ 100) ∨ a = 108 ∨ a = 109 ∨ (112 ≤ a ∧ a ≤ 114) ∨ a = 118
  · have : a = 49 ∨ a = 89 ∨ a = 90 ∨ a = 91 ∨ a = 92 ∨ a = 93 ∨ a = 94 ∨ a = 95 ∨ a = 96 ∨ a = 97 ∨ a = 98 ∨ a = 99 ∨ a = 100 ∨ a = 108 ∨ a = 109 ∨ a = 112 ∨ a = 113 ∨ a = 114 ∨ a = 118 := by omega
    rcases this with rfl | rfl | rfl | rfl | rfl | rfl | rfl | rfl | rfl | rfl | rfl | rfl | rfl | rfl | rfl | rfl | rfl | rfl | rfl
    · rw [a1, b1]
    · rw [a2, b2]
    · rw [(a3 i).1, (b3 i).1]
    · rw [(a3 i).2.2.2.1, (b3 i).2.2.2.1]
    · rw [(a3 i).2.2.2.2.1, (b3 i).2.2.2.2.1]
    · rw [(a3 i).2.1, (b3 i).2.1]
    · rw [(a3 i).2.2.2.2.2, (b3 i).2.2.2.2.2]
    · rw [(a4 i).1, (b4 i).1]
    · rw [(a4 i).2.1, (b4 i).2.1]
    · rw [(a4 i).2.2, (b4 i).2.2]
    · rw [(a5 i).1, (b5 i).1]
    · rw [(a5 i).2, (b5 i).2]
    · rw [a6, b6]
    · rw [(a3 i).2.2.1, (b3 i).2.2.1]
    · rw [a7, b7]
    · rw [(a8 i).1, (b8 i).1]
    · rw [(a8 i).2.1, (b8 i).2.1]
    · rw [(a8 i).2.2.1, (b8 i).2.2.1]
    · rw [(a8 i).2.2.2, (b8 i).2.2.2]
  · rw [a9 a i z, b9 a i z]
/-- a process begins -/
theorem sta_100 {c9 n : Int} : staS s n m f c9 100 i = (if 1025 * n < i ∧ i < 1025 * n + 1025 then 0 else s 100 i) ∧ staS s n m f c9 108 n = 0 := by
  unfold staS
  refine ⟨?_, ?_⟩ <;> rw [actS_n (by decide)]
  · rw [if_neg (by omega), if_neg (by omega), if_neg (by omega), if_neg (by omega)]
    by_cases z : 1025 * n < i ∧ i < 1025 * n + 1025
    · rw [if_pos z, if_pos ⟨rfl, z⟩]
    · rw [if_neg z, if_neg (fun y => z y.2)]
  · rw [if_neg (by omega), if_pos ⟨by decide, rfl⟩]
theorem actS_fo (h : s 94 p = 0) (z : ¬ i = 16 * p) : actS s p f 95 i = s 95 i ∧ actS s p f 96 i = s 96 i ∧ actS s p f 97 i = s 97 i := by
  unfold actS
  rw [h]
  refine ⟨?_, ?_, ?_⟩ <;> rw [if_neg (by omega), if_neg (by omega), if_neg (by omega), if_neg (by omega), if_neg (by omega)]
theorem actS_vo (h : s 94 p = 0) (z : ¬ (416 * p ≤ i ∧ i < 416 * p + 26)) : actS s p f 98 i = s 98 i ∧ actS s p f 99 i = s 99 i := by
  unfold actS
  rw [h]
  refine ⟨?_, ?_⟩ <;> rw [if_neg (by omega), if_neg (by omega), if_neg (by omega), if_neg (by omega), if_neg (by omega)]
theorem sta_fo {n c9 : Int} (z : ¬ i = 16 * n) : staS s n m f c9 95 i = s 95 i ∧ staS s n m f c9 96 i = s 96 i ∧ staS s n m f c9 97 i = s 97 i := by
  have K := actS_fo (s := fun a i => if a = 89 ∧ i = n then 1 else if (a = 90 ∨ a = 93 ∨ a = 94 ∨ a = 108) ∧ i = n then 0 else if a = 91 ∧ i = n then m else if a = 92 ∧ i = n then c9 else if a = 100 ∧ 1025 * n < i ∧ i < 1025 * n + 1025 then 0 else s a i) (p := n) (f := f) (i := i) (by
    show (if _ then _ else _) = _
    rw [if_neg (by omega), if_pos ⟨by decide, rfl⟩]) z
  unfold staS
  obtain ⟨k1, k2, k3⟩ := K
  rw [k1, k2, k3]
  refine ⟨?_, ?_, ?_⟩ <;> (show (if _ then _ else _) = _; rw [if_neg (by omega), if_neg (by omega), if_neg (by omega), if_neg (by omega), if_neg (by omega)])
theorem sta_vo {n c9 : Int} (z : ¬ (416 * n ≤ i ∧ i < 416 * n + 26)) : staS s n m f c9 98 i = s 98 i ∧ staS s n m f c9 99 i = s 99 i := by
  have K := actS_vo (s := fun a i => if a = 89 ∧ i = n then 1 else if (a = 90 ∨ a = 93 ∨ a = 94 ∨ a = 108) ∧ i = n then 0 else if a = 91 ∧ i = n then m else if a = 92 ∧ i = n then c9 else if a = 100 ∧ 1025 * n < i ∧ i < 1025 * n + 1025 then 0 else s a i) (p := n) (f := f) (i := i) (by
    show (if _ then _ else _) = _
    rw [if_neg (by omega), if_pos ⟨by decide, rfl⟩]) z
  unfold staS
  obtain ⟨k1, k2⟩ := K
  rw [k1, k2]
  refine ⟨?_, ?_⟩ <;> (show (if _ then _ else _) = _; rw [if_neg (by omega), if_neg (by omega), if_neg (by omega), if_neg (by omega), if_neg (by omega)])
theorem BP.beg (h : BP S G kn H (4 * H) c s0 s) (H0 : 0 ≤ H) : BP S G kn (H + 1) (4 * H) c s0 (staS s H (6 + G 77 H) (G 78 H) (16 * G 79 H)) := by
  obtain ⟨a1, a2, a3, a4, a5, a6, a7, a8, a9⟩ := h
  obtain ⟨v89, v90, v93, v91, v92⟩ := sta_s (s := s) (n := H) (m := 6 + G 77 H) (f := G 78 H) (c9 := 16 * G 79 H)
  have v94 : staS s H (6 + G 77 H) (G 78 H) (16 * G 79 H) 94 H = 1 := sta_94
  obtain ⟨v95, v96, v97⟩ := sta_f (s := s) (n := H) (m := 6 + G 77 H) (f := G 78 H) (c9 := 16 * G 79 H)
  have vv : ∀ k, 0 ≤ k → k < 26 → staS s H (6 + G 77 H) (G 78 H) (16 * G 79 H) 98 (26 * (16 * H) + k) = 0 ∧ staS s H (6 + G 77 H) (G 78 H) (16 * G 79 H) 99 (26 * (16 * H) + k) = 4 := fun k k0 k1 => sta_v ⟨k0, k1⟩
  have w1 : ∀ i, staS s H (6 + G 77 H) (G 78 H) (16 * G 79 H) 100 i = (if 1025 * H < i ∧ i < 1025 * H + 1025 then 0 else s 100 i) := fun i => sta_100.1
  have v108 : staS s H (6 + G 77 H) (G 78 H) (16 * G 79 H) 108 H = 0 := (sta_100 (i := 0)).2
  have own : ∀ (a : Nat) i, ¬ ownC H a i → staS s H (6 + G 77 H) (G 78 H) (16 * G 79 H) a i = s a i := fun a i z => sta_o z
  have fr9 : ∀ i, ¬ (i = 16 * H) → staS s H (6 + G 77 H) (G 78 H) (16 * G 79 H) 95 i = s 95 i ∧ staS s H (6 + G 77 H) (G 78 H) (16 * G 79 H) 96 i = s 96 i ∧ staS s H (6 + G 77 H) (G 78 H) (16 * G 79 H) 97 i = s 97 i := fun i z => sta_fo z
  have fr8 : ∀ i, ¬ (416 * H ≤ i ∧ i < 416 * H + 26) → staS s H (6 + G 77 H) (G 78 H) (16 * G 79 H) 98 i = s 98 i ∧ staS s H (6 + G 77 H) (G 78 H) (16 * G 79 H) 99 i = s 99 i := fun i z => sta_vo z
  obtain ⟨s2, hs2⟩ : ∃ s2, staS s H (6 + G 77 H) (G 78 H) (16 * G 79 H) = s2 := ⟨_, rfl⟩
  rw [hs2] at v89 v90 v93 v91 v92 v94 v95 v96 v97 v108 ⊢
  simp only [hs2] at vv w1 own fr9 fr8
  have glb : ∀ (a : Nat) i, ¬ (89 ≤ a ∧ a ≤ 100) → a ≠ 108 → a < 300 → s2 a i = s a i := fun a i z1 z2 z3 => own a i (by unfold ownC; omega)
  refine ⟨fun i => by rw [glb 49 i (by decide) (by decide) (by decide)]; exact a1 i, fun i => ?_, fun i => ?_, fun i => ?_, fun i => ?_, fun i => ?_, fun i => by rw [glb 109 i (by decide) (by decide) (by decide)]; exact a7 i, fun i => by rw [glb 112 i (by decide) (by decide) (by decide), glb 113 i (by decide) (by decide) (by decide), glb 114 i (by decide) (by decide) (by decide), glb 118 i (by decide) (by decide) (by decide)]; exact a8 i, fun a i z => ?_⟩
  · by_cases z : i = H
    · subst z; rw [v89, if_pos (by omega)]
    · rw [own 89 i (by unfold ownC; omega), a2]
      by_cases y : 0 ≤ i ∧ i < H
      · rw [if_pos y, if_pos (by omega)]
      · rw [if_neg y, if_neg (c := 0 ≤ i ∧ i < H + 1) (by omega)]
  · by_cases z : i = H
    · subst z
      rw [v90, v93, v108, v91, v92, v94]
      simp only [if_pos (show 0 ≤ i ∧ i < i + 1 by omega), and_self]
    · obtain ⟨u1, u2, u3, u4, u5, u6⟩ := a3 i
      rw [own 90 i (by unfold ownC; omega), own 93 i (by unfold ownC; omega), own 108 i (by unfold ownC; omega), own 91 i (by unfold ownC; omega), own 92 i (by unfold ownC; omega), own 94 i (by unfold ownC; omega), u1, u2, u3, u4, u5, u6]
      by_cases y : 0 ≤ i ∧ i < H
      · simp only [if_pos y, if_pos (show 0 ≤ i ∧ i < H + 1 by omega), and_self]
      · simp only [if_neg y, if_neg (show ¬ (0 ≤ i ∧ i < H + 1) by omega), and_self]
  · by_cases z : i = 16 * H
    · subst z
      rw [v95, v96, v97, show 16 * H / 16 = H by omega]
      simp only [if_pos (show (0 ≤ 16 * H ∧ 16 * H < 16 * (H + 1)) ∧ 16 * H % 16 = 0 by omega), and_self]
    · obtain ⟨u1, u2, u3⟩ := a4 i
      obtain ⟨y1, y2, y3⟩ := fr9 i z
      rw [y1, y2, y3, u1, u2, u3]
      by_cases y : (0 ≤ i ∧ i < 16 * H) ∧ i % 16 = 0
      · simp only [if_pos y, if_pos (show (0 ≤ i ∧ i < 16 * (H + 1)) ∧ i % 16 = 0 by omega), and_self]
      · simp only [if_neg y, if_neg (show ¬ ((0 ≤ i ∧ i < 16 * (H + 1)) ∧ i % 16 = 0) by omega), and_self]
  · by_cases z : 416 * H ≤ i ∧ i < 416 * H + 26
    · obtain ⟨u1, u2⟩ := vv (i - 416 * H) (by omega) (by omega)
      rw [show 26 * (16 * H) + (i - 416 * H) = i by omega] at u1 u2
      have e1 : i / 416 = H := by omega
      have e2 : i % 416 = i - 416 * H := by omega
      unfold lV lW
      rw [e1, e2, u1, u2]
      simp only [if_pos (show (0 ≤ i ∧ i < 416 * (H + 1)) ∧ i - 416 * H < 26 by omega), if_neg (show ¬ (i - 416 * H < np S G H ∧ 4 * H + (i - 416 * H) < 4 * H) by omega), and_self]
    · obtain ⟨u1, u2⟩ := a5 i
      obtain ⟨y1, y2⟩ := fr8 i z
      rw [y1, y2, u1, u2]
      by_cases y : (0 ≤ i ∧ i < 416 * H) ∧ i % 416 < 26
      · simp only [if_pos y, if_pos (show (0 ≤ i ∧ i < 416 * (H + 1)) ∧ i % 416 < 26 by omega), and_self]
      · simp only [if_neg y, if_neg (show ¬ ((0 ≤ i ∧ i < 416 * (H + 1)) ∧ i % 416 < 26) by omega), and_self]
  · rw [w1, a6]
    by_cases z : 1025 * H < i ∧ i < 1025 * H + 1025
    · rw [if_pos z, if_pos (by omega)]
    · rw [if_neg z]
      by_cases y : (0 ≤ i ∧ i < 1025 * H) ∧ i % 1025 ≠ 0
      · rw [if_pos y, if_pos (by omega)]
      · rw [if_neg y, if_neg (c := (0 ≤ i ∧ i < 1025 * (H + 1)) ∧ i % 1025 ≠ 0) (by omega)]
  · rw [← a9 a i z, ← hs2]
    unfold staS actS
    rw [if_neg (by omega), if_neg (by omega), if_neg (by omega), if_neg (by omega), if_neg (by omega)]
    show (if _ then _ else _) = _
    rw [if_neg (by omega), if_neg (by omega), if_neg (by omega), if_neg (by omega), if_neg (by omega)]
end BD1
