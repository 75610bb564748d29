/-! RUNNING, the class: what stays -/
section CR1
variable {T : TXs} {al al' : AL} {hi hi' : HI} {hr hr' : HR} {s s' : HI} {A A' : Int → Int → Int} {NN : Int → Option Nat} {E : Int → Prop} {p q m f v w : Int} {B : Int → Int} {X Y : Tst} {t t' N : Nat} {al0 : AL} {hi0 : HI} {hr0 : HR}
theorem HpC.fr {c : Nat} {fr : Int} (h : HpC A hi c fr s p) (ec : ∀ i, hi' c i = hi c i) (e2 : s' 92 p = s 92 p) (e : ∀ b, 1 ≤ b → b ≤ 1024 → s' 100 (1025 * p + b) = s 100 (1025 * p + b) ∧ s' 302 (1025 * p + b) = s 302 (1025 * p + b)) (e3 : ∀ b i, A p b ≠ 0 → 0 ≤ i → i < s 100 (1025 * p + b) - 1 → s' 300 (hx p b i) = s 300 (hx p b i) ∧ s' 301 (hx p b i) = s 301 (hx p b i)) (er : ∀ i, pl s' p i → s' 99 i = 1 → s' 98 i ≠ 0 → A p (s' 98 i) ≠ 0) : HpC A hi' c fr s' p := by
  obtain ⟨h1, h2, h3, h4⟩ := h
  refine ⟨by rw [e2]; exact h1, fun b hb => ?_, fun b b' hb hb' hne => ?_, er⟩
  · obtain ⟨y1, y2, y3, y4, y5⟩ := h2 b hb
    obtain ⟨q1, q2⟩ := e b y1.1 y1.2
    rw [q1, q2, ec]
    refine ⟨y1, y2, y3, y4, fun i i0 i1 => ?_⟩
    obtain ⟨r1, r2⟩ := e3 b i hb i0 i1
    rw [r1, r2, ec]
    exact y5 i i0 i1
  · obtain ⟨y1, -⟩ := h2 b hb
    obtain ⟨y1', -⟩ := h2 b' hb'
    rw [(e b y1.1 y1.2).1, (e b' y1'.1 y1'.2).1]
    exact h3 b b' hb hb' hne
theorem TkL.fr (h : TkL A hi hr NN s p t) (e : ∀ a i, t + 1 ≤ a → a ≤ t + 5 → hi' a i = hi a i) (e7 : hi' t 7 = hi t 7 ∧ hi' t 8 = hi t 8 ∧ hi' t 16 = hi t 16) (ec : ∀ c i, hr t 15 = some c → hi' c i = hi c i) (er : hr' t 1 = hr t 1 ∧ hr' t 15 = hr t 15) (hs : ∀ a i, ownC p a i → s' a i = s a i) (p0 : 0 ≤ p) (ha : s 94 p ≤ 16) (h92 : s 92 p ≤ 1024) (h97 : ∀ x, 16 * p ≤ x → x ≤ ai s p → 0 ≤ s 97 x ∧ s 97 x ≤ 16) : TkL A hi' hr' NN s' p t := by
  obtain ⟨⟨N, h1, h2⟩, ⟨h3, h4⟩, h5, h6, c, h7, h8⟩ := h
  have e94 : s' 94 p = s 94 p := hs _ _ (by unfold ownC; omega)
  have e97 : ∀ a, 0 ≤ a → a < s 94 p → s' 97 (16 * p + a) = s 97 (16 * p + a) := fun a a0 a1 => hs _ _ (by unfold ownC; omega)
  refine ⟨⟨N, by rw [hs 91 p (by unfold ownC; omega)]; exact h1, er.1.trans h2⟩, by rw [e94, e7.1, e7.2.1]; exact ⟨h3, h4⟩, fun a a0 a1 => ?_, fun a k a0 a1 k0 k1 => ?_, c, er.2.trans h7, ?_⟩
  · rw [e94] at a1
    rw [e _ _ (by omega) (by omega), e _ _ (by omega) (by omega), e _ _ (by omega) (by omega), hs 95 _ (by unfold ownC; omega), hs 96 _ (by unfold ownC; omega), e97 a a0 a1]
    exact h5 a a0 a1
  · rw [e94] at a1
    rw [e97 a a0 a1] at k1
    have := h97 (16 * p + a) (by omega) (by unfold ai; omega)
    rw [e _ _ (by omega) (by omega), e _ _ (by omega) (by omega), hs 98 _ (by unfold ownC; omega), hs 99 _ (by unfold ownC; omega)]
    exact h6 a k a0 a1 k0 k1
  · rw [e7.2.2]
    have hpl : ∀ i, pl s' p i → pl s p i ∧ s' 98 i = s 98 i ∧ s' 99 i = s 99 i := fun i hi => by
      have ea : ai s' p = ai s p := ai_eq e94
      have hi2 := (pl_eq ea (fun x x0 x1 => by
        have := e97 (x - 16 * p) (by omega) (by unfold ai at x1; omega)
        rw [show 16 * p + (x - 16 * p) = x by omega] at this; exact this)).mp hi
      obtain ⟨x, k, a, b, c', d, rfl⟩ := id hi2
      have := h97 x a b
      have b2 : x < 16 * p + 16 := by unfold ai at b; omega
      exact ⟨hi2, hs 98 _ (by unfold ownC; omega), hs 99 _ (by unfold ownC; omega)⟩
    have hb92 := h8
    refine h8.fr (fun i => ec c i h7) (hs _ _ (by unfold ownC; omega)) (fun b b0 b1 => ⟨hs _ _ (by unfold ownC; omega), hs _ _ (by unfold ownC; omega)⟩) (fun b i hb i0 i1 => ?_) (fun i hi => ?_)
    · obtain ⟨y1, y2, y3, -⟩ := h8.2.1 b hb
      have := h8.1.2
      exact ⟨hs _ _ (by unfold ownC hx; omega), hs _ _ (by unfold ownC hx; omega)⟩
    · obtain ⟨q1, q2, q3⟩ := hpl i hi
      rw [q2, q3]; exact h8.2.2.2 i q1
/-- a process that goes on, and its object -/
def OnP (hr : HR) (s : HI) (p : Int) (t : Nat) : Prop := (0 ≤ p ∧ p < 12) ∧ hr 27 p = some t ∧ s 89 p < 4 ∧ (1 ≤ s 94 p ∧ s 94 p ≤ 16) ∧ (0 ≤ s 92 p ∧ s 92 p ≤ 1024) ∧ (∀ x, 16 * p ≤ x → x ≤ ai s p → 0 ≤ s 97 x ∧ s 97 x ≤ 16) ∧ p < s 49 56
/-- all that goes on is in order -/
def AllP (s : HI) : Prop := ∀ q, 0 ≤ q → q < 12 → s 89 q < 4 → (1 ≤ s 94 q ∧ s 94 q ≤ 16) ∧ (0 ≤ s 92 q ∧ s 92 q ≤ 1024) ∧ (∀ x, 16 * q ≤ x → x ≤ ai s q → 0 ≤ s 97 x ∧ s 97 x ≤ 16) ∧ q < s 49 56
theorem AllP.of (h : JO T s p) (hp : p = -1 ∨ ∃ m f X, PJ T s p m f X) : AllP s := fun q q0 q1 q2 => by
  have h56 := (h.1.2.2.2.2.2.1 q q0 q1).2.2 q2
  by_cases c : q = p
  · subst c
    rcases hp with z | ⟨m, f, X, hP⟩
    · omega
    · exact ⟨hP.1.2.1, hP.1.2.2.2.2.1, hP.h97, h56⟩
  · obtain ⟨m, h1, h2, h3, h4, h5⟩ := h.2.2.2 q q0 q1 c q2
    refine ⟨h1.2.1, h1.2.2.2.2.1, fun x x0 x1 => ?_, h56⟩
    by_cases z : x = ai s q
    · subst z
      obtain ⟨y1, A, Z, y2, y3, y4, y6⟩ := h4
      have z0 : 0 ≤ Z.1 := (y2.2.2.2 _ _ y3 y4).1
      have z16 : Z.1 ≤ 16 := (y2.2.2.1 _ _ y3 y4).1
      rw [y6.1]; exact ⟨z0, z16⟩
    · obtain ⟨y1, A, Z, n, y2, y3, y4, y5, y6, y7⟩ := h3 x x0 (by omega)
      have en : s 97 x = n := y6.1
      omega
theorem TkA.ne (h : TkA al hr) {q q' : Int} (hq : 0 ≤ q ∧ q < 12) (hq' : 0 ≤ q' ∧ q' < 12) (e : hr 27 q = some t) (e' : hr 27 q' = some t') (hne : q ≠ q') : t + 6 < t' ∨ t' + 6 < t := (h.2.2 q q' t t' hq.1 hq.2 hq'.1 hq'.2 hne e e').1
/-- a row of cells is no other part of a process -/
theorem TkA.c (h : TkA al hr) {c : Nat} (hc : pool hr c) {q : Int} (q0 : 0 ≤ q) (q1 : q < 12) (e : hr 27 q = some t) : ¬ (t ≤ c ∧ c ≤ t + 5) := by
  have ht := (h.1 q t q0 q1 e).1.1.1
  rcases hc with rfl | ⟨q', t', r0, r1, e', rfl⟩
  · omega
  · by_cases z : q = q'
    · subst z; rw [e] at e'; cases e'; omega
    · have := h.ne ⟨q0, q1⟩ ⟨r0, r1⟩ e e' z; omega
theorem TkA.pk (h : TkA al hr) (hA : SA al) {c : Nat} (hc : pool hr c) : isK al c 15 ∧ aln al c = 1025 := by
  rcases hc with rfl | ⟨q', t', r0, r1, e', rfl⟩
  · exact ⟨hA.k (by decide) (by decide) rfl, hA.len (by decide) (by decide) rfl⟩
  · exact (h.1 q' t' r0 r1 e').1.2.2.2.2.2.2
theorem TkA.pz (h : TkA al hr) {c : Nat} (hc : pool hr c) : c = 43 ∨ (119 ≤ c ∧ Zt hr c) := by
  rcases hc with rfl | ⟨q', t', r0, r1, e', rfl⟩
  · exact Or.inl rfl
  · have := (h.1 q' t' r0 r1 e').1.1.1
    exact Or.inr ⟨by omega, q', t', r0, r1, e', by omega, Nat.le_refl _⟩
theorem TkL.A_ (h : TkL A hi hr NN s p t) (e : ∀ b, A' p b = A p b) : TkL A' hi hr NN s p t := by
  have ev : ∀ v w, vm A' p v w = vm A p v w := fun v w => by unfold vm; rw [e]
  unfold TkL HpC at h ⊢
  simp only [ev, e]
  exact h
/-- a process's object changes, and its cells -/
theorem RelC.tskA (eA : ∀ q b, q ≠ p → A' q b = A q b) (h : RelC T NN al0 hi0 hr0 E A al hi hr s) (hP : AllP s) (p0 : 0 ≤ p ∧ p < 12) (ht : hr 27 p = some t) (hw : ∀ a i, ¬ (t ≤ a ∧ a ≤ t + 5) → hr t 15 ≠ some a → hi' a i = hi a i) (h06 : ∀ i : Int, i ≤ 6 → hi' t i = hi t i) (hs : ∀ a i, ¬ (ownC p a i ∧ 94 ≤ a) → s' a i = s a i) (hL : s 89 p < 4 → TkL A' hi' hr NN s' p t) : RelC T NN al0 hi0 hr0 E A' al hi' hr s' := by
  obtain ⟨⟨a1, a2, a3, a4⟩, b1, b2, b3, b4, b5, b6⟩ := h
  obtain ⟨tS, c, c1, c2, c3⟩ := b4.1 p t p0.1 p0.2 ht
  have t119 := tS.1.1
  have ck := b4.pz c2
  have hw2 : ∀ a i, ¬ (t ≤ a ∧ a ≤ t + 5) → a ≠ c → hi' a i = hi a i := fun a i z1 z2 => hw a i z1 (by rw [c1]; intro e; cases e; exact z2 rfl)
  have low : ∀ (a : Nat) i, a < 119 → a ≠ 43 → hi' a i = hi a i := fun a i z1 z2 => hw2 a i (by omega) (by rcases ck with z | z <;> omega)
  have sg : ∀ a i, (109 ≤ a ∧ a ≤ 118) ∨ a = 49 ∨ a = 87 ∨ a = 88 → s' a i = s a i := fun a i z => hs a i (by unfold ownC; omega)
  have no : ∀ e, opn s' e ↔ opn s e := fun e => by unfold opn; rw [sg 112 _ (by omega)]
  have s89 : ∀ q, s' 89 q = s 89 q := fun q => hs _ _ (by omega)
  refine ⟨⟨a1, a2, ⟨a3.1, fun a i z => ⟨(low a i (by omega) (by omega)).trans (a3.2.1 a i z).1, (a3.2.1 a i z).2⟩, fun a i z1 z2 z3 => ⟨(hw2 a i (fun y => z3 ⟨p, t, p0.1, p0.2, ht, y.1, by omega⟩) (fun y => by rcases ck with z | z; omega; exact z3 (by rw [y]; exact z.2))).trans (a3.2.2.1 a i z1 z2 z3).1, (a3.2.2.1 a i z1 z2 z3).2⟩, a3.2.2.2.1, fun q t' q0 q1 e' => by
    by_cases y : q = p
    · subst y; rw [ht] at e'; cases e'; rw [h06 0 (by decide)]; exact a3.2.2.2.2 q t q0 q1 ht
    · have u1 := b4.ne ⟨q0, q1⟩ p0 e' ht y
      have u2 := b4.c c2 q0 q1 e'
      rw [hw2 t' 0 (by omega) (by omega)]
      exact a3.2.2.2.2 q t' q0 q1 e'⟩, a4⟩, ?_, ?_, ?_, b4, fun q q0 q1 q2 => ?_, fun q t' q0 q1 e' q2 => ?_⟩
  · unfold MaC at b1 ⊢
    simp only [low 26 _ (by decide) (by decide), low 28 _ (by decide) (by decide), low 44 _ (by decide) (by decide), low 45 _ (by decide) (by decide), sg 49 _ (by omega), sg 87 _ (by omega), sg 88 _ (by omega)]
    exact b1
  · have e1 : ∀ n, bcn s' n = bcn s n := fun n => by
      induction n with
      | zero => rfl
      | succ n ih => unfold bcn; rw [ih, sg 109 _ (by omega)]
    have e2 : ∀ n, bcl s' n = bcl s n := fun n => by
      induction n with
      | zero => rfl
      | succ n ih => unfold bcl; rw [ih, sg 109 _ (by omega)]
    unfold BlC at b2 ⊢
    simp only [low 29 _ (by decide) (by decide), low 30 _ (by decide) (by decide), low 31 _ (by decide) (by decide), low 32 _ (by decide) (by decide), sg 109 _ (by omega), sg 110 _ (by omega), sg 111 _ (by omega), e1, e2]
    exact b2
  · have oc := opc_c (hi := hi) (hi' := hi') (fun i => low 34 i (by decide) (by decide)) 24
    unfold EnC EnC0 ClL at b3 ⊢
    simp only [oc, low 33 _ (by decide) (by decide), low 42 _ (by decide) (by decide), no, low 34 _ (by decide) (by decide), low 35 _ (by decide) (by decide), low 36 _ (by decide) (by decide), low 38 _ (by decide) (by decide), low 39 _ (by decide) (by decide), low 40 _ (by decide) (by decide), low 41 _ (by decide) (by decide), sg 112 _ (by omega), sg 113 _ (by omega), sg 114 _ (by omega), sg 115 _ (by omega), sg 116 _ (by omega), sg 117 _ (by omega), sg 118 _ (by omega)]
    exact b3
  · rw [sg 49 _ (by omega)] at q2
    obtain ⟨t', e', k1, k2, k3, k4, k5, k6⟩ := b5 q q0 q1 q2
    refine ⟨t', e', ?_⟩
    have hh : ∀ i : Int, i ≤ 6 → hi' t' i = hi t' i := fun i z => by
      by_cases y : q = p
      · subst y; rw [ht] at e'; cases e'; exact h06 i z
      · have := b4.ne ⟨q0, q1⟩ p0 e' ht y
        exact hw2 t' i (by omega) (fun y => b4.c c2 q0 q1 e' (by omega))
    have ss : ∀ a, a < 94 → s' a q = s a q := fun a z => hs _ _ (by omega)
    unfold TkH
    rw [hh 0 (by decide), hh 2 (by decide), hh 3 (by decide), hh 4 (by decide), hh 5 (by decide), hh 6 (by decide), ss 91 (by decide), ss 92 (by decide), ss 89 (by decide), ss 90 (by decide), ss 93 (by decide)]
    exact ⟨k1, k2, k3, k4, k5, k6⟩
  · rw [s89] at q2
    by_cases y : q = p
    · subst y; rw [ht] at e'; cases e'; exact hL q2
    · have hd := b4.ne ⟨q0, q1⟩ p0 e' ht y
      obtain ⟨y1, y2, y3, y4⟩ := hP q q0 q1 q2
      have hcc : hr t' 15 ≠ some c := fun z => (b4.2.2 q p t' t q0 q1 p0.1 p0.2 y e' ht).2 (z.trans c1.symm)
      have hcn := b4.c c2 q0 q1 e'
      obtain ⟨tS', c', c1', c2', c3'⟩ := b4.1 q t' q0 q1 e'
      refine ((b6 q t' q0 q1 e' q2).A_ (A' := A') (fun b => eA q b y)).fr (fun a i z1 z2 => hw2 a i (by omega) (by omega)) ⟨hw2 _ _ (by omega) (by omega), hw2 _ _ (by omega) (by omega), hw2 _ _ (by omega) (by omega)⟩ (fun c'' i z => hw2 c'' i ?_ (fun u => hcc (by rw [← u]; exact z))) ⟨rfl, rfl⟩ (fun a i z => hs a i (fun u => by unfold ownC hx at u z; omega)) q0 y1.2 y2.2 y3
      rw [c1'] at z; cases z
      intro u
      exact b4.c c2' p0.1 p0.2 ht u
theorem RelC.tsk (h : RelC T NN al0 hi0 hr0 E A al hi hr s) (hP : AllP s) (p0 : 0 ≤ p ∧ p < 12) (ht : hr 27 p = some t) (hw : ∀ a i, ¬ (t ≤ a ∧ a ≤ t + 5) → hr t 15 ≠ some a → hi' a i = hi a i) (h06 : ∀ i : Int, i ≤ 6 → hi' t i = hi t i) (hs : ∀ a i, ¬ (ownC p a i ∧ 94 ≤ a) → s' a i = s a i) (hL : s 89 p < 4 → TkL A hi' hr NN s' p t) : RelC T NN al0 hi0 hr0 E A al hi' hr s' := h.tskA (fun _ _ _ => rfl) hP p0 ht hw h06 hs hL
end CR1
