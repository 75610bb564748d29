/-! RUNNING, the class: a process begins, and what is so then -/
section CO1
variable {d : Nat} {Q : QQ} {T : TXs} {al al' : AL} {hi hi' h1 : HI} {hr hr' r1 : HR} {s s' s1 s2 u sx sm : HI} {A A' : Int → Int → Int} {NN : Int → Option Nat} {E E' : Int → Prop} {p m f q v w x y n k g qx i P e fr ty kd tt cv o c9 : Int} {B : Int → Int} {X Y : Tst} {t t' N M c b : Nat} {al0 : AL} {hi0 : HI} {hr0 : HR} {V W ws : Int → Int}
def bgS (s : HI) (n m f c : Int) : HI := upI (staS s n m f c) 49 56 (if s 49 56 < n + 1 then n + 1 else s 49 56)
theorem sta_o {a : Nat} (h : ¬ ownC n a i) : staS s n m f c9 a i = s a i := by
  unfold staS
  have z94 : (if (94 : Nat) = 89 ∧ n = n then (1 : Int) else if ((94 : Nat) = 90 ∨ (94 : Nat) = 93 ∨ (94 : Nat) = 94 ∨ (94 : Nat) = 108) ∧ n = n then 0 else if (94 : Nat) = 91 ∧ n = n then m else if (94 : Nat) = 92 ∧ n = n then c9 else if (94 : Nat) = 100 ∧ 1025 * n < n ∧ n < 1025 * n + 1025 then 0 else s 94 n) = 0 := by
    rw [if_neg (by omega), if_pos ⟨by decide, rfl⟩]
  rw [actS_own (p := n) (by rw [z94]; decide) (fun y => h y.1)]
  unfold ownC at h
  rw [if_neg (by omega), if_neg (by omega), if_neg (by omega), if_neg (by omega), if_neg (by omega)]
theorem sta_94 : staS s n m f c9 94 n = 1 := by
  have := actS_94 (s := fun a i => if a = 89 ∧ i = n then 1 else if (a = 90 ∨ a = 93 ∨ a = 94 ∨ a = 108) ∧ i = n then 0 else if a = 91 ∧ i = n then m else if a = 92 ∧ i = n then c9 else if a = 100 ∧ 1025 * n < i ∧ i < 1025 * n + 1025 then 0 else s a i) (p := n) (f := f)
  unfold staS
  rw [this]
  rw [if_neg (by omega), if_pos ⟨by decide, rfl⟩]
  rfl
theorem sta_s : staS s n m f c9 89 n = 1 ∧ staS s n m f c9 90 n = 0 ∧ staS s n m f c9 93 n = 0 ∧ staS s n m f c9 91 n = m ∧ staS s n m f c9 92 n = c9 := by
  unfold staS
  refine ⟨?_, ?_, ?_, ?_, ?_⟩ <;> rw [actS_n (by decide)]
  · rw [if_pos ⟨rfl, rfl⟩]
  · rw [if_neg (by omega), if_pos ⟨by decide, rfl⟩]
  · rw [if_neg (by omega), if_pos ⟨by decide, rfl⟩]
  · rw [if_neg (by omega), if_neg (by omega), if_pos ⟨rfl, rfl⟩]
  · rw [if_neg (by omega), if_neg (by omega), if_neg (by omega), if_pos ⟨rfl, rfl⟩]
theorem sta_f : staS s n m f c9 95 (16 * n) = f ∧ staS s n m f c9 96 (16 * n) = 0 ∧ staS s n m f c9 97 (16 * n) = 0 := by
  have := actS_t (s := fun a i => if a = 89 ∧ i = n then 1 else if (a = 90 ∨ a = 93 ∨ a = 94 ∨ a = 108) ∧ i = n then 0 else if a = 91 ∧ i = n then m else if a = 92 ∧ i = n then c9 else if a = 100 ∧ 1025 * n < i ∧ i < 1025 * n + 1025 then 0 else s a i) (p := n) (f := f)
  rw [if_neg (by omega), if_pos (show (94 = 90 ∨ 94 = 93 ∨ (94 : Nat) = 94 ∨ 94 = 108) ∧ n = n from ⟨by decide, rfl⟩), Int.add_zero] at this
  exact this
theorem sta_v (h : 0 ≤ k ∧ k < 26) : staS s n m f c9 98 (26 * (16 * n) + k) = 0 ∧ staS s n m f c9 99 (26 * (16 * n) + k) = 4 := by
  have := actS_w (s := fun a i => if a = 89 ∧ i = n then 1 else if (a = 90 ∨ a = 93 ∨ a = 94 ∨ a = 108) ∧ i = n then 0 else if a = 91 ∧ i = n then m else if a = 92 ∧ i = n then c9 else if a = 100 ∧ 1025 * n < i ∧ i < 1025 * n + 1025 then 0 else s a i) (p := n) (f := f) (x := 26 * (16 * n) + k)
  rw [if_neg (by omega), if_pos (show (94 = 90 ∨ 94 = 93 ∨ (94 : Nat) = 94 ∨ 94 = 108) ∧ n = n from ⟨by decide, rfl⟩), Int.add_zero] at this
  exact this (by omega)
set_option maxRecDepth 8000 in
theorem RelC.beg0 (hR : RelC T NN al0 hi0 hr0 E A al hi hr s) (hP : AllP s) (hBs : Bs T NN al0 hi0 hr0) (n0 : 0 ≤ n ∧ n < 12) (h89 : 4 ≤ s 89 n) (n56 : n ≤ s 49 56) (hN : NN m = some N) (c0 : 0 ≤ c9 ∧ c9 ≤ 1024) {g1 g2 : Nat} (gA : GA al al' g1 g2) (tS : TkS al' hr' t) (e27 : hr' 27 n = some t) (e27o : ∀ q, q ≠ n → hr' 27 q = hr 27 q) (old : ∀ t', hr 27 n = some t' → t' = t) (fi : ∀ (a : Nat) i, a < al.1 → ¬ (t ≤ a ∧ a ≤ t + 5) → ¬ (a = 28 ∧ i = n) → hi' a i = hi a i) (fr : ∀ (a : Nat) i, a < al.1 → ¬ (a = 27 ∧ i = n) → ¬ (a = t ∧ i = 1) → hr' a i = hr a i) (et1 : hr' t 1 = some N) (e28 : hi' 28 n = 1)
    (hB : hi' t 0 = n ∧ hi' t 2 = m - 6 ∧ hi' t 3 = c9 ∧ hi' t 4 = 1 ∧ hi' t 5 = 0 ∧ hi' t 6 = 0 ∧ hi' t 7 = 1 ∧ hi' t 8 = 0 ∧ hi' t 16 = 1 ∧ hi' (t + 1) 0 = f ∧ hi' (t + 2) 0 = 0 ∧ hi' (t + 3) 0 = 0 ∧ ∀ k, 0 ≤ k → k < 10 → hi' (t + 4) (16 + k) = 7 ∧ hi' (t + 5) (16 + k) = 0)
    (pt : ∃ c, hr' t 15 = some c ∧ pool hr' c ∧ hr' 26 5 ≠ some c ∧ ∀ q t', 0 ≤ q → q < 12 → q ≠ n → hr 27 q = some t' → hr t' 15 ≠ some c) (dj : ∀ q t', 0 ≤ q → q < 12 → q ≠ n → hr 27 q = some t' → t' + 6 < t ∨ t + 6 < t') (tz : t < al.1 → Zt hr t) (zt0 : ∀ a, a < al0.1 → t ≤ a → a ≤ t + 6 → Zt hr0 a) (rm : al'.1 + 7 * tcn hr 12 ≤ al.1 + 7 * tcn hr' 12 ∧ al'.2.1 + 2000 * tcn hr 12 ≤ al.2.1 + 2000 * tcn hr' 12) :
    RelC T NN al0 hi0 hr0 E (fun q b => if q = n then 0 else A q b) al' hi' hr' (bgS s n m f c9) ∧ OnP hr' (bgS s n m f c9) n t ∧ AllP (bgS s n m f c9) := by
  obtain ⟨⟨a1, a2, a3, a4⟩, b1, b2, b3, b4, b5, b6⟩ := id hR
  have t119 := tS.1.1
  have al119 : 119 ≤ al.1 := a1.1
  obtain ⟨s3, hs3⟩ : ∃ s3, bgS s n m f c9 = s3 := ⟨_, rfl⟩
  have own : ∀ (a : Nat) i, ¬ ownC n a i → ¬ (a = 49 ∧ i = 56) → s3 a i = s a i := fun a i z1 z2 => by rw [← hs3]; unfold bgS; rw [upI_ne z2]; exact sta_o z1
  have n49 : ∀ (a : Nat) i, a ≠ 49 → s3 a i = staS s n m f c9 a i := fun a i z => by rw [← hs3]; exact upI_a z
  have s56 : s3 49 56 = if s 49 56 < n + 1 then n + 1 else s 49 56 := by rw [← hs3]; exact upI_eq
  obtain ⟨v89, v90, v93, v91, v92⟩ := sta_s (s := s) (n := n) (m := m) (f := f) (c9 := c9)
  have v94 : staS s n m f c9 94 n = 1 := sta_94
  obtain ⟨v95, v96, v97⟩ := sta_f (s := s) (n := n) (m := m) (f := f) (c9 := c9)
  rw [← n49 _ _ (by decide)] at v89 v90 v93 v91 v92 v94 v95 v96 v97
  have vv : ∀ k, 0 ≤ k → k < 26 → s3 98 (26 * (16 * n) + k) = 0 ∧ s3 99 (26 * (16 * n) + k) = 4 := fun k k0 k1 => by
    rw [n49 _ _ (by decide), n49 _ _ (by decide)]; exact sta_v ⟨k0, k1⟩
  have oth_ : ∀ q, q ≠ n → ∀ (a : Nat) i, ownC q a i → 0 ≤ q → q < 12 → s3 a i = s a i := fun q hq a i z q0 q1 => own a i (fun y => by unfold ownC hx at z y; omega) (fun y => by unfold ownC at z; omega)
  have glb : ∀ (a : Nat) i, 109 ≤ a → a ≤ 118 → s3 a i = s a i := fun a i z1 z2 => own a i (by unfold ownC; omega) (by omega)
  have low : ∀ (a : Nat) i, a < 119 → ¬ (a = 28 ∧ i = n) → hi' a i = hi a i := fun a i z y => fi a i (by omega) (by omega) y
  rw [hs3]
  have eai : ai s3 n = 16 * n := by unfold ai; rw [v94]; omega
  have H97 : ∀ x, 16 * n ≤ x → x ≤ ai s3 n → 0 ≤ s3 97 x ∧ s3 97 x ≤ 16 := fun x x0 x1 => by
    rw [eai] at x1
    rw [show x = 16 * n by omega, v97]; decide
  have z56 : n < s3 49 56 := by rw [s56]; split <;> omega
  have zt : ∀ a, Zt hr a → Zt hr' a := fun a ⟨q, t', q0, q1, e, l1, l2⟩ => by
    by_cases z : q = n
    · subst z; have := old t' e; subst this; exact ⟨q, t', q0, q1, e27, l1, l2⟩
    · exact ⟨q, t', q0, q1, (e27o q z).trans e, l1, l2⟩
  have pls : ∀ a, pool hr a → pool hr' a := fun a h => by
    rcases h with h | ⟨q, t', q0, q1, e, l⟩
    · exact Or.inl h
    · by_cases z : q = n
      · subst z; have := old t' e; subst this; exact Or.inr ⟨q, t', q0, q1, e27, l⟩
      · exact Or.inr ⟨q, t', q0, q1, (e27o q z).trans e, l⟩
  have klt : ∀ {a c : Nat}, isK al a c → a < al.1 := fun h => h.2.1
  have h26 : ∀ i, hr' 26 i = hr 26 i := fun i => fr 26 i (by omega) (by omega) (by omega)
  have pc : ∀ c, pool hr c → c < al.1 ∧ ¬ (t ≤ c ∧ c ≤ t + 5) ∧ ¬ (c = 28) := fun c hc => by
    have k := klt (b4.pk a1 hc).1
    refine ⟨k, fun y => ?_, by have := b4.pz hc; omega⟩
    rcases hc with rfl | ⟨q, t', q0, q1, e, rfl⟩
    · omega
    · by_cases z : q = n
      · subst z; have := old t' e; omega
      · have := dj q t' q0 q1 z e; omega
  have tq : ∀ q t', 0 ≤ q → q < 12 → q ≠ n → hr 27 q = some t' → TkS al hr t' ∧ t' + 6 < al.1 ∧ t' ≠ t := fun q t' q0 q1 z e => by
    have w := (b4.1 q t' q0 q1 e).1
    have k := klt w.2.2.2.2.2.2.1
    have := dj q t' q0 q1 z e
    exact ⟨w, k, by omega⟩
  have tsk : ∀ {t'}, TkS al hr t' → t' + 6 < al.1 → t' ≠ t → TkS al' hr' t' := fun {t'} h k ne => by
    obtain ⟨⟨w0, w1⟩, ⟨x1, x2, x3⟩, ⟨x4, x5, x6⟩, ⟨x7, x8, x9⟩, ⟨y1, y2, y3⟩, ⟨y4, y5, y6⟩, y7, y8⟩ := h
    have g : ∀ i, hr' t' i = hr t' i := fun i => fr t' i (by omega) (by omega) (by omega)
    exact ⟨⟨w0, gA.k w1⟩, ⟨(g _).trans x1, gA.k x2, (gA.l (klt x2)).trans x3⟩, ⟨(g _).trans x4, gA.k x5, (gA.l (klt x5)).trans x6⟩, ⟨(g _).trans x7, gA.k x8, (gA.l (klt x8)).trans x9⟩, ⟨(g _).trans y1, gA.k y2, (gA.l (klt y2)).trans y3⟩, ⟨(g _).trans y4, gA.k y5, (gA.l (klt y5)).trans y6⟩, gA.k y7, (gA.l (klt y7)).trans y8⟩
  obtain ⟨c, ec, pcc, c265, cne⟩ := pt
  obtain ⟨B0, B2, B3, B4, B5, B6, B7, B8, B16, Bf, Bp, Bh, Bs9⟩ := hB
  have on9 : OnP hr' s3 n t := ⟨n0, e27, by rw [v89]; decide, by rw [v94]; decide, by rw [v92]; exact c0, H97, z56⟩
  have all9 : AllP s3 := fun q q0 q1 q2 => by
    by_cases z : q = n
    · subst z
      exact ⟨on9.2.2.2.1, on9.2.2.2.2.1, H97, z56⟩
    · have oq := fun (a : Nat) (i : Int) (y : ownC q a i) => oth_ q z a i y q0 q1
      rw [oq 89 q (by unfold ownC; omega)] at q2
      obtain ⟨w1, w2, w3, w4⟩ := hP q q0 q1 q2
      have e94 := oq 94 q (by unfold ownC; omega)
      rw [e94, oq 92 q (by unfold ownC; omega)]
      refine ⟨w1, w2, fun x x0 x1 => ?_, by rw [s56]; split <;> omega⟩
      rw [ai_eq e94] at x1
      rw [oq 97 x (by unfold ownC; unfold ai at x1; omega)]
      exact w3 x x0 x1
  refine ⟨⟨⟨gA.sa a1, fun pr hpr => ?_, ⟨?_, fun a i z => ⟨(low a i (by omega) (by omega)).trans (a3.2.1 a i z).1, (fr a i (by omega) (by omega) (by omega)).trans (a3.2.1 a i z).2⟩, fun a i y1 y2 y3 => ?_, fun a y1 y2 => ?_, fun q t' q0 q1 e => ?_⟩, ?_⟩, ?_, ?_, ?_, ⟨fun q t' q0 q1 e => ?_, ?_, fun q q' t1 t2 q0 q1 q0' q1' hqq e e' => ?_⟩, fun q q0 q1 q2 => ?_, fun q t' q0 q1 e q2 => ?_⟩, on9, all9⟩
  · have : pr.1 < 119 ∧ pr.1 ≠ 27 := (show ∀ p ∈ crl, p.1 < 119 ∧ p.1 ≠ 27 by decide) pr hpr
    rw [fr _ _ (by omega) (by omega) (by omega)]; exact a2 pr hpr
  · obtain ⟨⟨x, z, g⟩, -⟩ := a3
    exact ⟨_, _, g.tr gA⟩
  · obtain ⟨⟨x, z, g⟩, -⟩ := id a3
    have nz : ¬ (t ≤ a ∧ a ≤ t + 6) := fun y => y3 ⟨n, t, n0.1, n0.2, e27, y.1, y.2⟩
    have := g.1
    obtain ⟨w1, w2⟩ := a3.2.2.1 a i y1 y2 (fun y => y3 (zt a y))
    exact ⟨(fi a i (by omega) (by omega) (by omega)).trans w1, (fr a i (by omega) (by omega) (by omega)).trans w2⟩
  · obtain ⟨q, t', q0, q1, e, l1, l2⟩ := y2
    by_cases z : q = n
    · subst z; rw [e27] at e; cases e; exact zt0 a y1 l1 l2
    · rw [e27o q z] at e; exact a3.2.2.2.1 a y1 ⟨q, t', q0, q1, e, l1, l2⟩
  · by_cases z : q = n
    · subst z; rw [e27] at e; cases e; exact B0
    · rw [e27o q z] at e
      obtain ⟨w1, w2, w3⟩ := tq q t' q0 q1 z e
      have := w1.1.1
      have := dj q t' q0 q1 z e
      rw [fi t' 0 (by omega) (by omega) (by omega)]; exact a3.2.2.2.2 q t' q0 q1 e
  · unfold RoomC at a4 ⊢; omega
  · obtain ⟨m1, m2, m3, m4, m5, m6, m7⟩ := b1
    have o49 : ∀ i, i ≠ 56 → s3 49 i = s 49 i := fun i z => own 49 i (by unfold ownC; omega) (by omega)
    refine ⟨(low _ _ (by decide) (by omega)).trans m1, by rw [low _ _ (by decide) (by omega), o49 _ (by decide)]; exact m2, by rw [low _ _ (by decide) (by omega), o49 _ (by decide)]; exact m3, by rw [low _ _ (by decide) (by omega), o49 _ (by decide)]; exact m4, by rw [low _ _ (by decide) (by omega), o49 _ (by decide)]; exact m5, fun q q0 q1 => ?_, fun i i0 i1 => ?_⟩
    · by_cases z : q = n
      · subst z; rw [e28, if_pos z56]
      · rw [low _ _ (by decide) (by omega), m6 q q0 q1, s56]
        by_cases y : q < s 49 56
        · rw [if_pos y, if_pos (by split <;> omega)]
        · rw [if_neg y, if_neg (by split <;> omega)]
    · rw [o49 _ (by decide)] at i1
      rw [low _ _ (by decide) (by omega), low _ _ (by decide) (by omega), own 87 i (by unfold ownC; omega) (by omega), own 88 i (by unfold ownC; omega) (by omega)]
      exact m7 i i0 i1
  · exact b2.cg (fun a i y1 y2 => low a i (by omega) (by omega)) (fun b _ _ => glb _ _ (by decide) (by decide)) (fun b _ _ _ => ⟨glb _ _ (by decide) (by decide), fun j _ _ => glb _ _ (by decide) (by decide)⟩)
  · obtain ⟨u1, u2⟩ := b3
    refine ⟨?_, u2.cg (fun a i y => low a i (by omega) (by omega))⟩
    obtain ⟨w0, w1, w2⟩ := u1.cg (hi' := hi') (s' := s3) (fun a i y1 y2 => low a i (by omega) (by omega)) (fun e => glb _ _ (by decide) (by decide)) (fun e => glb _ _ (by decide) (by decide)) (fun e _ => ⟨glb _ _ (by decide) (by decide), glb _ _ (by decide) (by decide), fun k _ _ => ⟨glb _ _ (by decide) (by decide), glb _ _ (by decide) (by decide), glb _ _ (by decide) (by decide)⟩⟩)
    refine ⟨w0, w1, fun c c0 c1 hc => ?_⟩
    obtain ⟨m', cc, N', o', x1, x2, x3, x4, x5⟩ := w2 c c0 c1 hc
    obtain ⟨gm, -⟩ := hR.gm hBs x1
    obtain ⟨ms, n119, nz, -⟩ := gm.ms
    have l4 := klt ms.2.2.2.2.1.2.1
    have nt : N' + 4 ≠ t := fun u => nz (N' + 4) (by omega) (by omega) (by rw [u]; exact tz (by omega))
    exact ⟨m', cc, N', o', x1, x2, (fr _ _ (by omega) (by omega) (by omega)).trans x3, (fr _ _ (by omega) (by omega) (by omega)).trans x4, x5⟩
  · by_cases z : q = n
    · subst z; rw [e27] at e; cases e; exact ⟨tS, c, ec, pcc, c265⟩
    · rw [e27o q z] at e
      obtain ⟨w1, w2, w3⟩ := tq q t' q0 q1 z e
      obtain ⟨-, c', x2, x3, x4⟩ := b4.1 q t' q0 q1 e
      exact ⟨tsk w1 w2 w3, c', (fr t' 15 (by omega) (by have := w1.1.1; omega) (by omega)).trans x2, pls _ x3, by rw [h26]; exact x4⟩
  · obtain ⟨c', x1, x2⟩ := b4.2.1
    exact ⟨c', by rw [h26]; exact x1, pls _ x2⟩
  · have key : ∀ q t', 0 ≤ q → q < 12 → q ≠ n → hr 27 q = some t' → hr' t' 15 = hr t' 15 := fun q t' q0 q1 z e => by
      obtain ⟨w1, w2, w3⟩ := tq q t' q0 q1 z e
      exact fr t' 15 (by omega) (by have := w1.1.1; omega) (by omega)
    by_cases z : q = n
    · subst z
      rw [e27] at e; cases e
      rw [e27o q' (fun y => hqq y.symm)] at e'
      refine ⟨(dj q' t2 q0' q1' (fun y => hqq y.symm) e').symm, ?_⟩
      rw [ec, key q' t2 q0' q1' (fun y => hqq y.symm) e']
      exact fun y => cne q' t2 q0' q1' (fun y => hqq y.symm) e' y.symm
    · rw [e27o q z] at e
      by_cases z' : q' = n
      · subst z'
        rw [e27] at e'; cases e'
        refine ⟨dj q t1 q0 q1 z e, ?_⟩
        rw [ec, key q t1 q0 q1 z e]
        exact cne q t1 q0 q1 z e
      · rw [e27o q' z'] at e'
        rw [key q t1 q0 q1 z e, key q' t2 q0' q1' z' e']
        exact b4.2.2 q q' t1 t2 q0 q1 q0' q1' hqq e e'
  · by_cases z : q = n
    · subst z
      exact ⟨t, e27, B0, by rw [v91]; exact B2, by rw [v92]; exact B3, by rw [v89]; exact B4, by rw [v90]; exact B5, by rw [v93]; exact B6⟩
    · have q3 : q < s 49 56 := by rw [s56] at q2; split at q2 <;> omega
      obtain ⟨t', e', k1, k2, k3, k4, k5, k6⟩ := b5 q q0 q1 q3
      obtain ⟨w1, w2, w3⟩ := tq q t' q0 q1 z e'
      have := w1.1.1
      have dj9 := dj q t' q0 q1 z e'
      have oq := fun (a : Nat) (y : 89 ≤ a ∧ a ≤ 94) => oth_ q z a q (by unfold ownC; omega) q0 q1
      have hh : ∀ i, hi' t' i = hi t' i := fun i => fi t' i (by omega) (by omega) (by omega)
      refine ⟨t', (e27o q z).trans e', ?_⟩
      unfold TkH
      rw [hh, hh, hh, hh, hh, hh, oq 91 (by decide), oq 92 (by decide), oq 89 (by decide), oq 90 (by decide), oq 93 (by decide)]
      exact ⟨k1, k2, k3, k4, k5, k6⟩
  · by_cases z : q = n
    · subst z
      rw [e27] at e; cases e
      refine ⟨⟨N, by rw [v91]; exact hN, et1⟩, by rw [v94]; exact ⟨B7, B8⟩, fun a x0 x1 => ?_, fun a k x0 x1 k0 k1 => ?_, c, ec, ?_⟩
      · rw [v94] at x1
        rw [show a = 0 by omega, Int.add_zero, v95, v96, v97]
        exact ⟨Bf, Bp, Bh⟩
      · rw [v94] at x1
        have a9 : a = 0 := by omega
        subst a9
        rw [Int.add_zero, v97] at k1
        obtain ⟨y1, y2⟩ := vv k k0 (by omega)
        obtain ⟨y3, y4⟩ := Bs9 k k0 (by omega)
        rw [Int.add_zero, y1, y2, slt_l (by omega), Int.mul_zero, Int.zero_add, y3, y4]
        exact ⟨rfl, rfl⟩
      · have nA : ∀ b, ¬ ((fun q' b => if q' = q then (0 : Int) else A q' b) q b ≠ 0) := fun b y => y (if_pos rfl)
        refine ⟨by rw [B16, v92]; omega, fun b hb => absurd hb (nA b), fun b _ hb => absurd hb (nA b), fun i hi w1 => ?_⟩
        obtain ⟨x, k, x0, x1, k0, k1, rfl⟩ := hi
        rw [eai] at x1
        have x9 : x = 16 * q := by omega
        subst x9
        rw [v97] at k1
        rw [(vv k k0 (by omega)).2] at w1
        exact absurd w1 (by decide)
    · have oq := fun (a : Nat) (i : Int) (y : ownC q a i) => oth_ q z a i y q0 q1
      rw [oq 89 q (by unfold ownC; omega)] at q2
      rw [e27o q z] at e
      obtain ⟨w1, w2, w3⟩ := tq q t' q0 q1 z e
      have := w1.1.1
      have dj9 := dj q t' q0 q1 z e
      obtain ⟨y1, y2, y3, y4⟩ := hP q q0 q1 q2
      refine ((b6 q t' q0 q1 e q2).A_ (A' := fun q b => if q = n then 0 else A q b) (fun b => if_neg z)).fr (fun a i z1 z2 => fi a i (by omega) (by omega) (by omega)) ⟨fi _ _ (by omega) (by omega) (by omega), fi _ _ (by omega) (by omega) (by omega), fi _ _ (by omega) (by omega) (by omega)⟩ (fun c' i zc => ?_) ⟨fr _ _ (by omega) (by omega) (by omega), fr _ _ (by omega) (by omega) (by omega)⟩ oq q0 y1.2 y2.2 y3
      obtain ⟨-, c2, x2, x3, x4⟩ := b4.1 q t' q0 q1 e
      rw [x2] at zc; cases zc
      obtain ⟨u1, u2, u3⟩ := pc c' x3
      exact fi c' i u1 u2 (fun y => u3 y.1)
end CO1
