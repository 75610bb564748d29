/-! RUNNING, the class: sending -/
section CN6
variable {d : Nat} {Q : QQ} {T : TXs} {al al' : AL} {hi hi' : HI} {hr hr' : HR} {s s' s2 u sx sm : HI} {A A' : Int → Int → Int} {NN : Int → Option Nat} {E E' : Int → Prop} {p m f q v w x y n k g qx i r P e fr ty o kd tt : Int} {B : Int → Int} {X Y : Tst} {t t' N M c b : Nat} {al0 : AL} {hi0 : HI} {hr0 : HR} {V W ws : Int → Int}
/-- a message is put, in the memory and in the state -/
def putK (hi : HI) (o k tt kd v n : Int) : HI := upI (upI (upI (upI hi 39 k tt) 40 k kd) 41 k v) 38 o n
def putS (s : HI) (o k tt v w n : Int) : HI := upI (upI (upI (upI s 115 k tt) 116 k v) 117 k w) 114 o n
theorem putK_n {a : Nat} {i : Int} (h : a ≠ 39 ∧ a ≠ 40 ∧ a ≠ 41 ∧ a ≠ 38) : putK hi o k tt kd v n a i = hi a i := by unfold putK; rw [upI_a (by omega), upI_a (by omega), upI_a (by omega), upI_a (by omega)]
theorem putS_n {a : Nat} {i : Int} (h : a ≠ 115 ∧ a ≠ 116 ∧ a ≠ 117 ∧ a ≠ 114) : putS s o k tt v w n a i = s a i := by unfold putS; rw [upI_a (by omega), upI_a (by omega), upI_a (by omega), upI_a (by omega)]
theorem putK_i {a : Nat} {i : Int} (h : i ≠ k) (h2 : a ≠ 38) : putK hi o k tt kd v n a i = hi a i := by unfold putK; rw [upI_a h2, upI_i h, upI_i h, upI_i h]
theorem putS_i {a : Nat} {i : Int} (h : i ≠ k) (h2 : a ≠ 114) : putS s o k tt v w n a i = s a i := by unfold putS; rw [upI_a h2, upI_i h, upI_i h, upI_i h]
theorem putK_k : putK hi o k tt kd v n 39 k = tt ∧ putK hi o k tt kd v n 40 k = kd ∧ putK hi o k tt kd v n 41 k = v := by
  unfold putK
  refine ⟨by rw [upI_a (by decide), upI_a (by decide), upI_a (by decide), upI_eq], by rw [upI_a (by decide), upI_a (by decide), upI_eq], by rw [upI_a (by decide), upI_eq]⟩
theorem putS_k : putS s o k tt v w n 115 k = tt ∧ putS s o k tt v w n 117 k = w ∧ putS s o k tt v w n 116 k = v := by
  unfold putS
  refine ⟨by rw [upI_a (by decide), upI_a (by decide), upI_a (by decide), upI_eq], by rw [upI_a (by decide), upI_eq], by rw [upI_a (by decide), upI_a (by decide), upI_eq]⟩
theorem putK_38 {x : Int} : putK hi o k tt kd v n 38 x = if x = o then n else hi 38 x := by
  unfold putK
  by_cases z : x = o
  · rw [if_pos z, z, upI_eq]
  · rw [if_neg z, upI_i z, upI_a (by decide), upI_a (by decide), upI_a (by decide)]
theorem putS_14 {x : Int} : putS s o k tt v w n 114 x = if x = o then n else s 114 x := by
  unfold putS
  by_cases z : x = o
  · rw [if_pos z, z, upI_eq]
  · rw [if_neg z, upI_i z, upI_a (by decide), upI_a (by decide), upI_a (by decide)]
theorem RelS.put (h : RelS T NN al0 hi0 hr0 E A al hi hr s) (hP : AllP s) (hq : QB s) (oo : opn s o) (h4 : 0 ≤ s 114 o ∧ s 114 o < 4) (hk : kd = kmq w) : RelS T NN al0 hi0 hr0 E A al (putK hi o (4 * o + s 114 o) tt kd v (s 114 o + 1)) hr (putS s o (4 * o + s 114 o) tt v w (s 114 o + 1)) := by
  obtain ⟨n1, n2, n3⟩ := h.2.2.2.1
  have op : ∀ y, opn (putS s o (4 * o + s 114 o) tt v w (s 114 o + 1)) y ↔ opn s y := fun y => by unfold opn; rw [putS_n (by decide)]
  refine h.glo hP (fun a i z => putK_n (by unfold gC at z; omega)) (fun _ _ _ => rfl) (fun a i z => putS_n (by unfold gS at z; omega)) (putS_n (by decide)) (h.2.1.cg (fun a i y => putK_n (by omega)) (fun a i y => putS_n (by omega))) (h.2.2.1.cg (fun a i y1 y2 => putK_n (by omega)) (fun b _ _ => putS_n (by decide)) (fun b _ _ _ => ⟨putS_n (by decide), fun j _ _ => putS_n (by decide)⟩)) ⟨fun y z => (op y).mpr (n1 y z), fun y y0 y1 => ?_, fun c c0 c1 hc => ?_⟩
  · obtain ⟨z1, z2, z3, z4⟩ := n2 y y0 y1
    rw [putK_n (a := 34) (by decide), op, putK_38, putS_14]
    refine ⟨z1, z2, by
      by_cases c : y = o
      · rw [if_pos c, if_pos c]
      · rw [if_neg c, if_neg c]; exact z3, fun u => ⟨fun q => ?_, fun j j0 j1 => ?_⟩⟩
    · rw [putK_n (a := 35) (by decide), putK_n (a := 36) (by decide), putS_n (a := 112) (by decide), putS_n (a := 113) (by decide)]
      exact (z4 u).1 q
    · by_cases c : y = o ∧ j = s 114 o
      · obtain ⟨rfl, rfl⟩ := c
        obtain ⟨a1, a2, a3⟩ := putK_k (hi := hi) (o := y) (k := 4 * y + s 114 y) (tt := tt) (kd := kd) (v := v) (n := s 114 y + 1)
        obtain ⟨b1, b2, b3⟩ := putS_k (s := s) (o := y) (k := 4 * y + s 114 y) (tt := tt) (w := w) (v := v) (n := s 114 y + 1)
        rw [a1, a2, a3, b1, b2, b3]
        exact ⟨rfl, hk, rfl⟩
      · have b4 := (hq y u).1
        have ne : 4 * y + j ≠ 4 * o + s 114 o := fun z => c (by
          by_cases yo : y = o
          · exact ⟨yo, by omega⟩
          · rw [if_neg yo] at j1; omega)
        have j2 : j < s 114 y := by
          by_cases yo : y = o
          · rw [if_pos yo] at j1
            have : j ≠ s 114 o := fun z => c ⟨yo, z⟩
            rw [yo]; omega
          · rw [if_neg yo] at j1; exact j1
        rw [putK_i ne (by decide), putK_i ne (by decide), putK_i ne (by decide), putS_i ne (by decide), putS_i ne (by decide), putS_i ne (by decide)]
        exact (z4 u).2 j j0 j2
  · rw [op, op] at hc
    obtain ⟨m, cc, N, o', w1, w2, w3, w4, w5⟩ := n3 c c0 c1 hc
    refine ⟨m, cc, N, o', w1, w2, w3, w4, fun y hy ec => ?_⟩
    rw [op] at hy
    rw [putS_n (by decide)]
    exact w5 y hy ec
/-- .. to a closed end -/
theorem RelS.putc (h : RelS T NN al0 hi0 hr0 (fun _ => False) A al hi hr s) (hP : AllP s) (hq : QB s) (o0 : 0 ≤ o ∧ o < 24) (hc : s 112 o = -1) (oe : opn s e) (eo : e / 2 = o / 2) (hk : kd = kmq w) : RelS T NN al0 hi0 hr0 (fun x => x = o) A al (putK hi o (4 * o) tt kd v 1) hr (upI (upI (upI (upI (upI (upI s 112 o 0) 118 o (s 118 e)) 115 (4 * o) tt) 116 (4 * o) v) 117 (4 * o) w) 114 o 1) := by
  obtain ⟨n1, n2, n3⟩ := h.2.2.2.1
  have no : ¬ opn s o := fun z => z.2.2 hc
  show RelS T NN al0 hi0 hr0 (fun x => x = o) A al (putK hi o (4 * o) tt kd v 1) hr (putS (upI (upI s 112 o 0) 118 o (s 118 e)) o (4 * o) tt v w 1)
  obtain ⟨s3, hs3⟩ : ∃ s3, upI (upI s 112 o 0) 118 o (s 118 e) = s3 := ⟨_, rfl⟩
  have e12 : ∀ y, y ≠ o → s3 112 y = s 112 y := fun y z => by rw [← hs3, upI_a (by decide), upI_i z]
  have e12o : s3 112 o = 0 := by rw [← hs3, upI_a (by decide), upI_eq]
  have e18 : ∀ y, y ≠ o → s3 118 y = s 118 y := fun y z => by rw [← hs3, upI_i z, upI_a (by decide)]
  have e18o : s3 118 o = s 118 e := by rw [← hs3, upI_eq]
  have e3 : ∀ (a : Nat) i, a ≠ 112 → a ≠ 118 → s3 a i = s a i := fun a i z1 z2 => by rw [← hs3, upI_a z2, upI_a z1]
  rw [hs3]
  have op : ∀ y, y ≠ o → (opn (putS s3 o (4 * o) tt v w 1) y ↔ opn s y) := fun y z => by unfold opn; rw [putS_n (by decide), e12 y z]
  have opo : opn (putS s3 o (4 * o) tt v w 1) o := ⟨o0.1, o0.2, by rw [putS_n (by decide), e12o]; decide⟩
  refine h.glo hP (fun a i z => putK_n (by unfold gC at z; omega)) (fun _ _ _ => rfl) (fun a i z => (putS_n (by unfold gS at z; omega)).trans (e3 a i (by unfold gS at z; omega) (by unfold gS at z; omega))) ((putS_n (by decide)).trans (e3 _ _ (by decide) (by decide))) (h.2.1.cg (fun a i y => putK_n (by omega)) (fun a i y => (putS_n (by omega)).trans (e3 _ _ (by omega) (by omega)))) (h.2.2.1.cg (fun a i y1 y2 => putK_n (by omega)) (fun b _ _ => (putS_n (by decide)).trans (e3 _ _ (by decide) (by decide))) (fun b _ _ _ => ⟨(putS_n (by decide)).trans (e3 _ _ (by decide) (by decide)), fun j _ _ => (putS_n (by decide)).trans (e3 _ _ (by decide) (by decide))⟩)) ⟨fun y z => by rw [z]; exact opo, fun y y0 y1 => ?_, fun c c0 c1 hcc => ?_⟩
  · obtain ⟨z1, z2, z3, z4⟩ := n2 y y0 y1
    rw [putK_n (a := 34) (by decide), putK_38, putS_14]
    by_cases c : y = o
    · subst c
      rw [if_pos rfl, if_pos rfl]
      refine ⟨z1, ⟨fun z => absurd (z2.mp z).1 no, fun z => absurd rfl z.2⟩, rfl, fun _ => ⟨fun z => absurd rfl z, fun j j0 j1 => ?_⟩⟩
      have j9 : j = 0 := by omega
      subst j9
      rw [Int.add_zero]
      obtain ⟨a1, a2, a3⟩ := putK_k (hi := hi) (o := y) (k := 4 * y) (tt := tt) (kd := kd) (v := v) (n := 1)
      obtain ⟨b1, b2, b3⟩ := putS_k (s := s3) (o := y) (k := 4 * y) (tt := tt) (w := w) (v := v) (n := 1)
      rw [a1, a2, a3, b1, b2, b3]
      exact ⟨rfl, hk, rfl⟩
    · rw [if_neg c, if_neg c, op y c, e3 _ _ (by decide) (by decide)]
      refine ⟨z1, z2.trans ⟨fun z => ⟨z.1, fun u => c u⟩, fun z => ⟨z.1, id⟩⟩, z3, fun u => ⟨fun _ => ?_, fun j j0 j1 => ?_⟩⟩
      · rw [putK_n (a := 35) (by decide), putK_n (a := 36) (by decide), putS_n (a := 112) (by decide), putS_n (a := 113) (by decide), e12 y c, e3 _ _ (by decide) (by decide)]
        exact (z4 u).1 id
      · have b4 := (hq y u).1
        have ne : 4 * y + j ≠ 4 * o := by omega
        rw [putK_i ne (by decide), putK_i ne (by decide), putK_i ne (by decide), putS_i ne (by decide), putS_i ne (by decide), putS_i ne (by decide), e3 _ _ (by decide) (by decide), e3 _ _ (by decide) (by decide), e3 _ _ (by decide) (by decide)]
        exact (z4 u).2 j j0 j1
  · have hc2 : opn s (2 * c) ∨ opn s (2 * c + 1) := by
      by_cases z : c = o / 2
      · obtain ⟨x0, x1, -⟩ := id oe
        by_cases y : e % 2 = 0
        · left; rw [show 2 * c = e by omega]; exact oe
        · right; rw [show 2 * c + 1 = e by omega]; exact oe
      · exact hcc.imp (fun u => (op _ (by omega)).mp u) (fun u => (op _ (by omega)).mp u)
    obtain ⟨m, cc, N, o', w1, w2, w3, w4, w5⟩ := n3 c c0 c1 hc2
    refine ⟨m, cc, N, o', w1, w2, w3, w4, fun y hy ec => ?_⟩
    rw [putS_n (by decide)]
    by_cases z : y = o
    · subst z
      rw [e18o]
      exact w5 e oe (by omega)
    · rw [e18 y z]
      exact w5 y ((op y z).mp hy) ec
set_option maxRecDepth 8000 in
theorem x_send (h : RelS T NN al0 hi0 hr0 (fun _ => False) A al hi hr s) (hP : AllP s) (hL : ClL 0 hi (fun _ => False)) (hq : QB s) (oe : opn s e) (h4 : 0 ≤ s 114 (oth e) ∧ s 114 (oth e) < 4) (h0 : s 112 (oth e) = -1 → s 114 (oth e) = 0) (hk : kd = kmq w) (h2 : w = 2 → 0 ≤ v ∧ v < 128) (h3 : w = 3 → 0 ≤ v ∧ v < 24) (hd : 2 ≤ d)
    (qo : opn s (oth e) → ∀ hi', RelC T NN al0 hi0 hr0 (fun _ => False) A al hi' hr (ownS (putS s (oth e) (4 * oth e + s 114 (oth e)) tt v w (s 114 (oth e) + 1)) v w (100 + oth e)) → Q (some none) al hi' hr)
    (qc : s 112 (oth e) = -1 → ∀ hi', RelC T NN al0 hi0 hr0 (fun x => x = oth e) A al hi' hr (mupS s (oth e) v w (s 118 e) tt) → Q (some none) al hi' hr) : Ev d 52 [vR (some 33), vI e, vI tt, vI kd, vI v] al hi hr Q := by
  have hA := h.1.1
  have hC := h.1.2.1
  have k33 : isK al 33 5 := hA.k (by decide) (by decide) rfl; have k29 : isK al 29 1 := hA.k (by decide) (by decide) rfl
  have l34 := SA.len (a := 34) (n := 24) hA (by decide) (by decide) rfl
  have l38 := SA.len (a := 38) (n := 24) hA (by decide) (by decide) rfl
  have l39 := SA.len (a := 39) (n := 96) hA (by decide) (by decide) rfl
  have l40 := SA.len (a := 40) (n := 96) hA (by decide) (by decide) rfl
  have l41 := SA.len (a := 41) (n := 96) hA (by decide) (by decide) rfl
  have R34 : isR al 34 = true := hA.r (by decide) (by decide) (by decide); have K34 : isK al 34 16 := hA.k (by decide) (by decide) rfl; have R35 : isR al 35 = true := hA.r (by decide) (by decide) (by decide); have R36 : isR al 36 = true := hA.r (by decide) (by decide) (by decide); have R38 : isR al 38 = true := hA.r (by decide) (by decide) (by decide); have R39 : isR al 39 = true := hA.r (by decide) (by decide) (by decide); have R40 : isR al 40 = true := hA.r (by decide) (by decide) (by decide); have R41 : isR al 41 = true := hA.r (by decide) (by decide) (by decide)
  have K35 : isK al 35 15 := hA.k (by decide) (by decide) rfl; have K36 : isK al 36 15 := hA.k (by decide) (by decide) rfl; have K38 : isK al 38 15 := hA.k (by decide) (by decide) rfl; have K39 : isK al 39 15 := hA.k (by decide) (by decide) rfl; have K40 : isK al 40 15 := hA.k (by decide) (by decide) rfl; have K41 : isK al 41 15 := hA.k (by decide) (by decide) rfl
  have g29 := cr_33_0 hC; have g34 := cr_33_1 hC; have g35 := cr_33_2 hC; have g36 := cr_33_3 hC; have g37 := cr_33_4 hC; have g38 := cr_33_5 hC; have g39 := cr_33_6 hC; have g40 := cr_33_7 hC; have g41 := cr_33_8 hC
  obtain ⟨e0, e1, e2⟩ := id oe
  have ex := fXor_1 ⟨e0, e1⟩
  obtain ⟨o, ho⟩ : ∃ o, oth e = o := ⟨_, rfl⟩
  have ob : (0 ≤ o ∧ o < 24) ∧ e / 2 = o / 2 := by rw [← ho]; unfold oth; split <;> omega
  rw [ho] at h4 h0 qo qc ex
  obtain ⟨n1, n2, n3⟩ := h.2.2.2.1
  have w38 : hi 38 o = s 114 o := (n2 o ob.1.1 ob.1.2).2.2.1
  have h34 : hi 34 e = 1 := (n2 e e0 e1).2.1.mpr ⟨oe, id⟩
  have b34 := (n2 o ob.1.1 ob.1.2)
  have hkk := kmq4 (w := w)
  rw [← hk] at hkk
  have hcl : hi 33 10 = 0 := by
    obtain ⟨⟨l0, -⟩, l2, -⟩ := hL
    apply Classical.byContradiction
    intro y
    exact l2 0 (Int.le_refl _) (by omega)
  have T75 : Wp d 52 75 [vR (some 33), vI e, vI tt, vI kd, vI v, vI o, vI (4 * o + s 114 o)] [] al (putK hi o (4 * o + s 114 o) tt kd v (s 114 o + 1)) hr Q := by
    by_cases c : opn s o
    · have h1 : hi 34 o = 1 := b34.2.1.mpr ⟨c, id⟩
      have R := h.put (tt := tt) (v := v) hP hq c h4 hk
      have HD := x_hand (d := d - 1) (Q := kon d 52 84 87 [vR (some 33), vI e, vI tt, vI kd, vI v, vI o, vI (4 * o + s 114 o)] [] Q) (o := 100 + o) (v := v) R (hP.glo (fun a i z => putS_n (by unfold gS at z; omega)) (putS_n (by decide))) hkk (by omega) h2 h3 (fun h5 y1 y2 => by
        have r34 : h5 34 o = 1 := by rw [y2 _ _ (by decide) (by decide), putK_n (by decide)]; exact h1
        have E9 := qo c h5 (y1.rc_ (hL.cg (fun a i z => by rw [y2 _ _ (by omega) (by omega), putK_n (by omega)])))
        simp only [kon, knt_some, knt_none, Option.toList_some, Option.toList_none, List.cons_append, List.nil_append]
        refine s52_87.mpr ?_
        refine (s52_88 (by first | decide | assumption | omega)).mpr ?_
        refine s52_91.mpr ?_
        try simp (disch := first | decide | assumption | omega) only [g29, g34, g35, g36, g37, g38, g39, g40, g41, r34]
        refine (s52_93Z (by first | decide | assumption | omega) (by first | decide | assumption | omega) (by first | decide | assumption | omega)).mpr ?_
        try simp (disch := first | decide | assumption | omega) only [g29, g34, g35, g36, g37, g38, g39, g40, g41, r34]
        refine s52_94.mpr (wif (fun c94 => ?_) (fun c94 => ?_))
        · skip
          exfalso; omega
        · skip
          refine (s52_103).mpr ?_
          exact E9
        )
      refine s52_75.mpr (s52_76.mpr (s52_77.mpr (s52_79.mpr (s52_81.mpr (s52_83.mpr ?_)))))
      try simp (disch := first | decide | assumption | omega) only [fAdd_id]
      refine (s52_84 (by first | decide | assumption | omega) (by first | decide | assumption | omega)).mpr ?_
      exact HD
    · have hc : s 112 o = -1 := Classical.byContradiction (fun z => c ⟨ob.1.1, ob.1.2, z⟩)
      have z14 := h0 hc
      have h1 : hi 34 o = 0 := by
        rcases b34.1 with z | z
        · exact z
        · exact absurd (b34.2.1.mp z).1 c
      rw [z14, Int.add_zero, Int.zero_add]
      have R := h.putc (tt := tt) (v := v) hP hq ob.1 hc oe ob.2 hk
      have HD := x_hand (d := d - 1) (Q := kon d 52 84 87 [vR (some 33), vI e, vI tt, vI kd, vI v, vI o, vI (4 * o)] [] Q) (o := 100 + o) (v := v) R (hP.glo (fun a i z => by rw [upI_a (by unfold gS at z; omega), upI_a (by unfold gS at z; omega), upI_a (by unfold gS at z; omega), upI_a (by unfold gS at z; omega), upI_a (by unfold gS at z; omega), upI_a (by unfold gS at z; omega)]) (by rw [upI_a (by decide), upI_a (by decide), upI_a (by decide), upI_a (by decide), upI_a (by decide), upI_a (by decide)])) hkk (by omega) h2 h3 (fun h5 y1 y2 => by
        have r34 : h5 34 o = 0 := by rw [y2 _ _ (by decide) (by decide), putK_n (by decide)]; exact h1
        have r10 : h5 33 10 = 0 := by rw [y2 _ _ (by decide) (by decide), putK_n (by decide)]; exact hcl
        have P5 : AllP (mupS s o v w (s 118 e) tt) := by
          unfold mupS
          exact hP.glo (fun a i z => by rw [ownS_n (by unfold gS at z; omega), upI_a (by unfold gS at z; omega), upI_a (by unfold gS at z; omega), upI_a (by unfold gS at z; omega), upI_a (by unfold gS at z; omega), upI_a (by unfold gS at z; omega), upI_a (by unfold gS at z; omega)]) (by rw [ownS_n (by decide), upI_a (by decide), upI_a (by decide), upI_a (by decide), upI_a (by decide), upI_a (by decide), upI_a (by decide)])
        obtain ⟨h6, hh6⟩ : ∃ h6, upI (upI h5 42 0 o) 33 10 (0 + 1) = h6 := ⟨_, rfl⟩
        have r6 : ∀ (a : Nat) i, a ≠ 42 → a ≠ 33 → h6 a i = h5 a i := fun a i z1 z2 => by rw [← hh6, upI_a z2, upI_a z1]
        have R6 := y1.glo (hi' := h6) P5 (fun a i z => r6 a i (by unfold gC at z; omega) (by unfold gC at z; omega)) (fun _ _ _ => rfl) (fun _ _ _ => rfl) rfl (y1.2.1.cg (fun a i z => r6 a i (by omega) (by omega)) (fun _ _ _ => rfl)) (y1.2.2.1.cg (fun a i z1 z2 => r6 a i (by omega) (by omega)) (fun _ _ _ => rfl) (fun _ _ _ _ => ⟨rfl, fun _ _ _ => rfl⟩)) (y1.2.2.2.1.cg (fun a i z1 z2 => r6 a i (by omega) (by omega)) (fun _ => rfl) (fun _ => rfl) (fun _ _ => ⟨rfl, rfl, fun _ _ _ => ⟨rfl, rfl, rfl⟩⟩))
        have c10 : h6 33 10 = 1 := by rw [← hh6, upI_eq]; rfl
        have c42 : h6 42 0 = o := by rw [← hh6, upI_a (by decide), upI_eq]
        have oc := opc_1 (hi := h6) (e := o) 24 ob.1.1 (by omega) (by rw [r6 _ _ (by decide) (by decide), r34]; decide)
        have E9 := qc hc h6 (R6.rc_ ⟨⟨by omega, by omega⟩, fun j j0 j1 => by rw [show j = 0 by omega, c42], fun j j' j0 j1 j2 => by exfalso; omega, fun x z => ⟨0, Int.le_refl _, by omega, by rw [c42]; exact z.symm⟩⟩)
        have AC := e_addClosing (d := d - 1) (e := o) (hi := h5) (Q := kon d 52 100 103 [vR (some 33), vI e, vI tt, vI kd, vI v, vI o, vI (4 * o)] [] Q) hA hC (by omega) (by
          rw [r10, hh6]
          simp only [kon, knt_some, knt_none, Option.toList_some, Option.toList_none, List.cons_append, List.nil_append]
          refine (s52_103).mpr ?_
          exact E9
          )
        simp only [kon, knt_some, knt_none, Option.toList_some, Option.toList_none, List.cons_append, List.nil_append]
        refine s52_87.mpr ?_
        refine (s52_88 (by first | decide | assumption | omega)).mpr ?_
        refine s52_91.mpr ?_
        try simp (disch := first | decide | assumption | omega) only [g29, g34, g35, g36, g37, g38, g39, g40, g41, r34]
        refine (s52_93Z (by first | decide | assumption | omega) (by first | decide | assumption | omega) (by first | decide | assumption | omega)).mpr ?_
        try simp (disch := first | decide | assumption | omega) only [g29, g34, g35, g36, g37, g38, g39, g40, g41, r34]
        refine s52_94.mpr (wif (fun c94 => ?_) (fun c94 => ?_))
        · skip
          refine s52_97.mpr (s52_98.mpr ?_)
          refine (s52_100 (by first | decide | assumption | omega) (by first | decide | assumption | omega)).mpr ?_
          exact AC
        · skip
          exfalso; omega
        )
      refine s52_75.mpr (s52_76.mpr (s52_77.mpr (s52_79.mpr (s52_81.mpr (s52_83.mpr ?_)))))
      try simp (disch := first | decide | assumption | omega) only [fAdd_id]
      refine (s52_84 (by first | decide | assumption | omega) (by first | decide | assumption | omega)).mpr ?_
      exact HD
  unfold putK at T75
  rw [e52]
  refine s52_0.mpr (s52_1.mpr (s52_2.mpr (s52_3.mpr (s52_5.mpr (s52_6.mpr ?_)))))
  try simp (disch := first | decide | assumption | omega) only [g29, g34, g35, g36, g37, g38, g39, g40, g41, ex, w38, upI_a, fMul_id, fAdd_id, Int.mul_comm o 4]
  refine (s52_7 (by first | decide | assumption | omega) (by first | decide | assumption | omega)).mpr ?_
  refine e_isOpen hA hC (fun _ _ _ => ?_) (fun z => absurd ⟨e0, e1, by omega⟩ z)
  simp only [kon, knt_some, knt_none, Option.toList_some, Option.toList_none, List.cons_append, List.nil_append]
  refine s52_10.mpr (wif (fun c10 => ?_) (fun c10 => ?_))
  · skip
    exfalso; omega
  · skip
    refine s52_13.mpr ?_
    refine (s52_14 (by first | decide | assumption | omega)).mpr ?_
    refine s52_17.mpr ?_
    try simp (disch := first | decide | assumption | omega) only [g29, g34, g35, g36, g37, g38, g39, g40, g41, ex, w38, upI_a, fMul_id, fAdd_id, Int.mul_comm o 4]
    refine (s52_19 (by first | decide | assumption | omega) (by first | decide | assumption | omega) (by first | decide | assumption | omega)).mpr ?_
    refine s52_20.mpr ?_
    try simp (disch := first | decide | assumption | omega) only [g29, g34, g35, g36, g37, g38, g39, g40, g41, ex, w38, upI_a, fMul_id, fAdd_id, Int.mul_comm o 4]
    refine s52_21.mpr (wif (fun c21 => ?_) (fun c21 => ?_))
    · skip
      refine s52_25.mpr (s52_27.mpr (s52_28.mpr (s52_29.mpr ?_)))
      try simp (disch := first | decide | assumption | omega) only [g29, g34, g35, g36, g37, g38, g39, g40, g41, ex, w38, upI_a, fMul_id, fAdd_id, Int.mul_comm o 4]
      refine (s52_30 (by first | decide | assumption | omega)).mpr ?_
      refine s52_33.mpr ?_
      try simp (disch := first | decide | assumption | omega) only [g29, g34, g35, g36, g37, g38, g39, g40, g41, ex, w38, upI_a, fMul_id, fAdd_id, Int.mul_comm o 4]
      refine (s52_35 (by first | decide | assumption | omega) (by first | decide | assumption | omega) (by first | decide | assumption | omega)).mpr ?_
      refine s52_36.mpr (s52_37.mpr (s52_39.mpr ?_))
      try simp (disch := first | decide | assumption | omega) only [g29, g34, g35, g36, g37, g38, g39, g40, g41, ex, w38, upI_a, fMul_id, fAdd_id, Int.mul_comm o 4]
      refine (s52_40 (by first | decide | assumption | omega)).mpr ?_
      refine s52_43.mpr (s52_45.mpr ?_)
      try simp (disch := first | decide | assumption | omega) only [g29, g34, g35, g36, g37, g38, g39, g40, g41, ex, w38, upI_a, fMul_id, fAdd_id, Int.mul_comm o 4]
      refine (s52_46 (by first | decide | assumption | omega) (by first | decide | assumption | omega) (by first | decide | assumption | omega)).mpr ?_
      refine s52_47.mpr ?_
      try simp (disch := first | decide | assumption | omega) only [g29, g34, g35, g36, g37, g38, g39, g40, g41, ex, w38, upI_a, fMul_id, fAdd_id, Int.mul_comm o 4]
      refine (s52_48 (by first | decide | assumption | omega)).mpr ?_
      refine s52_51.mpr (s52_53.mpr ?_)
      try simp (disch := first | decide | assumption | omega) only [g29, g34, g35, g36, g37, g38, g39, g40, g41, ex, w38, upI_a, fMul_id, fAdd_id, Int.mul_comm o 4]
      refine (s52_54 (by first | decide | assumption | omega) (by first | decide | assumption | omega) (by first | decide | assumption | omega)).mpr ?_
      refine s52_55.mpr ?_
      try simp (disch := first | decide | assumption | omega) only [g29, g34, g35, g36, g37, g38, g39, g40, g41, ex, w38, upI_a, fMul_id, fAdd_id, Int.mul_comm o 4]
      refine (s52_56 (by first | decide | assumption | omega)).mpr ?_
      refine s52_59.mpr (s52_61.mpr ?_)
      try simp (disch := first | decide | assumption | omega) only [g29, g34, g35, g36, g37, g38, g39, g40, g41, ex, w38, upI_a, fMul_id, fAdd_id, Int.mul_comm o 4]
      refine (s52_63 (by first | decide | assumption | omega) (by first | decide | assumption | omega) (by first | decide | assumption | omega)).mpr ?_
      refine s52_64.mpr ?_
      try simp (disch := first | decide | assumption | omega) only [g29, g34, g35, g36, g37, g38, g39, g40, g41, ex, w38, upI_a, fMul_id, fAdd_id, Int.mul_comm o 4]
      refine (s52_65 (by first | decide | assumption | omega)).mpr ?_
      refine s52_68.mpr (s52_70.mpr ?_)
      try simp (disch := first | decide | assumption | omega) only [g29, g34, g35, g36, g37, g38, g39, g40, g41, ex, w38, upI_a, fMul_id, fAdd_id, Int.mul_comm o 4]
      refine (s52_71 (by first | decide | assumption | omega) (by first | decide | assumption | omega) (by first | decide | assumption | omega)).mpr ?_
      refine s52_72.mpr (s52_73.mpr ?_)
      try simp (disch := first | decide | assumption | omega) only [g29, g34, g35, g36, g37, g38, g39, g40, g41, ex, w38, upI_a, fMul_id, fAdd_id, Int.mul_comm o 4]
      refine (s52_74 (by first | decide | assumption | omega) (by first | decide | assumption | omega) (by first | decide | assumption | omega)).mpr ?_
      try simp (disch := first | decide | assumption | omega) only [g29, g34, g35, g36, g37, g38, g39, g40, g41, ex, w38, upI_a, fMul_id, fAdd_id, Int.mul_comm o 4]
      exact T75
    · skip
      exfalso; omega
end CN6
