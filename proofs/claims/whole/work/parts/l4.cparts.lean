/-! RUNNING, the class: a box's parts are moved -/
section CG2
variable {d : Nat} {Q : QQ} {T : TXs} {al al' : AL} {hi hi' : HI} {hr hr' : HR} {s s' : HI} {A A' : Int → Int → Int} {p q m f v w x : Int} {B : Int → Int} {t t' N c0 c1 : Nat} {a' : Int → Int} {fr sc k : Int}
theorem ptF {r : Int} (hS : Sh B) (hN : NV B) (hrg : ∀ k, -1 ≤ B k ∧ B k ≤ 255) (r0 : 0 ≤ r) (r1 : r < nRec B) {j : Nat} (hj : (j : Int) < nFld B r) : ptB B r (nFld B r).toNat / 2 ^ j % 2 = if heapT (fTy B r j) then 1 else 0 := by
  have hs := hS.2.2.1 r r0 r1
  rw [ptB_i (by omega) (by have := hs.2.1; omega)]
  have hv := (hN.1 r j r0 r1 (by omega) hj).1
  have e : tyC B (pFld B r j) = cv (fTy B r j) := tyC_cv hrg (hs.2.2.2.1 j (by omega) hj).1
  have e2 := cv_k hv.r
  rw [e]
  unfold bitP ptrC
  rw [e2]
  by_cases c : heapT (fTy B r j)
  · rw [if_pos c, if_pos c]
  · rw [if_neg c, if_neg c]
theorem p2le {f j : Nat} (h : f ≤ j) : (2 : Int) ^ f ≤ 2 ^ j := by
  have e : ∀ n : Nat, ((2 : Int) ^ n) = ((2 ^ n : Nat) : Int) := fun n => by rw [Int.natCast_pow]; rfl
  rw [e, e]
  exact Int.ofNat_le.mpr (Nat.pow_le_pow_right (by decide) h)
theorem sh_z {x : Int} (x0 : 0 ≤ x) {f j : Nat} (h : f ≤ j) (e : x / 2 ^ f = 0) : x / 2 ^ j = 0 := by
  have p1 : (0 : Int) < 2 ^ f := Int.pow_pos (by decide)
  have h1 : x < 2 ^ f := by
    have a := Int.emod_add_mul_ediv x (2 ^ f)
    have b := Int.emod_lt_of_pos x p1
    rw [e] at a; omega
  refine Int.ediv_eq_zero_of_lt x0 (Int.lt_of_lt_of_le h1 ?_)
  exact p2le h
/-- the first k are done, and the next is no box -/
theorem CI.sk {b : Int} (hB : CB A s p) (h : CI A s p c0 c1 a' fr sc k hi) (hlt : sc < fr) (hb : a' b = sc) (k0 : 0 ≤ k) (hw : k < zz s p b - 1 → s 301 (hx p b k) ≠ 1) : CI A s p c0 c1 a' fr sc (k + 1) hi := by
  obtain ⟨⟨b1, b2, b3⟩, i2, i3, i4, i5, i6⟩ := h
  refine ⟨⟨b1, b2, Or.inl hlt⟩, fun c hc => ?_, i3, i4, i5, i6⟩
  obtain ⟨j1, j2, j3, j4, j5⟩ := i2 c hc
  refine ⟨j1, j2, j3, j4, fun i i0 i1 => ?_⟩
  obtain ⟨j6, j7⟩ := j5 i i0 i1
  by_cases y : a' c < sc ∨ a' c = sc ∧ i < k
  · exact ⟨fun _ => j6 y, fun u => absurd (by omega : a' c < sc ∨ a' c = sc ∧ i < k + 1) u⟩
  · refine ⟨fun u => ?_, fun u => j7 y⟩
    have hcb : c = b := by
      apply Classical.byContradiction
      intro ne
      have hbn : a' b ≠ 0 := by omega
      have h1 := i3 c b hc hbn ne
      have h2 := (i2 b hbn).2.2.2.1
      have z1 := (hB.1 c j1).2.1
      have z2 := (hB.1 b (i2 b hbn).1).2.1
      omega
    have hi : i = k := by omega
    subst hcb; subst hi
    have w1 := hw i1
    have := j7 y
    unfold vmf; unfold vm at this
    rw [if_neg w1] at this ⊢
    exact ⟨this, fun z => absurd z w1⟩
/-- all is done -/
theorem CI.fin {b : Int} (h : CI A s p c0 c1 a' fr sc k hi) (hlt : sc < fr) (hb : a' b = sc) (hz : 1 ≤ zz s p b) (hk : zz s p b - 1 ≤ k) : CI A s p c0 c1 a' fr (sc + zz s p b) 0 hi := by
  obtain ⟨⟨b1, b2, b3⟩, i2, i3, i4, i5, i6⟩ := h
  have hbn : a' b ≠ 0 := by omega
  obtain ⟨jb1, jb2, jb3, jb4, jb5⟩ := i2 b hbn
  refine ⟨⟨by omega, by omega, Or.inr rfl⟩, fun c hc => ?_, i3, i4, i5, i6⟩
  obtain ⟨j1, j2, j3, j4, j5⟩ := i2 c hc
  refine ⟨j1, j2, j3, ?_, fun i i0 i1 => ?_⟩
  · by_cases e : c = b
    · subst e; left; omega
    · have := i3 c b hc hbn e; omega
  · obtain ⟨j6, j7⟩ := j5 i i0 i1
    by_cases y : a' c < sc ∨ a' c = sc ∧ i < k
    · exact ⟨fun _ => j6 y, fun u => absurd (by omega : a' c < sc + zz s p b ∨ a' c = sc + zz s p b ∧ i < 0) u⟩
    · refine ⟨fun u => ?_, fun u => j7 y⟩
      exfalso
      by_cases e : c = b
      · subst e; omega
      · have := i3 c b hc hbn e; omega
/-- the next is moved -/
theorem c_next {b : Int} (k9 : isK al t 9) (e15 : hr t 15 = some c1) (kc0 : isK al c0 15 ∧ aln al c0 = 1025) (kc1 : isK al c1 15 ∧ aln al c1 = 1025) (hne : c0 ≠ c1) (hB : CB A s p) (hC : CI A s p c0 c1 a' fr sc k hi) (h16 : hi t 16 = fr) (hlt : sc < fr) (hb : a' b = sc) (k0 : 0 ≤ k) (hk : k < zz s p b - 1) (hw : s 301 (hx p b k) = 1) (hng : 0 ≤ s 300 (hx p b k))
    (q : ∀ a'' fr' hi' y, CI A s p c0 c1 a'' fr' sc (k + 1) (upI hi' c1 (sc + 1 + k) y) → upI hi' c1 (sc + 1 + k) y t 16 = fr' → (∀ b, a' b ≠ 0 → a'' b = a' b) → FW (wMv t c0 c1) hi (upI hi' c1 (sc + 1 + k) y) → fr ≤ fr' → Q (some (some (vI y))) al hi' hr) : hi c1 (sc + 1 + k) = vm A p (s 300 (hx p b k)) 1 ∧ Ev d 142 [vR (some t), vR (some c0), vI (vm A p (s 300 (hx p b k)) 1)] al hi hr Q := by
  have hbn : a' b ≠ 0 := by have := hC.1.1; omega
  obtain ⟨j1, j2, j3, j4, j5⟩ := hC.2.1 b hbn
  have nt1 : c1 ≠ t := isK_ne kc1.1 k9 (by decide)
  obtain ⟨v, hv⟩ : ∃ v, s 300 (hx p b k) = v := ⟨_, rfl⟩
  have hv9 : v = 0 ∨ rch s p v := by
    by_cases y : v = 0
    · exact Or.inl y
    · right; rw [← hv]; exact rch_i j1 k0 hk hw (by omega)
  have j7 := (j5 k k0 hk).2 (by omega)
  rw [hw, hb, hv] at j7
  rw [hv]
  refine ⟨j7, c_moved k9 e15 kc0 kc1 hne hB hC h16 hv9 (fun a'' fr' hi' z1 z2 z3 z4 z5 z6 => q a'' fr' hi' _ ?_ (by rw [upI_a (fun y => nt1 y.symm)]; exact z2) z3 (z5.up (Or.inr (Or.inl rfl))) z6)⟩
  obtain ⟨⟨b1, b2, b3⟩, i2, i3, i4, i5, i6⟩ := z1
  have hb2 : a'' b = sc := (z3 b hbn).trans hb
  have hbn2 : a'' b ≠ 0 := by rw [z3 b hbn]; exact hbn
  obtain ⟨u, hu⟩ : ∃ u, vmf a'' v 1 = u := ⟨_, rfl⟩
  rw [hu]
  have sz : 1 ≤ zz s p b := by omega
  refine ⟨⟨b1, b2, Or.inl (by omega)⟩, fun c hc => ?_, i3, i4, fun c hc => ?_, i6⟩
  · obtain ⟨y1, y2, y3, y4, y5⟩ := i2 c hc
    have inb : c ≠ b → ∀ i, 0 ≤ i → i < zz s p c → a'' c + i ≠ sc + 1 + k := fun e i i0 i1 => by
      have := i3 c b hc hbn2 e
      omega
    have zc := (hB.1 c y1).2.1
    refine ⟨y1, y2, ?_, y4, fun i i0 i1 => ?_⟩
    · rw [upI_i]
      · exact y3
      · by_cases e : c = b
        · subst e; omega
        · have := inb e 0 (by decide) (by omega); omega
    · obtain ⟨y6, y7⟩ := y5 i i0 i1
      by_cases e : c = b ∧ i = k
      · obtain ⟨rfl, rfl⟩ := e
        refine ⟨fun _ => ?_, fun z => absurd (by omega) z⟩
        rw [hb2, upI_eq, hw, hv, hu]
        exact ⟨rfl, fun _ => z4⟩
      · have hne2 : a'' c + 1 + i ≠ sc + 1 + k := by
          by_cases e' : c = b
          · subst e'; omega
          · have := inb e' (1 + i) (by omega) (by omega); omega
        rw [upI_i hne2]
        refine ⟨fun z => ?_, fun z => y7 (fun y => z (by omega))⟩
        refine y6 ?_
        rcases z with z | z
        · exact Or.inl z
        · right
          have hcb : c = b := by
            apply Classical.byContradiction
            intro ne
            have h1 := i3 c b hc hbn2 ne
            omega
          refine ⟨z.1, ?_⟩
          have : i ≠ k := fun y => e ⟨hcb, y⟩
          omega
  · rw [upI_a hne]
    obtain ⟨y1, y2⟩ := i5 c hc
    exact ⟨y1, fun i i0 i1 => by rw [upI_a hne]; exact y2 i i0 i1⟩
set_option maxRecDepth 8000 in
theorem c_parts {m : Int} (k9 : isK al t 9) (e15 : hr t 15 = some c1) (kc0 : isK al c0 15 ∧ aln al c0 = 1025) (kc1 : isK al c1 15 ∧ aln al c1 = 1025) (hne : c0 ≠ c1) (hd : 1 ≤ d) (hB : CB A s p) (hC : CI A s p c0 c1 a' fr sc 0 hi) (h16 : hi t 16 = fr) (hlt : sc < fr) (hM : Mg T s m) (hH : HpI T s p m) (hng : ∀ b i, rch s p b → 0 ≤ i → i < zz s p b - 1 → s 301 (hx p b i) = 1 → 0 ≤ s 300 (hx p b i))
    (hco : hr t 1 = some N) (hN : isK al N 10 ∧ hr N 5 = some (N + 3) ∧ isK al (N + 3) 15 ∧ aln al (N + 3) = 8) (hN3 : N + 3 ≠ c0 ∧ N + 3 ≠ c1) (hP : ∀ r, 0 ≤ r → r < nRec (T m) → hi (N + 3) r = ptB (T m) r (nFld (T m) r).toNat)
    (q : ∀ b a'' fr' hi', a' b = sc → CI A s p c0 c1 a'' fr' (sc + zz s p b) 0 hi' → hi' t 16 = fr' → (∀ b, a' b ≠ 0 → a'' b = a' b) → FW (wMv t c0 c1) hi hi' → fr ≤ fr' → Q (some (some (vI (zz s p b)))) al hi' hr) : Ev d 143 [vR (some t), vR (some c0), vI sc] al hi hr Q := by
  obtain ⟨kN, eN5, kN3, lN3⟩ := hN
  obtain ⟨b, y1, y2, y3⟩ := hC.2.2.2.1 sc hC.1.1 hlt
  have yb := hC.2.1 b y1
  have hb : a' b = sc := by have := yb.2.2.2.1; omega
  obtain ⟨j1, j2, j3, j4, j5⟩ := yb
  obtain ⟨g1, g2, g3, g4⟩ := hB.1 b j1
  have hS := hM.2.1.2.1
  have hNV := hM.2.1.2.2.1
  have hrg : ∀ k, -1 ≤ (T m) k ∧ (T m) k ≤ 255 := fun k => by rw [← hM.2.1.1.2.2.2.1]; exact bAt_rng m k
  have r8 : nRec (T m) ≤ 8 := hS.2.1
  obtain ⟨ty, it⟩ := (hH b g1.1 g1.2).2 g2
  have kc1' := kc1.1
  have lc1 := kc1.2
  have rr1 := isR_of kc1' (by decide) (by decide)
  have nt1 : c1 ≠ t := isK_ne kc1' k9 (by decide)
  obtain ⟨z, hz⟩ : ∃ z, zz s p b = z := ⟨_, rfl⟩
  have e100 : s 100 (1025 * p + b) = z := hz
  obtain ⟨y, hy⟩ : ∃ y, s 302 (1025 * p + b) = y := ⟨_, rfl⟩
  rw [hy] at j3 ty it
  rw [e100] at ty it
  rw [hb] at j2 j3
  rw [hz] at j2 j3 g2 g4 j5
  have ws : ∀ i, 0 ≤ i → i < z - 1 → (s 301 (hx p b i) = 1 ↔ heapT (itT (T m) y i)) := fun i i0 i1 => by
    have hv := it i i0 i1
    have hk := itT_k hNV ty i0 i1
    constructor
    · intro w1
      rcases hk with u | u
      · have := (hv.k0 u).1; omega
      · exact u
    · exact fun u => (hv.kh u).1
  have hd9 := hdr_b (t := y) (n := z) ⟨g2, by omega⟩
  have hle : fr ≤ 1025 := by
    have h1 : (fr - 1 : Int) ≤ rsm s p := by
      rw [hC.2.2.2.2.2, rsm_sA]
      exact Int.ofNat_le.mpr (sA_mn (fun b hb => (hC.2.1 b hb).1))
    have := hB.2.2
    omega
  obtain ⟨H, hHe⟩ : ∃ H, hdr y z = H := ⟨_, rfl⟩
  have H1 : (kindM y = 1 → H = 65536 * whichM y + (z - 1) ∧ 0 ≤ whichM y ∧ whichM y < 8 ∧ z = nFld (T m) (whichM y) + 1) ∧ (kindM y = 2 → H = 524288 + (z - 1)) ∧ (kindM y = 3 → H = 589824 + (z - 1)) ∧ (kindM y = 1 ∨ kindM y = 2 ∨ kindM y = 3) := by
    have wb := wM_b (t := y)
    have e1 := hHe
    unfold hdr at e1
    refine ⟨fun u => ?_, fun u => ?_, fun u => ?_, ?_⟩
    · rw [if_pos u] at e1
      rcases ty with u1 | u1 | u1
      · exact ⟨e1.symm, wb.1, by omega, u1.2.2⟩
      · omega
      · omega
    · rw [if_neg (by omega), if_pos u] at e1; exact e1.symm
    · rw [if_neg (by omega), if_neg (by omega)] at e1; exact e1.symm
    · rcases ty with u1 | u1 | u1
      · exact Or.inl u1.1
      · exact Or.inr (Or.inl u1)
      · exact Or.inr (Or.inr u1.1)
  rw [hHe] at j3 hd9
  have ez : fAdd 1 (H % 65536) = z := by rw [fAdd_id (by omega) (by omega), hd9.2]; omega
  have esh : fShr H 16 = H / 65536 := by
    have := fShr_k 16 (by decide) (x := H) ⟨by omega, by omega⟩
    exact this
  -- the end
  have T179 : ∀ a'' fr' h l4 l5, CI A s p c0 c1 a'' fr' sc (z - 1) h → h t 16 = fr' → (∀ b, a' b ≠ 0 → a'' b = a' b) → FW (wMv t c0 c1) hi h → fr ≤ fr' → Wp d 143 179 [vR (some t), vR (some c0), vI sc, vI z, l4, l5] [] al h hr Q := by
    intro a'' fr' h l4 l5 x1 x2 x3 x4 x5
    have E := q b a'' fr' h hb (by rw [hz]; have := x1.fin (b := b) (by omega) ((x3 b y1).trans hb) (by omega) (by omega); rw [hz] at this; exact this) x2 x3 x4 x5
    rw [hz] at E
    refine s143_179.mpr ?_
    refine (s143_180).mpr ?_
    exact E
  have skip : ∀ (n : Nat) (k : Int) a'' fr' h, k + n = z - 1 → 0 ≤ k → (∀ i, k ≤ i → i < z - 1 → s 301 (hx p b i) ≠ 1) → CI A s p c0 c1 a'' fr' sc k h → fr ≤ fr' → a'' b = sc → CI A s p c0 c1 a'' fr' sc (z - 1) h := by
    intro n
    induction n with
    | zero => intro k a'' fr' h hk _ _ hc _ _; rw [← show k = z - 1 by omega]; exact hc
    | succ n ih =>
      intro k a'' fr' h hk k0 hw hc hf hb2
      exact ih (k + 1) a'' fr' h (by omega) (by omega) (fun i i0 i1 => hw i (by omega) i1) (CI.sk (b := b) hB hc (by omega) hb2 k0 (fun u => hw k (Int.le_refl _) (by rw [hz] at u; exact u))) hf hb2
  rcases H1.2.2.2 with ky | ky | ky
  · -- a node
    obtain ⟨hHv, w0, w8, wz⟩ := H1.1 ky
    have hr9 : whichM y < nRec (T m) := by rcases ty with u | u | u <;> omega
    have eR : H / 65536 = whichM y := by omega
    obtain ⟨R, hRe⟩ : ∃ R, whichM y = R := ⟨_, rfl⟩
    rw [hRe] at hHv w0 w8 wz hr9 eR
    obtain ⟨P, hPe⟩ : ∃ P, ptB (T m) R (nFld (T m) R).toNat = P := ⟨_, rfl⟩
    have eP : hi (N + 3) R = P := (hP R w0 hr9).trans hPe
    have f6 := (hS.2.2.1 R w0 hr9).2.1
    have P64 : 0 ≤ P ∧ P < 2 ^ (nFld (T m) R).toNat := by rw [← hPe]; exact ptB_b (T m) R _
    have P64' : P < 64 := Int.lt_of_lt_of_le P64.2 (p2le (j := 6) (by omega))
    have bit : ∀ j : Nat, (j : Int) < z - 1 → (P / 2 ^ j % 2 = 1 ↔ s 301 (hx p b j) = 1) := fun j hj => by
      have := ptF hS hNV hrg w0 hr9 (j := j) (by omega)
      rw [hPe] at this
      rw [this, ws j (by omega) hj]
      unfold itT
      rw [if_pos ky, hRe]
      by_cases u : heapT (fTy (T m) R j)
      · rw [if_pos u]; exact ⟨fun _ => u, fun _ => rfl⟩
      · rw [if_neg u]; exact ⟨fun x => absurd x (by decide), fun x => absurd x u⟩
    have T44 : ∀ (n f : Nat) a'' fr' h, f + n = 6 → CI A s p c0 c1 a'' fr' sc (if (f : Int) < z - 1 then f else z - 1) h → h t 16 = fr' → (∀ b, a' b ≠ 0 → a'' b = a' b) → FW (wMv t c0 c1) hi h → fr ≤ fr' → Wp d 143 44 [vR (some t), vR (some c0), vI sc, vI z, vI P, vI (f : Int)] [] al h hr Q := by
      intro n
      induction n with
      | zero =>
        intro f a'' fr' h hf x1 x2 x3 x4 x5
        have f6' : f = 6 := by omega
        subst f6'
        rw [if_neg (by omega)] at x1
        have E := T179 a'' fr' h (vI P) (vI ((6 : Nat) : Int)) x1 x2 x3 x4 x5
        have e6 : ((6 : Nat) : Int) = 6 := rfl
        rw [e6] at E ⊢
        have sh6 : fShr P 6 = P / 2 ^ 6 := fShr_k 6 (by decide) ⟨by omega, by omega⟩
        refine s143_44.mpr (s143_46.mpr (s143_48.mpr ?_))
        refine s143_49.mpr (wif (fun c49 => ?_) (fun c49 => ?_))
        · first
          | (exfalso; omega)
          | skip
            refine s143_117.mpr ?_
            exact E
        · first
          | (exfalso; omega)
          | skip
            refine s143_52.mpr (s143_54.mpr ?_)
            refine s143_56.mpr (wif (fun c56 => ?_) (fun c56 => ?_))
            · first
              | (exfalso; omega)
              | skip
                exfalso; omega
            · first
              | (exfalso; omega)
              | skip
                refine s143_117.mpr ?_
                exact E
      | succ n ih =>
        intro f a'' fr' h hf x1 x2 x3 x4 x5
        have shf : fShr P (f : Int) = P / 2 ^ f := fShr_k f (by omega) ⟨by omega, by omega⟩
        obtain ⟨W, hW⟩ : ∃ W, P / 2 ^ f = W := ⟨_, rfl⟩
        rw [hW] at shf
        by_cases cw : W = 0
        · have E : CI A s p c0 c1 a'' fr' sc (z - 1) h := by
            by_cases c1' : (f : Int) < z - 1
            · rw [if_pos c1'] at x1
              refine skip (z - 1 - f).toNat f a'' fr' h (by omega) (by omega) (fun i i0 i1 => ?_) x1 x5 ((x3 b y1).trans hb)
              have := bit i.toNat (by omega)
              rw [Int.toNat_of_nonneg (by omega)] at this
              rw [ne_eq, ← this, sh_z P64.1 (f := f) (j := i.toNat) (by omega) (by rw [hW]; exact cw)]
              decide
            · rw [if_neg c1'] at x1; exact x1
          have E := T179 a'' fr' h (vI P) (vI (f : Int)) E x2 x3 x4 x5
          rw [cw] at shf
          refine s143_44.mpr (s143_46.mpr (s143_48.mpr ?_))
          try simp (disch := first | decide | assumption | omega) only [shf]
          refine s143_49.mpr (wif (fun c49 => ?_) (fun c49 => ?_))
          · skip
            refine s143_117.mpr ?_
            exact E
          · skip
            exact absurd rfl (by assumption)
        · have cf : (f : Int) < z - 1 := by
            apply Classical.byContradiction
            intro u
            refine cw ?_
            rw [← hW]
            exact Int.ediv_eq_zero_of_lt P64.1 (Int.lt_of_lt_of_le P64.2 (p2le (by omega)))
          rw [if_pos cf] at x1
          have bf := bit f cf
          rw [hW] at bf
          have eB : fAnd W 1 = W % 2 := fAnd_1
          have ai1 : fAdd (fAdd sc 1) (f : Int) = sc + 1 + f := by rw [fAdd_id (x := sc) (by omega) (by omega), fAdd_id (by omega) (by omega)]
          have hx15 : hr t 15 = some c1 := e15
          by_cases cb : W % 2 = 1
          · have w1 := bf.mp cb
            have NX := c_next (Q := kon d 143 107 110 [vR (some t), vR (some c0), vI sc, vI z, vI P, vI (f : Int)] [vI (sc + 1 + f), vR (some c1)] Q) (d := d - 1) (b := b) k9 e15 kc0 kc1 hne hB x1 x2 (by omega) ((x3 b y1).trans hb) (by omega) (by rw [hz]; exact cf) w1 (hng b f j1 (by omega) (by rw [hz]; exact cf) w1) (fun a3 fr3 h3 u z1 z2 z3 z4 z5 => by
              have RC := ih (f + 1) a3 fr3 _ (by omega) (by
                by_cases c9 : ((f + 1 : Nat) : Int) < z - 1
                · rw [if_pos c9]; exact z1
                · rw [if_neg c9, show z - 1 = (f : Int) + 1 by omega]; exact z1) z2 (fun c hc => (z3 c (by rw [x3 c hc]; exact hc)).trans (x3 c hc)) (x4.tr z4) (by omega)
              rw [show ((f + 1 : Nat) : Int) = (f : Int) + 1 by omega] at RC
              simp only [kon, knt_some, knt_none, Option.toList_some, Option.toList_none, List.cons_append, List.nil_append]
              refine (s143_110 (by first | decide | assumption | omega) (by first | decide | assumption | omega) (by first | decide | assumption | omega)).mpr ?_
              refine s143_111.mpr (s143_114.mpr ?_)
              try simp (disch := first | decide | assumption | omega) only [fAdd_id]
              exact RC
              )
            obtain ⟨NX1, NX2⟩ := NX
            rw [cb] at eB
            rw [← NX1] at NX2
            refine s143_44.mpr (s143_46.mpr (s143_48.mpr ?_))
            try simp (disch := first | decide | assumption | omega) only [shf, eB, hx15, lc1, ai1]
            refine s143_49.mpr (wif (fun c49 => ?_) (fun c49 => ?_))
            · first
              | (exfalso; omega)
              | skip
                exfalso; omega
            · first
              | (exfalso; omega)
              | skip
                refine s143_52.mpr (s143_54.mpr ?_)
                refine s143_56.mpr (wif (fun c56 => ?_) (fun c56 => ?_))
                · first
                  | (exfalso; omega)
                  | skip
                    refine s143_59.mpr (s143_61.mpr (s143_63.mpr (s143_64.mpr (s143_65.mpr (s143_66.mpr ?_)))))
                    try simp (disch := first | decide | assumption | omega) only [shf, eB, hx15, lc1, ai1]
                    refine s143_67.mpr (wif (fun c67 => ?_) (fun c67 => ?_))
                    · first
                      | (exfalso; omega)
                      | skip
                        refine s143_70.mpr (s143_71.mpr (s143_72.mpr (s143_73.mpr (s143_75.mpr (s143_76.mpr ?_)))))
                        try simp (disch := first | decide | assumption | omega) only [shf, eB, hx15, lc1, ai1]
                        refine (s143_77 (by first | decide | assumption | omega)).mpr ?_
                        try simp (disch := first | decide | assumption | omega) only [shf, eB, hx15, lc1, ai1]
                        refine (s143_80 (by first | decide | assumption | omega)).mpr ?_
                        try simp (disch := first | decide | assumption | omega) only [shf, eB, hx15, lc1, ai1]
                        refine s143_81.mpr (wif (fun c81 => ?_) (fun c81 => ?_))
                        · first
                          | (exfalso; omega)
                          | skip
                            refine s143_84.mpr ?_
                            refine (s143_85 (by first | decide | assumption | omega)).mpr ?_
                            refine s143_88.mpr (s143_89.mpr (s143_90.mpr (s143_91.mpr (s143_93.mpr (s143_94.mpr ?_)))))
                            refine s143_95.mpr (s143_96.mpr ?_)
                            try simp (disch := first | decide | assumption | omega) only [shf, eB, hx15, lc1, ai1]
                            refine (s143_97 (by first | decide | assumption | omega)).mpr ?_
                            refine s143_100.mpr (s143_101.mpr (s143_102.mpr (s143_103.mpr (s143_105.mpr ?_))))
                            try simp (disch := first | decide | assumption | omega) only [shf, eB, hx15, lc1, ai1]
                            refine (s143_106 (by first | decide | assumption | omega) (by first | decide | assumption | omega) (by first | decide | assumption | omega)).mpr ?_
                            try simp (disch := first | decide | assumption | omega) only [shf, eB, hx15, lc1, ai1]
                            refine (s143_107 (by first | decide | assumption | omega) (by first | decide | assumption | omega)).mpr ?_
                            exact NX2
                        · first
                          | (exfalso; omega)
                          | skip
                            exfalso; omega
                    · first
                      | (exfalso; omega)
                      | skip
                        exfalso; omega
                · first
                  | (exfalso; omega)
                  | skip
                    exfalso; omega
          · have w1 : s 301 (hx p b f) ≠ 1 := fun u => cb (bf.mpr u)
            have x6 := CI.sk (b := b) hB x1 (by omega) ((x3 b y1).trans hb) (by omega) (fun _ => w1)
            have RC := ih (f + 1) a'' fr' h (by omega) (by
                by_cases c9 : ((f + 1 : Nat) : Int) < z - 1
                · rw [if_pos c9]; exact x6
                · rw [if_neg c9, show z - 1 = (f : Int) + 1 by omega]; exact x6) x2 x3 x4 x5
            rw [show ((f + 1 : Nat) : Int) = (f : Int) + 1 by omega] at RC
            refine s143_44.mpr (s143_46.mpr (s143_48.mpr ?_))
            try simp (disch := first | decide | assumption | omega) only [shf, eB, fAdd_id]
            refine s143_49.mpr (wif (fun c49 => ?_) (fun c49 => ?_))
            · first
              | (exfalso; omega)
              | skip
                exfalso; omega
            · first
              | (exfalso; omega)
              | skip
                refine s143_52.mpr (s143_54.mpr ?_)
                refine s143_56.mpr (wif (fun c56 => ?_) (fun c56 => ?_))
                · first
                  | (exfalso; omega)
                  | skip
                    refine s143_59.mpr (s143_61.mpr (s143_63.mpr (s143_64.mpr (s143_65.mpr (s143_66.mpr ?_)))))
                    try simp (disch := first | decide | assumption | omega) only [shf, eB, fAdd_id]
                    refine s143_67.mpr (wif (fun c67 => ?_) (fun c67 => ?_))
                    · first
                      | (exfalso; omega)
                      | skip
                        exfalso; omega
                    · first
                      | (exfalso; omega)
                      | skip
                        refine s143_111.mpr (s143_114.mpr ?_)
                        try simp (disch := first | decide | assumption | omega) only [shf, eB, fAdd_id]
                        exact RC
                · first
                  | (exfalso; omega)
                  | skip
                    exfalso; omega
    have E44 := T44 6 0 a' fr hi rfl (by
      have e0 : (if ((0 : Nat) : Int) < z - 1 then ((0 : Nat) : Int) else z - 1) = 0 := by split <;> omega
      rw [e0]; exact hC) h16 (fun _ _ => rfl) FW.rf (Int.le_refl _)
    have e00 : ((0 : Nat) : Int) = 0 := rfl
    rw [e00] at E44
    rw [e143]
    have X154 : ∀ Q' : QQ, Q' (some (some (vI P))) al hi hr → Ev (d - 1) 154 [vR (some N), vI R] al hi hr Q' := fun Q' u => by
      rw [e154]
      refine s154_0.mpr ?_
      refine s154_1.mpr (wif (fun c1 => ?_) (fun c1 => ?_))
      · first
        | (exfalso; omega)
        | skip
          exfalso; omega
      · first
        | (exfalso; omega)
        | skip
          refine s154_4.mpr (s154_5.mpr ?_)
          refine s154_7.mpr (wif (fun c7 => ?_) (fun c7 => ?_))
          · first
            | (exfalso; omega)
            | skip
              refine s154_14.mpr ?_
              refine (s154_15 (by first | decide | assumption | omega)).mpr ?_
              refine s154_18.mpr ?_
              try simp (disch := first | decide | assumption | omega) only [eN5, eP]
              refine (s154_19 (by first | decide | assumption | omega) (by first | decide | assumption | omega) (by first | decide | assumption | omega)).mpr ?_
              try simp (disch := first | decide | assumption | omega) only [eN5, eP]
              refine (s154_20).mpr ?_
              exact u
          · first
            | (exfalso; omega)
            | skip
              exfalso; omega
    refine s143_0.mpr (s143_1.mpr ?_)
    refine (s143_2 (by first | decide | assumption | omega)).mpr ?_
    refine s143_5.mpr ?_
    try simp (disch := first | decide | assumption | omega) only [kon, knt_some, knt_none, Option.toList_some, Option.toList_none, List.cons_append, List.nil_append, e15, lc1, j3, fAnd_65535, ez, hco, esh, eR]
    refine (s143_6 (by first | decide | assumption | omega) (by first | decide | assumption | omega) (by first | decide | assumption | omega)).mpr ?_
    refine s143_7.mpr (s143_9.mpr (s143_10.mpr (s143_11.mpr (s143_12.mpr ?_))))
    try simp (disch := first | decide | assumption | omega) only [kon, knt_some, knt_none, Option.toList_some, Option.toList_none, List.cons_append, List.nil_append, e15, lc1, j3, fAnd_65535, ez, hco, esh, eR]
    refine (s143_13 (by first | decide | assumption | omega)).mpr ?_
    refine s143_16.mpr ?_
    try simp (disch := first | decide | assumption | omega) only [kon, knt_some, knt_none, Option.toList_some, Option.toList_none, List.cons_append, List.nil_append, e15, lc1, j3, fAnd_65535, ez, hco, esh, eR]
    refine (s143_17 (by first | decide | assumption | omega) (by first | decide | assumption | omega) (by first | decide | assumption | omega)).mpr ?_
    refine s143_18.mpr ?_
    try simp (disch := first | decide | assumption | omega) only [kon, knt_some, knt_none, Option.toList_some, Option.toList_none, List.cons_append, List.nil_append, e15, lc1, j3, fAnd_65535, ez, hco, esh, eR]
    refine s143_20.mpr (wif (fun c20 => ?_) (fun c20 => ?_))
    · first
      | (exfalso; omega)
      | skip
        refine s143_23.mpr ?_
        refine (s143_24 (by first | decide | assumption | omega)).mpr ?_
        refine s143_27.mpr ?_
        try simp (disch := first | decide | assumption | omega) only [kon, knt_some, knt_none, Option.toList_some, Option.toList_none, List.cons_append, List.nil_append, e15, lc1, j3, fAnd_65535, ez, hco, esh, eR]
        refine (s143_28 (by first | decide | assumption | omega)).mpr ?_
        refine s143_31.mpr ?_
        try simp (disch := first | decide | assumption | omega) only [kon, knt_some, knt_none, Option.toList_some, Option.toList_none, List.cons_append, List.nil_append, e15, lc1, j3, fAnd_65535, ez, hco, esh, eR]
        refine (s143_32 (by first | decide | assumption | omega) (by first | decide | assumption | omega) (by first | decide | assumption | omega)).mpr ?_
        refine s143_33.mpr (s143_35.mpr ?_)
        try simp (disch := first | decide | assumption | omega) only [kon, knt_some, knt_none, Option.toList_some, Option.toList_none, List.cons_append, List.nil_append, e15, lc1, j3, fAnd_65535, ez, hco, esh, eR]
        refine (s143_36 (by first | decide | assumption | omega) (by first | decide | assumption | omega)).mpr ?_
        refine X154 _ ?_
        refine s143_39.mpr (s143_41.mpr (s143_42.mpr ?_))
        exact E44
    · first
      | (exfalso; omega)
      | skip
        exfalso; omega
  · -- a row of INTs
    have hHv := H1.2.1 ky
    have E := T179 a' fr hi none none (skip (z - 1).toNat 0 a' fr hi (by omega) (Int.le_refl _) (fun i i0 i1 => by
      rw [ne_eq, ws i i0 i1]
      unfold itT
      rw [if_neg (by omega)]
      unfold itm
      rw [if_pos ky]
      decide) hC (Int.le_refl _) hb) h16 (fun _ _ => rfl) FW.rf (Int.le_refl _)
    rw [e143]
    refine s143_0.mpr (s143_1.mpr ?_)
    refine (s143_2 (by first | decide | assumption | omega)).mpr ?_
    refine s143_5.mpr ?_
    try simp (disch := first | decide | assumption | omega) only [kon, knt_some, knt_none, Option.toList_some, Option.toList_none, List.cons_append, List.nil_append, e15, lc1, j3, fAnd_65535, ez]
    refine (s143_6 (by first | decide | assumption | omega) (by first | decide | assumption | omega) (by first | decide | assumption | omega)).mpr ?_
    refine s143_7.mpr (s143_9.mpr (s143_10.mpr (s143_11.mpr (s143_12.mpr ?_))))
    try simp (disch := first | decide | assumption | omega) only [kon, knt_some, knt_none, Option.toList_some, Option.toList_none, List.cons_append, List.nil_append, e15, lc1, j3, fAnd_65535, ez]
    refine (s143_13 (by first | decide | assumption | omega)).mpr ?_
    refine s143_16.mpr ?_
    try simp (disch := first | decide | assumption | omega) only [kon, knt_some, knt_none, Option.toList_some, Option.toList_none, List.cons_append, List.nil_append, e15, lc1, j3, fAnd_65535, ez]
    refine (s143_17 (by first | decide | assumption | omega) (by first | decide | assumption | omega) (by first | decide | assumption | omega)).mpr ?_
    refine s143_18.mpr ?_
    try simp (disch := first | decide | assumption | omega) only [kon, knt_some, knt_none, Option.toList_some, Option.toList_none, List.cons_append, List.nil_append, e15, lc1, j3, fAnd_65535, ez]
    refine s143_20.mpr (wif (fun c20 => ?_) (fun c20 => ?_))
    · first
      | (exfalso; omega)
      | skip
        exfalso; omega
    · first
      | (exfalso; omega)
      | skip
        refine s143_120.mpr ?_
        refine (s143_121 (by first | decide | assumption | omega)).mpr ?_
        refine s143_124.mpr ?_
        try simp (disch := first | decide | assumption | omega) only [kon, knt_some, knt_none, Option.toList_some, Option.toList_none, List.cons_append, List.nil_append, e15, lc1, j3, fAnd_65535, ez]
        refine (s143_125 (by first | decide | assumption | omega) (by first | decide | assumption | omega) (by first | decide | assumption | omega)).mpr ?_
        refine s143_126.mpr ?_
        try simp (disch := first | decide | assumption | omega) only [kon, knt_some, knt_none, Option.toList_some, Option.toList_none, List.cons_append, List.nil_append, e15, lc1, j3, fAnd_65535, ez]
        refine s143_128.mpr (wif (fun c128 => ?_) (fun c128 => ?_))
        · first
          | (exfalso; omega)
          | skip
            exact E
        · first
          | (exfalso; omega)
          | skip
            exfalso; omega
  · -- a row of nodes
    have hHv := H1.2.2.1 ky
    have T136 : ∀ (n : Nat) (k : Int) a'' fr' h, k + n = z - 1 → 0 ≤ k → CI A s p c0 c1 a'' fr' sc k h → h t 16 = fr' → (∀ b, a' b ≠ 0 → a'' b = a' b) → FW (wMv t c0 c1) hi h → fr ≤ fr' → Wp d 143 136 [vR (some t), vR (some c0), vI sc, vI z, vI (sc + 1 + k), none] [] al h hr Q := by
      intro n
      induction n with
      | zero =>
        intro k a'' fr' h hk k0 x1 x2 x3 x4 x5
        have ek : k = z - 1 := by omega
        subst ek
        have E := T179 a'' fr' h (vI (sc + 1 + (z - 1))) none x1 x2 x3 x4 x5
        have ea : fAdd sc z = sc + z := fAdd_id (by omega) (by omega)
        refine s143_136.mpr (s143_138.mpr (s143_139.mpr (s143_140.mpr ?_)))
        try simp (disch := first | decide | assumption | omega) only [ea]
        refine s143_141.mpr (wif (fun c141 => ?_) (fun c141 => ?_))
        · first
          | (exfalso; omega)
          | skip
            exfalso; omega
        · first
          | (exfalso; omega)
          | skip
            exact E
      | succ n ih =>
        intro k a'' fr' h hk k0 x1 x2 x3 x4 x5
        have ea : fAdd sc z = sc + z := fAdd_id (by omega) (by omega)
        have w1 : s 301 (hx p b k) = 1 := (ws k k0 (by omega)).mpr (by
          unfold itT
          rw [if_neg (by omega)]
          unfold itm
          rw [if_neg (by omega)]
          have := kM18 (c := 1) (v := whichM y) (wM_b (t := y)).1 (by decide)
          unfold heapT; omega)
        have NX := c_next (Q := kon d 143 169 172 [vR (some t), vR (some c0), vI sc, vI z, vI (sc + 1 + k), none] [vI (sc + 1 + k), vR (some c1)] Q) (d := d - 1) (b := b) k9 e15 kc0 kc1 hne hB x1 x2 (by omega) ((x3 b y1).trans hb) k0 (by omega) w1 (hng b k j1 k0 (by omega) w1) (fun a3 fr3 h3 u z1 z2 z3 z4 z5 => by
          have RC := ih (k + 1) a3 fr3 _ (by omega) (by omega) z1 z2 (fun c hc => (z3 c (by rw [x3 c hc]; exact hc)).trans (x3 c hc)) (x4.tr z4) (by omega)
          rw [show sc + 1 + (k + 1) = sc + 1 + k + 1 by omega] at RC
          simp only [kon, knt_some, knt_none, Option.toList_some, Option.toList_none, List.cons_append, List.nil_append]
          refine (s143_172 (by first | decide | assumption | omega) (by first | decide | assumption | omega) (by first | decide | assumption | omega)).mpr ?_
          refine s143_173.mpr (s143_176.mpr ?_)
          try simp (disch := first | decide | assumption | omega) only [fAdd_id]
          exact RC
          )
        obtain ⟨NX1, NX2⟩ := NX
        rw [← NX1] at NX2
        refine s143_136.mpr (s143_138.mpr (s143_139.mpr (s143_140.mpr ?_)))
        try simp (disch := first | decide | assumption | omega) only [e15, lc1, ea]
        refine s143_141.mpr (wif (fun c141 => ?_) (fun c141 => ?_))
        · first
          | (exfalso; omega)
          | skip
            refine s143_144.mpr (s143_146.mpr ?_)
            refine (s143_147 (by first | decide | assumption | omega)).mpr ?_
            try simp (disch := first | decide | assumption | omega) only [e15, lc1, ea]
            refine (s143_150 (by first | decide | assumption | omega)).mpr ?_
            try simp (disch := first | decide | assumption | omega) only [e15, lc1, ea]
            refine s143_151.mpr (wif (fun c151 => ?_) (fun c151 => ?_))
            · first
              | (exfalso; omega)
              | skip
                refine s143_154.mpr ?_
                refine (s143_155 (by first | decide | assumption | omega)).mpr ?_
                refine s143_158.mpr (s143_160.mpr (s143_161.mpr (s143_162.mpr ?_)))
                try simp (disch := first | decide | assumption | omega) only [e15, lc1, ea]
                refine (s143_163 (by first | decide | assumption | omega)).mpr ?_
                refine s143_166.mpr ?_
                try simp (disch := first | decide | assumption | omega) only [e15, lc1, ea]
                refine (s143_168 (by first | decide | assumption | omega) (by first | decide | assumption | omega) (by first | decide | assumption | omega)).mpr ?_
                try simp (disch := first | decide | assumption | omega) only [e15, lc1, ea]
                refine (s143_169 (by first | decide | assumption | omega) (by first | decide | assumption | omega)).mpr ?_
                exact NX2
            · first
              | (exfalso; omega)
              | skip
                exfalso; omega
        · first
          | (exfalso; omega)
          | skip
            exfalso; omega
    have E := T136 (z - 1).toNat 0 a' fr hi (by omega) (Int.le_refl _) hC h16 (fun _ _ => rfl) FW.rf (Int.le_refl _)
    rw [Int.add_zero] at E
    rw [e143]
    refine s143_0.mpr (s143_1.mpr ?_)
    refine (s143_2 (by first | decide | assumption | omega)).mpr ?_
    refine s143_5.mpr ?_
    try simp (disch := first | decide | assumption | omega) only [kon, knt_some, knt_none, Option.toList_some, Option.toList_none, List.cons_append, List.nil_append, e15, lc1, j3, fAnd_65535, ez, fAdd_id]
    refine (s143_6 (by first | decide | assumption | omega) (by first | decide | assumption | omega) (by first | decide | assumption | omega)).mpr ?_
    refine s143_7.mpr (s143_9.mpr (s143_10.mpr (s143_11.mpr (s143_12.mpr ?_))))
    try simp (disch := first | decide | assumption | omega) only [kon, knt_some, knt_none, Option.toList_some, Option.toList_none, List.cons_append, List.nil_append, e15, lc1, j3, fAnd_65535, ez, fAdd_id]
    refine (s143_13 (by first | decide | assumption | omega)).mpr ?_
    refine s143_16.mpr ?_
    try simp (disch := first | decide | assumption | omega) only [kon, knt_some, knt_none, Option.toList_some, Option.toList_none, List.cons_append, List.nil_append, e15, lc1, j3, fAnd_65535, ez, fAdd_id]
    refine (s143_17 (by first | decide | assumption | omega) (by first | decide | assumption | omega) (by first | decide | assumption | omega)).mpr ?_
    refine s143_18.mpr ?_
    try simp (disch := first | decide | assumption | omega) only [kon, knt_some, knt_none, Option.toList_some, Option.toList_none, List.cons_append, List.nil_append, e15, lc1, j3, fAnd_65535, ez, fAdd_id]
    refine s143_20.mpr (wif (fun c20 => ?_) (fun c20 => ?_))
    · first
      | (exfalso; omega)
      | skip
        exfalso; omega
    · first
      | (exfalso; omega)
      | skip
        refine s143_120.mpr ?_
        refine (s143_121 (by first | decide | assumption | omega)).mpr ?_
        refine s143_124.mpr ?_
        try simp (disch := first | decide | assumption | omega) only [kon, knt_some, knt_none, Option.toList_some, Option.toList_none, List.cons_append, List.nil_append, e15, lc1, j3, fAnd_65535, ez, fAdd_id]
        refine (s143_125 (by first | decide | assumption | omega) (by first | decide | assumption | omega) (by first | decide | assumption | omega)).mpr ?_
        refine s143_126.mpr ?_
        try simp (disch := first | decide | assumption | omega) only [kon, knt_some, knt_none, Option.toList_some, Option.toList_none, List.cons_append, List.nil_append, e15, lc1, j3, fAnd_65535, ez, fAdd_id]
        refine s143_128.mpr (wif (fun c128 => ?_) (fun c128 => ?_))
        · first
          | (exfalso; omega)
          | skip
            exfalso; omega
        · first
          | (exfalso; omega)
          | skip
            refine s143_131.mpr (s143_132.mpr (s143_133.mpr (s143_134.mpr ?_)))
            try simp (disch := first | decide | assumption | omega) only [kon, knt_some, knt_none, Option.toList_some, Option.toList_none, List.cons_append, List.nil_append, e15, lc1, j3, fAnd_65535, ez, fAdd_id]
            exact E
end CG2
