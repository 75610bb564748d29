/-! RUNNING, the reference: a box is made: what is left -/
section RM2
variable {d : Nat} {al : AL} {hi : HI} {hr : HR} {Q : QQ} {s : HI} {p : Int}
/-- the reference's memory and a state -/
def RelR (h s : HI) : Prop := CE h s ∧ ∀ p, 0 ≤ p → p < 12 → LR h s p
theorem newB_o {k n t : Int} {w : Int → Int} {a : Nat} {i : Int} (h : a ≠ 100 ∧ a ≠ 300 ∧ a ≠ 301 ∧ a ≠ 302) : newB s p k n t w a i = s a i := by
  unfold newB
  rw [if_neg (fun z => h.1 z.1), if_neg (fun z => h.2.2.2 z.1), if_neg (fun z => h.2.1 z.1), if_neg (fun z => h.2.2.1 z.1)]
theorem newB_k {k n t : Int} {w : Int → Int} : newB s p k n t w 100 (1025 * p + k) = n + 1 := if_pos ⟨rfl, rfl⟩
theorem newB_100 {k n t : Int} {w : Int → Int} {i : Int} (h : i ≠ 1025 * p + k) : newB s p k n t w 100 i = s 100 i := by
  unfold newB
  rw [if_neg (fun z => h z.2), if_neg (by omega), if_neg (by omega), if_neg (by omega)]
theorem newB_x {k n t i : Int} {w : Int → Int} (i0 : 0 ≤ i ∧ i < n) : newB s p k n t w 300 (hx p k i) = 0 ∧ newB s p k n t w 301 (hx p k i) = w i := by
  have : hx p k 0 ≤ hx p k i ∧ hx p k i < hx p k n := by unfold hx; omega
  have e : hx p k i - hx p k 0 = i := by unfold hx; omega
  constructor
  · unfold newB; rw [if_neg (by omega), if_neg (by omega), if_pos ⟨rfl, this⟩]
  · unfold newB; rw [if_neg (by omega), if_neg (by omega), if_neg (by omega), if_pos ⟨rfl, this⟩, e]
theorem newB_y {k n t i : Int} {w : Int → Int} (h : i < hx p k 0 ∨ hx p k n ≤ i) : newB s p k n t w 300 i = s 300 i ∧ newB s p k n t w 301 i = s 301 i := by
  constructor
  · unfold newB; rw [if_neg (by omega), if_neg (by omega), if_neg (by omega), if_neg (by omega)]
  · unfold newB; rw [if_neg (by omega), if_neg (by omega), if_neg (by omega), if_neg (by omega)]
theorem make_rel {h0 h2 h' : HI} {n c k t : Int} (hE : RelR h0 s) (hB : HBd s p) (hp : 0 ≤ p ∧ p < 12) (h92 : s 92 p ≤ 1024) (n0 : 0 ≤ n) (hF : mkF s p n) (hk : 1 ≤ k ∧ k ≤ 1024 ∧ ¬ 0 < gcS s p 100 (1025 * p + k)) (hM : MkI s h0 p n c k (cm s p 1025) n h2) (hC : CpI h2 p (cm s p 1025 + n) h') :
    RelR h' (newB (gcS s p) p k n t (fun _ => c)) ∧ FW (wMk p) h0 h' := by
  obtain ⟨h1, ⟨m1, m2, m3, m4, m5⟩, w2, e5, e6⟩ := hM
  obtain ⟨C, hCe⟩ : ∃ C, cm s p 1025 = C := ⟨_, rfl⟩
  rw [hCe] at w2 e5 e6 hC
  have hb : C + n + 1 ≤ 1024 := by
    have := cm_rsm (s := s) (p := p); unfold mkF at hF; omega
  have hC0 : 0 ≤ C := by rw [← hCe]; exact cm_nn
  have wA : FW (wMk p) h0 h' := by
    refine FW.tr (FW.tr m1 ?_) (hC.1.mn (by intro a i z; unfold wMk; omega))
    exact FW.tr ((FW.rf.up (by unfold wMk; omega)).up (by unfold wMk; omega)) (w2.mn (by intro a i z; unfold wSp at z; unfold wMk; omega))
  have o2 : ∀ {a : Nat} {i : Int}, a ≠ 103 → a ≠ 104 → h' a i = h2 a i := fun z1 z2 => hC.1 _ _ (by omega)
  have o1 : ∀ {a : Nat} {i : Int}, a ≠ 105 → a ≠ 106 → h2 a i = upI (upI h1 100 (1025 * p + k) (n + 1)) 101 (1025 * p + k) C a i := fun z1 z2 => w2 _ _ (by unfold wSp; omega)
  have e100 : ∀ x, 1 ≤ x → x ≤ 1024 → h' 100 (1025 * p + x) = newB (gcS s p) p k n t (fun _ => c) 100 (1025 * p + x) := fun x x1 x2 => by
    rw [o2 (by decide) (by decide), o1 (by decide) (by decide), upI_a (by decide)]
    by_cases e : x = k
    · subst e; rw [upI_eq, newB_k]
    · rw [upI_i (by omega), newB_100 (by omega)]; exact (m3 x x1 x2).1 (by omega)
  refine ⟨⟨fun a i z => ?_, fun p' p0 p1 => ?_⟩, wA⟩
  · by_cases ea : a = 100
    · subst ea
      by_cases ei : 1025 * p < i ∧ i ≤ 1025 * p + 1024
      · have := e100 (i - 1025 * p) (by omega) (by omega)
        rw [show 1025 * p + (i - 1025 * p) = i by omega] at this
        exact this
      · rw [wA 100 i (by unfold wMk; omega), newB_100 (by omega), gcS_o (by omega)]; exact hE.1 100 i z
    · rw [wA a i (by unfold wMk; omega), newB_o (by omega), gcS_o (Or.inl ea)]; exact hE.1 a i z
  · by_cases ep : p' = p
    · subst ep
      have L0 := hE.2 p' p0 p1
      have hS : ∀ x, 1 ≤ x → x ≤ 1024 → x ≠ k → 0 < newB (gcS s p') p' k n t (fun _ => c) 100 (1025 * p' + x) → rch s p' x ∧ newB (gcS s p') p' k n t (fun _ => c) 100 (1025 * p' + x) = s 100 (1025 * p' + x) := fun x x1 x2 e z => by
        rw [newB_100 (by omega)] at z ⊢
        have hr := gcS_z ⟨x1, x2⟩ z
        exact ⟨hr, gcS_y ⟨x1, x2⟩ hr⟩
      have h101 : ∀ x, 1 ≤ x → x ≤ 1024 → x ≠ k → rch s p' x → h' 101 (1025 * p' + x) = cm s p' x := fun x x1 x2 e z => by
        rw [o2 (by decide) (by decide), o1 (by decide) (by decide), upI_i (by omega), upI_a (by decide)]; exact (m4 x x1 (by omega) z).1
      have k101 : h' 101 (1025 * p' + k) = C := by rw [o2 (by decide) (by decide), o1 (by decide) (by decide), upI_eq]
      have hcm : ∀ x, 1 ≤ x → x ≤ 1024 → rch s p' x → 0 ≤ cm s p' x ∧ cm s p' (x + 1) = cm s p' x + (s 100 (1025 * p' + x) - 1) ∧ cm s p' (x + 1) ≤ C := fun x x1 x2 z => ⟨cm_nn, cm_y x1 z (hB.2.1 x z).2, by rw [← hCe]; exact cm_mo (by omega)⟩
      refine ⟨fun b b1 b2 z => ?_, fun b b' b1 b2 b1' b2' e z z' => ?_⟩
      · by_cases e : b = k
        · subst e
          rw [newB_k, k101]
          refine ⟨⟨hC0, by omega⟩, fun i i0 i1 => ?_⟩
          obtain ⟨g1, g2⟩ := hC.2 (C + i) (by omega) (by omega)
          obtain ⟨g3, g4⟩ := e6 i i0 (by omega)
          obtain ⟨g5, g6⟩ := newB_x (s := gcS s p') (p := p') (k := b) (n := n) (t := t) (w := fun _ => c) (i := i) ⟨i0, by omega⟩
          rw [show 1024 * p' + C + i = 1024 * p' + (C + i) by omega, g1, g2, g3, g4, g5, g6]
          exact ⟨rfl, rfl⟩
        · obtain ⟨hr, hs⟩ := hS b b1 b2 e z
          obtain ⟨q0, q1, q2⟩ := hcm b b1 b2 hr
          have hsz := hB.1 b b1 b2
          rw [hs, h101 b b1 b2 e hr]
          refine ⟨⟨q0, by omega⟩, fun i i0 i1 => ?_⟩
          obtain ⟨g1, g2⟩ := hC.2 (cm s p' b + i) (by omega) (by omega)
          obtain ⟨g3, g4⟩ := e5 (cm s p' b + i) (by omega)
          obtain ⟨g5, g6⟩ := (m4 b b1 (by omega) hr).2 i i0 i1
          obtain ⟨g7, g8⟩ := newB_y (s := gcS s p') (p := p') (k := k) (n := n) (t := t) (w := fun _ => c) (i := hx p' b i) (by unfold hx; omega)
          rw [show 1024 * p' + cm s p' b + i = 1024 * p' + (cm s p' b + i) by omega, g1, g2, g3, g4, g5, g6, g7, g8, gcS_o (by omega), gcS_o (by omega)]
          exact ⟨rfl, rfl⟩
      · by_cases e1 : b = k
        · subst e1
          obtain ⟨hr, hs⟩ := hS b' b1' b2' (by omega) z'
          obtain ⟨q0, q1, q2⟩ := hcm b' b1' b2' hr
          rw [newB_k, k101, hs, h101 b' b1' b2' (by omega) hr]
          omega
        · obtain ⟨hr, hs⟩ := hS b b1 b2 e1 z
          obtain ⟨q0, q1, q2⟩ := hcm b b1 b2 hr
          by_cases e2 : b' = k
          · subst e2
            rw [newB_k, k101, hs, h101 b b1 b2 e1 hr]
            omega
          · obtain ⟨hr', hs'⟩ := hS b' b1' b2' e2 z'
            obtain ⟨q0', q1', q2'⟩ := hcm b' b1' b2' hr'
            rw [hs, hs', h101 b b1 b2 e1 hr, h101 b' b1' b2' e2 hr']
            rcases Int.lt_or_gt_of_ne e with y | y
            · have := cm_mo (s := s) (p := p') (b := b + 1) (b' := b') (by omega)
              omega
            · have := cm_mo (s := s) (p := p') (b := b' + 1) (b' := b) (by omega)
              omega
    · obtain ⟨L1, L2⟩ := hE.2 p' p0 p1
      have e1 : ∀ x, 1 ≤ x → x ≤ 1024 → newB (gcS s p) p k n t (fun _ => c) 100 (1025 * p' + x) = s 100 (1025 * p' + x) ∧ h' 101 (1025 * p' + x) = h0 101 (1025 * p' + x) := fun x x1 x2 => ⟨by rw [newB_100 (by omega), gcS_o (by omega)], wA 101 _ (by unfold wMk; omega)⟩
      refine ⟨fun b b1 b2 z => ?_, fun b b' b1 b2 b1' b2' e z z' => ?_⟩
      · rw [(e1 b b1 b2).1] at z ⊢
        rw [(e1 b b1 b2).2]
        obtain ⟨q1, q2⟩ := L1 b b1 b2 z
        refine ⟨q1, fun i i0 i1 => ?_⟩
        obtain ⟨q3, q4⟩ := q2 i i0 i1
        obtain ⟨g7, g8⟩ := newB_y (s := gcS s p) (p := p) (k := k) (n := n) (t := t) (w := fun _ => c) (i := hx p' b i) (by unfold hx; omega)
        rw [wA 103 _ (by unfold wMk; omega), wA 104 _ (by unfold wMk; omega), q3, q4, g7, g8, gcS_o (by omega), gcS_o (by omega)]
        exact ⟨rfl, rfl⟩
      · rw [(e1 b b1 b2).1] at z
        rw [(e1 b' b1' b2').1] at z'
        rw [(e1 b b1 b2).1, (e1 b' b1' b2').1, (e1 b b1 b2).2, (e1 b' b1' b2').2]
        exact L2 b b' b1 b2 b1' b2' e z z'
/-- a box is made -/
theorem r_mk {n c : Int} (hA : SA al) (hR : MR hr) (hd : 3 ≤ d) (hE : RelR hi s) (hB : HBd s p) (hp : AP s p) (h92 : 0 ≤ s 92 p ∧ s 92 p ≤ 1024) (n0 : 0 ≤ n ∧ n ≤ 2147483647)
    (no : ¬ mkF s p n → ∀ hi', RelR hi' s → FW (wMk p) hi hi' → Q (some (some (vI 0))) al hi' hr)
    (ok : mkF s p n → ∀ hi', (∀ t, RelR hi' (newB (gcS s p) p (mkB s p) n t (fun _ => c))) → (1 ≤ mkB s p ∧ mkB s p ≤ 1024 ∧ ¬ 0 < gcS s p 100 (1025 * p + mkB s p)) → FW (wMk p) hi hi' → Q (some (some (vI (mkB s p)))) al hi' hr) : Ev d 291 [vR (some 49), vI p, vL n, vI c] al hi hr Q := by
  refine r_make hA hR hd hE.1 (hE.2 p hp.1.1 hp.1.2) hB hp h92 n0 (fun z hi' w => ?_) (fun z h2 hi' hk hM hC => ?_)
  · exact no z hi' ⟨hE.1.nt w, fun p' p0 p1 => (hE.2 p' p0 p1).nt w⟩ (w.mn (by intro a i z; unfold wNt at z; unfold wMk; omega))
  · have M := fun t => make_rel (t := t) hE hB hp.1 h92.2 n0.1 z hk hM hC
    exact ok z hi' (fun t => (M t).1) hk (M 0).2
end RM2
