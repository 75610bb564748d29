/-! RUNNING, the reference: its memory goes with the state -/
section RS0
variable {h0 s0 h s : HI} {p : Int}
def hpC (a : Nat) (i : Int) : Prop := (100 ≤ a ∧ a ≤ 104) ∨ 118 < a ∨ (a < 87 ∧ (a ≠ 49 ∨ i < 51 ∨ 56 < i))
/-- h and s come from h0 and s0, not touching the heaps, and go together -/
def Sm (h0 s0 h s : HI) : Prop := CE h s ∧ ∀ a i, hpC a i → h a i = h0 a i ∧ s a i = s0 a i
theorem Sm.rf (H : CE h s) : Sm h s h s := ⟨H, fun _ _ _ => ⟨rfl, rfl⟩⟩
theorem Sm.e (H : Sm h0 s0 h s) {a : Nat} {i : Int} (ha : (51 ≤ a ∧ a ≤ 69) ∨ (87 ≤ a ∧ a ≤ 100) ∨ (109 ≤ a ∧ a ≤ 118)) : h a i = s a i := H.1 a i (by omega)
theorem Sm.e49 (H : Sm h0 s0 h s) {i : Int} (ha : 51 ≤ i ∧ i ≤ 56) : h 49 i = s 49 i := H.1 49 i (by omega)
theorem Sm.up (H : Sm h0 s0 h s) {a : Nat} {i v v' : Int} (ha : ¬ hpC a i) (hv : v = v') : Sm h0 s0 (upI h a i v) (upI s a i v') := by
  subst hv
  refine ⟨fun b j z => ?_, fun b j z => ?_⟩
  · unfold upI; split; rfl; exact H.1 b j z
  · have : ¬ (b = a ∧ j = i) := fun e => ha (by rw [← e.1, ← e.2]; exact z)
    unfold upI
    rw [if_neg this, if_neg this]; exact H.2 b j z
theorem RelR.sm (hE : RelR h0 s0) (H : Sm h0 s0 h s) : RelR h s := by
  refine ⟨H.1, fun p p0 p1 => ?_⟩
  have L := hE.2 p p0 p1
  have e1 : ∀ i, h 101 i = h0 101 i := fun i => (H.2 101 i (by unfold hpC; omega)).1
  have e2 : ∀ i, h 103 i = h0 103 i := fun i => (H.2 103 i (by unfold hpC; omega)).1
  have e3 : ∀ i, h 104 i = h0 104 i := fun i => (H.2 104 i (by unfold hpC; omega)).1
  have e4 : ∀ i, s 100 i = s0 100 i := fun i => (H.2 100 i (by unfold hpC; omega)).2
  have e5 : ∀ i, s 300 i = s0 300 i := fun i => (H.2 300 i (by unfold hpC; omega)).2
  have e6 : ∀ i, s 301 i = s0 301 i := fun i => (H.2 301 i (by unfold hpC; omega)).2
  unfold LR
  simp only [e1, e2, e3, e4, e5, e6]
  exact L
theorem Sm.ai_ (H : Sm h0 s0 h s) : ai h p = ai s p := by unfold ai; rw [H.e (a := 94) (by omega)]
theorem Sm.hg_ (H : Sm h0 s0 h s) : hg h p = hg s p := by unfold hg; rw [H.ai_, H.e (a := 97) (by omega)]
theorem Sm.sk_ (H : Sm h0 s0 h s) {k : Int} : sk h p k = sk s p k := by unfold sk; rw [H.ai_]
theorem Sm.tv_ (H : Sm h0 s0 h s) {k : Int} : tv h p k = tv s p k := by unfold tv; rw [H.hg_, H.sk_, H.e (a := 98) (by omega)]
theorem Sm.ts_ (H : Sm h0 s0 h s) {k : Int} : ts h p k = ts s p k := by unfold ts; rw [H.hg_, H.sk_, H.e (a := 99) (by omega)]
theorem Sm.st2_ (H : Sm h0 s0 h s) {i v w i' v' w' : Int} (hi : i = i') (hv : v = v') (hw : w = w') : Sm h0 s0 (st2 h i v w) (st2 s i' v' w') := by
  subst hi
  exact (H.up (by unfold hpC; omega) hv).up (by unfold hpC; omega) hw
theorem Sm.upi (H : Sm h0 s0 h s) {a : Nat} {i i' v v' : Int} (ha : ¬ hpC a i) (hi : i = i') (hv : v = v') : Sm h0 s0 (upI h a i v) (upI s a i' v') := by
  subst hi; exact H.up ha hv
theorem Sm.psh_ (H : Sm h0 s0 h s) {v w v' w' : Int} (hv : v = v') (hw : w = w') : Sm h0 s0 (psh h p v w) (psh s p v' w') := by
  unfold psh
  exact (H.st2_ (by rw [H.sk_, H.hg_]) hv hw).upi (by unfold hpC; omega) H.ai_ (by rw [H.hg_])
theorem Sm.pp_ (H : Sm h0 s0 h s) {n : Int} : Sm h0 s0 (pp h p n) (pp s p n) := by
  unfold pp
  exact H.upi (by unfold hpC; omega) H.ai_ (by rw [H.hg_])
theorem Sm.go_ (H : Sm h0 s0 h s) {q : Int} : Sm h0 s0 (goS h p q) (goS s p q) := by
  unfold goS
  exact H.upi (by unfold hpC; omega) H.ai_ rfl
/-- a state that is given place by place -/
theorem Sm.fn (H : Sm h0 s0 h s) {h' s' : HI} (w : ∀ a i, hpC a i → h' a i = h a i ∧ s' a i = s a i) (e : CE h' s') : Sm h0 s0 h' s' := ⟨e, fun a i z => ⟨(w a i z).1.trans (H.2 a i z).1, (w a i z).2.trans (H.2 a i z).2⟩⟩
theorem Sm.opn_ (H : Sm h0 s0 h s) {e : Int} : opn h e ↔ opn s e := by unfold opn; rw [H.e (a := 112) (by omega)]
theorem clo_cg (h1 : ∀ e, opn h e ↔ opn s e) (h2 : ∀ i, h 114 i = s 114 i) (h3 : ∀ i, h 116 i = s 116 i) (h4 : ∀ i, h 117 i = s 117 i) {E : Int → Prop} {e : Int} : clo h E e → clo s E e := fun z => z (clo s E) (fun x hx ho => clo_s hx ((h1 x).mp ho)) (fun x k hx k0 k1 k3 ho => by
  rw [h2] at k1; rw [h4] at k3; rw [h3] at ho ⊢
  exact clo_k hx k0 k1 k3 ((h1 _).mp ho))
theorem Sm.clo_ (H : Sm h0 s0 h s) {E : Int → Prop} {e : Int} : clo h E e ↔ clo s E e :=
  ⟨clo_cg (fun _ => H.opn_) (fun _ => H.e (by omega)) (fun _ => H.e (by omega)) (fun _ => H.e (by omega)), clo_cg (fun _ => H.opn_.symm) (fun _ => (H.e (by omega)).symm) (fun _ => (H.e (by omega)).symm) (fun _ => (H.e (by omega)).symm)⟩
theorem cif_cg {α : Type} {c c' : Prop} {a a' b b' : α} (h : c ↔ c') (ha : c → a = a') (hb : ¬ c → b = b') : cif c a b = cif c' a' b' := by
  by_cases z : c
  · rw [cif_y z, cif_y (h.mp z)]; exact ha z
  · rw [cif_n z, cif_n (fun y => z (h.mpr y))]; exact hb z
theorem Sm.cls_ (H : Sm h0 s0 h s) {E E' : Int → Prop} (hE : ∀ x, E x ↔ E' x) : Sm h0 s0 (clsS h E) (clsS s E') := by
  have eE : E = E' := funext fun x => propext (hE x)
  subst eE
  refine H.fn (fun a i z => ?_) (fun a i z => ?_)
  · unfold hpC at z
    unfold clsS
    rw [cif_n (by omega), cif_n (by omega), cif_n (by omega), cif_n (by omega), cif_n (by omega), cif_n (by omega)]
    exact ⟨rfl, rfl⟩
  · unfold clsS
    refine cif_cg (by rw [H.clo_]) (fun _ => rfl) (fun _ => cif_cg (by rw [H.clo_]) (fun _ => rfl) (fun _ => cif_cg ?_ (fun _ => rfl) (fun _ => H.1 a i z)))
    unfold blo
    constructor
    · rintro ⟨z0, x, k, z1, z2, z3, z4, z5⟩
      rw [H.e (by omega)] at z3 z4 z5
      exact ⟨z0, x, k, H.clo_.mp z1, z2, z3, z4, z5⟩
    · rintro ⟨z0, x, k, z1, z2, z3, z4, z5⟩
      rw [← H.e (by omega)] at z3 z4 z5
      exact ⟨z0, x, k, H.clo_.mpr z1, z2, z3, z4, z5⟩
theorem Sm.los_ (H : Sm h0 s0 h s) {v w : Int} : Sm h0 s0 (losS h v w) (losS s v w) := by
  unfold losS
  split
  · exact H.up (by unfold hpC; omega) rfl
  · split
    · exact H.cls_ (fun _ => Iff.rfl)
    · exact H
theorem Sm.own_ (H : Sm h0 s0 h s) {v w o v' w' o' : Int} (hv : v = v') (hw : w = w') (ho : o = o') : Sm h0 s0 (ownS h v w o) (ownS s v' w' o') := by
  subst hv; subst hw; subst ho
  unfold ownS
  split
  · exact H.up (by unfold hpC; omega) rfl
  · split
    · exact H.up (by unfold hpC; omega) rfl
    · exact H
theorem Sm.frb_ (H : Sm h0 s0 h s) : Sm h0 s0 (frbS h p) (frbS s p) := by
  refine H.fn (fun a i z => ?_) (fun a i z => ?_)
  · unfold hpC at z
    unfold frbS
    rw [cif_n (by omega), cif_n (by omega)]
    exact ⟨rfl, rfl⟩
  · unfold frbS
    exact cif_cg (by rw [H.e (a := 109) (by omega), H.e (a := 110) (by omega)]) (fun _ => rfl) (fun _ => H.1 a i z)
theorem Sm.ovr_ (H : Sm h0 s0 h s) {w : Int} : Sm h0 s0 (ovrS h p w) (ovrS s p w) := by
  unfold ovrS
  refine ((H.up (by unfold hpC; omega) rfl).frb_).cls_ (fun x => by rw [H.e (a := 113) (by omega)])
theorem Sm.trp_ (H : Sm h0 s0 h s) {w : Int} : Sm h0 s0 (trpS h p w) (trpS s p w) := (H.up (by unfold hpC; omega) rfl).ovr_
theorem bcl_cg (H : Sm h0 s0 h s) : ∀ n, bcl h n = bcl s n
  | 0 => rfl
  | n + 1 => by unfold bcl; rw [bcl_cg H n, H.e (a := 109) (by omega)]
theorem frL_cg {f g : Int → Bool} (e : ∀ k, f k = g k) (n : Nat) (k : Int) : frL f n k = frL g n k := by rw [show f = g from funext e]
theorem Sm.mkb_ (H : Sm h0 s0 h s) {n : Int} : Sm h0 s0 (mkbS h p n) (mkbS s p n) := by
  unfold mkbS
  have eb : frL (fun k => decide (h 109 k ≠ -1)) 128 0 = frL (fun k => decide (s 109 k ≠ -1)) 128 0 := frL_cg (fun k => by rw [H.e (a := 109) (by omega)]) _ _
  obtain ⟨b, hb⟩ : ∃ b, frL (fun k => decide (s 109 k ≠ -1)) 128 0 = b := ⟨_, rfl⟩
  rw [eb, hb]
  refine Sm.psh_ (H.fn (fun a i z => ?_) (fun a i z => ?_)) rfl rfl
  · unfold hpC at z
    rw [if_neg (by omega), if_neg (by omega), if_neg (by omega), if_neg (by omega), if_neg (by omega), if_neg (by omega)]
    exact ⟨rfl, rfl⟩
  · split; rfl
    split; rfl
    split; rfl
    exact H.1 a i z
theorem Sm.frC (H : Sm h0 s0 h s) : frCh h = frCh s := frL_cg (fun k => by rw [H.e (a := 112) (by omega), H.e (a := 112) (by omega)]) _ _
theorem Sm.opE_ (H : Sm h0 s0 h s) {e c : Int} : Sm h0 s0 (opE h p e c) (opE s p e c) := by
  unfold opE
  exact Sm.psh_ ((((H.up (by unfold hpC; omega) rfl).up (by unfold hpC; omega) rfl).up (by unfold hpC; omega) rfl).up (by unfold hpC; omega) rfl) rfl rfl
theorem Sm.chn_ (H : Sm h0 s0 h s) {c : Int} : Sm h0 s0 (chnS h p c) (chnS s p c) := by
  unfold chnS
  rw [H.frC]
  simp only []
  split
  · exact H.trp_
  · exact (H.opE_).opE_
theorem Sm.act_ (H : Sm h0 s0 h s) {f : Int} : Sm h0 s0 (actS h p f) (actS s p f) := by
  refine H.fn (fun a i z => ?_) (fun a i z => ?_)
  · unfold hpC at z
    unfold actS
    rw [if_neg (by omega), if_neg (by omega), if_neg (by omega), if_neg (by omega), if_neg (by omega), if_neg (by omega), if_neg (by omega), if_neg (by omega), if_neg (by omega), if_neg (by omega)]
    exact ⟨rfl, rfl⟩
  · unfold actS
    rw [H.e (a := 94) (by omega)]
    split; rfl
    split; rfl
    split; rfl
    split; rfl
    split; rfl
    exact H.1 a i z
theorem Sm.mv_ (H : Sm h0 s0 h s) {f i : Int} : ∀ n, Sm h0 s0 (mvS h f i n) (mvS s f i n)
  | 0 => H
  | n + 1 => by
    have e := Sm.mv_ H (f := f) (i := i) n
    unfold mvS
    exact e.st2_ rfl (e.e (by omega)) (e.e (by omega))
theorem Sm.cal_ (H : Sm h0 s0 h s) {f n : Int} : Sm h0 s0 (calS h p f n) (calS s p f n) := by
  unfold calS
  rw [H.e (a := 94) (by omega), H.hg_, H.sk_]
  split
  · exact H.trp_
  · exact (H.pp_.act_).mv_ _
theorem Sm.bck_ (H : Sm h0 s0 h s) {c : Prop} : Sm h0 s0 (bckS h p c) (bckS s p c) := by
  unfold bckS
  simp only []
  by_cases z : c
  · rw [cif_y z, cif_y z, cif_y z, cif_y z, H.e (a := 94) (by omega)]
    split
    · exact H.pp_.ovr_
    · exact Sm.psh_ (H.pp_.up (by unfold hpC; omega) rfl) H.tv_ H.ts_
  · rw [cif_n z, cif_n z, cif_n z, cif_n z, H.e (a := 94) (by omega)]
    split
    · exact H.ovr_
    · exact H.up (by unfold hpC; omega) rfl
theorem Sm.hnd_ (H : Sm h0 s0 h s) {f i n9 : Int} : ∀ n, Sm h0 s0 (hndS h f i n9 n) (hndS s f i n9 n)
  | 0 => H
  | n + 1 => by
    have e := Sm.hnd_ H (f := f) (i := i) (n9 := n9) n
    unfold hndS
    exact (e.st2_ rfl (e.e (by omega)) (e.e (by omega))).own_ (e.e (by omega)) (e.e (by omega)) rfl
theorem Sm.frP_ (H : Sm h0 s0 h s) : frP h = frP s := frL_cg (fun k => by rw [H.e (a := 89) (by omega)]) _ _
theorem Sm.out_ (H : Sm h0 s0 h s) : Sm h0 s0 (outS h p) (outS s p) := by
  unfold outS
  rw [H.e49 (i := 55) (by omega), H.tv_]
  split
  · exact H.pp_.trp_
  · exact ((H.pp_.up (by unfold hpC; omega) rfl).up (by unfold hpC; omega) rfl).up (by unfold hpC; omega) rfl
theorem Sm.shf_ (H : Sm h0 s0 h s) {e : Int} : Sm h0 s0 (shfS h e) (shfS s e) := by
  refine H.fn (fun a i z => ?_) (fun a i z => ?_)
  · unfold hpC at z
    unfold shfS
    rw [if_neg (by omega), if_neg (by omega), if_neg (by omega), if_neg (by omega)]
    exact ⟨rfl, rfl⟩
  · unfold shfS
    rw [H.e (a := 114) (by omega)]
    split; rfl
    split
    · rename_i z1 z2
      exact H.e (by omega)
    · exact H.1 a i z
theorem Sm.rcv_ (H : Sm h0 s0 h s) {to : Int → Int} : Sm h0 s0 (rcvS h p to) (rcvS s p to) := by
  unfold rcvS
  simp only []
  rw [H.tv_]
  simp only [H.e (a := 115) (by omega), H.e (a := 116) (by omega), H.e (a := 117) (by omega), H.e (a := 118) (by omega), H.e (a := 112) (by omega), H.e (a := 63) (by omega)]
  have A := fun e x => (H.shf_ (e := e)).up (a := 112) (i := e) (v := x) (by unfold hpC; omega) rfl
  split
  · exact (((A _ _).psh_ rfl rfl).own_ rfl rfl rfl).go_
  · exact (A _ _).go_
theorem Sm.dep_ (H : Sm h0 s0 h s) {t : Int} : depS h p t = depS s p t := by
  unfold depS
  simp only [H.tv_, H.ts_, H.e (a := 60) (by omega), H.e (a := 61) (by omega), H.e (a := 62) (by omega), H.e (a := 118) (by omega), H.e (a := 112) (by omega)]
theorem Sm.ite_ {h' s' : HI} (c : Prop) [Decidable c] (H : c → Sm h0 s0 h s) (H' : ¬ c → Sm h0 s0 h' s') : Sm h0 s0 (if c then h else h') (if c then s else s') := by
  split
  · exact H ‹_›
  · exact H' ‹_›
theorem Sm.snd_ (H : Sm h0 s0 h s) {t : Int} : Sm h0 s0 (sndS h p t) (sndS s p t) := by
  unfold sndS
  simp only []
  rw [H.dep_, H.tv_, H.ts_]
  have A : Sm h0 s0 (if depS s p t = 1 then pp h p 1 else h) (if depS s p t = 1 then pp s p 1 else s) := Sm.ite_ _ (fun _ => H.pp_) (fun _ => H)
  obtain ⟨g, hg1⟩ : ∃ g, (if depS s p t = 1 then pp h p 1 else h) = g := ⟨_, rfl⟩
  obtain ⟨r, hr1⟩ : ∃ r, (if depS s p t = 1 then pp s p 1 else s) = r := ⟨_, rfl⟩
  rw [hg1, hr1] at A
  rw [hg1, hr1, A.tv_]
  simp only [A.e (a := 63) (by omega), A.e (a := 112) (by omega), A.e (a := 118) (by omega)]
  obtain ⟨e, he⟩ : ∃ e, tv r p 0 = e := ⟨_, rfl⟩
  rw [he]
  obtain ⟨x, hx⟩ : ∃ x, r 63 (4 * (8 * r 118 e + r 112 e) + t) = x := ⟨_, rfl⟩
  rw [hx]
  have B := A.up (a := 112) (i := e) (v := x) (by unfold hpC; omega) rfl
  simp only [B.e (a := 112) (by omega), B.e (a := 114) (by omega)]
  refine Sm.ite_ _ (fun _ => B.los_) (fun _ => Sm.own_ ((((B.up (by unfold hpC; omega) rfl).up (by unfold hpC; omega) rfl).up (by unfold hpC; omega) rfl).up (by unfold hpC; omega) rfl) rfl rfl rfl)
end RS0
