section OK5
variable {own : String} {cc : ByteArray} {nL : Nat} {ret : Option FieldType} {nm : String} {lg : Bool} {pc : Nat}
theorem on_oi (n : Nat) : Int32.ofNat n = Int32.ofInt (n : Int) := by
  apply Int32.toInt_inj.mp
  rw [Int32.toInt_ofNat', Int32.toInt_ofInt]
theorem tyl_any (cA : Nat → ClassId) {k : Nat} (h1 : 14 ≤ k) (h2 : k ≤ 20) : ∃ (t0 : Nat) (ty : FieldType), (tyl cA)[t0]? = some (cA k, ty) := by
  rcases (show k = 14 ∨ k = 15 ∨ k = 16 ∨ k = 17 ∨ k = 18 ∨ k = 19 ∨ k = 20 by omega) with rfl | rfl | rfl | rfl | rfl | rfl | rfl
  · exact ⟨0, _, rfl⟩
  · exact ⟨1, _, rfl⟩
  · exact ⟨2, _, rfl⟩
  · exact ⟨3, _, rfl⟩
  · exact ⟨4, _, rfl⟩
  · exact ⟨5, _, rfl⟩
  · exact ⟨6, _, rfl⟩
theorem cel_arr {ρ : Nat → Nat} {cA : Nat → ClassId} {al : AL} {hi : HI} {hr : HR} {a : Nat} (h : 14 ≤ (al.2.2 a).1) : ∃ x : vp_A, x.1 = (al.2.2 a).2 ∧ celE ρ cA al hi hr a = .inl (cA (al.2.2 a).1, x) := by
  by_cases q : (al.2.2 a).1 < 17
  · exact ⟨_, rfl, cel_int rfl ⟨h, q⟩⟩
  · exact ⟨_, rfl, cel_ref rfl (by omega)⟩
theorem ok_alen (hd : decode cc pc = .ok (.arraylength, 1)) : Okp own cc nL ret nm lg pc (sLen (pc + 1)) := by
  intro g p l e R s m args below meth c d hx _ _ al0 Q ls st al hi hr
  unfold sLen
  split
  · rename_i a st
    split
    · rename_i hK
      refine ⟨⟨Nat.le_refl _, Nat.le_refl _⟩, fun _ _ hG h1 h2 h3 H locs lsr hD hS hL => ?_⟩
      have r2 := (List.forall_mem_cons.mp h3).2
      have hSt := hx.2.2.2.2.2.2.2
      simp only [isR, isF, Bool.or_eq_true, Bool.and_eq_true, decide_eq_true_eq] at hK
      rcases hK with ⟨⟨⟨q1, q2⟩, q3⟩, q4⟩ | hK
      · have hb := (hD.2.2.2.2.2 a q1 q2).2
        have kk := hG h1 h2 (List.forall_mem_cons.mpr ⟨(by show rng ((aln al a : Nat) : Int); unfold aln; constructor <;> omega), r2⟩) H locs lsr hD hS hL
        have he := wso_get (z := gz g) (ρ := gρ g) (cA := gc g) (hi := hi) (hr := hr) q1 q2
        obtain ⟨x, e1, e2⟩ := cel_arr (ρ := gρ g) (cA := gc g) (hi := hi) (hr := hr) q3
        rw [e2] at he
        obtain ⟨t0, ty, ht⟩ := tyl_any (gc g) q3 q4
        show W _ _ _ _ _ _ _ _ _ _ _ _ _ _ _ (F0 m pc lsr (.ref (gρ g a) :: st.map (rv (gρ g))))
        rw [adr2 q1]
        exact va_alen hx.1 hx.2.1 hSt.K hD.2.2.1 _ t0 he ht (by rw [on_oi, e1]) hd kk
      · obtain ⟨-, -, hX0, hX1, -, z0, z1, z2, z3⟩ := hSt
        obtain ⟨f1, f2, f3, f4⟩ := hD.2.2.2.2.1
        rcases (show a = 0 ∨ a = 1 by omega) with rfl | rfl
        · have kk := hG h1 h2 (List.forall_mem_cons.mpr ⟨(by show rng ((aln al 0 : Nat) : Int); unfold aln; rw [f1]; decide), r2⟩) H locs lsr hD hS hL
          refine va_tlen hx.1 hx.2.1 hX0 hS rfl hd ?_
          rw [on_oi]
          rw [show aln al 0 = 44 by unfold aln; rw [f1]] at kk
          exact kk
        · have kk := hG h1 h2 (List.forall_mem_cons.mpr ⟨(by show rng ((aln al 1 : Nat) : Int); unfold aln; rw [f2]; constructor <;> omega), r2⟩) H locs lsr hD hS hL
          refine va_slen (A := gA g) hx.1 hx.2.1 hX1 (Nat.lt_of_lt_of_le z1 z2) (by show ¬ gz g ≤ gb g; omega) hS hd ?_
          rw [on_oi]
          rw [show aln al 1 = gL g by unfold aln; rw [f2]] at kk
          exact kk
    · trivial
  · trivial
theorem ok_getstatic {ix : Nat} {w : Cond} (hd : decode cc pc = .ok (.getstatic ix, 3)) (hw : tbw w) (hl : w = .fieldLink own ix "SealedProcesses" "OPERANDS" "[I" ∨ ∃ host, w = .fieldLinkNest own ix "SealedProcesses" "OPERANDS" "[I" host) : Okp own cc nL ret nm lg pc (sGS (pc + 3)) := by
  intro g p l e R s m args below meth c d hx _ _ al0 Q ls st al hi hr
  refine ⟨⟨Nat.le_refl _, Nat.le_refl _⟩, fun _ _ hG h1 h2 h3 H locs lsr hD hS hL => ?_⟩
  have kk := hG h1 h2 (List.forall_mem_cons.mpr ⟨trivial, h3⟩) H locs lsr hD hS hL
  have hSt := hx.2.2.2.2.2.2.2
  have hw' := hSt.w hw args
  rcases hl with rfl | ⟨host, rfl⟩
  · exact va_gets (A := gA g) hx.1 hx.2.1 hSt.2.2.2.2.1 hS hx.2.2.2.2.1 hw' (fun x h => h) hd kk
  · exact va_getsN (A := gA g) hx.1 hx.2.1 hSt.2.2.2.2.1 hS hx.2.2.2.2.1 hw' (fun x h => h) hd kk
theorem swt_ts {x lo hi0 dflt : Int} {offs : List Int} {l : List (Int × Nat)} {dn : Nat} (hl : l.map (fun q => (q.1, ((q.2 : Nat) : Int))) = (offs.zipIdx).map (fun q => (lo + (q.2 : Int), (pc : Int) + q.1))) (hn : hi0 = lo + offs.length - 1) (hdn : (pc : Int) + dflt = (dn : Int)) :
    ((x < lo ∨ hi0 < x) → swt l dn x = dn) ∧ (¬ x < lo → ¬ hi0 < x → ∃ off, offs[(x - lo).toNat]? = some off ∧ (pc : Int) + off = (swt l dn x : Int)) := by
  induction offs generalizing l lo with
  | nil =>
    simp only [List.zipIdx_nil, List.map_nil, List.map_eq_nil_iff] at hl
    subst hl
    simp only [List.length_nil] at hn
    exact ⟨fun _ => rfl, fun h1 h2 => by omega⟩
  | cons o offs ih =>
    cases l with
    | nil => simp at hl
    | cons q l =>
      obtain ⟨v, t⟩ := q
      rw [List.zipIdx_cons, List.map_cons, List.map_cons] at hl
      obtain ⟨e1, e2⟩ := List.cons.inj hl
      simp only [Prod.mk.injEq] at e1
      have e3 : l.map (fun q => (q.1, ((q.2 : Nat) : Int))) = (offs.zipIdx).map (fun q => ((lo + 1) + (q.2 : Int), (pc : Int) + q.1)) := by
        rw [e2, List.zipIdx_succ, List.map_map]
        refine List.map_congr_left fun q _ => ?_
        simp only [Function.comp, Prod.mk.injEq]
        exact ⟨by omega, trivial⟩
      obtain ⟨i1, i2⟩ := ih (lo := lo + 1) e3 (by rw [hn]; simp only [List.length_cons]; omega)
      have ev : v = lo := by have := e1.1; omega
      refine ⟨fun h => ?_, fun h1 h2 => ?_⟩
      · unfold swt
        rw [if_neg (by simp only [List.length_cons] at hn; omega)]
        exact i1 (by omega)
      · unfold swt
        by_cases hx : x = v
        · rw [if_pos hx]
          refine ⟨o, ?_, e1.2.symm⟩
          rw [show (x - lo).toNat = 0 by omega]
          rfl
        · rw [if_neg hx]
          obtain ⟨off, g1, g2⟩ := i2 (by omega) h2
          refine ⟨off, ?_, g2⟩
          rw [show (x - lo).toNat = (x - (lo + 1)).toNat + 1 by omega, List.getElem?_cons_succ]
          exact g1
theorem ok_tsw {lo hi0 dflt : Int} {offs : Array Int} {l : List (Int × Nat)} {dn len : Nat} (hd : decode cc pc = .ok (.tableswitch dflt lo hi0 offs, len)) (hl : l.map (fun q => (q.1, ((q.2 : Nat) : Int))) = (offs.toList.zipIdx).map (fun q => (lo + (q.2 : Int), (pc : Int) + q.1))) (hn : hi0 = lo + offs.toList.length - 1) (hdn : (pc : Int) + dflt = (dn : Int)) : Okp own cc nL ret nm lg pc (sSw l dn) := by
  intro g p l0 e R s m args below meth c d hx _ _ al0 Q ls st al hi hr
  unfold sSw
  split
  · rename_i x st
    refine ⟨⟨Nat.le_refl _, Nat.le_refl _⟩, fun _ _ hG h1 h2 h3 H locs lsr hD hS hL => ?_⟩
    obtain ⟨q1, q2⟩ := List.forall_mem_cons.mp h3
    have q1 : rng x := q1
    have kk := hG h1 h2 q2 H locs lsr hD hS hL
    obtain ⟨i1, i2⟩ := swt_ts (pc := pc) (x := x) hl hn hdn
    by_cases h : x < lo ∨ hi0 < x
    · rw [i1 h] at kk
      exact lv_tableOut hx.1 hx.2.1 hd (by rw [oi_toInt q1]; exact h) hdn kk
    · rw [not_or] at h
      obtain ⟨off, g1, g2⟩ := i2 h.1 h.2
      exact lv_tableIn (off := off) hx.1 hx.2.1 hd (by rw [oi_toInt q1]; exact h.1) (by rw [oi_toInt q1]; exact h.2) (by rw [oi_toInt q1, ← Array.getElem?_toList]; exact g1) g2 kk
  · trivial
theorem swt_lk {x dflt : Int} {ps : List (Int × Int)} {l : List (Int × Nat)} {dn : Nat} (hl : l.map (fun q => (q.1, ((q.2 : Nat) : Int))) = ps.map (fun q => (q.1, (pc : Int) + q.2))) (hdn : (pc : Int) + dflt = (dn : Int)) : (pc : Int) + Op.lookupswitch.offset ps dflt x = (swt l dn x : Int) := by
  induction ps generalizing l with
  | nil =>
    simp only [List.map_nil, List.map_eq_nil_iff] at hl
    subst hl
    exact hdn
  | cons q ps ih =>
    cases l with
    | nil => simp at hl
    | cons r l =>
      obtain ⟨v, t⟩ := r
      obtain ⟨a, o⟩ := q
      rw [List.map_cons, List.map_cons] at hl
      obtain ⟨e1, e2⟩ := List.cons.inj hl
      simp only [Prod.mk.injEq] at e1
      rw [Op.lookupswitch.offset_cons]
      unfold swt
      by_cases hx : x = v
      · rw [if_pos hx, if_pos (by rw [← e1.1]; exact hx.symm)]
        exact e1.2.symm
      · rw [if_neg hx, if_neg (by rw [← e1.1]; exact fun h => hx h.symm)]
        exact ih e2
theorem ok_lsw {dflt : Int} {ps : Array (Int × Int)} {l : List (Int × Nat)} {dn len : Nat} (hd : decode cc pc = .ok (.lookupswitch dflt ps, len)) (hp : (ps.toList.zip (ps.toList.drop 1)).all (fun (a, next) => a.1 < next.1) = true) (hl : l.map (fun q => (q.1, ((q.2 : Nat) : Int))) = ps.toList.map (fun q => (q.1, (pc : Int) + q.2))) (hdn : (pc : Int) + dflt = (dn : Int)) : Okp own cc nL ret nm lg pc (sSw l dn) := by
  intro g p l0 e R s m args below meth c d hx _ _ al0 Q ls st al hi hr
  unfold sSw
  split
  · rename_i x st
    refine ⟨⟨Nat.le_refl _, Nat.le_refl _⟩, fun _ _ hG h1 h2 h3 H locs lsr hD hS hL => ?_⟩
    obtain ⟨q1, q2⟩ := List.forall_mem_cons.mp h3
    have q1 : rng x := q1
    have kk := hG h1 h2 q2 H locs lsr hD hS hL
    exact lv_lookup hx.1 hx.2.1 hd hp rfl (by rw [oi_toInt q1]; exact swt_lk hl hdn) kk
  · trivial
theorem ok_lcmp (hd : decode cc pc = .ok (.lcmp, 1)) : Okp own cc nL ret nm lg pc (sLCmp (pc + 1)) := by
  intro g p l e R s m args below meth c d hx _ _ al0 Q ls st al hi hr
  unfold sLCmp
  split
  · rename_i y x st
    refine ⟨⟨Nat.le_refl _, Nat.le_refl _⟩, fun _ _ hG h1 h2 h3 H locs lsr hD hS hL => ?_⟩
    obtain ⟨q1, q2⟩ := List.forall_mem_cons.mp h3
    obtain ⟨q3, q4⟩ := List.forall_mem_cons.mp q2
    have q1 : rgl y := q1
    have q3 : rgl x := q3
    have kk := hG h1 h2 (List.forall_mem_cons.mpr ⟨(by show rng (fLc x y); unfold fLc; split; decide; split <;> decide), q4⟩) H locs lsr hD hS hL
    refine W.lcmp hx.1 hx.2.1 hd ?_
    have ec : lg_cmp (Int64.ofInt x) (Int64.ofInt y) = Int32.ofInt (fLc x y) := by
      unfold lg_cmp fLc
      simp only [gt_iff_lt, ol_lt q1 q3, ol_eq q3 q1]
      by_cases a : y < x
      · rw [if_pos a, if_neg (by omega), if_neg (by omega)]; rfl
      · rw [if_neg a]
        by_cases b : x = y
        · rw [if_pos b, if_neg (by omega), if_pos b]; rfl
        · rw [if_neg b, if_pos (by omega)]; rfl
    rw [ec]
    exact kk
  · trivial
theorem sh4_sum {ρ : Nat → Nat} {st : List AV} (h : sh4 st = true) : ((st.map (rv ρ)).map fun v => v.category).sum ≤ 8 := by
  have hc : ∀ v : AV, (rv ρ v).category ≤ 2 := fun v => by rcases lv_cat (rv ρ v) with h | h <;> omega
  match st, h with
  | [], _ => simp
  | [a], _ => have := hc a; simp only [List.map_cons, List.map_nil, List.sum_cons, List.sum_nil]; omega
  | [a, b], _ => have := hc a; have := hc b; simp only [List.map_cons, List.map_nil, List.sum_cons, List.sum_nil]; omega
  | [a, b, c], _ => have := hc a; have := hc b; have := hc c; simp only [List.map_cons, List.map_nil, List.sum_cons, List.sum_nil]; omega
  | [a, b, c, d], _ => have := hc a; have := hc b; have := hc c; have := hc d; simp only [List.map_cons, List.map_nil, List.sum_cons, List.sum_nil]; omega
theorem sh8_sum {ρ : Nat → Nat} {st : List AV} (h : sh8 st = true) : ((st.map (rv ρ)).map fun v => v.category).sum ≤ 8 := by
  simp only [sh8, Bool.and_eq_true, decide_eq_true_eq] at h
  have key : ∀ st : List AV, st.all cat1 = true → ((st.map (rv ρ)).map fun v => v.category).sum = st.length := by
    intro st
    induction st with
    | nil => intro _; rfl
    | cons v st ih =>
      intro h
      rw [List.all_cons, Bool.and_eq_true] at h
      simp only [List.map_cons, List.sum_cons, List.length_cons, rv_cat1 h.1, ih h.2]
      omega
  rw [key st h.2]
  exact h.1
theorem ok_max {ix : Nat} (hd : decode cc pc = .ok (.invokestatic ix, 3)) (w1 : tbw (.methodLink own ix Lib.Math.max.name)) (w2 : tbw (.static Lib.Math.max.name)) (w3 : tbw (.initialized "java/lang/Math")) (w4 : tbw (.code Lib.Math.max.name Lib.Math.max.code 2 (some .int))) : Okp own cc nL ret nm lg pc (sM2 fMax (pc + 3)) := by
  intro g p l e R s m args below meth c d hx hf hl al0 Q ls st al hi hr
  unfold sM2
  split
  · rename_i y x st
    split
    · rename_i hs
      refine ⟨⟨Nat.le_refl _, Nat.le_refl _⟩, fun c1 c2 hG h1 h2 h3 H locs lsr hD hS hL => ?_⟩
      obtain ⟨q1, q2⟩ := List.forall_mem_cons.mp h3
      obtain ⟨q3, q4⟩ := List.forall_mem_cons.mp q2
      have q1 : rng y := q1
      have q3 : rng x := q3
      have kk := hG h1 h2 (List.forall_mem_cons.mpr ⟨(by show rng (fMax x y); unfold fMax; split <;> assumption), q4⟩) H locs lsr hD hS hL
      have hSt := hx.2.2.2.2.2.2.2
      have hsum := sh4_sum (ρ := gρ g) hs
      refine va_mmax hx.1 hx.2.1 (by rw [hx.2.2.1, hL.2.1]) hx.2.2.2.2.1 (hSt.w w1 args) (hSt.w w2 args) (hSt.w w3 args) (hSt.w w4 args) (by omega) (by omega) c1 c2 hd ?_
      have ec : (if Int32.ofInt x < Int32.ofInt y then Int32.ofInt y else Int32.ofInt x) = Int32.ofInt (fMax x y) := by
        unfold fMax
        by_cases a : x < y
        · rw [if_pos a, if_pos ((oi_lt q3 q1).mpr a)]
        · rw [if_neg a, if_neg (fun h => a ((oi_lt q3 q1).mp h))]
      rw [ec]
      exact kk
    · trivial
  · trivial
theorem ok_min {ix : Nat} (hd : decode cc pc = .ok (.invokestatic ix, 3)) (w1 : tbw (.methodLink own ix Lib.Math.min.name)) (w2 : tbw (.static Lib.Math.min.name)) (w3 : tbw (.initialized "java/lang/Math")) (w4 : tbw (.code Lib.Math.min.name Lib.Math.min.code 2 (some .int))) : Okp own cc nL ret nm lg pc (sM2 fMin (pc + 3)) := by
  intro g p l e R s m args below meth c d hx hf hl al0 Q ls st al hi hr
  unfold sM2
  split
  · rename_i y x st
    split
    · rename_i hs
      refine ⟨⟨Nat.le_refl _, Nat.le_refl _⟩, fun c1 c2 hG h1 h2 h3 H locs lsr hD hS hL => ?_⟩
      obtain ⟨q1, q2⟩ := List.forall_mem_cons.mp h3
      obtain ⟨q3, q4⟩ := List.forall_mem_cons.mp q2
      have q1 : rng y := q1
      have q3 : rng x := q3
      have kk := hG h1 h2 (List.forall_mem_cons.mpr ⟨(by show rng (fMin x y); unfold fMin; split <;> assumption), q4⟩) H locs lsr hD hS hL
      have hSt := hx.2.2.2.2.2.2.2
      have hsum := sh4_sum (ρ := gρ g) hs
      refine va_mmin hx.1 hx.2.1 (by rw [hx.2.2.1, hL.2.1]) hx.2.2.2.2.1 (hSt.w w1 args) (hSt.w w2 args) (hSt.w w3 args) (hSt.w w4 args) (by omega) (by omega) c1 c2 hd ?_
      have ec : (if Int32.ofInt y < Int32.ofInt x then Int32.ofInt y else Int32.ofInt x) = Int32.ofInt (fMin x y) := by
        unfold fMin
        by_cases a : y < x
        · rw [if_pos a, if_pos ((oi_lt q1 q3).mpr a)]
        · rw [if_neg a, if_neg (fun h => a ((oi_lt q1 q3).mp h))]
      rw [ec]
      exact kk
    · trivial
  · trivial
theorem ok_oinit {ix : Nat} (hd : decode cc pc = .ok (.invokespecial ix, 3)) (w1 : tbw (.methodLink own ix Lib.objectInit)) (w2 : tbw (.instanceMethod Lib.objectInit)) (w3 : tbw (.code Lib.objectInit ⟨#[0xb1]⟩ 1 none)) : Okp own cc nL ret nm lg pc (sCt (pc + 3)) := by
  intro g p l e R s m args below meth c d hx hf hl al0 Q ls st al hi hr
  unfold sCt
  split
  · rename_i a st
    split
    · rename_i hs
      refine ⟨⟨Nat.le_refl _, Nat.le_refl _⟩, fun c1 c2 hG h1 h2 h3 H locs lsr hD hS hL => ?_⟩
      have kk := hG h1 h2 (List.forall_mem_cons.mp h3).2 H locs lsr hD hS hL
      have hSt := hx.2.2.2.2.2.2.2
      have hsum := sh4_sum (ρ := gρ g) hs
      exact W.objInit hx.1 hx.2.1 hx.2.2.2.2.1 (hSt.w w1 args) (hSt.w w2 args) (hSt.w w3 args) rfl (by rw [hx.2.2.1]; exact hL.2.1) rfl hd (by omega) (by show 2 * 0 + _ + 12 ≤ _; omega) kk
    · trivial
  · trivial
theorem Qr_of {g : Gp} {s t : State} {H : Heap} {locs : List Loc} {args : Array Value} {al : AL} {hi : HI} {hr : HR} {v : Option AV} (hSt : Stt g s) (hD : Dyn g al hi hr H) (hS : va_S (gA g) s.heap H locs) (hv : ∀ w, v = some w → okv w) (ht : t.heap = H) (hW : s.WarmedH t.vm) : Qr g al hi hr v args s (.returned (v.map (rv (gρ g)))) t :=
  ⟨rfl, hv, hSt.move ht hS hW, by rw [ht]; exact hD, hS.F ht⟩
theorem ok_iret (hr0 : ret = some .int) (hd : decode cc pc = .ok (.ireturn, 1)) : Okp own cc nL ret nm lg pc sRI := by
  intro g p l e R s m args below meth c d hx hf hl al0 Q ls st al hi hr
  unfold sRI
  split
  · rename_i x
    intro h1 h2 h3 H locs lsr hD hS hL
    have r1 := h3 (vI x) List.mem_cons_self
    exact W.iret hx.1 hx.2.1 (hx.2.2.2.1.trans hr0) (fun t ht hW => Qr_of hx.2.2.2.2.2.2.2 hD hS (fun w h => by cases h; exact r1) ht hW) hS.2.2 hd hx.2.2.2.2.2.1
  · trivial
theorem ok_zret (hr0 : ret = some .boolean) (hd : decode cc pc = .ok (.ireturn, 1)) : Okp own cc nL ret nm lg pc sRZ := by
  intro g p l e R s m args below meth c d hx hf hl al0 Q ls st al hi hr
  unfold sRZ
  split
  · rename_i x
    split
    · rename_i hz
      intro h1 h2 h3 H locs lsr hD hS hL
      have r1 := h3 (vI x) List.mem_cons_self
      exact W.zret hx.1 hx.2.1 (hx.2.2.2.1.trans hr0) (nf_bool hz).1 (fun t ht hW => Qr_of hx.2.2.2.2.2.2.2 hD hS (fun w h => by cases h; exact r1) ht hW) hS.2.2 hd hx.2.2.2.2.2.1
    · trivial
  · trivial
theorem ok_aret {rt : FieldType} (hr0 : ret = some rt) (hrt : (∃ n, rt = .object n) ∨ ∃ t, rt = .array t) (hd : decode cc pc = .ok (.areturn, 1)) : Okp own cc nL ret nm lg pc sRR := by
  intro g p l e R s m args below meth c d hx hf hl al0 Q ls st al hi hr
  unfold sRR
  split
  · rename_i r
    intro h1 h2 h3 H locs lsr hD hS hL
    exact W.aret hx.1 hx.2.1 (hx.2.2.2.1.trans hr0) hrt (va_rf_or _) (fun t ht hW => Qr_of (v := some (vR r)) hx.2.2.2.2.2.2.2 hD hS (fun w h => by cases h; trivial) ht hW) hS.2.2 hd hx.2.2.2.2.2.1
  · trivial
theorem ok_vret (hr0 : ret = none) (hd : decode cc pc = .ok (.return_, 1)) : Okp own cc nL ret nm lg pc sRV := by
  intro g p l e R s m args below meth c d hx hf hl al0 Q ls st al hi hr
  unfold sRV
  split
  · intro h1 h2 h3 H locs lsr hD hS hL
    exact W.vret hx.1 hx.2.1 (hx.2.2.2.1.trans hr0) (fun t ht hW => Qr_of (v := none) hx.2.2.2.2.2.2.2 hD hS (fun w h => by cases h) ht hW) hS.2.2 hd hx.2.2.2.2.2.1
  · trivial
end OK5
