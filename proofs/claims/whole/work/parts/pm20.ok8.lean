section OK8
variable {own : String} {cc : ByteArray} {nL : Nat} {ret : Option FieldType} {nm : String} {lg : Bool} {pc : Nat}
theorem tk_len : ∀ {n : Nat} {acc st as st' : List AV}, tk n acc st = some (as, st') → as.length = n + acc.length ∧ as = (st.take n).reverse ++ acc ∧ st' = st.drop n ∧ n ≤ st.length
  | 0, acc, st, as, st', h => by
    simp only [tk, Option.some.injEq, Prod.mk.injEq] at h
    obtain ⟨rfl, rfl⟩ := h
    simp
  | n + 1, acc, [], as, st', h => by simp [tk] at h
  | n + 1, acc, v :: st, as, st', h => by
    rw [tk] at h
    obtain ⟨h1, h2, h3, h4⟩ := tk_len h
    refine ⟨by rw [h1]; simp only [List.length_cons]; omega, ?_, by rw [h3]; rfl, by simp only [List.length_cons]; omega⟩
    rw [h2]
    simp
/-- a call comes back -/
theorem W.rn {p : Program} {l : Launch} {e : Env} {R : Room} {s : State} {m : MethodId} {args : Array Value} {below : List Frame} {meth : Method} {c : Code} {H H0 : Heap} {locs : List Loc} {cells slots mc ms : Nat} {Q : State → Prop} {lsr : Array Slot} {st0 rest : List Value} {Qa : State → Outcome → State → Prop} {A : Nat → Prop}
    (hr : va_Run p l e R s m args below meth c H locs cells slots mc ms (F0 m pc lsr st0) rest Qa A) (hS : va_S A H0 H locs)
    (kk : ∀ (v : Option Value) (st₀ t : State) (H1 : Heap) (locs1 : List Loc), st₀.heap = H → t.heap = H1 → Qa st₀ (.returned v) t → (va_F A st₀ t → va_S A H0 H1 locs1) → s.WarmedH t.vm → W p l e R s m args below meth c H1 locs1 (cells + mc) (slots + ms) Q (F0 m (pc + 3) lsr (v.toList ++ rest))) : W p l e R s m args below meth c H locs cells slots Q (F0 m pc lsr st0) := by
  intro T hT X
  obtain ⟨v, st₀, t, T', L, h0, X', hL, e1, e2, hq, st⟩ := hr T hT X
  obtain ⟨t2, a1, b1⟩ := kk v st₀ t T'.heap (locs ++ L) h0 e1.symm hq (fun hF => by
    obtain ⟨hz, hk⟩ := hF
    rw [h0] at hz hk
    refine ⟨Nat.le_trans hS.1 (by rw [e1]; exact hz), fun q h1 h2 => by rw [e1, hk q (Nat.lt_of_lt_of_le h1 hS.1) h2]; exact hS.2.1 q h1 h2, fun q hq => ?_⟩
    rcases List.mem_append.mp hq with h | h
    · exact hS.2.2 q h
    · exact hL q h) (by rw [← e2]; exact X'.warmed) T' rfl X'
  exact ⟨t2, st t2 a1, b1⟩
theorem Pk_blind {g : Gp} {as : List AV} {al : AL} {hi : HI} {hr : HR} : FrameBlind (Pk g as al hi hr) := by
  intro a U f mk h
  obtain ⟨h1, h2, h3⟩ := h
  refine ⟨h1, ?_, h3⟩
  exact h2.move (U := U.calling f mk a) (H := U.heap) (locs := []) rfl va_S.rf (State.WarmedH.refl U)
/-- the words of a call -/
def clw (own : String) (k' ix n : Nat) (w : Cond) : Prop := cwd k' = .code (yy k') (bb k') (mxl k') (rr k') ∧ tbw (cwd k') ∧ tbw (.initialized (yy k').cls) ∧ ((yy k').cls ≠ "java/lang/invoke/MethodHandle" ∧ (yy k').cls ≠ "java/lang/invoke/VarHandle") ∧ (∀ sig, parseMethodDescriptor (yy k').desc = some sig → n = sig.parameters.length) ∧ mxl k' ≤ 100 ∧ tbw w ∧ (w = .methodLink own ix (yy k') ∨ ∃ host, w = .methodLinkNest own ix (yy k') host)
theorem clw_ws {g : Gp} {s : State} {k' : Nat} (hSt : Stt g s) (h : tbw (cwd k')) : ∀ w ∈ [cwd k'], ∀ (a' : Array Value) (U : State), s.WarmedH U.vm → w.before a' U = true := by
  intro w hw a' U hW
  rw [List.mem_singleton] at hw
  subst hw
  exact wkd_move h.2 hW (fun A => hSt.w h A) a'
theorem callB_k {g : Gp} {s : State} {R : Room} {args : Array Value} {d k' ix n mc ms : Nat} {w : Cond} (hSt : Stt g s) (hw : clw own k' ix n w) (hf : R.frames = d + 1 + 10) (hl : R.locals = 200 * (d + 1 + 1)) (hlk : w = .methodLink own ix (yy k')) : CallB R s args own ix (yy k') (bb k') (mxl k') (rr k') [cwd k'] (rmk d mc ms) mc ms n := by
  obtain ⟨e1, e2, e3, e4, e5, e6, e7, -⟩ := hw
  subst hlk
  refine ⟨rfl, rfl, by show d + 10 + 1 ≤ R.frames; omega, by show 8 + (mxl k' + 11) + 200 * (d + 1) ≤ R.locals; omega, clw_ws hSt e2, ?_, ?_, hSt.w e3 args, e4, e5, hSt.w e7 args⟩
  · rw [← e1]; exact List.mem_cons_self
  · rw [← e1]; exact hSt.w e2 args
theorem callN_k {g : Gp} {s : State} {R : Room} {args : Array Value} {d k' ix n mc ms : Nat} {w : Cond} {host : String} (hSt : Stt g s) (hw : clw own k' ix n w) (hf : R.frames = d + 1 + 10) (hl : R.locals = 200 * (d + 1 + 1)) (hlk : w = .methodLinkNest own ix (yy k') host) : va_CN R s args own ix (yy k') host (bb k') (mxl k') (rr k') [cwd k'] (rmk d mc ms) mc ms n := by
  obtain ⟨e1, e2, e3, e4, e5, e6, e7, -⟩ := hw
  subst hlk
  refine ⟨⟨rfl, rfl, by show d + 10 + 1 ≤ R.frames; omega, by show 8 + (mxl k' + 11) + 200 * (d + 1) ≤ R.locals; omega, clw_ws hSt e2, ?_⟩, ?_, hSt.w e3 args, e4, e5, hSt.w e7 args⟩
  · rw [← e1]; exact List.mem_cons_self
  · rw [← e1]; exact hSt.w e2 args
end OK8
