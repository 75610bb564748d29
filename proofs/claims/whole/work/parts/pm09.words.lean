/-- words that stay, each by its own law -/
def wkd : Cond → Bool
  | .fieldLinkNest _ _ _ _ _ _ => true
  | .methodLinkNest _ _ _ _ => true
  | .arrayOver (.object _) => true
  | .castable _ _ => true
  | .declares _ => true
  | w => goodWord w
theorem wkd_move {w : Cond} (h : wkd w = true) {s U : State} (hW : s.WarmedH U.vm) (hA : ∀ A : Array Value, w.before A s = true) : ∀ A : Array Value, w.before A U = true := by
  intro A
  unfold wkd at h
  split at h
  · exact va_Nw.use rfl (va_Nw.warmF hW (hA #[]))
  · exact va_Nw.use rfl (va_Nw.warmM hW (hA #[]))
  · exact va_AO.use (va_AO.moved hW.alike (va_AO.of (hA #[])))
  · exact va_Nw.use rfl (va_Nw.warmC hW (hA #[]))
  · exact va_Nw.use rfl (va_Nw.warmD hW (hA #[]))
  · exact word_at hW (good_of_word h) (hA #[])
/-- at the law's own start: the arguments don't matter to such a word -/
theorem wkd_any {w : Cond} (h : wkd w = true) {s : State} {B : Array Value} (hB : w.before B s = true) : ∀ A : Array Value, w.before A s = true := by
  intro A
  unfold wkd at h
  split at h
  · exact va_Nw.use rfl (va_Nw.of rfl hB)
  · exact va_Nw.use rfl (va_Nw.of rfl hB)
  · exact va_AO.use (va_AO.of hB)
  · exact va_Nw.use rfl (va_Nw.of rfl hB)
  · exact va_Nw.use rfl (va_Nw.of rfl hB)
  · exact word_at (State.WarmedH.refl s) (good_of_word h) hB
abbrev tbw (w : Cond) : Prop := w ∈ lw_tbl ∧ wkd w = true
