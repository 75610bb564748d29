/-- LEVEL TWO, THE WHOLE: on every script the small machine's run of the law ends with 1, within the room -/
theorem law_run {L : Nat} {xs : Nat → Int32} (hL : L ≤ 384) : Ev 400 328 [vR (some 1)] (al0 L) (hi0 xs) hr0 (fun r al _ _ => r = some (some (vI 1)) ∧ al.1 ≤ 600130 ∧ al.2.1 ≤ 7301098) := sorry
