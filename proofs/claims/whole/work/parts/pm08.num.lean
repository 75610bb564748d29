/-! whole numbers and the machine's own -/
theorem oi_toInt {x : Int} (h : rng x) : (Int32.ofInt x).toInt = x := by
  rw [Int32.toInt_ofInt]
  exact wr_id h
theorem oi_wr (x : Int) : Int32.ofInt (wr x) = Int32.ofInt x := by
  apply Int32.toInt_inj.mp
  rw [Int32.toInt_ofInt, Int32.toInt_ofInt]
  exact Int.bmod_bmod
theorem oi_of (x : Int32) : Int32.ofInt x.toInt = x := Int32.ofInt_toInt x
theorem oi_rngq (x : Int32) : rng x.toInt := ⟨Int32.le_toInt x, Int32.toInt_lt x⟩
theorem oi_add (x y : Int) : Int32.ofInt (fAdd x y) = Int32.ofInt x + Int32.ofInt y := by
  unfold fAdd; rw [oi_wr, Int32.ofInt_add]
theorem oi_sub (x y : Int) : Int32.ofInt (fSub x y) = Int32.ofInt x - Int32.ofInt y := by
  unfold fSub; rw [oi_wr, Int32.ofInt_sub]
theorem oi_mul (x y : Int) : Int32.ofInt (fMul x y) = Int32.ofInt x * Int32.ofInt y := by
  unfold fMul; rw [oi_wr, Int32.ofInt_mul]
theorem oi_neg (x : Int) : Int32.ofInt (fNeg x) = - Int32.ofInt x := by
  unfold fNeg; rw [oi_wr, Int32.ofInt_neg]
theorem oi_lt {x y : Int} (hx : rng x) (hy : rng y) : Int32.ofInt x < Int32.ofInt y ↔ x < y := by
  rw [Int32.lt_iff_toInt_lt, oi_toInt hx, oi_toInt hy]
theorem oi_le {x y : Int} (hx : rng x) (hy : rng y) : Int32.ofInt x ≤ Int32.ofInt y ↔ x ≤ y := by
  rw [Int32.le_iff_toInt_le, oi_toInt hx, oi_toInt hy]
theorem oi_eq {x y : Int} (hx : rng x) (hy : rng y) : Int32.ofInt x = Int32.ofInt y ↔ x = y := by
  constructor
  · intro h
    have := congrArg Int32.toInt h
    rwa [oi_toInt hx, oi_toInt hy] at this
  · rintro rfl; rfl
theorem oi_0 : Int32.ofInt 0 = 0 := by decide
theorem r0 : rng 0 := by decide
theorem oi_div {x y : Int} (hx : rng x) (hy : rng y) : Int32.ofInt (fDiv x y) = Int32.ofInt x / Int32.ofInt y := by
  apply Int32.toInt_inj.mp
  rw [Int32.toInt_div, oi_toInt hx, oi_toInt hy]
  unfold fDiv
  rw [oi_wr, Int32.toInt_ofInt]
theorem oi_rem {x y : Int} (hx : rng x) (hy : rng y) : Int32.ofInt (fRem x y) = Int32.ofInt x - Int32.ofInt x / Int32.ofInt y * Int32.ofInt y := by
  have h1 : Int32.ofInt (fDiv x y) = Int32.ofInt (x.tdiv y) := by unfold fDiv; rw [oi_wr]
  rw [← oi_div hx hy, h1, ← Int32.ofInt_mul, ← Int32.ofInt_sub]
  congr 1
  unfold fRem
  have := Int.tmod_add_mul_tdiv x y
  have e : x.tdiv y * y = y * x.tdiv y := Int.mul_comm _ _
  omega
theorem fRem_rng {x y : Int} (hx : rng x) (hy : rng y) (h0 : y ≠ 0) : rng (fRem x y) := by
  unfold fRem
  have h1 := Int.tmod_lt_of_pos x (b := (y.natAbs : Int)) (by omega)
  have h2 : x.tmod y = x.tmod (y.natAbs : Int) := by
    rcases Int.natAbs_eq y with h | h
    · rw [← h]
    · rw [h, Int.tmod_neg]; simp
  have h3 := Int.neg_tmod (a := x) (b := (y.natAbs : Int))
  have h4 := Int.tmod_lt_of_pos (-x) (b := (y.natAbs : Int)) (by omega)
  rw [h2]
  rw [h3] at h4
  have : rng y := hy
  constructor <;> omega
theorem ol_toInt {x : Int} (h : rgl x) : (Int64.ofInt x).toInt = x := by
  rw [Int64.toInt_ofInt]
  exact wl_id h
theorem ol_wl (x : Int) : Int64.ofInt (wl x) = Int64.ofInt x := by
  apply Int64.toInt_inj.mp
  rw [Int64.toInt_ofInt, Int64.toInt_ofInt]
  exact Int.bmod_bmod
theorem ol_lt {x y : Int} (hx : rgl x) (hy : rgl y) : Int64.ofInt x < Int64.ofInt y ↔ x < y := by
  rw [Int64.lt_iff_toInt_lt, ol_toInt hx, ol_toInt hy]
theorem ol_eq {x y : Int} (hx : rgl x) (hy : rgl y) : Int64.ofInt x = Int64.ofInt y ↔ x = y := by
  constructor
  · intro h
    have := congrArg Int64.toInt h
    rwa [ol_toInt hx, ol_toInt hy] at this
  · rintro rfl; rfl
theorem oi_i2l {x : Int} (hx : rng x) : (Int32.ofInt x).toInt64 = Int64.ofInt x := by
  apply Int64.toInt_inj.mp
  rw [Int32.toInt_toInt64, oi_toInt hx, ol_toInt (by unfold rng at hx; unfold rgl; omega)]
theorem ol_l2i {x : Int} (hx : rgl x) : (Int64.ofInt x).toInt32 = Int32.ofInt (wr x) := by
  apply Int32.toInt_inj.mp
  rw [oi_wr, Int64.toInt_toInt32, ol_toInt hx, Int32.toInt_ofInt]
theorem oi_clamp {x : Int} (hx : rng x) (h0 : 0 ≤ x) : (Int32.ofInt x).toNatClampNeg = x.toNat := by
  show (Int32.ofInt x).toInt.toNat = _
  rw [oi_toInt hx]
theorem oi_in {x : Int} {n : Nat} (hx : rng x) (h0 : 0 ≤ x) (h1 : x < n) : vp_in (Int32.ofInt x) n := by
  rw [vp_in_iff, oi_toInt hx]
  exact ⟨h0, h1⟩
theorem oi_b (x : Int) : (Int32.ofInt x).toInt8.toInt32 = Int32.ofInt (fB x) := by
  apply Int32.toInt_inj.mp
  have hb : rng (fB x) := by unfold fB; rw [Int.bmod_def]; split <;> constructor <;> omega
  rw [Int8.toInt_toInt32, Int32.toInt_toInt8, Int32.toInt_ofInt, oi_toInt hb]
  unfold fB
  show (x.bmod 4294967296).bmod 256 = x.bmod 256
  rw [Int.bmod_def x 4294967296]
  split <;> (rw [Int.bmod_def, Int.bmod_def]; omega)
theorem fB_rng (x : Int) : rng (fB x) := by unfold fB; rw [Int.bmod_def]; split <;> constructor <;> omega
theorem fZ_rng (x : Int) : rng (fZ x) := by unfold fZ; constructor <;> omega
