/-! NUMBERS: what the machine's operations are, in plain arithmetic -/
section NUM2
variable {x y : Int}
theorem fAdd_id (h1 : -2147483648 ≤ x + y) (h2 : x + y < 2147483648) : fAdd x y = x + y := wr_id ⟨h1, h2⟩
theorem fSub_id (h1 : -2147483648 ≤ x - y) (h2 : x - y < 2147483648) : fSub x y = x - y := wr_id ⟨h1, h2⟩
theorem fMul_id (h1 : -2147483648 ≤ x * y) (h2 : x * y < 2147483648) : fMul x y = x * y := wr_id ⟨h1, h2⟩
theorem fNeg_id (h1 : -2147483648 < x) (h2 : x < 2147483648) : fNeg x = -x := wr_id ⟨by omega, by omega⟩
theorem i32_ofNat (n : Nat) (h : n < 4294967296) : (Int32.ofInt (n : Int)).toBitVec.toNat = n := by
  show (BitVec.ofInt 32 (n : Int)).toNat = n
  rw [BitVec.toNat_ofInt]
  omega
theorem i32_toNat (x : Int) : ((Int32.ofInt x).toBitVec.toNat : Int) = x % 4294967296 := by
  show ((BitVec.ofInt 32 x).toNat : Int) = _
  rw [BitVec.toNat_ofInt]
  omega
theorem i32_toInt_small (a : Int32) (h : a.toBitVec.toNat < 2147483648) : a.toInt = (a.toBitVec.toNat : Int) := by
  show a.toBitVec.toInt = _
  rw [BitVec.toInt_eq_toNat_of_lt (by omega)]
theorem fAnd_mask (k : Nat) (hk : k ≤ 30) : fAnd x (2 ^ k - 1) = x % 2 ^ k := by
  have hp : (2 : Nat) ^ k ≤ 2 ^ 30 := Nat.pow_le_pow_right (by omega) hk
  have hp1 : 1 ≤ (2 : Nat) ^ k := Nat.one_le_two_pow
  have e1 : ((2 : Int) ^ k - 1) = ((2 ^ k - 1 : Nat) : Int) := by
    rw [Int.natCast_sub hp1]; simp
  unfold fAnd
  rw [e1]
  have hb : (Int32.ofInt ((2 ^ k - 1 : Nat) : Int)).toBitVec.toNat = 2 ^ k - 1 := i32_ofNat _ (by omega)
  have ha := i32_toNat x
  have hn : (Int32.ofInt x &&& Int32.ofInt ((2 ^ k - 1 : Nat) : Int)).toBitVec.toNat = (Int32.ofInt x).toBitVec.toNat % 2 ^ k := by
    show ((Int32.ofInt x).toBitVec &&& (Int32.ofInt ((2 ^ k - 1 : Nat) : Int)).toBitVec).toNat = _
    rw [BitVec.toNat_and, hb, Nat.and_two_pow_sub_one_eq_mod]
  have hlt : (Int32.ofInt x).toBitVec.toNat % 2 ^ k < 2 ^ k := Nat.mod_lt _ (by omega)
  rw [i32_toInt_small _ (by omega), hn, Int.natCast_emod, ha]
  have hd : ((2 ^ k : Nat) : Int) ∣ 4294967296 := by
    have : (4294967296 : Int) = ((2 ^ k : Nat) : Int) * ((2 ^ (32 - k) : Nat) : Int) := by
      rw [← Int.natCast_mul, ← Nat.pow_add, show k + (32 - k) = 32 by omega]; rfl
    rw [this]; exact Int.dvd_mul_right _ _
  rw [Int.emod_emod_of_dvd _ hd]
  simp
theorem fAnd_1 : fAnd x 1 = x % 2 := fAnd_mask 1 (by omega)
theorem fAnd_7 : fAnd x 7 = x % 8 := fAnd_mask 3 (by omega)
theorem fAnd_15 : fAnd x 15 = x % 16 := fAnd_mask 4 (by omega)
theorem fAnd_31 : fAnd x 31 = x % 32 := fAnd_mask 5 (by omega)
theorem fAnd_255 : fAnd x 255 = x % 256 := fAnd_mask 8 (by omega)
theorem sh_amt (k : Nat) (hk : k < 32) : ((Int32.ofInt (k : Int)) &&& 31).toBitVec.toNat = k := by
  show ((Int32.ofInt (k : Int)).toBitVec &&& (31 : Int32).toBitVec).toNat = k
  rw [BitVec.toNat_and, i32_ofNat _ (by omega), show (31 : Int32).toBitVec.toNat = 2 ^ 5 - 1 from rfl, Nat.and_two_pow_sub_one_eq_mod]
  omega
theorem oi_toInt2 {x : Int} (h : rng x) : (Int32.ofInt x).toInt = x := by
  rw [Int32.toInt_ofInt]
  exact wr_id h
theorem fShr_k (k : Nat) (hk : k < 32) (hx : rng x) : fShr x (k : Int) = x / 2 ^ k := by
  unfold fShr
  show ((Int32.ofInt x).toBitVec.sshiftRight' (((Int32.ofInt (k : Int)) &&& 31).toBitVec.smod 32)).toInt = _
  have h1 := sh_amt k hk
  have h2 : (((Int32.ofInt (k : Int)) &&& 31).toBitVec.smod 32).toNat = k := by
    generalize ((Int32.ofInt (k : Int)) &&& 31).toBitVec = b at h1
    have hb : b = BitVec.ofNat 32 k := by apply BitVec.eq_of_toNat_eq; rw [h1, BitVec.toNat_ofNat]; omega
    subst hb
    have : ∀ k, k < 32 → ((BitVec.ofNat 32 k).smod 32).toNat = k := by decide +kernel
    exact this k hk
  rw [BitVec.sshiftRight', h2, BitVec.toInt_sshiftRight]
  show (Int32.ofInt x).toInt >>> k = _
  rw [oi_toInt2 hx, Int.shiftRight_eq_div_pow]
  rfl
theorem fShl_k (k : Nat) (hk : k < 32) : fShl x (k : Int) = wr (x * 2 ^ k) := by
  unfold fShl
  show ((Int32.ofInt x).toBitVec <<< (((Int32.ofInt (k : Int)) &&& 31).toBitVec.smod 32)).toInt = _
  have h1 := sh_amt k hk
  have h2 : (((Int32.ofInt (k : Int)) &&& 31).toBitVec.smod 32).toNat = k := by
    generalize ((Int32.ofInt (k : Int)) &&& 31).toBitVec = b at h1
    have hb : b = BitVec.ofNat 32 k := by apply BitVec.eq_of_toNat_eq; rw [h1, BitVec.toNat_ofNat]; omega
    subst hb
    have : ∀ k, k < 32 → ((BitVec.ofNat 32 k).smod 32).toNat = k := by decide +kernel
    exact this k hk
  rw [BitVec.shiftLeft_eq', h2, BitVec.toInt_shiftLeft]
  unfold wr
  have h3 := i32_toNat x
  have e1 : ((x % 4294967296) * ((2 ^ k : Nat) : Int)).bmod 4294967296 = (x * ((2 ^ k : Nat) : Int)).bmod 4294967296 := by
    rw [← Int.bmod_mul_bmod, show (x % 4294967296).bmod 4294967296 = x.bmod 4294967296 from Int.emod_bmod x 4294967296, Int.bmod_mul_bmod]
  rw [Nat.shiftLeft_eq, Int.natCast_mul, h3]
  exact e1.trans (by simp)
theorem fOr_add (k : Nat) (hk : k ≤ 30) (hx : 0 ≤ x) (hx2 : x < 2 ^ k) (hy : 0 ≤ y) (hy2 : y * 2 ^ k < 2147483648) : fOr x (y * 2 ^ k) = x + y * 2 ^ k := by
  obtain ⟨a, rfl⟩ := Int.eq_ofNat_of_zero_le hx
  obtain ⟨b, rfl⟩ := Int.eq_ofNat_of_zero_le hy
  have e1 : ((b : Int) * 2 ^ k) = ((b * 2 ^ k : Nat) : Int) := by rw [Int.natCast_mul, Int.natCast_pow]; rfl
  have e2 : ((2 : Int) ^ k) = ((2 ^ k : Nat) : Int) := by rw [Int.natCast_pow]; rfl
  rw [e2] at hx2
  have hx2 : a < 2 ^ k := Int.ofNat_lt.mp hx2
  have hy2 : b * 2 ^ k < 2147483648 := by
    have h : ((b : Int) * 2 ^ k) < 2147483648 := hy2
    rw [e1] at h
    exact Int.ofNat_lt.mp h
  have hp : (2 : Nat) ^ k ≤ 2 ^ 30 := Nat.pow_le_pow_right (by omega) hk
  unfold fOr
  rw [e1]
  have h9 : (Int32.ofInt (a : Int) ||| Int32.ofInt ((b * 2 ^ k : Nat) : Int)).toBitVec.toNat = a + b * 2 ^ k := by
    show ((Int32.ofInt (a : Int)).toBitVec ||| (Int32.ofInt ((b * 2 ^ k : Nat) : Int)).toBitVec).toNat = _
    rw [BitVec.toNat_or, i32_ofNat _ (by omega), i32_ofNat _ (by omega), Nat.or_comm, Nat.mul_comm b, ← Nat.two_pow_add_eq_or_of_lt hx2]
    omega
  have hs : a + b * 2 ^ k < 2147483648 := by
    rcases Nat.eq_zero_or_pos b with h | h
    · subst h; omega
    · have hd : 2 ^ k ∣ 2147483648 := by
        rw [show 2147483648 = 2 ^ 31 from rfl]; exact Nat.pow_dvd_pow 2 (by omega)
      obtain ⟨q, hq⟩ := hd
      rw [hq] at hy2 ⊢
      have hb : b < q := by
        rw [Nat.mul_comm] at hy2
        exact Nat.lt_of_mul_lt_mul_left hy2
      have : (b + 1) * 2 ^ k ≤ q * 2 ^ k := Nat.mul_le_mul_right _ hb
      rw [Nat.add_mul, Nat.one_mul] at this
      rw [Nat.mul_comm (2 ^ k) q]
      omega
  rw [i32_toInt_small _ (by omega), h9]
  simp
end NUM2
