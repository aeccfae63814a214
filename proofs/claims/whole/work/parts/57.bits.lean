/-! bits of numbers -/
theorem am_bv {a : Int} (h0 : 0 ≤ a) (h1 : a < 2147483648) : (BitVec.ofInt 32 a).toNat = a.toNat := by
  rw [BitVec.toNat_ofInt]; omega
theorem am_bvi {x : BitVec 32} (h : x.toNat < 2147483648) : x.toInt = x.toNat := BitVec.toInt_eq_toNat_of_lt (by omega)
theorem am_and_nat {a b : Int} (h0 : 0 ≤ a) (h1 : a < 2147483648) (h2 : 0 ≤ b) (h3 : b < 2147483648) : am_and a b = ((a.toNat &&& b.toNat : Nat) : Int) := by
  unfold am_and
  show ((BitVec.ofInt 32 a) &&& (BitVec.ofInt 32 b)).toInt = _
  have e : ((BitVec.ofInt 32 a) &&& (BitVec.ofInt 32 b)).toNat = a.toNat &&& b.toNat := by rw [BitVec.toNat_and, am_bv h0 h1, am_bv h2 h3]
  have l : a.toNat &&& b.toNat ≤ b.toNat := Nat.and_le_right
  rw [am_bvi (by rw [e]; omega), e]
theorem am_or_nat {a b : Int} (h0 : 0 ≤ a) (h1 : a < 2147483648) (h2 : 0 ≤ b) (h3 : b < 2147483648) : am_or a b = ((a.toNat ||| b.toNat : Nat) : Int) := by
  unfold am_or
  show ((BitVec.ofInt 32 a) ||| (BitVec.ofInt 32 b)).toInt = _
  have e : ((BitVec.ofInt 32 a) ||| (BitVec.ofInt 32 b)).toNat = a.toNat ||| b.toNat := by rw [BitVec.toNat_or, am_bv h0 h1, am_bv h2 h3]
  have l : a.toNat ||| b.toNat < 2 ^ 31 := Nat.or_lt_two_pow (by omega) (by omega)
  rw [am_bvi (by rw [e]; omega), e]
theorem am_sh32 : ∀ k : Fin 32, (BitVec.smod (BitVec.ofInt 32 ((k.val : Nat) : Int) &&& 31#32) 32#32).toNat = k.val := by decide
theorem am_shr_e {a : Int} {k : Nat} (h : am_i32 a) (hk : k < 32) : am_shr a k = a / 2 ^ k := by
  unfold am_shr
  show (BitVec.sshiftRight' (BitVec.ofInt 32 a) (BitVec.smod (BitVec.ofInt 32 (k : Int) &&& 31#32) 32#32)).toInt = _
  rw [BitVec.sshiftRight', am_sh32 ⟨k, hk⟩, BitVec.toInt_sshiftRight, Int.shiftRight_eq_div_pow]
  unfold am_i32 at h
  have : (BitVec.ofInt 32 a).toInt = a := by rw [BitVec.toInt_ofInt]; exact Int.bmod_eq_of_le (by omega) (by omega)
  rw [this]
  norm_cast
theorem am_shl_e {a : Int} {k : Nat} (h0 : 0 ≤ a) (hk : k < 32) (h1 : a * 2 ^ k < 2147483648) : am_shl a k = a * 2 ^ k := by
  have hp : (1 : Int) ≤ 2 ^ k := by
    have : (1 : Nat) ≤ 2 ^ k := Nat.one_le_two_pow
    exact_mod_cast this
  have ha : a < 2147483648 := by
    have := Int.mul_le_mul_of_nonneg_left hp h0
    omega
  unfold am_shl
  show ((BitVec.ofInt 32 a) <<< (BitVec.smod (BitVec.ofInt 32 (k : Int) &&& 31#32) 32#32)).toInt = _
  rw [BitVec.shiftLeft_eq', am_sh32 ⟨k, hk⟩]
  have e1 : a.toNat * 2 ^ k < 2147483648 := by
    have : ((a.toNat * 2 ^ k : Nat) : Int) = a * 2 ^ k := by rw [Int.natCast_mul, Int.natCast_pow]; congr 1; omega
    omega
  have e : ((BitVec.ofInt 32 a) <<< k).toNat = a.toNat * 2 ^ k := by
    rw [BitVec.toNat_shiftLeft, am_bv h0 ha, Nat.shiftLeft_eq]
    exact Nat.mod_eq_of_lt (by omega)
  rw [am_bvi (by rw [e]; exact e1), e, Int.natCast_mul, Int.natCast_pow]
  congr 1; omega
theorem am_and_mod {a : Int} (k : Nat) (hk : k < 31) (h0 : 0 ≤ a) (h1 : a < 2147483648) : am_and a (2 ^ k - 1) = a % 2 ^ k := by
  have hp : (2 : Int) ^ k ≤ 2 ^ 30 := by
    have : (2 : Nat) ^ k ≤ 2 ^ 30 := Nat.pow_le_pow_right (by omega) (by omega)
    exact_mod_cast this
  have hp1 : (1 : Int) ≤ 2 ^ k := by
    have : (1 : Nat) ≤ 2 ^ k := Nat.one_le_two_pow
    exact_mod_cast this
  rw [am_and_nat h0 h1 (by omega) (by omega)]
  have e : ((2 : Int) ^ k - 1).toNat = 2 ^ k - 1 := by
    have : ((2 ^ k : Nat) : Int) = (2 : Int) ^ k := by rw [Int.natCast_pow]; rfl
    omega
  rw [e, Nat.and_two_pow_sub_one_eq_mod]
  rw [Int.natCast_emod, Int.natCast_pow]
  congr 1; omega
theorem am_and_255 {a : Int} (h0 : 0 ≤ a) (h1 : a < 2147483648) : am_and a 255 = a % 256 := am_and_mod 8 (by omega) h0 h1
theorem am_and_7 {a : Int} (h0 : 0 ≤ a) (h1 : a < 2147483648) : am_and a 7 = a % 8 := am_and_mod 3 (by omega) h0 h1
theorem am_and_31 {a : Int} (h0 : 0 ≤ a) (h1 : a < 2147483648) : am_and a 31 = a % 32 := am_and_mod 5 (by omega) h0 h1
theorem am_shr_8 {a : Int} (h : am_i32 a) : am_shr a 8 = a / 256 := am_shr_e (k := 8) h (by omega)
theorem am_shr_3 {a : Int} (h : am_i32 a) : am_shr a 3 = a / 8 := am_shr_e (k := 3) h (by omega)
theorem am_shr_6 {a : Int} (h : am_i32 a) : am_shr a 6 = a / 64 := am_shr_e (k := 6) h (by omega)
