-- ===== or and shift, as sums and products =====
theorem fs_or_nat {x y : Nat} (hx : x < 2147483648) (hy : y < 2147483648) : fs_or (x : Int) (y : Int) = ((x ||| y : Nat) : Int) := by
  unfold fs_or
  have e : (Int32.ofInt (x : Int) ||| Int32.ofInt (y : Int)).toInt = (BitVec.ofInt 32 (x : Int) ||| BitVec.ofInt 32 (y : Int)).toInt := rfl
  rw [e, BitVec.ofInt_natCast, BitVec.ofInt_natCast, BitVec.toInt_eq_toNat_cond, BitVec.toNat_or, BitVec.toNat_ofNat, BitVec.toNat_ofNat, Nat.mod_eq_of_lt (by omega), Nat.mod_eq_of_lt (by omega)]
  have h : x ||| y < 2 ^ 31 := Nat.or_lt_two_pow (by omega) (by omega)
  rw [if_pos (by omega)]
/-- a multiple of 2^k and what is less -/
theorem fs_or_add {a b k : Nat} (hb : b < 2 ^ k) (h : 2 ^ k * a + b < 2147483648) : fs_or ((2 ^ k * a : Nat) : Int) (b : Int) = ((2 ^ k * a + b : Nat) : Int) := by
  rw [fs_or_nat (by omega) (by omega), ← Nat.two_pow_add_eq_or_of_lt hb]
theorem fs_shl_nat {x s : Nat} (hs : s < 32) (h : x * 2 ^ s < 2147483648) : fs_shl (x : Int) (s : Int) = ((x * 2 ^ s : Nat) : Int) := by
  unfold fs_shl
  have hx : x < 2147483648 := Nat.lt_of_le_of_lt (Nat.le_mul_of_pos_right x (Nat.two_pow_pos s)) h
  have key : ∀ t : Fin 32, (Int32.ofInt (t.val : Int) &&& 31) = Int32.ofInt (t.val : Int) := by decide +kernel
  have k2 := key ⟨s, hs⟩
  have k3 : (Int32.ofInt (s : Int) &&& 31) = Int32.ofInt (s : Int) := k2
  rw [k3]
  have key2 : ∀ t : Fin 32, ((Int32.ofInt (t.val : Int)).toBitVec.smod 32).toNat = t.val := by decide +kernel
  have k4 : ((Int32.ofInt (s : Int)).toBitVec.smod 32).toNat = s := key2 ⟨s, hs⟩
  have e : (Int32.ofInt (x : Int) <<< Int32.ofInt (s : Int)).toInt = (BitVec.ofInt 32 (x : Int) <<< ((Int32.ofInt (s : Int)).toBitVec.smod 32)).toInt := rfl
  rw [e, BitVec.shiftLeft_eq', k4, BitVec.ofInt_natCast, BitVec.toInt_eq_toNat_cond, BitVec.toNat_shiftLeft, BitVec.toNat_ofNat, Nat.mod_eq_of_lt (show x < 2 ^ 32 by omega), Nat.shiftLeft_eq, Nat.mod_eq_of_lt (show x * 2 ^ s < 2 ^ 32 by omega)]
  rw [if_pos (by omega)]
