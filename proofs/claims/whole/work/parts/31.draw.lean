-- ===== the numbers that the cats go by =====
def fs_rnd (z : Int) : Int := (z * 1103515245 + 12345) % 2147483648
theorem fs_rnd_b (z : Int) : 0 ≤ fs_rnd z ∧ fs_rnd z < 2147483648 := by
  unfold fs_rnd
  omega
theorem fs_mask64 (x : Int) : fs_land x 2147483647 = x % 2147483648 := by
  have e : (Int64.ofInt x &&& Int64.ofInt 2147483647).toBitVec = BitVec.ofInt 64 x &&& BitVec.ofNat 64 2147483647 := rfl
  have n : ((Int64.ofInt x &&& Int64.ofInt 2147483647).toBitVec).toNat = (x % 18446744073709551616).toNat % 2147483648 := by
    rw [e, BitVec.toNat_and, BitVec.toNat_ofInt, BitVec.toNat_ofNat]
    show _ &&& (2 ^ 31 - 1) = _
    rw [Nat.and_two_pow_sub_one_eq_mod]
    rfl
  show ((Int64.ofInt x &&& Int64.ofInt 2147483647).toBitVec).toInt = _
  rw [BitVec.toInt_eq_toNat_of_lt (by rw [n]; omega), n]
  omega
theorem fs_mask32 (x : Int) : fs_and x 2147483647 = x % 2147483648 := by
  have e : (Int32.ofInt x &&& Int32.ofInt 2147483647).toBitVec = BitVec.ofInt 32 x &&& BitVec.ofNat 32 2147483647 := rfl
  have n : ((Int32.ofInt x &&& Int32.ofInt 2147483647).toBitVec).toNat = (x % 4294967296).toNat % 2147483648 := by
    rw [e, BitVec.toNat_and, BitVec.toNat_ofInt, BitVec.toNat_ofNat]
    show _ &&& (2 ^ 31 - 1) = _
    rw [Nat.and_two_pow_sub_one_eq_mod]
    rfl
  show ((Int32.ofInt x &&& Int32.ofInt 2147483647).toBitVec).toInt = _
  rw [BitVec.toInt_eq_toNat_of_lt (by rw [n]; omega), n]
  omega
theorem fs_w32_mod (x : Int) : fs_w32 x % 2147483648 = x % 2147483648 := by
  unfold fs_w32 Int.bmod
  dsimp only
  split <;> omega
theorem fs_w64_mod (x : Int) : fs_w64 x % 2147483648 = x % 2147483648 := by
  unfold fs_w64 Int.bmod
  dsimp only
  split <;> omega
theorem fs_draw_c (z : Int) : fs_w32 (fs_land (fs_w64 (fs_w64 (z * 1103515245) + 12345)) 2147483647) = fs_rnd z := by
  have a := fs_w64_mod (fs_w64 (z * 1103515245) + 12345)
  have b := fs_w64_mod (z * 1103515245)
  rw [fs_mask64]
  unfold fs_rnd
  rw [fs_w32_of (by omega) (by omega)]
  omega
theorem fs_draw_m (z : Int) : fs_and (fs_w32 (fs_w32 (z * 1103515245) + 12345)) 2147483647 = fs_rnd z := by
  have a := fs_w32_mod (fs_w32 (z * 1103515245) + 12345)
  have b := fs_w32_mod (z * 1103515245)
  rw [fs_mask32]
  unfold fs_rnd
  omega
theorem fs_shr16 {n : Int} (h0 : 0 ≤ n) (h1 : n < 2147483648) : fs_shr n 16 = n / 65536 := by
  have e : (Int32.ofInt n >>> (Int32.ofInt 16 &&& 31)).toBitVec = (BitVec.ofInt 32 n).sshiftRight 16 := rfl
  show (Int32.ofInt n >>> (Int32.ofInt 16 &&& 31)).toBitVec.toInt = _
  rw [e, BitVec.toInt_sshiftRight, BitVec.toInt_ofInt, Int.shiftRight_eq_div_pow]
  have : Int.bmod n (2 ^ 32) = n := by
    have h := fs_w32_of (x := n) (by omega) (by omega)
    exact h
  rw [this]
  rfl
theorem fs_divP {n m : Int} (h0 : 0 ≤ n) (h1 : n < 2147483648) (m0 : 0 < m) (m1 : m < 2147483648) : fs_div n m = n / m := by
  have en : (Int32.ofInt n).toInt = n := by rw [Int32.toInt_ofInt]; exact fs_w32_of (by omega) (by omega)
  have em : (Int32.ofInt m).toInt = m := by rw [Int32.toInt_ofInt]; exact fs_w32_of (by omega) (by omega)
  show (Int32.ofInt n / Int32.ofInt m).toInt = _
  rw [Int32.toInt_div, en, em, Int.tdiv_eq_ediv_of_nonneg h0]
  have a : 0 ≤ n / m := Int.ediv_nonneg h0 (by omega)
  have b : n / m ≤ n := Int.ediv_le_self m h0
  exact fs_w32_of (by omega) (by omega)
theorem fs_divN {n : Int} (h0 : 0 ≤ n) (h1 : n < 2147483648) : fs_div n 65536 = n / 65536 := fs_divP h0 h1 (by decide) (by decide)
theorem fs_remN {n : Int} (h0 : 0 ≤ n) (h1 : n < 2147483648) : fs_rem n 1000 = n % 1000 := by
  have en : (Int32.ofInt n).toInt = n := by rw [Int32.toInt_ofInt]; exact fs_w32_of (by omega) (by omega)
  have ed : (Int32.ofInt n / Int32.ofInt 1000).toInt = n / 1000 := fs_divP h0 h1 (by decide) (by decide)
  have em : (Int32.ofInt 1000).toInt = 1000 := rfl
  show (Int32.ofInt n - Int32.ofInt n / Int32.ofInt 1000 * Int32.ofInt 1000).toInt = _
  rw [Int32.toInt_sub, Int32.toInt_mul, en, ed, em]
  have e1 : (n / 1000 * 1000).bmod (2 ^ 32) = n / 1000 * 1000 := fs_w32_of (by omega) (by omega)
  rw [e1]
  have e2 : (n - n / 1000 * 1000).bmod (2 ^ 32) = n - n / 1000 * 1000 := fs_w32_of (by omega) (by omega)
  rw [e2]
  omega
def fs_drw (z : Int) : Int := fs_rnd z / 65536 % 1000
section DRAW
variable {g : fs_G}
theorem sp_drawC {M : fs_M} {K : fs_K} {nt : Int} (h0 : fs_isO 4 nt) (hK : K (some (fs_i (fs_rnd (M nt 3) / 65536))) (fs_st M nt 3 (fs_rnd (M nt 3)))) : fs_C2 g m_Night_draw 1 [fs_r nt] M K := by
  have b := fs_rnd_b (M nt 3)
  refine E_Night_draw h0 ?_
  rw [fs_draw_c, fs_divN b.1 b.2]
  exact hK
theorem sp_drawM {M : fs_M} {K : fs_K} (hK : K (some (fs_i (fs_drw (M 245 0)))) (fs_st M 245 0 (fs_rnd (M 245 0)))) : fs_C2 g m_Mo_draw 1 [fs_r 226] M K := by
  have b := fs_rnd_b (M 245 0)
  refine E_Mo_draw ?_
  rw [fs_draw_m, fs_shr16 b.1 b.2, fs_remN (by omega) (by omega)]
  exact hK
end DRAW
