-- ===== a word's code, as the model and as the class make it =====
def fs_cd (l : Nat → Nat) : Nat → Nat
  | 0 => 0
  | k + 1 => fs_cd l k * 32 + l k
theorem fs_cd_b {l : Nat → Nat} (hl : ∀ k, l k < 32) : ∀ k, fs_cd l k < 32 ^ k
  | 0 => by
    show (0 : Nat) < 1
    decide
  | k + 1 => by
    have ih := fs_cd_b hl k
    have h := hl k
    have e : (32 : Nat) ^ (k + 1) = 32 ^ k * 32 := Nat.pow_succ 32 k
    have e2 : fs_cd l (k + 1) = fs_cd l k * 32 + l k := rfl
    rw [e, e2]
    omega
/-- the model's step -/
theorem fs_cd_m {a l : Nat} (hl : l < 32) (ha : a < 33554432) : fs_or (fs_shl (a : Int) 5) (l : Int) = ((a * 32 + l : Nat) : Int) := by
  have e : fs_shl (a : Int) ((5 : Nat) : Int) = ((a * 2 ^ 5 : Nat) : Int) := fs_shl_nat (by omega) (by omega)
  have e' : fs_shl (a : Int) 5 = ((a * 2 ^ 5 : Nat) : Int) := e
  rw [e', Nat.mul_comm a (2 ^ 5), fs_or_add (by omega) (by omega), Nat.mul_comm (2 ^ 5) a]
/-- the class's step -/
theorem fs_cd_c {a l s : Nat} (hl : l < 32) (hs : s ≤ 25) (h : (a * 32 + l) * 2 ^ s < 2147483648) : fs_or ((a * 2 ^ (s + 5) : Nat) : Int) (fs_shl (l : Int) (s : Int)) = (((a * 32 + l) * 2 ^ s : Nat) : Int) := by
  have e5 : (2 : Nat) ^ (s + 5) = 2 ^ s * 32 := Nat.pow_add 2 s 5
  have lt : l * 2 ^ s < 2 ^ (s + 5) := by
    rw [e5, Nat.mul_comm (2 ^ s) 32]
    exact (Nat.mul_lt_mul_right (Nat.two_pow_pos s)).mpr hl
  have sum : 2 ^ (s + 5) * a + l * 2 ^ s = (a * 32 + l) * 2 ^ s := by
    rw [e5, Nat.add_mul]
    congr 1
    ac_rfl
  have lb : l * 2 ^ s < 2147483648 := by omega
  rw [fs_shl_nat (by omega) lb, Nat.mul_comm a (2 ^ (s + 5)), fs_or_add lt (by omega), sum]
/-- letters that are none add nothing but places -/
theorem fs_cd_z {l : Nat → Nat} {n : Nat} (h : ∀ k, n ≤ k → l k = 0) : ∀ m, fs_cd l (n + m) = fs_cd l n * 32 ^ m
  | 0 => (Nat.mul_one _).symm
  | m + 1 => by
    have ih := fs_cd_z h m
    have e : fs_cd l (n + (m + 1)) = fs_cd l (n + m) * 32 + l (n + m) := rfl
    rw [e, ih, h (n + m) (by omega), Nat.pow_succ, Nat.add_zero, Nat.mul_assoc]
