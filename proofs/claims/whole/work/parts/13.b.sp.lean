-- ===== what the JDK's methods answer (bitCount's text by program, gen13b.py) =====
section SPJ
variable {g : fs_G}
theorem sp_ordinal {M : fs_M} {K : fs_K} {t : Int} (ht : fs_tk t) (h : K (some (fs_i (fs_ord t))) M) : fs_C2 g m_Enum_ordinal 1 [fs_r t] M K := E_Enum_ordinal ht h
theorem sp_strlen {M : fs_M} {K : fs_K} (h : K (some (fs_i 92)) M) : fs_C2 g m_Str_length 2 [fs_r 3001] M K := by
  refine E_Str_length (E_Str_coder ⟨0, rfl, ?_⟩)
  have e : fs_shr 92 0 = 92 := by decide +kernel
  rw [e]
  exact h
theorem fs_wch_key : ∀ n : Nat, n < 92 → fs_i2c (fs_and (fs_wch (n : Int)) 255) = fs_wch (n : Int) ∧ narrow .char (.int (Int32.ofInt (fs_wch (n : Int)))) = .int (Int32.ofInt (fs_wch (n : Int))) := by decide +kernel
theorem sp_charAt {M : fs_M} {K : fs_K} {i : Int} (h0 : 0 ≤ i) (h1 : i < 92) (h : K (some (fs_i (fs_wch i))) M) : fs_C2 g m_Str_charAt 4 [fs_r 3001, fs_i i] M K := by
  obtain ⟨n, rfl⟩ : ∃ n : Nat, i = (n : Int) := ⟨i.toNat, by omega⟩
  obtain ⟨k1, k2⟩ := fs_wch_key n (by omega)
  refine E_Str_charAt (E_Str_isLatin1 ⟨1, rfl, fun q => absurd q (by decide), fun _ => ?_⟩)
  refine E_Lat_charAt (E_Str_checkIndex (E_Pre_checkIndex ⟨fun q => by omega, fun _ => ⟨fun _ => ⟨_, rfl, rfl, h0, h1, ?_⟩, fun q => by omega⟩⟩))
  rw [k1]
  exact ⟨k2, _, rfl, k2, h⟩
theorem fs_lcmp_lt {x y : Int} : fs_lcmp x y < 0 ↔ x < y := by
  unfold fs_lcmp
  split
  · omega
  · split <;> omega
theorem fs_lcmp_le {x y : Int} : fs_lcmp x y ≤ 0 ↔ x ≤ y := by
  unfold fs_lcmp
  split
  · omega
  · split <;> omega
theorem fs_lcmp_gt {x y : Int} : 0 < fs_lcmp x y ↔ y < x := by
  unfold fs_lcmp
  split
  · omega
  · split <;> omega
theorem fs_lcmp_ge {x y : Int} : 0 ≤ fs_lcmp x y ↔ y ≤ x := by
  unfold fs_lcmp
  split
  · omega
  · split <;> omega
theorem fs_lcmp_z {x y : Int} : fs_lcmp x y = 0 ↔ x = y := by
  unfold fs_lcmp
  split
  · omega
  · split <;> omega
theorem sp_maxI {M : fs_M} {K : fs_K} {a b : Int} (h : K (some (fs_i (max a b))) M) : fs_C2 g m_Math_max_I 1 [fs_i a, fs_i b] M K := by
  refine E_Math_max_I ⟨fun q => ?_, fun q => ?_⟩
  · rwa [show max a b = b by omega] at h
  · rwa [show max a b = a by omega] at h
theorem sp_minI {M : fs_M} {K : fs_K} {a b : Int} (h : K (some (fs_i (min a b))) M) : fs_C2 g m_Math_min_I 1 [fs_i a, fs_i b] M K := by
  refine E_Math_min_I ⟨fun q => ?_, fun q => ?_⟩
  · rwa [show min a b = b by omega] at h
  · rwa [show min a b = a by omega] at h
theorem sp_maxJ {M : fs_M} {K : fs_K} {a b : Int} (h : K (some (fs_l (max a b))) M) : fs_C2 g m_Math_max_J 1 [fs_l a, fs_l b] M K := by
  refine E_Math_max_J ⟨fun q => ?_, fun q => ?_⟩ <;> rw [fs_lcmp_lt] at q
  · rwa [show max a b = b by omega] at h
  · rwa [show max a b = a by omega] at h
theorem sp_minJ {M : fs_M} {K : fs_K} {a b : Int} (h : K (some (fs_l (min a b))) M) : fs_C2 g m_Math_min_J 1 [fs_l a, fs_l b] M K := by
  refine E_Math_min_J ⟨fun q => ?_, fun q => ?_⟩ <;> rw [fs_lcmp_gt] at q
  · rwa [show min a b = b by omega] at h
  · rwa [show min a b = a by omega] at h
theorem sp_absI {M : fs_M} {K : fs_K} {a : Int} (ha : -2147483648 < a) (h : K (some (fs_i (a.natAbs : Int))) M) : fs_C2 g m_Math_abs_I 1 [fs_i a] M K := by
  refine b_cinv (fun _ hok => ?_)
  have hi : fs_in32 a := hok _ List.mem_cons_self
  unfold fs_in32 at hi
  refine E_Math_abs_I ⟨fun q => ?_, fun q => ?_⟩
  · rwa [show (a.natAbs : Int) = a by omega] at h
  · rw [fs_w32_of (by omega) (by omega)]
    rwa [show (a.natAbs : Int) = -a by omega] at h
theorem sp_absJ {M : fs_M} {K : fs_K} {a : Int} (ha : -9223372036854775808 < a) (h : K (some (fs_l (a.natAbs : Int))) M) : fs_C2 g m_Math_abs_J 1 [fs_l a] M K := by
  refine b_cinv (fun _ hok => ?_)
  have hi : fs_in64 a := hok _ List.mem_cons_self
  unfold fs_in64 at hi
  refine E_Math_abs_J ⟨fun q => ?_, fun q => ?_⟩ <;> rw [fs_lcmp_ge] at q
  · rwa [show (a.natAbs : Int) = a by omega] at h
  · rw [fs_w64_of (by omega) (by omega)]
    rwa [show (a.natAbs : Int) = -a by omega] at h
def fs_bc (x0 : Int) : Int := fs_and (fs_w32 ((fs_w32 ((fs_and (fs_w32 ((fs_w32 ((fs_and (fs_w32 (x0 - (fs_and (fs_ushr x0 1) 1431655765))) 858993459) + (fs_and (fs_ushr (fs_w32 (x0 - (fs_and (fs_ushr x0 1) 1431655765))) 2) 858993459))) + (fs_ushr (fs_w32 ((fs_and (fs_w32 (x0 - (fs_and (fs_ushr x0 1) 1431655765))) 858993459) + (fs_and (fs_ushr (fs_w32 (x0 - (fs_and (fs_ushr x0 1) 1431655765))) 2) 858993459))) 4))) 252645135) + (fs_ushr (fs_and (fs_w32 ((fs_w32 ((fs_and (fs_w32 (x0 - (fs_and (fs_ushr x0 1) 1431655765))) 858993459) + (fs_and (fs_ushr (fs_w32 (x0 - (fs_and (fs_ushr x0 1) 1431655765))) 2) 858993459))) + (fs_ushr (fs_w32 ((fs_and (fs_w32 (x0 - (fs_and (fs_ushr x0 1) 1431655765))) 858993459) + (fs_and (fs_ushr (fs_w32 (x0 - (fs_and (fs_ushr x0 1) 1431655765))) 2) 858993459))) 4))) 252645135) 8))) + (fs_ushr (fs_w32 ((fs_and (fs_w32 ((fs_w32 ((fs_and (fs_w32 (x0 - (fs_and (fs_ushr x0 1) 1431655765))) 858993459) + (fs_and (fs_ushr (fs_w32 (x0 - (fs_and (fs_ushr x0 1) 1431655765))) 2) 858993459))) + (fs_ushr (fs_w32 ((fs_and (fs_w32 (x0 - (fs_and (fs_ushr x0 1) 1431655765))) 858993459) + (fs_and (fs_ushr (fs_w32 (x0 - (fs_and (fs_ushr x0 1) 1431655765))) 2) 858993459))) 4))) 252645135) + (fs_ushr (fs_and (fs_w32 ((fs_w32 ((fs_and (fs_w32 (x0 - (fs_and (fs_ushr x0 1) 1431655765))) 858993459) + (fs_and (fs_ushr (fs_w32 (x0 - (fs_and (fs_ushr x0 1) 1431655765))) 2) 858993459))) + (fs_ushr (fs_w32 ((fs_and (fs_w32 (x0 - (fs_and (fs_ushr x0 1) 1431655765))) 858993459) + (fs_and (fs_ushr (fs_w32 (x0 - (fs_and (fs_ushr x0 1) 1431655765))) 2) 858993459))) 4))) 252645135) 8))) 16))) 63
/-- how many of the six lowest bits are set -/
def fs_pop (x : Int) : Int := x % 2 + x / 2 % 2 + x / 4 % 2 + x / 8 % 2 + x / 16 % 2 + x / 32 % 2
theorem fs_bc_key : ∀ n : Nat, n < 64 → fs_bc (n : Int) = fs_pop (n : Int) := by decide +kernel
theorem sp_bitCount {M : fs_M} {K : fs_K} {x : Int} (h0 : 0 ≤ x) (h1 : x < 64) (h : K (some (fs_i (fs_pop x))) M) : fs_C2 g m_Integer_bitCount 1 [fs_i x] M K := by
  obtain ⟨n, rfl⟩ : ∃ n : Nat, x = (n : Int) := ⟨x.toNat, by omega⟩
  rw [← fs_bc_key n (by omega)] at h
  exact E_Integer_bitCount h
end SPJ
