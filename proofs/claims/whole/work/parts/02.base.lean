-- ===== the abstract memory over the kit's worlds: values, cells, worlds =====
abbrev fs_V : Type := Int ⊕ (Int ⊕ Int)
abbrev fs_i (x : Int) : fs_V := Sum.inl x
abbrev fs_l (x : Int) : fs_V := Sum.inr (Sum.inl x)
abbrev fs_r (x : Int) : fs_V := Sum.inr (Sum.inr x)
abbrev fs_M : Type := Int → Int → Int
def fs_st (M : fs_M) (o k v : Int) : fs_M := fun a b => if a = o then (if b = k then v else M a b) else M a b
def fs_in32 (x : Int) : Prop := -2147483648 ≤ x ∧ x < 2147483648
def fs_in64 (x : Int) : Prop := -9223372036854775808 ≤ x ∧ x < 9223372036854775808
def fs_w32 (x : Int) : Int := Int.bmod x 4294967296
def fs_w64 (x : Int) : Int := Int.bmod x 18446744073709551616
theorem fs_w32_in (x : Int) : fs_in32 (fs_w32 x) := by
  unfold fs_in32 fs_w32
  have h1 := Int.le_bmod (x := x) (m := 4294967296) (by decide)
  have h2 := Int.bmod_lt (x := x) (m := 4294967296) (by decide)
  omega
theorem fs_w64_in (x : Int) : fs_in64 (fs_w64 x) := by
  unfold fs_in64 fs_w64
  have h1 := Int.le_bmod (x := x) (m := 18446744073709551616) (by decide)
  have h2 := Int.bmod_lt (x := x) (m := 18446744073709551616) (by decide)
  omega
theorem fs_w32_id {x : Int} (h : fs_in32 x) : fs_w32 x = x := by
  unfold fs_in32 at h
  unfold fs_w32
  exact Int.bmod_eq_of_le (by omega) (by omega)
theorem fs_w64_id {x : Int} (h : fs_in64 x) : fs_w64 x = x := by
  unfold fs_in64 at h
  unfold fs_w64
  exact Int.bmod_eq_of_le (by omega) (by omega)
theorem fs_w32_of {x : Int} (h1 : -2147483648 ≤ x) (h2 : x < 2147483648) : fs_w32 x = x := fs_w32_id ⟨h1, h2⟩
theorem fs_w64_of {x : Int} (h1 : -9223372036854775808 ≤ x) (h2 : x < 9223372036854775808) : fs_w64 x = x := fs_w64_id ⟨h1, h2⟩
theorem fs_toI {x : Int} (h : fs_in32 x) : (Int32.ofInt x).toInt = x := Int32.toInt_ofInt_of_le (by unfold fs_in32 at h; omega) (by unfold fs_in32 at h; omega)
theorem fs_toL {x : Int} (h : fs_in64 x) : (Int64.ofInt x).toInt = x := Int64.toInt_ofInt_of_le (by unfold fs_in64 at h; omega) (by unfold fs_in64 at h; omega)
theorem fs_ofI (x : Int) : Int32.ofInt (fs_w32 x) = Int32.ofInt x := by
  apply Int32.toInt.inj
  rw [Int32.toInt_ofInt, Int32.toInt_ofInt]
  show (Int.bmod x 4294967296).bmod Int32.size = x.bmod Int32.size
  rw [show Int32.size = 4294967296 from rfl, Int.bmod_bmod]
theorem fs_ofL (x : Int) : Int64.ofInt (fs_w64 x) = Int64.ofInt x := by
  apply Int64.toInt.inj
  rw [Int64.toInt_ofInt, Int64.toInt_ofInt]
  show (Int.bmod x 18446744073709551616).bmod Int64.size = x.bmod Int64.size
  rw [show Int64.size = 18446744073709551616 from rfl, Int.bmod_bmod]
theorem fs_I_in (a : Int32) : fs_in32 a.toInt := by
  have h1 := a.le_toInt
  have h2 := a.toInt_lt
  unfold fs_in32
  omega
theorem fs_L_in (a : Int64) : fs_in64 a.toInt := by
  have h1 := a.le_toInt
  have h2 := a.toInt_lt
  unfold fs_in64
  omega
-- what an operation of the machine is, over whole numbers
def fs_and (x y : Int) : Int := (Int32.ofInt x &&& Int32.ofInt y).toInt
def fs_or (x y : Int) : Int := (Int32.ofInt x ||| Int32.ofInt y).toInt
def fs_xor (x y : Int) : Int := (Int32.ofInt x ^^^ Int32.ofInt y).toInt
def fs_shl (x y : Int) : Int := (Int32.ofInt x <<< (Int32.ofInt y &&& 31)).toInt
def fs_shr (x y : Int) : Int := (Int32.ofInt x >>> (Int32.ofInt y &&& 31)).toInt
def fs_ushr (x y : Int) : Int := ((Int32.ofInt x).toUInt32 >>> ((Int32.ofInt y).toUInt32 &&& Int32.toUInt32 31)).toInt32.toInt
def fs_div (x y : Int) : Int := (Int32.ofInt x / Int32.ofInt y).toInt
def fs_rem (x y : Int) : Int := (Int32.ofInt x - Int32.ofInt x / Int32.ofInt y * Int32.ofInt y).toInt
def fs_land (x y : Int) : Int := (Int64.ofInt x &&& Int64.ofInt y).toInt
def fs_lor (x y : Int) : Int := (Int64.ofInt x ||| Int64.ofInt y).toInt
def fs_lshl (x y : Int) : Int := (Int64.ofInt x <<< ((Int32.ofInt y).toInt64 &&& 63)).toInt
def fs_lshr (x y : Int) : Int := (Int64.ofInt x >>> ((Int32.ofInt y).toInt64 &&& 63)).toInt
def fs_ldiv (x y : Int) : Int := (Int64.ofInt x / Int64.ofInt y).toInt
def fs_lcmp (x y : Int) : Int := if x > y then 1 else if x = y then 0 else -1
def fs_ok (v : fs_V) : Prop := match v with
  | .inl x => fs_in32 x
  | .inr (.inl x) => fs_in64 x
  | .inr (.inr x) => fs_in32 x
-- the parameters of a run: launch, classes' numbers, array classes' numbers; where the world begins; where static things lie; the script
abbrev fs_G : Type := (Launch × va_G × (Nat → ClassId)) × Nat × (Int → Nat) × (Nat × Nat × (Nat → Int32))
abbrev g_l (g : fs_G) : Launch := g.1.1
abbrev g_D (g : fs_G) : va_G := g.1.2.1
abbrev g_tc (g : fs_G) : Nat → ClassId := g.1.2.2
abbrev g_sz (g : fs_G) : Nat := g.2.1
abbrev g_so (g : fs_G) : Int → Nat := g.2.2.1
abbrev g_b (g : fs_G) : Nat := g.2.2.2.1
abbrev g_L (g : fs_G) : Nat := g.2.2.2.2.1
abbrev g_xs (g : fs_G) : Nat → Int32 := g.2.2.2.2.2
def fs_ad (g : fs_G) (x : Int) : Nat := if x < 1000 then g_sz g + x.toNat else g_so g x
def fs_ro (g : fs_G) (x : Int) : Option Nat := if x < 0 then none else some (fs_ad g x)
def fs_e (g : fs_G) (v : fs_V) : Value := match v with
  | .inl x => .int (Int32.ofInt x)
  | .inr (.inl x) => .long (Int64.ofInt x)
  | .inr (.inr x) => va_rf (fs_ro g x)
def fs_f (g : fs_G) (t : FieldType) (x : Int) : Value := match t with
  | .long => .long (Int64.ofInt x)
  | .object _ => va_rf (fs_ro g x)
  | .array _ => va_rf (fs_ro g x)
  | _ => .int (Int32.ofInt x)
def fs_fv (t : FieldType) (x : Int) : fs_V := match t with
  | .long => fs_l x
  | .object _ => fs_r x
  | .array _ => fs_r x
  | _ => fs_i x
theorem fs_e_fv (g : fs_G) (t : FieldType) (x : Int) : fs_e g (fs_fv t x) = fs_f g t x := by cases t <;> rfl
