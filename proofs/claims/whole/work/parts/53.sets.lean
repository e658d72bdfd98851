-- ===== sets of houses as bits; bytes of a long; digits of three bits =====
theorem fs_bit_lt {x i : Int} (h : fs_bit x i ≠ 1) : fs_bit x i = 0 := by
  rcases fs_bit01 x i with q | q
  · exact q
  · exact absurd q h
theorem fs_bit_or {x y : Int} {n : Nat} (hn : n < 32) : fs_bit (fs_or x y) n = if fs_bit x n = 1 ∨ fs_bit y n = 1 then 1 else 0 := by
  rw [fs_bit_b hn, fs_bit_b hn, fs_bit_b hn, ← fs_e_ior, Int32.toBitVec_or, BitVec.getLsbD_or]
  cases (Int32.ofInt x).toBitVec.getLsbD n <;> cases (Int32.ofInt y).toBitVec.getLsbD n <;> rfl
theorem fs_bit_and {x y : Int} {n : Nat} (hn : n < 32) : fs_bit (fs_and x y) n = if fs_bit x n = 1 ∧ fs_bit y n = 1 then 1 else 0 := by
  rw [fs_bit_b hn, fs_bit_b hn, fs_bit_b hn, ← fs_e_iand, Int32.toBitVec_and, BitVec.getLsbD_and]
  cases (Int32.ofInt x).toBitVec.getLsbD n <;> cases (Int32.ofInt y).toBitVec.getLsbD n <;> rfl
theorem fs_m1b : ∀ n : Nat, n < 32 → (Int32.ofInt (-1)).toBitVec.getLsbD n = true := by decide +kernel
theorem fs_bit_not {y : Int} {n : Nat} (hn : n < 32) : fs_bit (fs_xor y (-1)) n = if fs_bit y n = 1 then 0 else 1 := by
  rw [fs_bit_b hn, fs_bit_b hn, ← fs_e_ixor, Int32.toBitVec_xor, BitVec.getLsbD_xor, fs_m1b n hn]
  cases (Int32.ofInt y).toBitVec.getLsbD n <;> rfl
theorem fs_bit_shl : ∀ h : Nat, h < 31 → ∀ n : Nat, n < 32 → fs_bit (fs_shl 1 (h : Int)) (n : Int) = if n = h then 1 else 0 := by decide +kernel
theorem fs_bits6 : ∀ v : Nat, v < 64 → (v : Int) = fs_bit (v : Int) 0 + 2 * fs_bit (v : Int) 1 + 4 * fs_bit (v : Int) 2 + 8 * fs_bit (v : Int) 3 + 16 * fs_bit (v : Int) 4 + 32 * fs_bit (v : Int) 5 := by decide +kernel
theorem fs_ext6 {x y : Int} (x0 : 0 ≤ x) (x1 : x < 64) (y0 : 0 ≤ y) (y1 : y < 64) (h : ∀ n : Nat, n < 6 → fs_bit x n = fs_bit y n) : x = y := by
  have a := fs_bits6 x.toNat (by omega)
  have b := fs_bits6 y.toNat (by omega)
  rw [show ((x.toNat : Nat) : Int) = x by omega] at a
  rw [show ((y.toNat : Nat) : Int) = y by omega] at b
  have h0 : fs_bit x 0 = fs_bit y 0 := h 0 (by decide)
  have h1 : fs_bit x 1 = fs_bit y 1 := h 1 (by decide)
  have h2 : fs_bit x 2 = fs_bit y 2 := h 2 (by decide)
  have h3 : fs_bit x 3 = fs_bit y 3 := h 3 (by decide)
  have h4 : fs_bit x 4 = fs_bit y 4 := h 4 (by decide)
  have h5 : fs_bit x 5 = fs_bit y 5 := h 5 (by decide)
  omega
theorem fs_and_b {x y : Int} (x0 : 0 ≤ x) (x1 : x < 64) : 0 ≤ fs_and x y ∧ fs_and x y < 64 := by
  have e : (Int32.ofInt x &&& Int32.ofInt y).toBitVec = BitVec.ofInt 32 x &&& BitVec.ofInt 32 y := rfl
  have n : ((Int32.ofInt x &&& Int32.ofInt y).toBitVec).toNat ≤ x.toNat := by
    rw [e, BitVec.toNat_and]
    refine Nat.le_trans Nat.and_le_left ?_
    rw [BitVec.toNat_ofInt]
    omega
  have v : fs_and x y = (((Int32.ofInt x &&& Int32.ofInt y).toBitVec).toNat : Int) := by
    show ((Int32.ofInt x &&& Int32.ofInt y).toBitVec).toInt = _
    exact BitVec.toInt_eq_toNat_of_lt (by omega)
  rw [v]
  omega
/-- what is in x and not in y -/
theorem fs_bit_mn {x y h : Int} (h0 : 0 ≤ h) (h1 : h < 6) : fs_bit (fs_and x (fs_xor y (-1))) h = if fs_bit x h = 1 ∧ fs_bit y h ≠ 1 then 1 else 0 := by
  obtain ⟨n, rfl⟩ := Int.eq_ofNat_of_zero_le h0
  rw [fs_bit_and (by omega), fs_bit_not (by omega)]
  by_cases a : fs_bit y n = 1
  · rw [if_pos a, if_neg (by omega), if_neg (fun z => z.2 a)]
  · rw [if_neg a]
    by_cases b : fs_bit x n = 1
    · rw [if_pos ⟨b, rfl⟩, if_pos ⟨b, a⟩]
    · rw [if_neg (fun z => b z.1), if_neg (fun z => b z.1)]
theorem fs_sub0 {x y : Int} (x0 : 0 ≤ x) (x1 : x < 64) : fs_and x (fs_xor y (-1)) = 0 ↔ ∀ h : Int, 0 ≤ h → h < 6 → fs_bit x h = 1 → fs_bit y h = 1 := by
  constructor
  · intro e h h0 h1 hx
    by_cases c : fs_bit y h = 1
    · exact c
    · have b := fs_bit_mn (x := x) (y := y) h0 h1
      rw [if_pos ⟨hx, c⟩, e] at b
      have z := fs_bit0 h.toNat (by omega)
      rw [show ((h.toNat : Nat) : Int) = h by omega] at z
      omega
  · intro hs
    obtain ⟨a, b⟩ := fs_and_b (y := fs_xor y (-1)) x0 x1
    refine fs_ext6 a b (by decide) (by decide) (fun n hn => ?_)
    rw [fs_bit_mn (by omega) (by omega), fs_bit0 n hn, if_neg (fun z => z.2 (hs n (by omega) (by omega) z.1))]
theorem fs_bit_or1 {x h i : Int} (h0 : 0 ≤ h) (h1 : h < 6) (i0 : 0 ≤ i) (i1 : i < 6) : fs_bit (fs_or x (fs_shl 1 h)) i = if i = h then 1 else fs_bit x i := by
  obtain ⟨n, rfl⟩ := Int.eq_ofNat_of_zero_le h0
  obtain ⟨m, rfl⟩ := Int.eq_ofNat_of_zero_le i0
  rw [fs_bit_or (by omega), fs_bit_shl n (by omega) m (by omega)]
  by_cases c : m = n
  · rw [if_pos c, if_pos (Or.inr rfl), if_pos (by omega)]
  · rw [if_neg c, if_neg (show ¬ (m : Int) = n by omega)]
    rcases fs_bit01 x m with q | q
    · rw [q]
      rfl
    · rw [q]
      rfl
theorem fs_every : ∀ H : Nat, H ≤ 6 → fs_w32 (fs_shl 1 (H : Int) - 1) = fs_p2 H - 1 ∧ ∀ n : Nat, n < 6 → fs_bit (fs_p2 (H : Int) - 1) (n : Int) = if n < H then 1 else 0 := by decide +kernel
-- bytes of a long
def fs_mof (v h : Int) : Int := fs_and (fs_w32 (fs_lshr v (fs_w32 (8 * h)))) 255
theorem fs_sh64 : ∀ n : Nat, n < 6 → (((Int32.ofInt (fs_w32 (8 * (n : Int)))).toInt64 &&& 63).toBitVec.smod 64).toNat = 8 * n := by decide +kernel
theorem fs_255b : ∀ i : Nat, i < 32 → (Int32.ofInt 255).toBitVec.getLsbD i = decide (i < 8) := by decide +kernel
theorem fs_mof_bit {v : Int} {n i : Nat} (hn : n < 6) (hi : i < 32) : (Int32.ofInt (fs_mof v n)).toBitVec.getLsbD i = (decide (i < 8) && (Int64.ofInt v).toBitVec.getLsbD (8 * n + i)) := by
  unfold fs_mof
  rw [← fs_e_iand, Int32.toBitVec_and, BitVec.getLsbD_and, fs_255b i hi, fs_ofI]
  by_cases c : i < 8
  · rw [decide_eq_true c, Bool.and_true, Bool.true_and]
    have e : (Int32.ofInt (fs_lshr v (fs_w32 (8 * (n : Int))))).toBitVec = ((Int64.ofInt v >>> ((Int32.ofInt (fs_w32 (8 * (n : Int)))).toInt64 &&& 63)).toBitVec).signExtend 32 := rfl
    rw [e, BitVec.getLsbD_signExtend, Int64.toBitVec_shiftRight]
    have e2 : ∀ k, (((Int64.ofInt v).toBitVec.sshiftRight' ((((Int32.ofInt (fs_w32 (8 * (n : Int)))).toInt64 &&& 63).toBitVec.smod 64))).getLsbD k) = ((Int64.ofInt v).toBitVec.sshiftRight (8 * n)).getLsbD k := fun k => by
      show ((Int64.ofInt v).toBitVec.sshiftRight ((((Int32.ofInt (fs_w32 (8 * (n : Int)))).toInt64 &&& 63).toBitVec.smod 64).toNat)).getLsbD k = _
      rw [fs_sh64 n hn]
    simp only [e2]
    rw [BitVec.getLsbD_sshiftRight]
    have a1 : i < 64 := by omega
    have a2 : 8 * n + i < 64 := by omega
    simp [hi, a1, a2]
  · rw [decide_eq_false c, Bool.and_false, Bool.false_and]
theorem fs_b256 : ∀ c : Nat, c < 256 → (∀ i : Nat, i < 8 → (Int64.ofInt (c : Int)).toBitVec.getLsbD i = (Int32.ofInt (c : Int)).toBitVec.getLsbD i) ∧ (∀ i : Nat, i < 24 → (Int32.ofInt (c : Int)).toBitVec.getLsbD (i + 8) = false) ∧ ∀ i : Nat, i < 56 → (Int64.ofInt (c : Int)).toBitVec.getLsbD (i + 8) = false := by decide +kernel
theorem fs_mof_in (v h : Int) : fs_in32 (fs_mof v h) := by
  unfold fs_mof fs_and
  exact fs_I_in _
theorem fs_mof_or {v c h x : Int} (h0 : 0 ≤ h) (h1 : h < 6) (x0 : 0 ≤ x) (x1 : x < 6) (c0 : 0 ≤ c) (c1 : c < 256) (hz : fs_mof v x = 0) : fs_mof (fs_lor v (fs_lshl c (fs_w32 (8 * x)))) h = if h = x then c else fs_mof v h := by
  obtain ⟨n, rfl⟩ := Int.eq_ofNat_of_zero_le h0
  obtain ⟨m, rfl⟩ := Int.eq_ofNat_of_zero_le x0
  obtain ⟨k, rfl⟩ := Int.eq_ofNat_of_zero_le c0
  obtain ⟨b1, b2, b3⟩ := fs_b256 k (by omega)
  have eo : (Int64.ofInt (fs_lor v (fs_lshl (k : Int) (fs_w32 (8 * (m : Int)))))).toBitVec = (Int64.ofInt v).toBitVec ||| (Int64.ofInt (fs_lshl (k : Int) (fs_w32 (8 * (m : Int))))).toBitVec := by
    unfold fs_lor
    rw [Int64.ofInt_toInt, Int64.toBitVec_or]
  have es : (Int64.ofInt (fs_lshl (k : Int) (fs_w32 (8 * (m : Int))))).toBitVec = (Int64.ofInt (k : Int)).toBitVec <<< (8 * m) := by
    unfold fs_lshl
    rw [Int64.ofInt_toInt, Int64.toBitVec_shiftLeft]
    show (Int64.ofInt (k : Int)).toBitVec <<< ((((Int32.ofInt (fs_w32 (8 * (m : Int)))).toInt64 &&& 63).toBitVec.smod 64).toNat) = _
    rw [fs_sh64 m (by omega)]
  have nv : ∀ i, i < 8 → (Int64.ofInt (fs_lor v (fs_lshl (k : Int) (fs_w32 (8 * (m : Int)))))).toBitVec.getLsbD (8 * n + i) = ((Int64.ofInt v).toBitVec.getLsbD (8 * n + i) || (decide (n = m) && (Int64.ofInt (k : Int)).toBitVec.getLsbD i)) := fun i hi => by
    rw [eo, BitVec.getLsbD_or, es, BitVec.getLsbD_shiftLeft]
    have l64 : 8 * n + i < 64 := by omega
    by_cases e : n = m
    · rw [e]
      have q : ¬ 8 * m + i < 8 * m := by omega
      have q2 : 8 * m + i < 64 := by omega
      simp [q2, q]
    · rw [decide_eq_false e, Bool.false_and]
      by_cases l : n < m
      · have q : 8 * n + i < 8 * m := by omega
        simp [q]
      · have q : ¬ 8 * n + i < 8 * m := by omega
        have z := b3 (8 * n + i - 8 * m - 8) (by omega)
        rw [show 8 * n + i - 8 * m - 8 + 8 = 8 * n + i - 8 * m by omega] at z
        rw [z]
        simp
  have zb : ∀ i, i < 8 → (Int64.ofInt v).toBitVec.getLsbD (8 * m + i) = false := fun i hi => by
    have q := fs_mof_bit (v := v) (n := m) (i := i) (by omega) (by omega)
    rw [hz, decide_eq_true hi, Bool.true_and] at q
    rw [← q]
    have : ∀ i : Nat, i < 8 → (Int32.ofInt 0).toBitVec.getLsbD i = false := by decide +kernel
    exact this i hi
  have key : Int32.ofInt (fs_mof (fs_lor v (fs_lshl (k : Int) (fs_w32 (8 * (m : Int))))) n) = Int32.ofInt (if (n : Int) = m then (k : Int) else fs_mof v n) := by
    apply Int32.toBitVec_inj.1
    apply BitVec.eq_of_getLsbD_eq
    intro i hi
    rw [fs_mof_bit (by omega) hi]
    by_cases c : i < 8
    · rw [nv i c, decide_eq_true c, Bool.true_and]
      by_cases e : n = m
      · rw [if_pos (show (n : Int) = m by omega), decide_eq_true e, Bool.true_and, e, zb i c, Bool.false_or]
        exact b1 i c
      · rw [if_neg (show ¬ (n : Int) = m by omega), decide_eq_false e, Bool.false_and, Bool.or_false, fs_mof_bit (by omega) hi, decide_eq_true c, Bool.true_and]
    · rw [decide_eq_false c, Bool.false_and]
      by_cases e : n = m
      · rw [if_pos (show (n : Int) = m by omega)]
        have z := b2 (i - 8) (by omega)
        rw [show i - 8 + 8 = i by omega] at z
        exact z.symm
      · rw [if_neg (show ¬ (n : Int) = m by omega), fs_mof_bit (by omega) hi, decide_eq_false c, Bool.false_and]
  have i1 := fs_mof_in (fs_lor v (fs_lshl (k : Int) (fs_w32 (8 * (m : Int))))) n
  have i2 : fs_in32 (if (n : Int) = m then (k : Int) else fs_mof v n) := by
    split
    · unfold fs_in32; omega
    · exact fs_mof_in v n
  exact (fs_eq32 i1 i2).1 key
theorem fs_mof_0 : ∀ n : Nat, n < 6 → fs_mof 0 (n : Int) = 0 := by decide +kernel
theorem fs_lor_in (x y : Int) : fs_in64 (fs_lor x y) := by
  unfold fs_lor
  exact fs_L_in _
theorem fs_lor_0 {x : Int} (h : fs_in64 x) : fs_lor x 0 = x := by
  unfold fs_lor
  have : Int64.ofInt x ||| Int64.ofInt 0 = Int64.ofInt x := by
    apply Int64.toBitVec_inj.1
    rw [Int64.toBitVec_or]
    show (Int64.ofInt x).toBitVec ||| 0#64 = _
    exact BitVec.or_zero
  rw [this]
  exact fs_toL h
-- digits of three bits
def fs_dig (v i : Int) : Int := fs_and (fs_shr v (fs_w32 (3 * i))) 7
theorem fs_sh32 : ∀ n : Nat, n < 6 → ((Int32.ofInt (fs_w32 (3 * (n : Int))) &&& 31).toBitVec.smod 32).toNat = 3 * n := by decide +kernel
theorem fs_7b : ∀ i : Nat, i < 32 → (Int32.ofInt 7).toBitVec.getLsbD i = decide (i < 3) := by decide +kernel
theorem fs_dig_bit {v : Int} {n i : Nat} (hn : n < 6) (hi : i < 32) : (Int32.ofInt (fs_dig v n)).toBitVec.getLsbD i = (decide (i < 3) && (Int32.ofInt v).toBitVec.getLsbD (3 * n + i)) := by
  unfold fs_dig
  rw [← fs_e_iand, Int32.toBitVec_and, BitVec.getLsbD_and, fs_7b i hi, ← fs_e_ishr]
  by_cases c : i < 3
  · rw [decide_eq_true c, Bool.and_true, Bool.true_and, Int32.toBitVec_shiftRight]
    show ((Int32.ofInt v).toBitVec.sshiftRight (((Int32.ofInt (fs_w32 (3 * (n : Int))) &&& 31).toBitVec.smod 32).toNat)).getLsbD i = _
    rw [fs_sh32 n hn, BitVec.getLsbD_sshiftRight]
    have a2 : 3 * n + i < 32 := by omega
    simp [a2]
    omega
  · rw [decide_eq_false c, Bool.and_false, Bool.false_and]
theorem fs_b8 : ∀ c : Nat, c < 8 → (∀ i : Nat, i < 29 → (Int32.ofInt (c : Int)).toBitVec.getLsbD (i + 3) = false) := by decide +kernel
theorem fs_dig_or {v c h x : Int} (h0 : 0 ≤ h) (h1 : h < 6) (x0 : 0 ≤ x) (x1 : x < 6) (c0 : 0 ≤ c) (c1 : c < 8) (hz : fs_dig v x = 0) : fs_dig (fs_or v (fs_shl c (fs_w32 (3 * x)))) h = if h = x then c else fs_dig v h := by
  obtain ⟨n, rfl⟩ := Int.eq_ofNat_of_zero_le h0
  obtain ⟨m, rfl⟩ := Int.eq_ofNat_of_zero_le x0
  obtain ⟨k, rfl⟩ := Int.eq_ofNat_of_zero_le c0
  have b2 := fs_b8 k (by omega)
  have es : (Int32.ofInt (fs_shl (k : Int) (fs_w32 (3 * (m : Int))))).toBitVec = (Int32.ofInt (k : Int)).toBitVec <<< (3 * m) := by
    rw [← fs_e_ishl, Int32.toBitVec_shiftLeft]
    show (Int32.ofInt (k : Int)).toBitVec <<< (((Int32.ofInt (fs_w32 (3 * (m : Int))) &&& 31).toBitVec.smod 32).toNat) = _
    rw [fs_sh32 m (by omega)]
  have nv : ∀ i, i < 3 → (Int32.ofInt (fs_or v (fs_shl (k : Int) (fs_w32 (3 * (m : Int)))))).toBitVec.getLsbD (3 * n + i) = ((Int32.ofInt v).toBitVec.getLsbD (3 * n + i) || (decide (n = m) && (Int32.ofInt (k : Int)).toBitVec.getLsbD i)) := fun i hi => by
    rw [← fs_e_ior, Int32.toBitVec_or, BitVec.getLsbD_or, es, BitVec.getLsbD_shiftLeft]
    have l32 : 3 * n + i < 32 := by omega
    by_cases e : n = m
    · rw [e]
      have q2 : 3 * m + i < 32 := by omega
      have q : ¬ 3 * m + i < 3 * m := by omega
      simp [q2, q]
    · rw [decide_eq_false e, Bool.false_and]
      by_cases l : n < m
      · have q : 3 * n + i < 3 * m := by omega
        simp [q]
      · have q : ¬ 3 * n + i < 3 * m := by omega
        have z := b2 (3 * n + i - 3 * m - 3) (by omega)
        rw [show 3 * n + i - 3 * m - 3 + 3 = 3 * n + i - 3 * m by omega] at z
        rw [z]
        simp
  have zb : ∀ i, i < 3 → (Int32.ofInt v).toBitVec.getLsbD (3 * m + i) = false := fun i hi => by
    have q := fs_dig_bit (v := v) (n := m) (i := i) (by omega) (by omega)
    rw [hz, decide_eq_true hi, Bool.true_and] at q
    rw [← q]
    have : ∀ i : Nat, i < 3 → (Int32.ofInt 0).toBitVec.getLsbD i = false := by decide +kernel
    exact this i hi
  have key : Int32.ofInt (fs_dig (fs_or v (fs_shl (k : Int) (fs_w32 (3 * (m : Int))))) n) = Int32.ofInt (if (n : Int) = m then (k : Int) else fs_dig v n) := by
    apply Int32.toBitVec_inj.1
    apply BitVec.eq_of_getLsbD_eq
    intro i hi
    rw [fs_dig_bit (by omega) hi]
    by_cases c : i < 3
    · rw [nv i c, decide_eq_true c, Bool.true_and]
      by_cases e : n = m
      · rw [if_pos (show (n : Int) = m by omega), decide_eq_true e, Bool.true_and, e, zb i c, Bool.false_or]
      · rw [if_neg (show ¬ (n : Int) = m by omega), decide_eq_false e, Bool.false_and, Bool.or_false, fs_dig_bit (by omega) hi, decide_eq_true c, Bool.true_and]
    · rw [decide_eq_false c, Bool.false_and]
      by_cases e : n = m
      · rw [if_pos (show (n : Int) = m by omega)]
        have z := b2 (i - 3) (by omega)
        rw [show i - 3 + 3 = i by omega] at z
        exact z.symm
      · rw [if_neg (show ¬ (n : Int) = m by omega), fs_dig_bit (by omega) hi, decide_eq_false c, Bool.false_and]
  have i1 : fs_in32 (fs_dig (fs_or v (fs_shl (k : Int) (fs_w32 (3 * (m : Int))))) n) := by
    unfold fs_dig fs_and
    exact fs_I_in _
  have i2 : fs_in32 (if (n : Int) = m then (k : Int) else fs_dig v n) := by
    split
    · unfold fs_in32; omega
    · unfold fs_dig fs_and
      exact fs_I_in _
  exact (fs_eq32 i1 i2).1 key
theorem fs_dig_0 : ∀ n : Nat, n < 6 → fs_dig 0 (n : Int) = 0 := by decide +kernel
