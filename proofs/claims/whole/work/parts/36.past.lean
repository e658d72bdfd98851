-- ===== what is remembered: the class's ring, the model's row =====
theorem fs_remP {n m : Int} (h0 : 0 ≤ n) (h1 : n < 2147483648) (m0 : 0 < m) (m1 : m < 2147483648) : fs_rem n m = n % m := by
  have en : (Int32.ofInt n).toInt = n := by rw [Int32.toInt_ofInt]; exact fs_w32_of (by omega) (by omega)
  have ed : (Int32.ofInt n / Int32.ofInt m).toInt = n / m := fs_divP h0 h1 m0 m1
  have em : (Int32.ofInt m).toInt = m := by rw [Int32.toInt_ofInt]; exact fs_w32_of (by omega) (by omega)
  show (Int32.ofInt n - Int32.ofInt n / Int32.ofInt m * Int32.ofInt m).toInt = _
  rw [Int32.toInt_sub, Int32.toInt_mul, en, ed, em]
  have hr := Int.emod_nonneg n (show m ≠ 0 by omega)
  have hl := Int.emod_lt_of_pos n m0
  have hs := Int.mul_ediv_add_emod n m
  have hc : m * (n / m) = n / m * m := Int.mul_comm _ _
  have e1 : (n / m * m).bmod (2 ^ 32) = n / m * m := fs_w32_of (by omega) (by omega)
  rw [e1]
  have e2 : (n - n / m * m).bmod (2 ^ 32) = n - n / m * m := fs_w32_of (by omega) (by omega)
  rw [e2]
  omega
theorem fs_rp.cp {M M2 : fs_M} {p b p2 b2 : Int} (hB : M 1 9 ≤ 3) (h : fs_rp M p b) (hc : fs_pcp M2 p2 M p) (hm : fs_mcp M2 b2 M b) (h9 : M2 1 9 = M 1 9) (h5 : M2 1 5 = M 1 5) : fs_rp M2 p2 b2 := by
  obtain ⟨a1, a2, a3⟩ := h
  obtain ⟨c1, c2, c3⟩ := hc
  obtain ⟨m1, m2, m3, m4⟩ := hm
  refine ⟨by rw [c1, m1]; exact a1, by rw [c2, m2]; exact a2, fun d d0 d1 => ?_⟩
  rw [h9] at d1
  obtain ⟨x1, x2, x3, x4⟩ := a3 d d0 d1
  obtain ⟨y1, y2⟩ := c3 d d0 (by omega)
  rw [y1, m3 d d0 (by omega)]
  refine ⟨x1, x2, x3, fun k k0 k1 => ?_⟩
  obtain ⟨z1, z2, z3⟩ := x4 k k0 k1
  have e := m4 (9 * d + k) (by omega) (by omega)
  rw [y2 k k0 (by omega), h5, show 27 * b2 + 9 * d + k = 27 * b2 + (9 * d + k) by omega, e, show 27 * b + (9 * d + k) = 27 * b + 9 * d + k by omega]
  exact ⟨z1, z2, z3⟩
def fs_slot (o j : Int) : Int := 97 + 6 * ((o + j) % 20)
theorem fs_slot_O {o j : Int} : fs_isO 6 (fs_slot o j) := by
  have h : ∀ i : Fin 20, fs_isO 6 (97 + 6 * (i.val : Int)) := by
    intro i
    refine ⟨by omega, ?_⟩
    have : ∀ i : Fin 20, fs_kinds[(97 + 6 * (i.val : Int)).toNat]? = some (.inl 6) := by decide +kernel
    exact this i
  have r := h ⟨((o + j) % 20).toNat, by omega⟩
  dsimp only at r
  rw [show ((((o + j) % 20).toNat : Nat) : Int) = (o + j) % 20 by omega] at r
  exact r
theorem fs_slot_b (o j : Int) : 97 ≤ fs_slot o j ∧ fs_slot o j ≤ 211 := by
  unfold fs_slot
  omega
theorem fs_slot_ne {o i j : Int} (h0 : 0 ≤ i) (h1 : i < j) (h2 : j < 20) : fs_slot o i + 6 ≤ fs_slot o j ∨ fs_slot o j + 6 ≤ fs_slot o i := by
  unfold fs_slot
  omega
def fs_FPa (o k : Int) : Prop := (o = 95 ∧ (k = 1 ∨ k = 2)) ∨ (97 ≤ o ∧ o ≤ 216)
def fs_pL (len : Int) : Int := if len = 20 then 19 else len
def fs_pO (o len : Int) : Int := if len = 20 then (o + 1) % 20 else o
def fs_pS (len : Int) : Int := if len = 20 then 1 else 0
theorem fs_pcp_rf {M M' : fs_M} {p : Int} (h : ∀ o k, p ≤ o → o ≤ p + 5 → M' o k = M o k) : fs_pcp M' p M p := ⟨h p 2 (by omega) (by omega), h p 3 (by omega) (by omega), fun d d0 d1 => ⟨h _ d (by omega) (by omega), fun k _ _ => h _ k (by omega) (by omega)⟩⟩
section PAST
variable {g : fs_G}
theorem sp_remember {M : fs_M} {K : fs_K} (h0 : 0 ≤ M 95 1) (h1 : M 95 1 < 20) (h2 : 0 ≤ M 95 2) (h3 : M 95 2 ≤ 20)
    (hK : ∀ M', fs_out fs_FPa M M' → M' 95 1 = fs_pO (M 95 1) (M 95 2) → M' 95 2 = fs_pL (M 95 2) + 1 → fs_pcp M' (fs_slot (fs_pO (M 95 1) (M 95 2)) (fs_pL (M 95 2))) M 31 → (∀ j, 0 ≤ j → j < fs_pL (M 95 2) → fs_pcp M' (fs_slot (fs_pO (M 95 1) (M 95 2)) j) M (fs_slot (fs_pO (M 95 1) (M 95 2)) j)) → K none M') : fs_C2 g m_Past_remember 2 [fs_r 95, fs_r 31] M K := by
  have l32 : ∀ M1, (∀ o k, o ≠ 95 → M1 o k = M o k) → (∀ k, k ≠ 1 → k ≠ 2 → M1 95 k = M 95 k) → M1 95 1 = fs_pO (M 95 1) (M 95 2) → M1 95 2 = fs_pL (M 95 2) → fs_A2 g m_Past_remember 2 32 [(0, fs_r 95), (1, fs_r 31)] [] M1 K := by
    intro M1 r1 r95 e1 e2
    generalize hO : fs_pO (M 95 1) (M 95 2) = O at *
    generalize hL : fs_pL (M 95 2) = L at *
    have bO : 0 ≤ O ∧ O < 20 := by
      rw [← hO]
      unfold fs_pO
      split <;> omega
    have bL : 0 ≤ L ∧ L < 20 := by
      rw [← hL]
      unfold fs_pL
      split <;> omega
    refine L_Past_remember_32 io_31 ?_
    rw [e1, e2, fs_w32_of (by omega) (by omega), fs_remP (by omega) (by omega) (by decide) (by decide)]
    refine ⟨by omega, by omega, ?_⟩
    have sb := fs_slot_b O L
    refine sp_copyFrom (p := fs_slot O L) (q := 31) fs_slot_O io_31 (by omega) (fun M2 o2 c2 => ⟨rfl, ?_⟩)
    have q2 : ∀ o k, (o < fs_slot O L ∨ fs_slot O L + 5 < o) → M2 o k = M1 o k := fun o k a => o2 o k (by unfold fs_plc; omega)
    rw [q2 95 2 (by omega), e2, fs_w32_of (by omega) (by omega)]
    have q3 : ∀ o k, o ≠ 95 → fs_st M2 95 2 (L + 1) o k = M2 o k := fun o k a => fs_st_o a
    refine hK _ (fun o k nF => ?_) (by rw [fs_st_k (by decide), q2 95 1 (by omega), e1]) (by rw [fs_st_s]) ?_ (fun j j0 j1 => ?_)
    · by_cases c : o = 95
      · rw [c] at nF ⊢
        rw [fs_st_k (by unfold fs_FPa at nF; omega), q2 95 k (by omega)]
        exact r95 k (by unfold fs_FPa at nF; omega) (by unfold fs_FPa at nF; omega)
      · rw [q3 o k c, q2 o k (by unfold fs_FPa at nF; omega)]
        exact r1 o k c
    · obtain ⟨x1, x2, x3⟩ := c2
      refine ⟨by rw [q3 _ _ (by omega), x1, r1 _ _ (by decide)], by rw [q3 _ _ (by omega), x2, r1 _ _ (by decide)], fun d d0 d1 => ?_⟩
      obtain ⟨y1, y2⟩ := x3 d d0 d1
      rw [q3 _ _ (by omega), y1, r1 _ _ (by decide)]
      refine ⟨rfl, fun k k0 k1 => ?_⟩
      rw [q3 _ _ (by omega), y2 k k0 k1, r1 _ _ (by omega)]
    · have ne := fs_slot_ne (o := O) j0 j1 bL.2
      have sj := fs_slot_b O j
      refine fs_pcp_rf (fun o k a b => ?_)
      rw [q3 o k (by omega), q2 o k (by omega), r1 o k (by omega)]
  refine E_Past_remember io_31 ⟨fun z => l32 M (fun _ _ _ => rfl) (fun _ _ _ => rfl) ?_ ?_, fun z => ?_⟩
  · unfold fs_pO
    rw [if_neg z]
  · unfold fs_pL
    rw [if_neg z]
  · rw [fs_w32_of (by omega) (by omega), fs_w32_of (by omega) (by omega), fs_remP (by omega) (by omega) (by decide) (by decide)]
    refine l32 _ (fun o k a => by rw [fs_st_o a, fs_st_o a]) (fun k a b => by rw [fs_st_k b, fs_st_k a]) ?_ ?_
    · rw [fs_st_k (by decide), fs_st_s]
      unfold fs_pO
      rw [if_pos z]
    · rw [fs_st_s, z]
      rfl
def fs_FK (o k : Int) : Prop := (o = 241 ∧ 54 ≤ k) ∨ (o = 242 ∧ 6 ≤ k) ∨ ((o = 243 ∨ o = 244) ∧ 2 ≤ k) ∨ (o = 226 ∧ k = 38)
theorem fs_mcp.tr {A B C : fs_M} {a b c : Int} (h : fs_mcp A a B b) (h2 : fs_mcp B b C c) : fs_mcp A a C c := by
  obtain ⟨x1, x2, x3, x4⟩ := h
  obtain ⟨y1, y2, y3, y4⟩ := h2
  exact ⟨x1.trans y1, x2.trans y2, fun d d0 d1 => (x3 d d0 d1).trans (y3 d d0 d1), fun k k0 k1 => (x4 k k0 k1).trans (y4 k k0 k1)⟩
theorem fs_mlc_o {M M' : fs_M} {b c : Int} (h : fs_out (fs_mlc b) M M') (hd : b ≠ c) : fs_mcp M' c M c := ⟨h _ _ (by unfold fs_mlc; omega), h _ _ (by unfold fs_mlc; omega), fun d d0 d1 => h _ _ (by unfold fs_mlc; omega), fun k k0 k1 => h _ _ (by unfold fs_mlc; omega)⟩
theorem fs_mlc_FK {b o k : Int} (hb : 2 ≤ b) (h : fs_mlc b o k) : fs_FK o k := by
  unfold fs_mlc at h
  unfold fs_FK
  omega
theorem fs_mcp_st {M : fs_M} {o k v b : Int} (h : o = 226) : fs_mcp (fs_st M o k v) b M b := ⟨fs_st_o (by omega), fs_st_o (by omega), fun d d0 d1 => fs_st_o (by omega), fun k k0 k1 => fs_st_o (by omega)⟩
theorem fs_mcp_rf {M : fs_M} {b : Int} : fs_mcp M b M b := ⟨rfl, rfl, fun _ _ _ => rfl, fun _ _ _ => rfl⟩
theorem sp_keepNow {M : fs_M} {K : fs_K} {len : Int} (hl : M 226 38 = len) (h2 : 0 ≤ len) (h3 : len ≤ 20)
    (hK : ∀ M', fs_out fs_FK M M' → M' 226 38 = fs_pL len + 1 → fs_mcp M' (2 + fs_pL len) M 0 → (∀ j, 0 ≤ j → j < fs_pL len → fs_mcp M' (2 + j) M (2 + (j + fs_pS len))) → K none M') : fs_C2 g m_Mo_keepNow 2 [fs_r 226] M K := by
  have l45 : ∀ M1, fs_out fs_FK M M1 → M1 226 38 = fs_pL len → fs_mcp M1 0 M 0 → (∀ j, 0 ≤ j → j < fs_pL len → fs_mcp M1 (2 + j) M (2 + (j + fs_pS len))) → fs_A2 g m_Mo_keepNow 2 45 [(0, fs_r 226)] [] M1 K := by
    intro M1 o1 e1 c0 cj
    have bL : 0 ≤ fs_pL len ∧ fs_pL len < 20 := by
      unfold fs_pL
      split <;> omega
    refine L_Mo_keepNow_45 ?_
    rw [e1, fs_w32_of (by omega) (by omega)]
    refine sp_copies (by omega) (by omega) (by decide) (by decide) (by omega) (fun M2 o2 c2 => ⟨rfl, ?_⟩)
    rw [o2 226 38 (by unfold fs_mlc; omega), e1, fs_w32_of (by omega) (by omega)]
    refine hK _ ((o1.tr (o2.wk (fun _ _ q => fs_mlc_FK (by omega) q))).st (by unfold fs_FK; omega)) (by rw [fs_st_s]) ((fs_mcp_st rfl).tr (c2.tr c0)) (fun j j0 j1 => (fs_mcp_st rfl).tr ((fs_mlc_o o2 (by omega)).tr (cj j j0 j1)))
  refine E_Mo_keepNow ⟨fun z => l45 M fs_out.rf ?_ fs_mcp_rf (fun j j0 j1 => ?_), fun z => ?_⟩
  · rw [hl]
    unfold fs_pL
    rw [if_neg (by omega)]
  · unfold fs_pS
    rw [if_neg (by omega), Int.add_zero]
    exact fs_mcp_rf
  · have e20 : len = 20 := by omega
    subst e20
    have loop : ∀ (n : Nat) (i : Int) (M1 : fs_M), 1 ≤ i → i ≤ 20 → 20 - i = n → fs_out fs_FK M M1 → M1 226 38 = 20 → fs_mcp M1 0 M 0 → (∀ j, 0 ≤ j → j < i - 1 → fs_mcp M1 (2 + j) M (2 + (j + 1))) → (∀ j, i ≤ j → j < 20 → fs_mcp M1 (2 + j) M (2 + j)) → fs_A2 g m_Mo_keepNow 2 11 [(0, fs_r 226), (1, fs_i i)] [] M1 K := by
      intro n
      induction n with
      | zero =>
        intro i M1 i0 i1 hn o1 e1 c0 ca cb
        refine L_Mo_keepNow_11 ⟨fun _ => ?_, fun w => absurd w (by omega)⟩
        rw [e1]
        refine l45 _ (o1.st (by unfold fs_FK; omega)) (by rw [fs_st_s]; rfl) ((fs_mcp_st rfl).tr c0) (fun j j0 j1 => (fs_mcp_st rfl).tr (ca j j0 ?_))
        have j1' : j < 19 := j1
        omega
      | succ n ih =>
        intro i M1 i0 i1 hn o1 e1 c0 ca cb
        refine L_Mo_keepNow_11 ⟨fun w => absurd w (by omega), fun _ => ?_⟩
        rw [show fs_w32 (2 + i) = 2 + i from fs_w32_of (by omega) (by omega), show fs_w32 (2 + i - 1) = 2 + (i - 1) by rw [fs_w32_of (by omega) (by omega)]; omega]
        refine sp_copies (by omega) (by omega) (by omega) (by omega) (by omega) (fun M2 o2 c2 => ⟨rfl, ?_⟩)
        rw [fs_w32_of (by omega) (by omega)]
        refine ih (i + 1) M2 (by omega) (by omega) (by omega) (o1.tr (o2.wk (fun _ _ q => fs_mlc_FK (by omega) q))) (by rw [o2 226 38 (by unfold fs_mlc; omega)]; exact e1) ((fs_mlc_o o2 (by omega)).tr c0) (fun j j0 j1 => ?_) (fun j j0 j1 => (fs_mlc_o o2 (by omega)).tr (cb j (by omega) j1))
        by_cases c : j = i - 1
        · rw [c, show i - 1 + 1 = i by omega]
          exact c2.tr (cb i (by omega) (by omega))
        · exact (fs_mlc_o o2 (by omega)).tr (ca j j0 (by omega))
    exact loop 19 1 M (by decide) (by decide) (by decide) fs_out.rf z fs_mcp_rf (fun j j0 j1 => by omega) (fun j j0 j1 => fs_mcp_rf)
/-- the whole past, the same for both -/
def fs_pr (M : fs_M) : Prop := 0 ≤ M 95 1 ∧ M 95 1 < 20 ∧ 0 ≤ M 95 2 ∧ M 95 2 ≤ 20 ∧ M 226 38 = M 95 2 ∧ fs_rp M 31 0 ∧ ∀ j, 0 ≤ j → j < M 95 2 → fs_rp M (fs_slot (M 95 1) j) (2 + j)
end PAST
