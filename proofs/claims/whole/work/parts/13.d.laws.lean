-- ===== printed by program (wip/whole/gen12.py): what must hold at a method's entry, at its labels =====
section WALK
variable {g : fs_G}
set_option maxRecDepth 8000 in
set_option maxHeartbeats 4000000 in
theorem E_Laws_clear {M : fs_M} {K : fs_K} {x0 : Int} (h0 : fs_isO 3 x0) 
    (h : fs_A2 g m_Laws_clear 1 7 [(0, fs_r x0), (1, fs_i 0)] [] (fs_st M x0 2 0) K) :
    fs_C2 g m_Laws_clear 1 [fs_r x0] M K := by
  refine b_enter2 (ls := [(0, fs_r x0)]) (plainFor_of_name pn_Laws) (Nat.le_of_ble_eq_true rfl) rfl ?_
  refine a_aload_n (j := 0) d_Laws_clear_0 rfl rfl ?_
  refine a_iconst d_Laws_clear_1 (by unfold fs_in32; omega) ?_
  refine b_putfield (x := 0) d_Laws_clear_2 fl_Laws_21 h0 rfl rfl fs_nar_int ?_
  refine a_iconst d_Laws_clear_5 (by unfold fs_in32; omega) ?_
  refine a_istore_n d_Laws_clear_6 rfl (Nat.le_of_ble_eq_true rfl) [1, 0] rfl ?_
  exact h
set_option maxRecDepth 8000 in
set_option maxHeartbeats 4000000 in
theorem L_Laws_clear_7 {M : fs_M} {K : fs_K} {x0 x1 : Int} (h0 : fs_isO 3 x0) 
    (h : ((4 ≤ x1 → K none M) ∧ (¬ 4 ≤ x1 → (0 ≤ x1 ∧ fs_A2 g m_Laws_clear 1 7 [(0, fs_r x0), (1, fs_i (fs_w32 (x1 + 1)))] [] (fs_st (fs_st M (x0 + 3) x1 0) (x0 + 4) x1 0) K)))) :
    fs_A2 g m_Laws_clear 1 7 [(0, fs_r x0), (1, fs_i x1)] [] M K := by
  refine a_iload_n (j := 1) d_Laws_clear_7 rfl rfl ?_
  refine a_iconst d_Laws_clear_8 (by unfold fs_in32; omega) ?_
  refine a_icmp_ge (tgt := 32) d_Laws_clear_9 rfl (fun c1 => ?_) (fun c1 => ?_)
  · have h := h.1 c1
    exact b_return d_Laws_clear_32 rfl h
  · have h := h.2 c1
    refine a_aload_n (j := 0) d_Laws_clear_12 rfl rfl ?_
    refine b_getptr (q := x0 + 3) d_Laws_clear_13 fl_Laws_25 h0 rfl rfl rfl ?_
    refine a_iload_n (j := 1) d_Laws_clear_16 rfl rfl ?_
    refine a_iconst d_Laws_clear_17 (by unfold fs_in32; omega) ?_
    obtain ⟨o2, h⟩ := h
    refine b_iastore d_Laws_clear_18 (pk_3_3 h0) o2 (by omega : x1 < 4) ?_
    refine a_aload_n (j := 0) d_Laws_clear_19 rfl rfl ?_
    refine b_getptr (q := x0 + 4) d_Laws_clear_20 fl_Laws_28 h0 rfl rfl rfl ?_
    refine a_iload_n (j := 1) d_Laws_clear_23 rfl rfl ?_
    refine a_iconst d_Laws_clear_24 (by unfold fs_in32; omega) ?_
    refine b_iastore d_Laws_clear_25 (pk_3_4 h0) o2 (by omega : x1 < 4) ?_
    refine a_iinc (j := 1) d_Laws_clear_26 rfl (Nat.le_of_ble_eq_true rfl) [1, 0] rfl ?_
    refine a_goto (tgt := 7) d_Laws_clear_29 rfl ?_
    exact h
set_option maxRecDepth 8000 in
set_option maxHeartbeats 4000000 in
theorem E_Laws_isTold {M : fs_M} {K : fs_K} {x0 x1 : Int} (h0 : fs_isO 3 x0) 
    (h : (0 ≤ x1 ∧ x1 < 4 ∧ ((M (x0 + 4) x1 ≤ M (x0 + 3) x1 → K (some (fs_i 0)) M) ∧ (¬ M (x0 + 4) x1 ≤ M (x0 + 3) x1 → K (some (fs_i 1)) M)))) :
    fs_C2 g m_Laws_isTold 1 [fs_r x0, fs_i x1] M K := by
  refine b_enter2 (ls := [(0, fs_r x0), (1, fs_i x1)]) (plainFor_of_name pn_Laws) (Nat.le_of_ble_eq_true rfl) rfl ?_
  refine a_aload_n (j := 0) d_Laws_isTold_0 rfl rfl ?_
  refine b_getptr (q := x0 + 4) d_Laws_isTold_1 fl_Laws_28 h0 rfl rfl rfl ?_
  refine a_iload_n (j := 1) d_Laws_isTold_4 rfl rfl ?_
  obtain ⟨o1, o2, h⟩ := h
  refine b_iaload (v := M (x0 + 4) x1) d_Laws_isTold_5 (pk_3_4 h0) o1 o2 rfl ?_
  refine a_aload_n (j := 0) d_Laws_isTold_6 rfl rfl ?_
  refine b_getptr (q := x0 + 3) d_Laws_isTold_7 fl_Laws_25 h0 rfl rfl rfl ?_
  refine a_iload_n (j := 1) d_Laws_isTold_10 rfl rfl ?_
  refine b_iaload (v := M (x0 + 3) x1) d_Laws_isTold_11 (pk_3_3 h0) o1 o2 rfl ?_
  refine a_icmp_le (tgt := 19) d_Laws_isTold_12 rfl (fun c3 => ?_) (fun c3 => ?_)
  · have h := h.1 c3
    refine a_iconst d_Laws_isTold_19 (by unfold fs_in32; omega) ?_
    exact b_ireturn d_Laws_isTold_20 rfl (fs_nar01 (Or.inl rfl)) h
  · have h := h.2 c3
    refine a_iconst d_Laws_isTold_15 (by unfold fs_in32; omega) ?_
    refine a_goto (tgt := 20) d_Laws_isTold_16 rfl ?_
    exact b_ireturn d_Laws_isTold_20 rfl (fs_nar01 (Or.inr rfl)) h
set_option maxRecDepth 8000 in
set_option maxHeartbeats 4000000 in
theorem E_Laws_add {M : fs_M} {K : fs_K} {x0 x1 x2 : Int} (h0 : fs_isO 3 x0) (h1 : fs_tk x1) 
    (h : ((64 ≤ M x0 2 → K none M) ∧ (¬ 64 ≤ M x0 2 → (0 ≤ M x0 2 ∧ (0 ≤ (fs_st M (x0 + 1) (M x0 2) x1) x0 2 ∧ (fs_st M (x0 + 1) (M x0 2) x1) x0 2 < 64 ∧ K none (fs_st (fs_st (fs_st M (x0 + 1) (M x0 2) x1) (x0 + 2) ((fs_st M (x0 + 1) (M x0 2) x1) x0 2) x2) x0 2 (fs_w32 (((fs_st (fs_st M (x0 + 1) (M x0 2) x1) (x0 + 2) ((fs_st M (x0 + 1) (M x0 2) x1) x0 2) x2) x0 2) + 1)))))))) :
    fs_C2 g m_Laws_add 1 [fs_r x0, fs_r x1, fs_i x2] M K := by
  refine b_enter2 (ls := [(0, fs_r x0), (1, fs_r x1), (2, fs_i x2)]) (plainFor_of_name pn_Laws) (Nat.le_of_ble_eq_true rfl) rfl ?_
  refine a_aload_n (j := 0) d_Laws_add_0 rfl rfl ?_
  refine b_getfield (v := fs_i (M x0 2)) d_Laws_add_1 fl_Laws_21 h0 rfl ?_
  refine a_bipush d_Laws_add_4 (by decide) ?_
  refine a_icmp_ge (tgt := 39) d_Laws_add_6 rfl (fun c1 => ?_) (fun c1 => ?_)
  · have h := h.1 c1
    exact b_return d_Laws_add_39 rfl h
  · have h := h.2 c1
    refine a_aload_n (j := 0) d_Laws_add_9 rfl rfl ?_
    refine b_getptr (q := x0 + 1) d_Laws_add_10 fl_Laws_11 h0 rfl rfl rfl ?_
    refine a_aload_n (j := 0) d_Laws_add_13 rfl rfl ?_
    refine b_getfield (v := fs_i (M x0 2)) d_Laws_add_14 fl_Laws_21 h0 rfl ?_
    refine a_aload_n (j := 1) d_Laws_add_17 rfl rfl ?_
    obtain ⟨o2, h⟩ := h
    refine b_aastok d_Laws_add_18 (pk_3_1 h0) o2 (by omega : M x0 2 < 64) h1 ?_
    refine a_aload_n (j := 0) d_Laws_add_19 rfl rfl ?_
    refine b_getptr (q := x0 + 2) d_Laws_add_20 fl_Laws_17 h0 rfl rfl rfl ?_
    refine a_aload_n (j := 0) d_Laws_add_23 rfl rfl ?_
    refine b_getfield (v := fs_i ((fs_st M (x0 + 1) (M x0 2) x1) x0 2)) d_Laws_add_24 fl_Laws_21 h0 rfl ?_
    refine a_iload_n (j := 2) d_Laws_add_27 rfl rfl ?_
    obtain ⟨o3, o4, h⟩ := h
    refine b_iastore d_Laws_add_28 (pk_3_2 h0) o3 o4 ?_
    refine a_aload_n (j := 0) d_Laws_add_29 rfl rfl ?_
    refine a_dup d_Laws_add_30 rfl ?_
    refine b_getfield (v := fs_i ((fs_st (fs_st M (x0 + 1) (M x0 2) x1) (x0 + 2) ((fs_st M (x0 + 1) (M x0 2) x1) x0 2) x2) x0 2)) d_Laws_add_31 fl_Laws_21 h0 rfl ?_
    refine a_iconst d_Laws_add_34 (by unfold fs_in32; omega) ?_
    refine a_iadd d_Laws_add_35 ?_
    refine b_putfield (x := (fs_w32 (((fs_st (fs_st M (x0 + 1) (M x0 2) x1) (x0 + 2) ((fs_st M (x0 + 1) (M x0 2) x1) x0 2) x2) x0 2) + 1))) d_Laws_add_36 fl_Laws_21 h0 rfl rfl fs_nar_int ?_
    exact b_return d_Laws_add_39 rfl h
set_option maxRecDepth 8000 in
set_option maxHeartbeats 4000000 in
theorem E_Laws_copyFrom {M : fs_M} {K : fs_K} {x0 x1 : Int} (h0 : fs_isO 3 x0) (h1 : fs_isO 3 x1) 
    (h : fs_A2 g m_Laws_copyFrom 1 10 [(0, fs_r x0), (1, fs_r x1), (2, fs_i 0)] [] (fs_st M x0 2 (M x1 2)) K) :
    fs_C2 g m_Laws_copyFrom 1 [fs_r x0, fs_r x1] M K := by
  refine b_enter2 (ls := [(0, fs_r x0), (1, fs_r x1)]) (plainFor_of_name pn_Laws) (Nat.le_of_ble_eq_true rfl) rfl ?_
  refine a_aload_n (j := 0) d_Laws_copyFrom_0 rfl rfl ?_
  refine a_aload_n (j := 1) d_Laws_copyFrom_1 rfl rfl ?_
  refine b_getfield (v := fs_i (M x1 2)) d_Laws_copyFrom_2 fl_Laws_21 h1 rfl ?_
  refine b_putfield (x := (M x1 2)) d_Laws_copyFrom_5 fl_Laws_21 h0 rfl rfl fs_nar_int ?_
  refine a_iconst d_Laws_copyFrom_8 (by unfold fs_in32; omega) ?_
  refine a_istore_n d_Laws_copyFrom_9 rfl (Nat.le_of_ble_eq_true rfl) [1, 2, 0] rfl ?_
  exact h
set_option maxRecDepth 8000 in
set_option maxHeartbeats 4000000 in
theorem L_Laws_copyFrom_10 {M : fs_M} {K : fs_K} {x0 x1 x2 : Int} (h0 : fs_isO 3 x0) (h1 : fs_isO 3 x1) 
    (h : ((M x0 2 ≤ x2 → K none (fs_cpy (fs_cpy M (x1 + 3) 0 (x0 + 3) 0 4) (x1 + 4) 0 (x0 + 4) 0 4)) ∧ (¬ M x0 2 ≤ x2 → (0 ≤ x2 ∧ x2 < 64 ∧ (fs_tk (M (x1 + 1) x2) ∧ fs_A2 g m_Laws_copyFrom 1 10 [(0, fs_r x0), (1, fs_r x1), (2, fs_i (fs_w32 (x2 + 1)))] [] (fs_st (fs_st M (x0 + 1) x2 (M (x1 + 1) x2)) (x0 + 2) x2 ((fs_st M (x0 + 1) x2 (M (x1 + 1) x2)) (x1 + 2) x2)) K))))) :
    fs_A2 g m_Laws_copyFrom 1 10 [(0, fs_r x0), (1, fs_r x1), (2, fs_i x2)] [] M K := by
  refine a_iload_n (j := 2) d_Laws_copyFrom_10 rfl rfl ?_
  refine a_aload_n (j := 0) d_Laws_copyFrom_11 rfl rfl ?_
  refine b_getfield (v := fs_i (M x0 2)) d_Laws_copyFrom_12 fl_Laws_21 h0 rfl ?_
  refine a_icmp_ge (tgt := 48) d_Laws_copyFrom_15 rfl (fun c1 => ?_) (fun c1 => ?_)
  · have h := h.1 c1
    refine a_aload_n (j := 1) d_Laws_copyFrom_48 rfl rfl ?_
    refine b_getptr (q := x1 + 3) d_Laws_copyFrom_49 fl_Laws_25 h1 rfl rfl rfl ?_
    refine a_iconst d_Laws_copyFrom_52 (by unfold fs_in32; omega) ?_
    refine a_aload_n (j := 0) d_Laws_copyFrom_53 rfl rfl ?_
    refine b_getptr (q := x0 + 3) d_Laws_copyFrom_54 fl_Laws_25 h0 rfl rfl rfl ?_
    refine a_iconst d_Laws_copyFrom_57 (by unfold fs_in32; omega) ?_
    refine a_iconst d_Laws_copyFrom_58 (by unfold fs_in32; omega) ?_
    refine b_arraycopy d_Laws_copyFrom_59 sy_Laws_60 (pk_3_3 h1) (pk_3_3 h0) (by decide) (by decide) (by decide) (by decide) (by decide) (Nat.le_of_ble_eq_true rfl) (Nat.le_of_ble_eq_true rfl) ?_
    refine a_aload_n (j := 1) d_Laws_copyFrom_62 rfl rfl ?_
    refine b_getptr (q := x1 + 4) d_Laws_copyFrom_63 fl_Laws_28 h1 rfl rfl rfl ?_
    refine a_iconst d_Laws_copyFrom_66 (by unfold fs_in32; omega) ?_
    refine a_aload_n (j := 0) d_Laws_copyFrom_67 rfl rfl ?_
    refine b_getptr (q := x0 + 4) d_Laws_copyFrom_68 fl_Laws_28 h0 rfl rfl rfl ?_
    refine a_iconst d_Laws_copyFrom_71 (by unfold fs_in32; omega) ?_
    refine a_iconst d_Laws_copyFrom_72 (by unfold fs_in32; omega) ?_
    refine b_arraycopy d_Laws_copyFrom_73 sy_Laws_60 (pk_3_4 h1) (pk_3_4 h0) (by decide) (by decide) (by decide) (by decide) (by decide) (Nat.le_of_ble_eq_true rfl) (Nat.le_of_ble_eq_true rfl) ?_
    exact b_return d_Laws_copyFrom_76 rfl h
  · have h := h.2 c1
    refine a_aload_n (j := 0) d_Laws_copyFrom_18 rfl rfl ?_
    refine b_getptr (q := x0 + 1) d_Laws_copyFrom_19 fl_Laws_11 h0 rfl rfl rfl ?_
    refine a_iload_n (j := 2) d_Laws_copyFrom_22 rfl rfl ?_
    refine a_aload_n (j := 1) d_Laws_copyFrom_23 rfl rfl ?_
    refine b_getptr (q := x1 + 1) d_Laws_copyFrom_24 fl_Laws_11 h1 rfl rfl rfl ?_
    refine a_iload_n (j := 2) d_Laws_copyFrom_27 rfl rfl ?_
    obtain ⟨o2, o3, h⟩ := h
    refine b_aaload (v := M (x1 + 1) x2) d_Laws_copyFrom_28 (pk_3_1 h1) (by decide) o2 o3 rfl ?_
    obtain ⟨o4, h⟩ := h
    refine b_aastok d_Laws_copyFrom_29 (pk_3_1 h0) o2 o3 o4 ?_
    refine a_aload_n (j := 0) d_Laws_copyFrom_30 rfl rfl ?_
    refine b_getptr (q := x0 + 2) d_Laws_copyFrom_31 fl_Laws_17 h0 rfl rfl rfl ?_
    refine a_iload_n (j := 2) d_Laws_copyFrom_34 rfl rfl ?_
    refine a_aload_n (j := 1) d_Laws_copyFrom_35 rfl rfl ?_
    refine b_getptr (q := x1 + 2) d_Laws_copyFrom_36 fl_Laws_17 h1 rfl rfl rfl ?_
    refine a_iload_n (j := 2) d_Laws_copyFrom_39 rfl rfl ?_
    refine b_iaload (v := (fs_st M (x0 + 1) x2 (M (x1 + 1) x2)) (x1 + 2) x2) d_Laws_copyFrom_40 (pk_3_2 h1) o2 o3 rfl ?_
    refine b_iastore d_Laws_copyFrom_41 (pk_3_2 h0) o2 o3 ?_
    refine a_iinc (j := 2) d_Laws_copyFrom_42 rfl (Nat.le_of_ble_eq_true rfl) [1, 2, 0] rfl ?_
    refine a_goto (tgt := 10) d_Laws_copyFrom_45 rfl ?_
    exact h
set_option maxRecDepth 8000 in
set_option maxHeartbeats 4000000 in
theorem E_Laws_walkTime {M : fs_M} {K : fs_K} {x0 x1 x2 x3 x4 x5 : Int} (h0 : fs_isO 3 x0) 
    (h : fs_C2 g m_Laws_putNames 1 [fs_r x0, fs_i x2, fs_i x3, fs_i x4, fs_i x5] M (fun v M1 => v = none ∧ fs_C2 g m_Math_abs_I 1 [fs_i x1] M1 (fun v M2 => ∃ r2, v = some (fs_i r2) ∧ ((x1 ≤ 0 → fs_A2 g m_Laws_walkTime 4 28 [(0, fs_r x0)] [fs_i 0, fs_r x0] (fs_st M2 x0 7 r2) K) ∧ (¬ x1 ≤ 0 → fs_A2 g m_Laws_walkTime 4 28 [(0, fs_r x0)] [fs_i 1, fs_r x0] (fs_st M2 x0 7 r2) K))))) :
    fs_C2 g m_Laws_walkTime 4 [fs_r x0, fs_i x1, fs_i x2, fs_i x3, fs_i x4, fs_i x5] M K := by
  refine b_enter2 (ls := [(0, fs_r x0), (1, fs_i x1), (2, fs_i x2), (3, fs_i x3), (4, fs_i x4), (5, fs_i x5)]) (plainFor_of_name pn_Laws) (Nat.le_of_ble_eq_true rfl) rfl ?_
  refine a_aload_n (j := 0) d_Laws_walkTime_0 rfl rfl ?_
  refine a_iload_n (j := 2) d_Laws_walkTime_1 rfl rfl ?_
  refine a_iload_n (j := 3) d_Laws_walkTime_2 rfl rfl ?_
  refine a_iload (j := 4) d_Laws_walkTime_3 rfl ?_
  refine a_iload (j := 5) d_Laws_walkTime_5 rfl ?_
  refine b_virtual (dc := 1) (ci := 3) (T := fs_T3) (N := 14) [fs_i x2, fs_i x3, fs_i x4, fs_i x5] [] d_Laws_walkTime_7 ml_Laws_66 k_Laws_putNames v_Laws_putNames rfl h0 rfl (Nat.le_of_ble_eq_true rfl) rfl (Nat.le_of_ble_eq_true rfl) ?_
  refine fs_Call.mono (fun v M1 hv => ?_) h
  obtain ⟨rfl, h⟩ := hv
  show fs_A2 g m_Laws_walkTime 4 10 [(0, fs_r x0), (1, fs_i x1), (2, fs_i x2), (3, fs_i x3), (4, fs_i x4), (5, fs_i x5)] [] M1 K
  refine a_aload_n (j := 0) d_Laws_walkTime_10 rfl rfl ?_
  refine a_iload_n (j := 1) d_Laws_walkTime_11 rfl rfl ?_
  refine b_static (dc := 1) [fs_i x1] [fs_r x0] d_Laws_walkTime_12 ml_Laws_70 k_Math_abs_I s_Math_abs_I rfl (Nat.le_of_ble_eq_true rfl) rfl (Nat.le_of_ble_eq_true rfl) ?_
  refine fs_Call.mono (fun v M2 hv => ?_) h
  obtain ⟨r2, rfl, h⟩ := hv
  show fs_A2 g m_Laws_walkTime 4 15 [(0, fs_r x0), (1, fs_i x1), (2, fs_i x2), (3, fs_i x3), (4, fs_i x4), (5, fs_i x5)] [fs_i r2, fs_r x0] M2 K
  refine b_putfield (x := r2) d_Laws_walkTime_15 fl_Laws_39 h0 rfl rfl fs_nar_int ?_
  refine a_aload_n (j := 0) d_Laws_walkTime_18 rfl rfl ?_
  refine a_iload_n (j := 1) d_Laws_walkTime_19 rfl rfl ?_
  refine a_if_le (tgt := 27) d_Laws_walkTime_20 rfl (fun c1 => ?_) (fun c1 => ?_)
  · have h := h.1 c1
    refine a_iconst d_Laws_walkTime_27 (by unfold fs_in32; omega) ?_
    refine a_sub [0] rfl ?_
    exact h
  · have h := h.2 c1
    refine a_iconst d_Laws_walkTime_23 (by unfold fs_in32; omega) ?_
    refine a_goto (tgt := 28) d_Laws_walkTime_24 rfl ?_
    refine a_sub [0] rfl ?_
    exact h
set_option maxRecDepth 8000 in
set_option maxHeartbeats 4000000 in
theorem L_Laws_walkTime_28 {M : fs_M} {K : fs_K} {x0 x100 x101 : Int} (h0 : fs_isO 3 x0) (h100 : fs_isO 3 x100) 
    (h : fs_C2 g m_Laws_isWorkedOut 3 [fs_r x0, fs_i 0] (fs_st M x100 8 x101) (fun v M3 => ∃ r3, v = some (fs_i r3) ∧ ((r3 = 0 → K (some (fs_i (M3 x0 7))) M3) ∧ (¬ r3 = 0 → fs_C2 g m_Laws_within 2 [fs_r x0, fs_i 240] M3 (fun v M4 => ∃ r4, v = some (fs_i r4) ∧ K (some (fs_i r4)) M4))))) :
    fs_A2 g m_Laws_walkTime 4 28 [(0, fs_r x0)] [fs_i x101, fs_r x100] M K := by
  refine b_putfield (x := x101) d_Laws_walkTime_28 fl_Laws_42 h100 rfl rfl fs_nar_int ?_
  refine a_aload_n (j := 0) d_Laws_walkTime_31 rfl rfl ?_
  refine a_iconst d_Laws_walkTime_32 (by unfold fs_in32; omega) ?_
  refine b_virtual (dc := 3) (ci := 3) (T := fs_T3) (N := 14) [fs_i 0] [] d_Laws_walkTime_33 ml_Laws_76 k_Laws_isWorkedOut v_Laws_isWorkedOut rfl h0 rfl (Nat.le_of_ble_eq_true rfl) rfl (Nat.le_of_ble_eq_true rfl) ?_
  refine fs_Call.mono (fun v M3 hv => ?_) h
  obtain ⟨r3, rfl, h⟩ := hv
  show fs_A2 g m_Laws_walkTime 4 36 [(0, fs_r x0)] [fs_i r3] M3 K
  refine a_if_eq (tgt := 49) d_Laws_walkTime_36 rfl (fun c2 => ?_) (fun c2 => ?_)
  · have h := h.1 c2
    refine a_aload_n (j := 0) d_Laws_walkTime_49 rfl rfl ?_
    refine b_getfield (v := fs_i (M3 x0 7)) d_Laws_walkTime_50 fl_Laws_39 h0 rfl ?_
    exact b_ireturn d_Laws_walkTime_53 rfl rfl h
  · have h := h.2 c2
    refine a_aload_n (j := 0) d_Laws_walkTime_39 rfl rfl ?_
    refine a_sipush d_Laws_walkTime_40 (by decide) ?_
    refine b_virtual (dc := 2) (ci := 3) (T := fs_T3) (N := 14) [fs_i 240] [] d_Laws_walkTime_43 ml_Laws_80 k_Laws_within v_Laws_within rfl h0 rfl (Nat.le_of_ble_eq_true rfl) rfl (Nat.le_of_ble_eq_true rfl) ?_
    refine fs_Call.mono (fun v M4 hv => ?_) h
    obtain ⟨r4, rfl, h⟩ := hv
    show fs_A2 g m_Laws_walkTime 4 46 [(0, fs_r x0)] [fs_i r4] M4 K
    refine a_goto (tgt := 53) d_Laws_walkTime_46 rfl ?_
    exact b_ireturn d_Laws_walkTime_53 rfl rfl h
set_option maxRecDepth 8000 in
set_option maxHeartbeats 4000000 in
theorem E_Laws_putNames {M : fs_M} {K : fs_K} {x0 x1 x2 x3 x4 : Int} (h0 : fs_isO 3 x0) 
    (h : K none (fs_st (fs_st (fs_st (fs_st (fs_st (fs_st (fs_st M x0 9 x1) x0 10 x2) x0 11 x3) x0 12 x4) x0 7 0) x0 8 0) x0 13 0)) :
    fs_C2 g m_Laws_putNames 1 [fs_r x0, fs_i x1, fs_i x2, fs_i x3, fs_i x4] M K := by
  refine b_enter2 (ls := [(0, fs_r x0), (1, fs_i x1), (2, fs_i x2), (3, fs_i x3), (4, fs_i x4)]) (plainFor_of_name pn_Laws) (Nat.le_of_ble_eq_true rfl) rfl ?_
  refine a_aload_n (j := 0) d_Laws_putNames_0 rfl rfl ?_
  refine a_iload_n (j := 1) d_Laws_putNames_1 rfl rfl ?_
  refine b_putfield (x := x1) d_Laws_putNames_2 fl_Laws_45 h0 rfl rfl fs_nar_int ?_
  refine a_aload_n (j := 0) d_Laws_putNames_5 rfl rfl ?_
  refine a_iload_n (j := 2) d_Laws_putNames_6 rfl rfl ?_
  refine b_putfield (x := x2) d_Laws_putNames_7 fl_Laws_48 h0 rfl rfl fs_nar_int ?_
  refine a_aload_n (j := 0) d_Laws_putNames_10 rfl rfl ?_
  refine a_iload_n (j := 3) d_Laws_putNames_11 rfl rfl ?_
  refine b_putfield (x := x3) d_Laws_putNames_12 fl_Laws_51 h0 rfl rfl fs_nar_int ?_
  refine a_aload_n (j := 0) d_Laws_putNames_15 rfl rfl ?_
  refine a_iload (j := 4) d_Laws_putNames_16 rfl ?_
  refine b_putfield (x := x4) d_Laws_putNames_18 fl_Laws_54 h0 rfl rfl fs_nar_int ?_
  refine a_aload_n (j := 0) d_Laws_putNames_21 rfl rfl ?_
  refine a_iconst d_Laws_putNames_22 (by unfold fs_in32; omega) ?_
  refine b_putfield (x := 0) d_Laws_putNames_23 fl_Laws_39 h0 rfl rfl fs_nar_int ?_
  refine a_aload_n (j := 0) d_Laws_putNames_26 rfl rfl ?_
  refine a_iconst d_Laws_putNames_27 (by unfold fs_in32; omega) ?_
  refine b_putfield (x := 0) d_Laws_putNames_28 fl_Laws_42 h0 rfl rfl fs_nar_int ?_
  refine a_aload_n (j := 0) d_Laws_putNames_31 rfl rfl ?_
  refine a_iconst d_Laws_putNames_32 (by unfold fs_in32; omega) ?_
  refine b_putfield (x := 0) d_Laws_putNames_33 fl_Laws_57 h0 rfl rfl fs_nar_int ?_
  exact b_return d_Laws_putNames_36 rfl h
set_option maxRecDepth 8000 in
set_option maxHeartbeats 4000000 in
theorem E_Laws_isWorkedOut {M : fs_M} {K : fs_K} {x0 x1 : Int} (h0 : fs_isO 3 x0) 
    (h : (0 ≤ x1 ∧ x1 < 4 ∧ fs_A2 g m_Laws_isWorkedOut 3 9 [(0, fs_r x0), (1, fs_i x1), (2, fs_i 0), (3, fs_i (M (x0 + 3) x1))] [] M K)) :
    fs_C2 g m_Laws_isWorkedOut 3 [fs_r x0, fs_i x1] M K := by
  refine b_enter2 (ls := [(0, fs_r x0), (1, fs_i x1)]) (plainFor_of_name pn_Laws) (Nat.le_of_ble_eq_true rfl) rfl ?_
  refine a_iconst d_Laws_isWorkedOut_0 (by unfold fs_in32; omega) ?_
  refine a_istore_n d_Laws_isWorkedOut_1 rfl (Nat.le_of_ble_eq_true rfl) [1, 2, 0] rfl ?_
  refine a_aload_n (j := 0) d_Laws_isWorkedOut_2 rfl rfl ?_
  refine b_getptr (q := x0 + 3) d_Laws_isWorkedOut_3 fl_Laws_25 h0 rfl rfl rfl ?_
  refine a_iload_n (j := 1) d_Laws_isWorkedOut_6 rfl rfl ?_
  obtain ⟨o1, o2, h⟩ := h
  refine b_iaload (v := M (x0 + 3) x1) d_Laws_isWorkedOut_7 (pk_3_3 h0) o1 o2 rfl ?_
  refine a_istore_n d_Laws_isWorkedOut_8 rfl (Nat.le_of_ble_eq_true rfl) [1, 2, 3, 0] rfl ?_
  exact h
set_option maxRecDepth 8000 in
set_option maxHeartbeats 4000000 in
theorem L_Laws_isWorkedOut_9 {M : fs_M} {K : fs_K} {x0 x1 x2 x3 : Int} (h0 : fs_isO 3 x0) 
    (h : (0 ≤ x1 ∧ x1 < 4 ∧ ((M (x0 + 4) x1 ≤ x3 → ((¬ x2 = 1 → K (some (fs_i 0)) (fs_st M x0 6 (M (x0 + 5) 0))) ∧ (x2 = 1 → K (some (fs_i 1)) (fs_st M x0 6 (M (x0 + 5) 0))))) ∧ (¬ M (x0 + 4) x1 ≤ x3 → (0 ≤ x3 ∧ x3 < 64 ∧ (fs_tk (M (x0 + 1) x3) ∧ ((¬ fs_lev (M (x0 + 1) x3) = 6 → fs_A2 g m_Laws_isWorkedOut 3 68 [(0, fs_r x0), (1, fs_i x1), (2, fs_i x2), (3, fs_i x3), (4, fs_r (M (x0 + 1) x3))] [] M K) ∧ (fs_lev (M (x0 + 1) x3) = 6 → ((64 ≤ x2 → fs_A2 g m_Laws_isWorkedOut 3 68 [(0, fs_r x0), (1, fs_i x1), (2, fs_i x2), (3, fs_i x3), (4, fs_r (M (x0 + 1) x3))] [] M K) ∧ (¬ 64 ≤ x2 → fs_C2 g m_Laws_valueOf 2 [fs_r x0, fs_r (M (x0 + 1) x3), fs_i (M (x0 + 2) x3)] M (fun v M1 => ∃ r1, v = some (fs_i r1) ∧ (0 ≤ x2 ∧ fs_A2 g m_Laws_isWorkedOut 3 9 [(0, fs_r x0), (1, fs_i x1), (2, fs_i (fs_w32 (x2 + 1))), (3, fs_i (fs_w32 (x3 + 1)))] [] (fs_st M1 (x0 + 5) x2 r1) K)))))))))))) :
    fs_A2 g m_Laws_isWorkedOut 3 9 [(0, fs_r x0), (1, fs_i x1), (2, fs_i x2), (3, fs_i x3)] [] M K := by
  refine a_iload_n (j := 3) d_Laws_isWorkedOut_9 rfl rfl ?_
  refine a_aload_n (j := 0) d_Laws_isWorkedOut_10 rfl rfl ?_
  refine b_getptr (q := x0 + 4) d_Laws_isWorkedOut_11 fl_Laws_28 h0 rfl rfl rfl ?_
  refine a_iload_n (j := 1) d_Laws_isWorkedOut_14 rfl rfl ?_
  obtain ⟨o3, o4, h⟩ := h
  refine b_iaload (v := M (x0 + 4) x1) d_Laws_isWorkedOut_15 (pk_3_4 h0) o3 o4 rfl ?_
  refine a_icmp_ge (tgt := 165) d_Laws_isWorkedOut_16 rfl (fun c5 => ?_) (fun c5 => ?_)
  · have h := h.1 c5
    refine a_aload_n (j := 0) d_Laws_isWorkedOut_165 rfl rfl ?_
    refine a_aload_n (j := 0) d_Laws_isWorkedOut_166 rfl rfl ?_
    refine b_getptr (q := x0 + 5) d_Laws_isWorkedOut_167 fl_Laws_31 h0 rfl rfl rfl ?_
    refine a_iconst d_Laws_isWorkedOut_170 (by unfold fs_in32; omega) ?_
    refine b_laload (v := M (x0 + 5) 0) d_Laws_isWorkedOut_171 (pk_3_5 h0) (by decide) (by decide) rfl ?_
    refine b_putfield (x := (M (x0 + 5) 0)) d_Laws_isWorkedOut_172 fl_Laws_35 h0 rfl rfl fs_nar_long ?_
    refine a_iload_n (j := 2) d_Laws_isWorkedOut_175 rfl rfl ?_
    refine a_iconst d_Laws_isWorkedOut_176 (by unfold fs_in32; omega) ?_
    refine a_icmp_ne (tgt := 184) d_Laws_isWorkedOut_177 rfl (fun c6 => ?_) (fun c6 => ?_)
    · have h := h.1 c6
      refine a_iconst d_Laws_isWorkedOut_184 (by unfold fs_in32; omega) ?_
      exact b_ireturn d_Laws_isWorkedOut_185 rfl (fs_nar01 (Or.inl rfl)) h
    · have h := h.2 c6
      refine a_iconst d_Laws_isWorkedOut_180 (by unfold fs_in32; omega) ?_
      refine a_goto (tgt := 185) d_Laws_isWorkedOut_181 rfl ?_
      exact b_ireturn d_Laws_isWorkedOut_185 rfl (fs_nar01 (Or.inr rfl)) h
  · have h := h.2 c5
    refine a_aload_n (j := 0) d_Laws_isWorkedOut_19 rfl rfl ?_
    refine b_getptr (q := x0 + 1) d_Laws_isWorkedOut_20 fl_Laws_11 h0 rfl rfl rfl ?_
    refine a_iload_n (j := 3) d_Laws_isWorkedOut_23 rfl rfl ?_
    obtain ⟨o7, o8, h⟩ := h
    refine b_aaload (v := M (x0 + 1) x3) d_Laws_isWorkedOut_24 (pk_3_1 h0) (by decide) o7 o8 rfl ?_
    obtain ⟨o9, h⟩ := h
    refine a_astore d_Laws_isWorkedOut_25 (Nat.le_of_ble_eq_true rfl) (by have q := (o9).1; omega) [1, 2, 3, 4, 0] rfl ?_
    refine a_aload (j := 4) d_Laws_isWorkedOut_27 rfl ?_
    refine a_getOF (v := fs_i (fs_lev (M (x0 + 1) x3))) d_Laws_isWorkedOut_29 gs_Laws_93 (o9).1 (fs_OFt o9 fs_mF2 rfl) (fs_I_in _) ?_
    refine a_bipush d_Laws_isWorkedOut_32 (by decide) ?_
    refine a_icmp_ne (tgt := 68) d_Laws_isWorkedOut_34 rfl (fun c10 => ?_) (fun c10 => ?_)
    · have h := h.1 c10
      exact h
    · have h := h.2 c10
      refine a_iload_n (j := 2) d_Laws_isWorkedOut_37 rfl rfl ?_
      refine a_bipush d_Laws_isWorkedOut_38 (by decide) ?_
      refine a_icmp_ge (tgt := 68) d_Laws_isWorkedOut_40 rfl (fun c11 => ?_) (fun c11 => ?_)
      · have h := h.1 c11
        exact h
      · have h := h.2 c11
        refine a_aload_n (j := 0) d_Laws_isWorkedOut_43 rfl rfl ?_
        refine b_getptr (q := x0 + 5) d_Laws_isWorkedOut_44 fl_Laws_31 h0 rfl rfl rfl ?_
        refine a_iload_n (j := 2) d_Laws_isWorkedOut_47 rfl rfl ?_
        refine a_aload_n (j := 0) d_Laws_isWorkedOut_48 rfl rfl ?_
        refine a_aload (j := 4) d_Laws_isWorkedOut_49 rfl ?_
        refine a_aload_n (j := 0) d_Laws_isWorkedOut_51 rfl rfl ?_
        refine b_getptr (q := x0 + 2) d_Laws_isWorkedOut_52 fl_Laws_17 h0 rfl rfl rfl ?_
        refine a_iload_n (j := 3) d_Laws_isWorkedOut_55 rfl rfl ?_
        refine b_iaload (v := M (x0 + 2) x3) d_Laws_isWorkedOut_56 (pk_3_2 h0) o7 o8 rfl ?_
        refine b_virtual (dc := 2) (ci := 3) (T := fs_T3) (N := 14) [fs_r (M (x0 + 1) x3), fs_i (M (x0 + 2) x3)] [fs_i x2, fs_r (x0 + 5)] d_Laws_isWorkedOut_57 ml_Laws_96 k_Laws_valueOf v_Laws_valueOf rfl h0 rfl (Nat.le_of_ble_eq_true rfl) rfl (Nat.le_of_ble_eq_true rfl) ?_
        refine fs_Call.mono (fun v M1 hv => ?_) h
        obtain ⟨r1, rfl, h⟩ := hv
        show fs_A2 g m_Laws_isWorkedOut 3 60 [(0, fs_r x0), (1, fs_i x1), (2, fs_i x2), (3, fs_i x3), (4, fs_r (M (x0 + 1) x3))] [fs_i r1, fs_i x2, fs_r (x0 + 5)] M1 K
        refine a_i2l d_Laws_isWorkedOut_60 ?_
        obtain ⟨o12, h⟩ := h
        refine b_lastore d_Laws_isWorkedOut_61 (pk_3_5 h0) o12 (by omega : x2 < 64) ?_
        refine a_iinc (j := 2) d_Laws_isWorkedOut_62 rfl (Nat.le_of_ble_eq_true rfl) [1, 2, 0, 3, 4] rfl ?_
        refine a_goto (tgt := 159) d_Laws_isWorkedOut_65 rfl ?_
        refine a_iinc (j := 3) d_Laws_isWorkedOut_159 rfl (Nat.le_of_ble_eq_true rfl) [1, 2, 3, 0, 4] rfl ?_
        refine a_goto (tgt := 9) d_Laws_isWorkedOut_162 rfl ?_
        refine a_sub [0, 1, 2, 3] rfl ?_
        exact h
set_option maxRecDepth 8000 in
set_option maxHeartbeats 4000000 in
theorem L_Laws_isWorkedOut_68 {M : fs_M} {K : fs_K} {x0 x1 x2 x3 x4 : Int} (h0 : fs_isO 3 x0) (h4 : fs_tk x4) 
    (h : ((¬ x4 = 1020 → fs_A2 g m_Laws_isWorkedOut 3 109 [(0, fs_r x0), (1, fs_i x1), (2, fs_i x2), (3, fs_i x3), (4, fs_r x4)] [] M K) ∧ (x4 = 1020 → ((x2 ≤ 0 → fs_A2 g m_Laws_isWorkedOut 3 109 [(0, fs_r x0), (1, fs_i x1), (2, fs_i x2), (3, fs_i x3), (4, fs_r x4)] [] M K) ∧ (¬ x2 ≤ 0 → (0 ≤ fs_w32 (x2 - 1) ∧ fs_w32 (x2 - 1) < 64 ∧ ((¬ fs_lcmp (M (x0 + 5) (fs_w32 (x2 - 1))) 0 = 0 → fs_A2 g m_Laws_isWorkedOut 3 9 [(0, fs_r x0), (1, fs_i x1), (2, fs_i x2), (3, fs_i (fs_w32 (x3 + 1)))] [] (fs_st M (x0 + 5) (fs_w32 (x2 - 1)) 0) K) ∧ (fs_lcmp (M (x0 + 5) (fs_w32 (x2 - 1))) 0 = 0 → fs_A2 g m_Laws_isWorkedOut 3 9 [(0, fs_r x0), (1, fs_i x1), (2, fs_i x2), (3, fs_i (fs_w32 (x3 + 1)))] [] (fs_st M (x0 + 5) (fs_w32 (x2 - 1)) 1) K)))))))) :
    fs_A2 g m_Laws_isWorkedOut 3 68 [(0, fs_r x0), (1, fs_i x1), (2, fs_i x2), (3, fs_i x3), (4, fs_r x4)] [] M K := by
  refine a_aload (j := 4) d_Laws_isWorkedOut_68 rfl ?_
  refine a_getstatic (v := fs_r 1020) d_Laws_isWorkedOut_70 gs_Laws_100 (fs_Ztok (i := 20) (by decide) rfl rfl) (by show fs_in32 1020; unfold fs_in32; omega) ?_
  refine a_acmp_ne (tgt := 109) d_Laws_isWorkedOut_73 rfl (Or.inl h4) (Or.inl tk_1020) (fun c13 => ?_) (fun c13 => ?_)
  · have h := h.1 c13
    exact h
  · have h := h.2 c13
    refine a_iload_n (j := 2) d_Laws_isWorkedOut_76 rfl rfl ?_
    refine a_if_le (tgt := 109) d_Laws_isWorkedOut_77 rfl (fun c14 => ?_) (fun c14 => ?_)
    · have h := h.1 c14
      exact h
    · have h := h.2 c14
      refine a_aload_n (j := 0) d_Laws_isWorkedOut_80 rfl rfl ?_
      refine b_getptr (q := x0 + 5) d_Laws_isWorkedOut_81 fl_Laws_31 h0 rfl rfl rfl ?_
      refine a_iload_n (j := 2) d_Laws_isWorkedOut_84 rfl rfl ?_
      refine a_iconst d_Laws_isWorkedOut_85 (by unfold fs_in32; omega) ?_
      refine a_isub d_Laws_isWorkedOut_86 ?_
      refine a_aload_n (j := 0) d_Laws_isWorkedOut_87 rfl rfl ?_
      refine b_getptr (q := x0 + 5) d_Laws_isWorkedOut_88 fl_Laws_31 h0 rfl rfl rfl ?_
      refine a_iload_n (j := 2) d_Laws_isWorkedOut_91 rfl rfl ?_
      refine a_iconst d_Laws_isWorkedOut_92 (by unfold fs_in32; omega) ?_
      refine a_isub d_Laws_isWorkedOut_93 ?_
      obtain ⟨o15, o16, h⟩ := h
      refine b_laload (v := M (x0 + 5) (fs_w32 (x2 - 1))) d_Laws_isWorkedOut_94 (pk_3_5 h0) o15 o16 rfl ?_
      refine a_lconst (v := 0) d_Laws_isWorkedOut_95 rfl (by unfold fs_in64; omega) ?_
      refine a_lcmp d_Laws_isWorkedOut_96 ?_
      refine a_if_ne (tgt := 104) d_Laws_isWorkedOut_97 rfl (fun c17 => ?_) (fun c17 => ?_)
      · have h := h.1 c17
        refine a_lconst (v := 0) d_Laws_isWorkedOut_104 rfl (by unfold fs_in64; omega) ?_
        refine b_lastore d_Laws_isWorkedOut_105 (pk_3_5 h0) o15 o16 ?_
        refine a_goto (tgt := 159) d_Laws_isWorkedOut_106 rfl ?_
        refine a_iinc (j := 3) d_Laws_isWorkedOut_159 rfl (Nat.le_of_ble_eq_true rfl) [1, 2, 3, 0, 4] rfl ?_
        refine a_goto (tgt := 9) d_Laws_isWorkedOut_162 rfl ?_
        refine a_sub [0, 1, 2, 3] rfl ?_
        exact h
      · have h := h.2 c17
        refine a_lconst (v := 1) d_Laws_isWorkedOut_100 rfl (by unfold fs_in64; omega) ?_
        refine a_goto (tgt := 105) d_Laws_isWorkedOut_101 rfl ?_
        refine b_lastore d_Laws_isWorkedOut_105 (pk_3_5 h0) o15 o16 ?_
        refine a_goto (tgt := 159) d_Laws_isWorkedOut_106 rfl ?_
        refine a_iinc (j := 3) d_Laws_isWorkedOut_159 rfl (Nat.le_of_ble_eq_true rfl) [1, 2, 3, 0, 4] rfl ?_
        refine a_goto (tgt := 9) d_Laws_isWorkedOut_162 rfl ?_
        refine a_sub [0, 1, 2, 3] rfl ?_
        exact h
set_option maxRecDepth 8000 in
set_option maxHeartbeats 4000000 in
theorem L_Laws_isWorkedOut_109 {M : fs_M} {K : fs_K} {x0 x1 x2 x3 x4 : Int} (h0 : fs_isO 3 x0) (h4 : fs_tk x4) 
    (h : ((x2 ≤ 1 → K (some (fs_i 0)) M) ∧ (¬ x2 ≤ 1 → (0 ≤ fs_w32 (x2 - 2) ∧ fs_w32 (x2 - 2) < 64 ∧ (0 ≤ fs_w32 (x2 - 1) ∧ fs_w32 (x2 - 1) < 64 ∧ fs_C2 g m_Laws_isJoined 2 [fs_r x0, fs_r x4, fs_l (M (x0 + 5) (fs_w32 (x2 - 2))), fs_l (M (x0 + 5) (fs_w32 (x2 - 1)))] M (fun v M2 => ∃ r2, v = some (fs_i r2) ∧ ((r2 = 0 → K (some (fs_i 0)) M2) ∧ (¬ r2 = 0 → (0 ≤ fs_w32 ((fs_w32 (x2 + (-1))) - 1) ∧ fs_w32 ((fs_w32 (x2 + (-1))) - 1) < 64 ∧ fs_A2 g m_Laws_isWorkedOut 3 9 [(0, fs_r x0), (1, fs_i x1), (2, fs_i (fs_w32 (x2 + (-1)))), (3, fs_i (fs_w32 (x3 + 1)))] [] (fs_st M2 (x0 + 5) (fs_w32 ((fs_w32 (x2 + (-1))) - 1)) (M2 x0 6)) K))))))))) :
    fs_A2 g m_Laws_isWorkedOut 3 109 [(0, fs_r x0), (1, fs_i x1), (2, fs_i x2), (3, fs_i x3), (4, fs_r x4)] [] M K := by
  refine a_iload_n (j := 2) d_Laws_isWorkedOut_109 rfl rfl ?_
  refine a_iconst d_Laws_isWorkedOut_110 (by unfold fs_in32; omega) ?_
  refine a_icmp_le (tgt := 157) d_Laws_isWorkedOut_111 rfl (fun c18 => ?_) (fun c18 => ?_)
  · have h := h.1 c18
    refine a_iconst d_Laws_isWorkedOut_157 (by unfold fs_in32; omega) ?_
    exact b_ireturn d_Laws_isWorkedOut_158 rfl (fs_nar01 (Or.inl rfl)) h
  · have h := h.2 c18
    refine a_aload_n (j := 0) d_Laws_isWorkedOut_114 rfl rfl ?_
    refine a_aload (j := 4) d_Laws_isWorkedOut_115 rfl ?_
    refine a_aload_n (j := 0) d_Laws_isWorkedOut_117 rfl rfl ?_
    refine b_getptr (q := x0 + 5) d_Laws_isWorkedOut_118 fl_Laws_31 h0 rfl rfl rfl ?_
    refine a_iload_n (j := 2) d_Laws_isWorkedOut_121 rfl rfl ?_
    refine a_iconst d_Laws_isWorkedOut_122 (by unfold fs_in32; omega) ?_
    refine a_isub d_Laws_isWorkedOut_123 ?_
    obtain ⟨o19, o20, h⟩ := h
    refine b_laload (v := M (x0 + 5) (fs_w32 (x2 - 2))) d_Laws_isWorkedOut_124 (pk_3_5 h0) o19 o20 rfl ?_
    refine a_aload_n (j := 0) d_Laws_isWorkedOut_125 rfl rfl ?_
    refine b_getptr (q := x0 + 5) d_Laws_isWorkedOut_126 fl_Laws_31 h0 rfl rfl rfl ?_
    refine a_iload_n (j := 2) d_Laws_isWorkedOut_129 rfl rfl ?_
    refine a_iconst d_Laws_isWorkedOut_130 (by unfold fs_in32; omega) ?_
    refine a_isub d_Laws_isWorkedOut_131 ?_
    obtain ⟨o21, o22, h⟩ := h
    refine b_laload (v := M (x0 + 5) (fs_w32 (x2 - 1))) d_Laws_isWorkedOut_132 (pk_3_5 h0) o21 o22 rfl ?_
    refine b_virtual (dc := 2) (ci := 3) (T := fs_T3) (N := 14) [fs_r x4, fs_l (M (x0 + 5) (fs_w32 (x2 - 2))), fs_l (M (x0 + 5) (fs_w32 (x2 - 1)))] [] d_Laws_isWorkedOut_133 ml_Laws_104 k_Laws_isJoined v_Laws_isJoined rfl h0 rfl (Nat.le_of_ble_eq_true rfl) rfl (Nat.le_of_ble_eq_true rfl) ?_
    refine fs_Call.mono (fun v M2 hv => ?_) h
    obtain ⟨r2, rfl, h⟩ := hv
    show fs_A2 g m_Laws_isWorkedOut 3 136 [(0, fs_r x0), (1, fs_i x1), (2, fs_i x2), (3, fs_i x3), (4, fs_r x4)] [fs_i r2] M2 K
    refine a_if_eq (tgt := 157) d_Laws_isWorkedOut_136 rfl (fun c23 => ?_) (fun c23 => ?_)
    · have h := h.1 c23
      refine a_iconst d_Laws_isWorkedOut_157 (by unfold fs_in32; omega) ?_
      exact b_ireturn d_Laws_isWorkedOut_158 rfl (fs_nar01 (Or.inl rfl)) h
    · have h := h.2 c23
      refine a_iinc (j := 2) d_Laws_isWorkedOut_139 rfl (Nat.le_of_ble_eq_true rfl) [1, 2, 0, 3, 4] rfl ?_
      refine a_aload_n (j := 0) d_Laws_isWorkedOut_142 rfl rfl ?_
      refine b_getptr (q := x0 + 5) d_Laws_isWorkedOut_143 fl_Laws_31 h0 rfl rfl rfl ?_
      refine a_iload_n (j := 2) d_Laws_isWorkedOut_146 rfl rfl ?_
      refine a_iconst d_Laws_isWorkedOut_147 (by unfold fs_in32; omega) ?_
      refine a_isub d_Laws_isWorkedOut_148 ?_
      refine a_aload_n (j := 0) d_Laws_isWorkedOut_149 rfl rfl ?_
      refine b_getfield (v := fs_l (M2 x0 6)) d_Laws_isWorkedOut_150 fl_Laws_35 h0 rfl ?_
      obtain ⟨o24, o25, h⟩ := h
      refine b_lastore d_Laws_isWorkedOut_153 (pk_3_5 h0) o24 o25 ?_
      refine a_goto (tgt := 159) d_Laws_isWorkedOut_154 rfl ?_
      refine a_iinc (j := 3) d_Laws_isWorkedOut_159 rfl (Nat.le_of_ble_eq_true rfl) [1, 2, 3, 0, 4] rfl ?_
      refine a_goto (tgt := 9) d_Laws_isWorkedOut_162 rfl ?_
      refine a_sub [0, 1, 2, 3] rfl ?_
      exact h
set_option maxRecDepth 8000 in
set_option maxHeartbeats 4000000 in
theorem E_Laws_valueOf {M : fs_M} {K : fs_K} {x0 x1 x2 : Int} (h0 : fs_isO 3 x0) (h1 : fs_tk x1) 
    (h : ((fs_sm (fs_ord x1) = 5 → K (some (fs_i (M x0 7))) M) ∧ (fs_sm (fs_ord x1) = 6 → K (some (fs_i (M x0 10))) M) ∧ (fs_sm (fs_ord x1) = 7 → K (some (fs_i (M x0 9))) M) ∧ (fs_sm (fs_ord x1) = 8 → K (some (fs_i (M x0 8))) M) ∧ (fs_sm (fs_ord x1) = 9 → K (some (fs_i (M x0 11))) M) ∧ (fs_sm (fs_ord x1) = 10 → K (some (fs_i (M x0 12))) M) ∧ (fs_sm (fs_ord x1) = 11 → K (some (fs_i (M x0 13))) M) ∧ (¬ fs_sm (fs_ord x1) = 5 ∧ ¬ fs_sm (fs_ord x1) = 6 ∧ ¬ fs_sm (fs_ord x1) = 7 ∧ ¬ fs_sm (fs_ord x1) = 8 ∧ ¬ fs_sm (fs_ord x1) = 9 ∧ ¬ fs_sm (fs_ord x1) = 10 ∧ ¬ fs_sm (fs_ord x1) = 11 → K (some (fs_i x2)) M))) :
    fs_C2 g m_Laws_valueOf 2 [fs_r x0, fs_r x1, fs_i x2] M K := by
  refine b_enter2 (ls := [(0, fs_r x0), (1, fs_r x1), (2, fs_i x2)]) (plainFor_of_name pn_Laws) (Nat.le_of_ble_eq_true rfl) rfl ?_
  refine a_getstatic (v := fs_r 2001) d_Laws_valueOf_0 gs_Laws_108 fs_ZSM (by show fs_in32 2001; unfold fs_in32; omega) ?_
  refine a_aload_n (j := 1) d_Laws_valueOf_3 rfl rfl ?_
  refine b_so (dc := 1) [] [fs_r 2001] d_Laws_valueOf_4 or_Laws_113 or_any k_Enum_ordinal v_Enum_ordinal (h1).1 (fs_Otk h1) rfl (Nat.le_of_ble_eq_true rfl) rfl (Nat.le_of_ble_eq_true rfl) ?_
  refine sp_ordinal h1 ?_
  refine a_smload d_Laws_valueOf_7 (fs_ord_in h1).1 (fs_ord_in h1).2 ?_
  obtain ⟨hs8_0, hs8_1, hs8_2, hs8_3, hs8_4, hs8_5, hs8_6, hs8_7⟩ := h
  by_cases q8_5 : fs_sm (fs_ord x1) = 5
  · have h := hs8_0 q8_5
    refine a_tableIn (tgt := 52) d_Laws_valueOf_8 (by omega) (by omega) (by rw [q8_5]; rfl) rfl ?_
    refine a_aload_n (j := 0) d_Laws_valueOf_52 rfl rfl ?_
    refine b_getfield (v := fs_i (M x0 7)) d_Laws_valueOf_53 fl_Laws_39 h0 rfl ?_
    exact b_ireturn d_Laws_valueOf_56 rfl rfl h
  ·
    by_cases q8_6 : fs_sm (fs_ord x1) = 6
    · have h := hs8_1 q8_6
      refine a_tableIn (tgt := 57) d_Laws_valueOf_8 (by omega) (by omega) (by rw [q8_6]; rfl) rfl ?_
      refine a_aload_n (j := 0) d_Laws_valueOf_57 rfl rfl ?_
      refine b_getfield (v := fs_i (M x0 10)) d_Laws_valueOf_58 fl_Laws_48 h0 rfl ?_
      exact b_ireturn d_Laws_valueOf_61 rfl rfl h
    ·
      by_cases q8_7 : fs_sm (fs_ord x1) = 7
      · have h := hs8_2 q8_7
        refine a_tableIn (tgt := 62) d_Laws_valueOf_8 (by omega) (by omega) (by rw [q8_7]; rfl) rfl ?_
        refine a_aload_n (j := 0) d_Laws_valueOf_62 rfl rfl ?_
        refine b_getfield (v := fs_i (M x0 9)) d_Laws_valueOf_63 fl_Laws_45 h0 rfl ?_
        exact b_ireturn d_Laws_valueOf_66 rfl rfl h
      ·
        by_cases q8_8 : fs_sm (fs_ord x1) = 8
        · have h := hs8_3 q8_8
          refine a_tableIn (tgt := 67) d_Laws_valueOf_8 (by omega) (by omega) (by rw [q8_8]; rfl) rfl ?_
          refine a_aload_n (j := 0) d_Laws_valueOf_67 rfl rfl ?_
          refine b_getfield (v := fs_i (M x0 8)) d_Laws_valueOf_68 fl_Laws_42 h0 rfl ?_
          exact b_ireturn d_Laws_valueOf_71 rfl rfl h
        ·
          by_cases q8_9 : fs_sm (fs_ord x1) = 9
          · have h := hs8_4 q8_9
            refine a_tableIn (tgt := 72) d_Laws_valueOf_8 (by omega) (by omega) (by rw [q8_9]; rfl) rfl ?_
            refine a_aload_n (j := 0) d_Laws_valueOf_72 rfl rfl ?_
            refine b_getfield (v := fs_i (M x0 11)) d_Laws_valueOf_73 fl_Laws_51 h0 rfl ?_
            exact b_ireturn d_Laws_valueOf_76 rfl rfl h
          ·
            by_cases q8_10 : fs_sm (fs_ord x1) = 10
            · have h := hs8_5 q8_10
              refine a_tableIn (tgt := 77) d_Laws_valueOf_8 (by omega) (by omega) (by rw [q8_10]; rfl) rfl ?_
              refine a_aload_n (j := 0) d_Laws_valueOf_77 rfl rfl ?_
              refine b_getfield (v := fs_i (M x0 12)) d_Laws_valueOf_78 fl_Laws_54 h0 rfl ?_
              exact b_ireturn d_Laws_valueOf_81 rfl rfl h
            ·
              by_cases q8_11 : fs_sm (fs_ord x1) = 11
              · have h := hs8_6 q8_11
                refine a_tableIn (tgt := 82) d_Laws_valueOf_8 (by omega) (by omega) (by rw [q8_11]; rfl) rfl ?_
                refine a_aload_n (j := 0) d_Laws_valueOf_82 rfl rfl ?_
                refine b_getfield (v := fs_i (M x0 13)) d_Laws_valueOf_83 fl_Laws_57 h0 rfl ?_
                exact b_ireturn d_Laws_valueOf_86 rfl rfl h
              ·
                have h := hs8_7 ⟨q8_5, q8_6, q8_7, q8_8, q8_9, q8_10, q8_11⟩
                refine a_tableOut (tgt := 87) d_Laws_valueOf_8 (by omega) rfl ?_
                refine a_iload_n (j := 2) d_Laws_valueOf_87 rfl rfl ?_
                exact b_ireturn d_Laws_valueOf_88 rfl rfl h
set_option maxRecDepth 8000 in
set_option maxHeartbeats 4000000 in
theorem E_Laws_isJoined {M : fs_M} {K : fs_K} {x0 x1 x2 x4 : Int} (h0 : fs_isO 3 x0) (h1 : fs_tk x1) 
    (h : ((fs_sm (fs_ord x1) = 12 → ((¬ fs_lcmp x2 0 = 0 → K (some (fs_i 1)) (fs_st M x0 6 1)) ∧ (fs_lcmp x2 0 = 0 → ((fs_lcmp x4 0 = 0 → K (some (fs_i 1)) (fs_st M x0 6 0)) ∧ (¬ fs_lcmp x4 0 = 0 → K (some (fs_i 1)) (fs_st M x0 6 1)))))) ∧ (fs_sm (fs_ord x1) = 13 → ((fs_lcmp x2 0 = 0 → K (some (fs_i 1)) (fs_st M x0 6 0)) ∧ (¬ fs_lcmp x2 0 = 0 → ((fs_lcmp x4 0 = 0 → K (some (fs_i 1)) (fs_st M x0 6 0)) ∧ (¬ fs_lcmp x4 0 = 0 → K (some (fs_i 1)) (fs_st M x0 6 1)))))) ∧ (fs_sm (fs_ord x1) = 14 → ((0 ≤ fs_lcmp x2 x4 → K (some (fs_i 1)) (fs_st M x0 6 0)) ∧ (¬ 0 ≤ fs_lcmp x2 x4 → K (some (fs_i 1)) (fs_st M x0 6 1)))) ∧ (fs_sm (fs_ord x1) = 15 → ((0 < fs_lcmp x2 x4 → K (some (fs_i 1)) (fs_st M x0 6 0)) ∧ (¬ 0 < fs_lcmp x2 x4 → K (some (fs_i 1)) (fs_st M x0 6 1)))) ∧ (fs_sm (fs_ord x1) = 16 → ((¬ fs_lcmp x2 x4 = 0 → K (some (fs_i 1)) (fs_st M x0 6 0)) ∧ (fs_lcmp x2 x4 = 0 → K (some (fs_i 1)) (fs_st M x0 6 1)))) ∧ (fs_sm (fs_ord x1) = 17 → ((fs_lcmp x2 x4 = 0 → K (some (fs_i 1)) (fs_st M x0 6 0)) ∧ (¬ fs_lcmp x2 x4 = 0 → K (some (fs_i 1)) (fs_st M x0 6 1)))) ∧ (fs_sm (fs_ord x1) = 18 → ((fs_lcmp x2 x4 < 0 → K (some (fs_i 1)) (fs_st M x0 6 0)) ∧ (¬ fs_lcmp x2 x4 < 0 → K (some (fs_i 1)) (fs_st M x0 6 1)))) ∧ (fs_sm (fs_ord x1) = 19 → ((fs_lcmp x2 x4 ≤ 0 → K (some (fs_i 1)) (fs_st M x0 6 0)) ∧ (¬ fs_lcmp x2 x4 ≤ 0 → K (some (fs_i 1)) (fs_st M x0 6 1)))) ∧ (fs_sm (fs_ord x1) = 20 → fs_A2 g m_Laws_isJoined 2 327 [(0, fs_r x0)] [] (fs_st M x0 6 (fs_w64 (x2 + x4))) K) ∧ (fs_sm (fs_ord x1) = 21 → fs_A2 g m_Laws_isJoined 2 327 [(0, fs_r x0)] [] (fs_st M x0 6 (fs_w64 (x2 - x4))) K) ∧ (fs_sm (fs_ord x1) = 22 → ((fs_lcmp x4 0 = 0 → fs_A2 g m_Laws_isJoined 2 327 [(0, fs_r x0)] [] (fs_st M x0 6 (fs_w64 (x2 * x4))) K) ∧ (¬ fs_lcmp x4 0 = 0 → ((0 ≤ fs_lcmp x2 0 → fs_A2 g m_Laws_isJoined 2 269 [(0, fs_r x0), (2, fs_l x2), (4, fs_l x4)] [fs_l x2] M K) ∧ (¬ 0 ≤ fs_lcmp x2 0 → fs_A2 g m_Laws_isJoined 2 269 [(0, fs_r x0), (2, fs_l x2), (4, fs_l x4)] [fs_l (fs_w64 (-x2))] M K))))) ∧ (fs_sm (fs_ord x1) = 23 → ((¬ fs_lcmp x4 0 = 0 → (¬ x4 = 0 ∧ fs_A2 g m_Laws_isJoined 2 327 [(0, fs_r x0)] [] (fs_st M x0 6 (fs_ldiv x2 x4)) K)) ∧ (fs_lcmp x4 0 = 0 → K (some (fs_i 0)) M))) ∧ (¬ fs_sm (fs_ord x1) = 12 ∧ ¬ fs_sm (fs_ord x1) = 13 ∧ ¬ fs_sm (fs_ord x1) = 14 ∧ ¬ fs_sm (fs_ord x1) = 15 ∧ ¬ fs_sm (fs_ord x1) = 16 ∧ ¬ fs_sm (fs_ord x1) = 17 ∧ ¬ fs_sm (fs_ord x1) = 18 ∧ ¬ fs_sm (fs_ord x1) = 19 ∧ ¬ fs_sm (fs_ord x1) = 20 ∧ ¬ fs_sm (fs_ord x1) = 21 ∧ ¬ fs_sm (fs_ord x1) = 22 ∧ ¬ fs_sm (fs_ord x1) = 23 → K (some (fs_i 0)) M))) :
    fs_C2 g m_Laws_isJoined 2 [fs_r x0, fs_r x1, fs_l x2, fs_l x4] M K := by
  refine b_enter2 (ls := [(0, fs_r x0), (1, fs_r x1), (2, fs_l x2), (4, fs_l x4)]) (plainFor_of_name pn_Laws) (Nat.le_of_ble_eq_true rfl) rfl ?_
  refine a_getstatic (v := fs_r 2001) d_Laws_isJoined_0 gs_Laws_108 fs_ZSM (by show fs_in32 2001; unfold fs_in32; omega) ?_
  refine a_aload_n (j := 1) d_Laws_isJoined_3 rfl rfl ?_
  refine b_so (dc := 1) [] [fs_r 2001] d_Laws_isJoined_4 or_Laws_113 or_any k_Enum_ordinal v_Enum_ordinal (h1).1 (fs_Otk h1) rfl (Nat.le_of_ble_eq_true rfl) rfl (Nat.le_of_ble_eq_true rfl) ?_
  refine sp_ordinal h1 ?_
  refine a_smload d_Laws_isJoined_7 (fs_ord_in h1).1 (fs_ord_in h1).2 ?_
  obtain ⟨hs8_0, hs8_1, hs8_2, hs8_3, hs8_4, hs8_5, hs8_6, hs8_7, hs8_8, hs8_9, hs8_10, hs8_11, hs8_12⟩ := h
  by_cases q8_12 : fs_sm (fs_ord x1) = 12
  · have h := hs8_0 q8_12
    refine a_tableIn (tgt := 72) d_Laws_isJoined_8 (by omega) (by omega) (by rw [q8_12]; rfl) rfl ?_
    refine a_aload_n (j := 0) d_Laws_isJoined_72 rfl rfl ?_
    refine a_lload_n (j := 2) d_Laws_isJoined_73 rfl rfl ?_
    refine a_lconst (v := 0) d_Laws_isJoined_74 rfl (by unfold fs_in64; omega) ?_
    refine a_lcmp d_Laws_isJoined_75 ?_
    refine a_if_ne (tgt := 86) d_Laws_isJoined_76 rfl (fun c1 => ?_) (fun c1 => ?_)
    · have h := h.1 c1
      refine a_lconst (v := 1) d_Laws_isJoined_86 rfl (by unfold fs_in64; omega) ?_
      refine a_goto (tgt := 91) d_Laws_isJoined_87 rfl ?_
      refine b_putfield (x := 1) d_Laws_isJoined_91 fl_Laws_35 h0 rfl rfl fs_nar_long ?_
      refine a_iconst d_Laws_isJoined_94 (by unfold fs_in32; omega) ?_
      exact b_ireturn d_Laws_isJoined_95 rfl (fs_nar01 (Or.inr rfl)) h
    · have h := h.2 c1
      refine a_lload (j := 3) d_Laws_isJoined_79 rfl ?_
      refine a_lconst (v := 0) d_Laws_isJoined_81 rfl (by unfold fs_in64; omega) ?_
      refine a_lcmp d_Laws_isJoined_82 ?_
      refine a_if_eq (tgt := 90) d_Laws_isJoined_83 rfl (fun c2 => ?_) (fun c2 => ?_)
      · have h := h.1 c2
        refine a_lconst (v := 0) d_Laws_isJoined_90 rfl (by unfold fs_in64; omega) ?_
        refine b_putfield (x := 0) d_Laws_isJoined_91 fl_Laws_35 h0 rfl rfl fs_nar_long ?_
        refine a_iconst d_Laws_isJoined_94 (by unfold fs_in32; omega) ?_
        exact b_ireturn d_Laws_isJoined_95 rfl (fs_nar01 (Or.inr rfl)) h
      · have h := h.2 c2
        refine a_lconst (v := 1) d_Laws_isJoined_86 rfl (by unfold fs_in64; omega) ?_
        refine a_goto (tgt := 91) d_Laws_isJoined_87 rfl ?_
        refine b_putfield (x := 1) d_Laws_isJoined_91 fl_Laws_35 h0 rfl rfl fs_nar_long ?_
        refine a_iconst d_Laws_isJoined_94 (by unfold fs_in32; omega) ?_
        exact b_ireturn d_Laws_isJoined_95 rfl (fs_nar01 (Or.inr rfl)) h
  ·
    by_cases q8_13 : fs_sm (fs_ord x1) = 13
    · have h := hs8_1 q8_13
      refine a_tableIn (tgt := 96) d_Laws_isJoined_8 (by omega) (by omega) (by rw [q8_13]; rfl) rfl ?_
      refine a_aload_n (j := 0) d_Laws_isJoined_96 rfl rfl ?_
      refine a_lload_n (j := 2) d_Laws_isJoined_97 rfl rfl ?_
      refine a_lconst (v := 0) d_Laws_isJoined_98 rfl (by unfold fs_in64; omega) ?_
      refine a_lcmp d_Laws_isJoined_99 ?_
      refine a_if_eq (tgt := 114) d_Laws_isJoined_100 rfl (fun c3 => ?_) (fun c3 => ?_)
      · have h := h.1 c3
        refine a_lconst (v := 0) d_Laws_isJoined_114 rfl (by unfold fs_in64; omega) ?_
        refine b_putfield (x := 0) d_Laws_isJoined_115 fl_Laws_35 h0 rfl rfl fs_nar_long ?_
        refine a_iconst d_Laws_isJoined_118 (by unfold fs_in32; omega) ?_
        exact b_ireturn d_Laws_isJoined_119 rfl (fs_nar01 (Or.inr rfl)) h
      · have h := h.2 c3
        refine a_lload (j := 3) d_Laws_isJoined_103 rfl ?_
        refine a_lconst (v := 0) d_Laws_isJoined_105 rfl (by unfold fs_in64; omega) ?_
        refine a_lcmp d_Laws_isJoined_106 ?_
        refine a_if_eq (tgt := 114) d_Laws_isJoined_107 rfl (fun c4 => ?_) (fun c4 => ?_)
        · have h := h.1 c4
          refine a_lconst (v := 0) d_Laws_isJoined_114 rfl (by unfold fs_in64; omega) ?_
          refine b_putfield (x := 0) d_Laws_isJoined_115 fl_Laws_35 h0 rfl rfl fs_nar_long ?_
          refine a_iconst d_Laws_isJoined_118 (by unfold fs_in32; omega) ?_
          exact b_ireturn d_Laws_isJoined_119 rfl (fs_nar01 (Or.inr rfl)) h
        · have h := h.2 c4
          refine a_lconst (v := 1) d_Laws_isJoined_110 rfl (by unfold fs_in64; omega) ?_
          refine a_goto (tgt := 115) d_Laws_isJoined_111 rfl ?_
          refine b_putfield (x := 1) d_Laws_isJoined_115 fl_Laws_35 h0 rfl rfl fs_nar_long ?_
          refine a_iconst d_Laws_isJoined_118 (by unfold fs_in32; omega) ?_
          exact b_ireturn d_Laws_isJoined_119 rfl (fs_nar01 (Or.inr rfl)) h
    ·
      by_cases q8_14 : fs_sm (fs_ord x1) = 14
      · have h := hs8_2 q8_14
        refine a_tableIn (tgt := 120) d_Laws_isJoined_8 (by omega) (by omega) (by rw [q8_14]; rfl) rfl ?_
        refine a_aload_n (j := 0) d_Laws_isJoined_120 rfl rfl ?_
        refine a_lload_n (j := 2) d_Laws_isJoined_121 rfl rfl ?_
        refine a_lload (j := 3) d_Laws_isJoined_122 rfl ?_
        refine a_lcmp d_Laws_isJoined_124 ?_
        refine a_if_ge (tgt := 132) d_Laws_isJoined_125 rfl (fun c5 => ?_) (fun c5 => ?_)
        · have h := h.1 c5
          refine a_lconst (v := 0) d_Laws_isJoined_132 rfl (by unfold fs_in64; omega) ?_
          refine b_putfield (x := 0) d_Laws_isJoined_133 fl_Laws_35 h0 rfl rfl fs_nar_long ?_
          refine a_iconst d_Laws_isJoined_136 (by unfold fs_in32; omega) ?_
          exact b_ireturn d_Laws_isJoined_137 rfl (fs_nar01 (Or.inr rfl)) h
        · have h := h.2 c5
          refine a_lconst (v := 1) d_Laws_isJoined_128 rfl (by unfold fs_in64; omega) ?_
          refine a_goto (tgt := 133) d_Laws_isJoined_129 rfl ?_
          refine b_putfield (x := 1) d_Laws_isJoined_133 fl_Laws_35 h0 rfl rfl fs_nar_long ?_
          refine a_iconst d_Laws_isJoined_136 (by unfold fs_in32; omega) ?_
          exact b_ireturn d_Laws_isJoined_137 rfl (fs_nar01 (Or.inr rfl)) h
      ·
        by_cases q8_15 : fs_sm (fs_ord x1) = 15
        · have h := hs8_3 q8_15
          refine a_tableIn (tgt := 138) d_Laws_isJoined_8 (by omega) (by omega) (by rw [q8_15]; rfl) rfl ?_
          refine a_aload_n (j := 0) d_Laws_isJoined_138 rfl rfl ?_
          refine a_lload_n (j := 2) d_Laws_isJoined_139 rfl rfl ?_
          refine a_lload (j := 3) d_Laws_isJoined_140 rfl ?_
          refine a_lcmp d_Laws_isJoined_142 ?_
          refine a_if_gt (tgt := 150) d_Laws_isJoined_143 rfl (fun c6 => ?_) (fun c6 => ?_)
          · have h := h.1 c6
            refine a_lconst (v := 0) d_Laws_isJoined_150 rfl (by unfold fs_in64; omega) ?_
            refine b_putfield (x := 0) d_Laws_isJoined_151 fl_Laws_35 h0 rfl rfl fs_nar_long ?_
            refine a_iconst d_Laws_isJoined_154 (by unfold fs_in32; omega) ?_
            exact b_ireturn d_Laws_isJoined_155 rfl (fs_nar01 (Or.inr rfl)) h
          · have h := h.2 c6
            refine a_lconst (v := 1) d_Laws_isJoined_146 rfl (by unfold fs_in64; omega) ?_
            refine a_goto (tgt := 151) d_Laws_isJoined_147 rfl ?_
            refine b_putfield (x := 1) d_Laws_isJoined_151 fl_Laws_35 h0 rfl rfl fs_nar_long ?_
            refine a_iconst d_Laws_isJoined_154 (by unfold fs_in32; omega) ?_
            exact b_ireturn d_Laws_isJoined_155 rfl (fs_nar01 (Or.inr rfl)) h
        ·
          by_cases q8_16 : fs_sm (fs_ord x1) = 16
          · have h := hs8_4 q8_16
            refine a_tableIn (tgt := 156) d_Laws_isJoined_8 (by omega) (by omega) (by rw [q8_16]; rfl) rfl ?_
            refine a_aload_n (j := 0) d_Laws_isJoined_156 rfl rfl ?_
            refine a_lload_n (j := 2) d_Laws_isJoined_157 rfl rfl ?_
            refine a_lload (j := 3) d_Laws_isJoined_158 rfl ?_
            refine a_lcmp d_Laws_isJoined_160 ?_
            refine a_if_ne (tgt := 168) d_Laws_isJoined_161 rfl (fun c7 => ?_) (fun c7 => ?_)
            · have h := h.1 c7
              refine a_lconst (v := 0) d_Laws_isJoined_168 rfl (by unfold fs_in64; omega) ?_
              refine b_putfield (x := 0) d_Laws_isJoined_169 fl_Laws_35 h0 rfl rfl fs_nar_long ?_
              refine a_iconst d_Laws_isJoined_172 (by unfold fs_in32; omega) ?_
              exact b_ireturn d_Laws_isJoined_173 rfl (fs_nar01 (Or.inr rfl)) h
            · have h := h.2 c7
              refine a_lconst (v := 1) d_Laws_isJoined_164 rfl (by unfold fs_in64; omega) ?_
              refine a_goto (tgt := 169) d_Laws_isJoined_165 rfl ?_
              refine b_putfield (x := 1) d_Laws_isJoined_169 fl_Laws_35 h0 rfl rfl fs_nar_long ?_
              refine a_iconst d_Laws_isJoined_172 (by unfold fs_in32; omega) ?_
              exact b_ireturn d_Laws_isJoined_173 rfl (fs_nar01 (Or.inr rfl)) h
          ·
            by_cases q8_17 : fs_sm (fs_ord x1) = 17
            · have h := hs8_5 q8_17
              refine a_tableIn (tgt := 174) d_Laws_isJoined_8 (by omega) (by omega) (by rw [q8_17]; rfl) rfl ?_
              refine a_aload_n (j := 0) d_Laws_isJoined_174 rfl rfl ?_
              refine a_lload_n (j := 2) d_Laws_isJoined_175 rfl rfl ?_
              refine a_lload (j := 3) d_Laws_isJoined_176 rfl ?_
              refine a_lcmp d_Laws_isJoined_178 ?_
              refine a_if_eq (tgt := 186) d_Laws_isJoined_179 rfl (fun c8 => ?_) (fun c8 => ?_)
              · have h := h.1 c8
                refine a_lconst (v := 0) d_Laws_isJoined_186 rfl (by unfold fs_in64; omega) ?_
                refine b_putfield (x := 0) d_Laws_isJoined_187 fl_Laws_35 h0 rfl rfl fs_nar_long ?_
                refine a_iconst d_Laws_isJoined_190 (by unfold fs_in32; omega) ?_
                exact b_ireturn d_Laws_isJoined_191 rfl (fs_nar01 (Or.inr rfl)) h
              · have h := h.2 c8
                refine a_lconst (v := 1) d_Laws_isJoined_182 rfl (by unfold fs_in64; omega) ?_
                refine a_goto (tgt := 187) d_Laws_isJoined_183 rfl ?_
                refine b_putfield (x := 1) d_Laws_isJoined_187 fl_Laws_35 h0 rfl rfl fs_nar_long ?_
                refine a_iconst d_Laws_isJoined_190 (by unfold fs_in32; omega) ?_
                exact b_ireturn d_Laws_isJoined_191 rfl (fs_nar01 (Or.inr rfl)) h
            ·
              by_cases q8_18 : fs_sm (fs_ord x1) = 18
              · have h := hs8_6 q8_18
                refine a_tableIn (tgt := 192) d_Laws_isJoined_8 (by omega) (by omega) (by rw [q8_18]; rfl) rfl ?_
                refine a_aload_n (j := 0) d_Laws_isJoined_192 rfl rfl ?_
                refine a_lload_n (j := 2) d_Laws_isJoined_193 rfl rfl ?_
                refine a_lload (j := 3) d_Laws_isJoined_194 rfl ?_
                refine a_lcmp d_Laws_isJoined_196 ?_
                refine a_if_lt (tgt := 204) d_Laws_isJoined_197 rfl (fun c9 => ?_) (fun c9 => ?_)
                · have h := h.1 c9
                  refine a_lconst (v := 0) d_Laws_isJoined_204 rfl (by unfold fs_in64; omega) ?_
                  refine b_putfield (x := 0) d_Laws_isJoined_205 fl_Laws_35 h0 rfl rfl fs_nar_long ?_
                  refine a_iconst d_Laws_isJoined_208 (by unfold fs_in32; omega) ?_
                  exact b_ireturn d_Laws_isJoined_209 rfl (fs_nar01 (Or.inr rfl)) h
                · have h := h.2 c9
                  refine a_lconst (v := 1) d_Laws_isJoined_200 rfl (by unfold fs_in64; omega) ?_
                  refine a_goto (tgt := 205) d_Laws_isJoined_201 rfl ?_
                  refine b_putfield (x := 1) d_Laws_isJoined_205 fl_Laws_35 h0 rfl rfl fs_nar_long ?_
                  refine a_iconst d_Laws_isJoined_208 (by unfold fs_in32; omega) ?_
                  exact b_ireturn d_Laws_isJoined_209 rfl (fs_nar01 (Or.inr rfl)) h
              ·
                by_cases q8_19 : fs_sm (fs_ord x1) = 19
                · have h := hs8_7 q8_19
                  refine a_tableIn (tgt := 210) d_Laws_isJoined_8 (by omega) (by omega) (by rw [q8_19]; rfl) rfl ?_
                  refine a_aload_n (j := 0) d_Laws_isJoined_210 rfl rfl ?_
                  refine a_lload_n (j := 2) d_Laws_isJoined_211 rfl rfl ?_
                  refine a_lload (j := 3) d_Laws_isJoined_212 rfl ?_
                  refine a_lcmp d_Laws_isJoined_214 ?_
                  refine a_if_le (tgt := 222) d_Laws_isJoined_215 rfl (fun c10 => ?_) (fun c10 => ?_)
                  · have h := h.1 c10
                    refine a_lconst (v := 0) d_Laws_isJoined_222 rfl (by unfold fs_in64; omega) ?_
                    refine b_putfield (x := 0) d_Laws_isJoined_223 fl_Laws_35 h0 rfl rfl fs_nar_long ?_
                    refine a_iconst d_Laws_isJoined_226 (by unfold fs_in32; omega) ?_
                    exact b_ireturn d_Laws_isJoined_227 rfl (fs_nar01 (Or.inr rfl)) h
                  · have h := h.2 c10
                    refine a_lconst (v := 1) d_Laws_isJoined_218 rfl (by unfold fs_in64; omega) ?_
                    refine a_goto (tgt := 223) d_Laws_isJoined_219 rfl ?_
                    refine b_putfield (x := 1) d_Laws_isJoined_223 fl_Laws_35 h0 rfl rfl fs_nar_long ?_
                    refine a_iconst d_Laws_isJoined_226 (by unfold fs_in32; omega) ?_
                    exact b_ireturn d_Laws_isJoined_227 rfl (fs_nar01 (Or.inr rfl)) h
                ·
                  by_cases q8_20 : fs_sm (fs_ord x1) = 20
                  · have h := hs8_8 q8_20
                    refine a_tableIn (tgt := 228) d_Laws_isJoined_8 (by omega) (by omega) (by rw [q8_20]; rfl) rfl ?_
                    refine a_aload_n (j := 0) d_Laws_isJoined_228 rfl rfl ?_
                    refine a_lload_n (j := 2) d_Laws_isJoined_229 rfl rfl ?_
                    refine a_lload (j := 3) d_Laws_isJoined_230 rfl ?_
                    refine a_ladd d_Laws_isJoined_232 ?_
                    refine b_putfield (x := (fs_w64 (x2 + x4))) d_Laws_isJoined_233 fl_Laws_35 h0 rfl rfl fs_nar_long ?_
                    refine a_goto (tgt := 327) d_Laws_isJoined_236 rfl ?_
                    refine a_sub [0] rfl ?_
                    exact h
                  ·
                    by_cases q8_21 : fs_sm (fs_ord x1) = 21
                    · have h := hs8_9 q8_21
                      refine a_tableIn (tgt := 239) d_Laws_isJoined_8 (by omega) (by omega) (by rw [q8_21]; rfl) rfl ?_
                      refine a_aload_n (j := 0) d_Laws_isJoined_239 rfl rfl ?_
                      refine a_lload_n (j := 2) d_Laws_isJoined_240 rfl rfl ?_
                      refine a_lload (j := 3) d_Laws_isJoined_241 rfl ?_
                      refine a_lsub d_Laws_isJoined_243 ?_
                      refine b_putfield (x := (fs_w64 (x2 - x4))) d_Laws_isJoined_244 fl_Laws_35 h0 rfl rfl fs_nar_long ?_
                      refine a_goto (tgt := 327) d_Laws_isJoined_247 rfl ?_
                      refine a_sub [0] rfl ?_
                      exact h
                    ·
                      by_cases q8_22 : fs_sm (fs_ord x1) = 22
                      · have h := hs8_10 q8_22
                        refine a_tableIn (tgt := 250) d_Laws_isJoined_8 (by omega) (by omega) (by rw [q8_22]; rfl) rfl ?_
                        refine a_lload (j := 3) d_Laws_isJoined_250 rfl ?_
                        refine a_lconst (v := 0) d_Laws_isJoined_252 rfl (by unfold fs_in64; omega) ?_
                        refine a_lcmp d_Laws_isJoined_253 ?_
                        refine a_if_eq (tgt := 294) d_Laws_isJoined_254 rfl (fun c11 => ?_) (fun c11 => ?_)
                        · have h := h.1 c11
                          refine a_aload_n (j := 0) d_Laws_isJoined_294 rfl rfl ?_
                          refine a_lload_n (j := 2) d_Laws_isJoined_295 rfl rfl ?_
                          refine a_lload (j := 3) d_Laws_isJoined_296 rfl ?_
                          refine a_lmul d_Laws_isJoined_298 ?_
                          refine b_putfield (x := (fs_w64 (x2 * x4))) d_Laws_isJoined_299 fl_Laws_35 h0 rfl rfl fs_nar_long ?_
                          refine a_goto (tgt := 327) d_Laws_isJoined_302 rfl ?_
                          refine a_sub [0] rfl ?_
                          exact h
                        · have h := h.2 c11
                          refine a_lload_n (j := 2) d_Laws_isJoined_257 rfl rfl ?_
                          refine a_lconst (v := 0) d_Laws_isJoined_258 rfl (by unfold fs_in64; omega) ?_
                          refine a_lcmp d_Laws_isJoined_259 ?_
                          refine a_if_ge (tgt := 268) d_Laws_isJoined_260 rfl (fun c12 => ?_) (fun c12 => ?_)
                          · have h := h.1 c12
                            refine a_lload_n (j := 2) d_Laws_isJoined_268 rfl rfl ?_
                            refine a_sub [0, 2, 3] rfl ?_
                            exact h
                          · have h := h.2 c12
                            refine a_lload_n (j := 2) d_Laws_isJoined_263 rfl rfl ?_
                            refine a_lneg d_Laws_isJoined_264 ?_
                            refine a_goto (tgt := 269) d_Laws_isJoined_265 rfl ?_
                            refine a_sub [0, 2, 3] rfl ?_
                            exact h
                      ·
                        by_cases q8_23 : fs_sm (fs_ord x1) = 23
                        · have h := hs8_11 q8_23
                          refine a_tableIn (tgt := 305) d_Laws_isJoined_8 (by omega) (by omega) (by rw [q8_23]; rfl) rfl ?_
                          refine a_lload (j := 3) d_Laws_isJoined_305 rfl ?_
                          refine a_lconst (v := 0) d_Laws_isJoined_307 rfl (by unfold fs_in64; omega) ?_
                          refine a_lcmp d_Laws_isJoined_308 ?_
                          refine a_if_ne (tgt := 314) d_Laws_isJoined_309 rfl (fun c13 => ?_) (fun c13 => ?_)
                          · have h := h.1 c13
                            refine a_aload_n (j := 0) d_Laws_isJoined_314 rfl rfl ?_
                            refine a_lload_n (j := 2) d_Laws_isJoined_315 rfl rfl ?_
                            refine a_lload (j := 3) d_Laws_isJoined_316 rfl ?_
                            obtain ⟨o14, h⟩ := h
                            refine a_ldiv d_Laws_isJoined_318 o14 ?_
                            refine b_putfield (x := (fs_ldiv x2 x4)) d_Laws_isJoined_319 fl_Laws_35 h0 rfl rfl fs_nar_long ?_
                            refine a_goto (tgt := 327) d_Laws_isJoined_322 rfl ?_
                            refine a_sub [0] rfl ?_
                            exact h
                          · have h := h.2 c13
                            refine a_iconst d_Laws_isJoined_312 (by unfold fs_in32; omega) ?_
                            exact b_ireturn d_Laws_isJoined_313 rfl (fs_nar01 (Or.inl rfl)) h
                        ·
                          have h := hs8_12 ⟨q8_12, q8_13, q8_14, q8_15, q8_16, q8_17, q8_18, q8_19, q8_20, q8_21, q8_22, q8_23⟩
                          refine a_tableOut (tgt := 325) d_Laws_isJoined_8 (by omega) rfl ?_
                          refine a_iconst d_Laws_isJoined_325 (by unfold fs_in32; omega) ?_
                          exact b_ireturn d_Laws_isJoined_326 rfl (fs_nar01 (Or.inl rfl)) h
set_option maxRecDepth 8000 in
set_option maxHeartbeats 4000000 in
theorem L_Laws_isJoined_269 {M : fs_M} {K : fs_K} {x0 x2 x4 x100 : Int} (h0 : fs_isO 3 x0) 
    (h : ((0 ≤ fs_lcmp x4 0 → fs_A2 g m_Laws_isJoined 2 287 [(0, fs_r x0), (2, fs_l x2), (4, fs_l x4)] [fs_l x4, fs_l 1000000000000, fs_l x100] M K) ∧ (¬ 0 ≤ fs_lcmp x4 0 → fs_A2 g m_Laws_isJoined 2 287 [(0, fs_r x0), (2, fs_l x2), (4, fs_l x4)] [fs_l (fs_w64 (-x4)), fs_l 1000000000000, fs_l x100] M K))) :
    fs_A2 g m_Laws_isJoined 2 269 [(0, fs_r x0), (2, fs_l x2), (4, fs_l x4)] [fs_l x100] M K := by
  refine a_ldc2 d_Laws_isJoined_269 cn_Laws_117 (by unfold fs_in64; omega) ?_
  refine a_lload (j := 2) d_Laws_isJoined_272 rfl ?_
  refine a_lconst (v := 0) d_Laws_isJoined_274 rfl (by unfold fs_in64; omega) ?_
  refine a_lcmp d_Laws_isJoined_275 ?_
  refine a_if_ge (tgt := 285) d_Laws_isJoined_276 rfl (fun c15 => ?_) (fun c15 => ?_)
  · have h := h.1 c15
    refine a_lload (j := 2) d_Laws_isJoined_285 rfl ?_
    exact h
  · have h := h.2 c15
    refine a_lload (j := 2) d_Laws_isJoined_279 rfl ?_
    refine a_lneg d_Laws_isJoined_281 ?_
    refine a_goto (tgt := 287) d_Laws_isJoined_282 rfl ?_
    exact h
set_option maxRecDepth 8000 in
set_option maxHeartbeats 4000000 in
theorem L_Laws_isJoined_287 {M : fs_M} {K : fs_K} {x0 x2 x4 x100 x101 x102 : Int} (h0 : fs_isO 3 x0) 
    (h : (¬ x102 = 0 ∧ ((fs_lcmp x100 (fs_ldiv x101 x102) ≤ 0 → fs_A2 g m_Laws_isJoined 2 327 [(0, fs_r x0)] [] (fs_st M x0 6 (fs_w64 (x2 * x4))) K) ∧ (¬ fs_lcmp x100 (fs_ldiv x101 x102) ≤ 0 → K (some (fs_i 0)) M)))) :
    fs_A2 g m_Laws_isJoined 2 287 [(0, fs_r x0), (2, fs_l x2), (4, fs_l x4)] [fs_l x102, fs_l x101, fs_l x100] M K := by
  obtain ⟨o16, h⟩ := h
  refine a_ldiv d_Laws_isJoined_287 o16 ?_
  refine a_lcmp d_Laws_isJoined_288 ?_
  refine a_if_le (tgt := 294) d_Laws_isJoined_289 rfl (fun c17 => ?_) (fun c17 => ?_)
  · have h := h.1 c17
    refine a_aload_n (j := 0) d_Laws_isJoined_294 rfl rfl ?_
    refine a_lload_n (j := 1) d_Laws_isJoined_295 rfl rfl ?_
    refine a_lload (j := 2) d_Laws_isJoined_296 rfl ?_
    refine a_lmul d_Laws_isJoined_298 ?_
    refine b_putfield (x := (fs_w64 (x2 * x4))) d_Laws_isJoined_299 fl_Laws_35 h0 rfl rfl fs_nar_long ?_
    refine a_goto (tgt := 327) d_Laws_isJoined_302 rfl ?_
    refine a_sub [0] rfl ?_
    exact h
  · have h := h.2 c17
    refine a_iconst d_Laws_isJoined_292 (by unfold fs_in32; omega) ?_
    exact b_ireturn d_Laws_isJoined_293 rfl (fs_nar01 (Or.inl rfl)) h
set_option maxRecDepth 8000 in
set_option maxHeartbeats 4000000 in
theorem L_Laws_isJoined_327 {M : fs_M} {K : fs_K} {x0 : Int} (h0 : fs_isO 3 x0) 
    (h : ((0 < fs_lcmp (M x0 6) 1000000000000 → K (some (fs_i 0)) M) ∧ (¬ 0 < fs_lcmp (M x0 6) 1000000000000 → ((fs_lcmp (M x0 6) (-1000000000000) < 0 → K (some (fs_i 0)) M) ∧ (¬ fs_lcmp (M x0 6) (-1000000000000) < 0 → K (some (fs_i 1)) M))))) :
    fs_A2 g m_Laws_isJoined 2 327 [(0, fs_r x0)] [] M K := by
  refine a_aload_n (j := 0) d_Laws_isJoined_327 rfl rfl ?_
  refine b_getfield (v := fs_l (M x0 6)) d_Laws_isJoined_328 fl_Laws_35 h0 rfl ?_
  refine a_ldc2 d_Laws_isJoined_331 cn_Laws_117 (by unfold fs_in64; omega) ?_
  refine a_lcmp d_Laws_isJoined_334 ?_
  refine a_if_gt (tgt := 353) d_Laws_isJoined_335 rfl (fun c18 => ?_) (fun c18 => ?_)
  · have h := h.1 c18
    refine a_iconst d_Laws_isJoined_353 (by unfold fs_in32; omega) ?_
    exact b_ireturn d_Laws_isJoined_354 rfl (fs_nar01 (Or.inl rfl)) h
  · have h := h.2 c18
    refine a_aload_n (j := 0) d_Laws_isJoined_338 rfl rfl ?_
    refine b_getfield (v := fs_l (M x0 6)) d_Laws_isJoined_339 fl_Laws_35 h0 rfl ?_
    refine a_ldc2 d_Laws_isJoined_342 cn_Laws_119 (by unfold fs_in64; omega) ?_
    refine a_lcmp d_Laws_isJoined_345 ?_
    refine a_if_lt (tgt := 353) d_Laws_isJoined_346 rfl (fun c19 => ?_) (fun c19 => ?_)
    · have h := h.1 c19
      refine a_iconst d_Laws_isJoined_353 (by unfold fs_in32; omega) ?_
      exact b_ireturn d_Laws_isJoined_354 rfl (fs_nar01 (Or.inl rfl)) h
    · have h := h.2 c19
      refine a_iconst d_Laws_isJoined_349 (by unfold fs_in32; omega) ?_
      refine a_goto (tgt := 354) d_Laws_isJoined_350 rfl ?_
      exact b_ireturn d_Laws_isJoined_354 rfl (fs_nar01 (Or.inr rfl)) h
set_option maxRecDepth 8000 in
set_option maxHeartbeats 4000000 in
theorem E_Laws_within {M : fs_M} {K : fs_K} {x0 x1 : Int} (h0 : fs_isO 3 x0) 
    (h : fs_C2 g m_Math_min_J 1 [fs_l (M x0 6), fs_l x1] M (fun v M1 => ∃ r1, v = some (fs_l r1) ∧ fs_C2 g m_Math_max_J 1 [fs_l 0, fs_l r1] M1 (fun v M2 => ∃ r2, v = some (fs_l r2) ∧ K (some (fs_i (fs_w32 r2))) M2))) :
    fs_C2 g m_Laws_within 2 [fs_r x0, fs_i x1] M K := by
  refine b_enter2 (ls := [(0, fs_r x0), (1, fs_i x1)]) (plainFor_of_name pn_Laws) (Nat.le_of_ble_eq_true rfl) rfl ?_
  refine a_lconst (v := 0) d_Laws_within_0 rfl (by unfold fs_in64; omega) ?_
  refine a_aload_n (j := 0) d_Laws_within_1 rfl rfl ?_
  refine b_getfield (v := fs_l (M x0 6)) d_Laws_within_2 fl_Laws_35 h0 rfl ?_
  refine a_iload_n (j := 1) d_Laws_within_5 rfl rfl ?_
  refine a_i2l d_Laws_within_6 ?_
  refine b_static (dc := 1) [fs_l (M x0 6), fs_l x1] [fs_l 0] d_Laws_within_7 ml_Laws_86 k_Math_min_J s_Math_min_J rfl (Nat.le_of_ble_eq_true rfl) rfl (Nat.le_of_ble_eq_true rfl) ?_
  refine fs_Call.mono (fun v M1 hv => ?_) h
  obtain ⟨r1, rfl, h⟩ := hv
  show fs_A2 g m_Laws_within 2 10 [(0, fs_r x0), (1, fs_i x1)] [fs_l r1, fs_l 0] M1 K
  refine b_static (dc := 1) [fs_l 0, fs_l r1] [] d_Laws_within_10 ml_Laws_90 k_Math_max_J s_Math_max_J rfl (Nat.le_of_ble_eq_true rfl) rfl (Nat.le_of_ble_eq_true rfl) ?_
  refine fs_Call.mono (fun v M2 hv => ?_) h
  obtain ⟨r2, rfl, h⟩ := hv
  show fs_A2 g m_Laws_within 2 13 [(0, fs_r x0), (1, fs_i x1)] [fs_l r2] M2 K
  refine a_l2i d_Laws_within_13 ?_
  exact b_ireturn d_Laws_within_14 rfl rfl h
set_option maxRecDepth 8000 in
set_option maxHeartbeats 4000000 in
theorem E_Laws_stayTime {M : fs_M} {K : fs_K} {x0 x1 x2 x3 x4 : Int} (h0 : fs_isO 3 x0) 
    (h : fs_C2 g m_Laws_putNames 1 [fs_r x0, fs_i x1, fs_i x2, fs_i x3, fs_i x4] M (fun v M1 => v = none ∧ fs_C2 g m_Laws_isWorkedOut 3 [fs_r x0, fs_i 1] M1 (fun v M2 => ∃ r2, v = some (fs_i r2) ∧ ((r2 = 0 → K (some (fs_i 2)) M2) ∧ (¬ r2 = 0 → fs_C2 g m_Laws_within 2 [fs_r x0, fs_i 60] M2 (fun v M3 => ∃ r3, v = some (fs_i r3) ∧ K (some (fs_i r3)) M3)))))) :
    fs_C2 g m_Laws_stayTime 4 [fs_r x0, fs_i x1, fs_i x2, fs_i x3, fs_i x4] M K := by
  refine b_enter2 (ls := [(0, fs_r x0), (1, fs_i x1), (2, fs_i x2), (3, fs_i x3), (4, fs_i x4)]) (plainFor_of_name pn_Laws) (Nat.le_of_ble_eq_true rfl) rfl ?_
  refine a_aload_n (j := 0) d_Laws_stayTime_0 rfl rfl ?_
  refine a_iload_n (j := 1) d_Laws_stayTime_1 rfl rfl ?_
  refine a_iload_n (j := 2) d_Laws_stayTime_2 rfl rfl ?_
  refine a_iload_n (j := 3) d_Laws_stayTime_3 rfl rfl ?_
  refine a_iload (j := 4) d_Laws_stayTime_4 rfl ?_
  refine b_virtual (dc := 1) (ci := 3) (T := fs_T3) (N := 14) [fs_i x1, fs_i x2, fs_i x3, fs_i x4] [] d_Laws_stayTime_6 ml_Laws_66 k_Laws_putNames v_Laws_putNames rfl h0 rfl (Nat.le_of_ble_eq_true rfl) rfl (Nat.le_of_ble_eq_true rfl) ?_
  refine fs_Call.mono (fun v M1 hv => ?_) h
  obtain ⟨rfl, h⟩ := hv
  show fs_A2 g m_Laws_stayTime 4 9 [(0, fs_r x0), (1, fs_i x1), (2, fs_i x2), (3, fs_i x3), (4, fs_i x4)] [] M1 K
  refine a_aload_n (j := 0) d_Laws_stayTime_9 rfl rfl ?_
  refine a_iconst d_Laws_stayTime_10 (by unfold fs_in32; omega) ?_
  refine b_virtual (dc := 3) (ci := 3) (T := fs_T3) (N := 14) [fs_i 1] [] d_Laws_stayTime_11 ml_Laws_76 k_Laws_isWorkedOut v_Laws_isWorkedOut rfl h0 rfl (Nat.le_of_ble_eq_true rfl) rfl (Nat.le_of_ble_eq_true rfl) ?_
  refine fs_Call.mono (fun v M2 hv => ?_) h
  obtain ⟨r2, rfl, h⟩ := hv
  show fs_A2 g m_Laws_stayTime 4 14 [(0, fs_r x0), (1, fs_i x1), (2, fs_i x2), (3, fs_i x3), (4, fs_i x4)] [fs_i r2] M2 K
  refine a_if_eq (tgt := 26) d_Laws_stayTime_14 rfl (fun c1 => ?_) (fun c1 => ?_)
  · have h := h.1 c1
    refine a_iconst d_Laws_stayTime_26 (by unfold fs_in32; omega) ?_
    exact b_ireturn d_Laws_stayTime_27 rfl rfl h
  · have h := h.2 c1
    refine a_aload_n (j := 0) d_Laws_stayTime_17 rfl rfl ?_
    refine a_bipush d_Laws_stayTime_18 (by decide) ?_
    refine b_virtual (dc := 2) (ci := 3) (T := fs_T3) (N := 14) [fs_i 60] [] d_Laws_stayTime_20 ml_Laws_80 k_Laws_within v_Laws_within rfl h0 rfl (Nat.le_of_ble_eq_true rfl) rfl (Nat.le_of_ble_eq_true rfl) ?_
    refine fs_Call.mono (fun v M3 hv => ?_) h
    obtain ⟨r3, rfl, h⟩ := hv
    show fs_A2 g m_Laws_stayTime 4 23 [(0, fs_r x0), (1, fs_i x1), (2, fs_i x2), (3, fs_i x3), (4, fs_i x4)] [fs_i r3] M3 K
    refine a_goto (tgt := 27) d_Laws_stayTime_23 rfl ?_
    exact b_ireturn d_Laws_stayTime_27 rfl rfl h
set_option maxRecDepth 8000 in
set_option maxHeartbeats 4000000 in
theorem E_Laws_allows {M : fs_M} {K : fs_K} {x0 x1 x2 x3 x4 x5 : Int} (h0 : fs_isO 3 x0) 
    (h : fs_C2 g m_Laws_isTold 1 [fs_r x0, fs_i 2] M (fun v M1 => ∃ r1, v = some (fs_i r1) ∧ ((¬ r1 = 0 → fs_C2 g m_Laws_putNames 1 [fs_r x0, fs_i x1, fs_i x2, fs_i x3, fs_i x4] M1 (fun v M2 => v = none ∧ fs_C2 g m_Laws_isWorkedOut 3 [fs_r x0, fs_i 2] (fs_st M2 x0 13 x5) (fun v M3 => ∃ r3, v = some (fs_i r3) ∧ ((r3 = 0 → K (some (fs_i 0)) M3) ∧ (¬ r3 = 0 → ((fs_lcmp (M3 x0 6) 0 ≤ 0 → K (some (fs_i 0)) M3) ∧ (¬ fs_lcmp (M3 x0 6) 0 ≤ 0 → K (some (fs_i 1)) M3))))))) ∧ (r1 = 0 → K (some (fs_i 1)) M1)))) :
    fs_C2 g m_Laws_allows 4 [fs_r x0, fs_i x1, fs_i x2, fs_i x3, fs_i x4, fs_i x5] M K := by
  refine b_enter2 (ls := [(0, fs_r x0), (1, fs_i x1), (2, fs_i x2), (3, fs_i x3), (4, fs_i x4), (5, fs_i x5)]) (plainFor_of_name pn_Laws) (Nat.le_of_ble_eq_true rfl) rfl ?_
  refine a_aload_n (j := 0) d_Laws_allows_0 rfl rfl ?_
  refine a_iconst d_Laws_allows_1 (by unfold fs_in32; omega) ?_
  refine b_virtual (dc := 1) (ci := 3) (T := fs_T3) (N := 14) [fs_i 2] [] d_Laws_allows_2 ml_Laws_83 k_Laws_isTold v_Laws_isTold rfl h0 rfl (Nat.le_of_ble_eq_true rfl) rfl (Nat.le_of_ble_eq_true rfl) ?_
  refine fs_Call.mono (fun v M1 hv => ?_) h
  obtain ⟨r1, rfl, h⟩ := hv
  show fs_A2 g m_Laws_allows 4 5 [(0, fs_r x0), (1, fs_i x1), (2, fs_i x2), (3, fs_i x3), (4, fs_i x4), (5, fs_i x5)] [fs_i r1] M1 K
  refine a_if_ne (tgt := 10) d_Laws_allows_5 rfl (fun c1 => ?_) (fun c1 => ?_)
  · have h := h.1 c1
    refine a_aload_n (j := 0) d_Laws_allows_10 rfl rfl ?_
    refine a_iload_n (j := 1) d_Laws_allows_11 rfl rfl ?_
    refine a_iload_n (j := 2) d_Laws_allows_12 rfl rfl ?_
    refine a_iload_n (j := 3) d_Laws_allows_13 rfl rfl ?_
    refine a_iload (j := 4) d_Laws_allows_14 rfl ?_
    refine b_virtual (dc := 1) (ci := 3) (T := fs_T3) (N := 14) [fs_i x1, fs_i x2, fs_i x3, fs_i x4] [] d_Laws_allows_16 ml_Laws_66 k_Laws_putNames v_Laws_putNames rfl h0 rfl (Nat.le_of_ble_eq_true rfl) rfl (Nat.le_of_ble_eq_true rfl) ?_
    refine fs_Call.mono (fun v M2 hv => ?_) h
    obtain ⟨rfl, h⟩ := hv
    show fs_A2 g m_Laws_allows 4 19 [(0, fs_r x0), (1, fs_i x1), (2, fs_i x2), (3, fs_i x3), (4, fs_i x4), (5, fs_i x5)] [] M2 K
    refine a_aload_n (j := 0) d_Laws_allows_19 rfl rfl ?_
    refine a_iload (j := 5) d_Laws_allows_20 rfl ?_
    refine b_putfield (x := x5) d_Laws_allows_22 fl_Laws_57 h0 rfl rfl fs_nar_int ?_
    refine a_aload_n (j := 0) d_Laws_allows_25 rfl rfl ?_
    refine a_iconst d_Laws_allows_26 (by unfold fs_in32; omega) ?_
    refine b_virtual (dc := 3) (ci := 3) (T := fs_T3) (N := 14) [fs_i 2] [] d_Laws_allows_27 ml_Laws_76 k_Laws_isWorkedOut v_Laws_isWorkedOut rfl h0 rfl (Nat.le_of_ble_eq_true rfl) rfl (Nat.le_of_ble_eq_true rfl) ?_
    refine fs_Call.mono (fun v M3 hv => ?_) h
    obtain ⟨r3, rfl, h⟩ := hv
    show fs_A2 g m_Laws_allows 4 30 [(0, fs_r x0), (1, fs_i x1), (2, fs_i x2), (3, fs_i x3), (4, fs_i x4), (5, fs_i x5)] [fs_i r3] M3 K
    refine a_if_eq (tgt := 46) d_Laws_allows_30 rfl (fun c2 => ?_) (fun c2 => ?_)
    · have h := h.1 c2
      refine a_iconst d_Laws_allows_46 (by unfold fs_in32; omega) ?_
      exact b_ireturn d_Laws_allows_47 rfl (fs_nar01 (Or.inl rfl)) h
    · have h := h.2 c2
      refine a_aload_n (j := 0) d_Laws_allows_33 rfl rfl ?_
      refine b_getfield (v := fs_l (M3 x0 6)) d_Laws_allows_34 fl_Laws_35 h0 rfl ?_
      refine a_lconst (v := 0) d_Laws_allows_37 rfl (by unfold fs_in64; omega) ?_
      refine a_lcmp d_Laws_allows_38 ?_
      refine a_if_le (tgt := 46) d_Laws_allows_39 rfl (fun c3 => ?_) (fun c3 => ?_)
      · have h := h.1 c3
        refine a_iconst d_Laws_allows_46 (by unfold fs_in32; omega) ?_
        exact b_ireturn d_Laws_allows_47 rfl (fs_nar01 (Or.inl rfl)) h
      · have h := h.2 c3
        refine a_iconst d_Laws_allows_42 (by unfold fs_in32; omega) ?_
        refine a_goto (tgt := 47) d_Laws_allows_43 rfl ?_
        exact b_ireturn d_Laws_allows_47 rfl (fs_nar01 (Or.inr rfl)) h
  · have h := h.2 c1
    refine a_iconst d_Laws_allows_8 (by unfold fs_in32; omega) ?_
    exact b_ireturn d_Laws_allows_9 rfl (fs_nar01 (Or.inr rfl)) h
set_option maxRecDepth 8000 in
set_option maxHeartbeats 4000000 in
theorem E_Laws_catChance {M : fs_M} {K : fs_K} {x0 x1 x2 : Int} (h0 : fs_isO 3 x0) 
    (h : fs_C2 g m_Laws_putNames 1 [fs_r x0, fs_i x1, fs_i 0, fs_i 0, fs_i x2] M (fun v M1 => v = none ∧ fs_C2 g m_Laws_isWorkedOut 3 [fs_r x0, fs_i 3] M1 (fun v M2 => ∃ r2, v = some (fs_i r2) ∧ ((r2 = 0 → K (some (fs_i 0)) M2) ∧ (¬ r2 = 0 → fs_C2 g m_Laws_within 2 [fs_r x0, fs_i 1000] M2 (fun v M3 => ∃ r3, v = some (fs_i r3) ∧ K (some (fs_i r3)) M3)))))) :
    fs_C2 g m_Laws_catChance 4 [fs_r x0, fs_i x1, fs_i x2] M K := by
  refine b_enter2 (ls := [(0, fs_r x0), (1, fs_i x1), (2, fs_i x2)]) (plainFor_of_name pn_Laws) (Nat.le_of_ble_eq_true rfl) rfl ?_
  refine a_aload_n (j := 0) d_Laws_catChance_0 rfl rfl ?_
  refine a_iload_n (j := 1) d_Laws_catChance_1 rfl rfl ?_
  refine a_iconst d_Laws_catChance_2 (by unfold fs_in32; omega) ?_
  refine a_iconst d_Laws_catChance_3 (by unfold fs_in32; omega) ?_
  refine a_iload_n (j := 2) d_Laws_catChance_4 rfl rfl ?_
  refine b_virtual (dc := 1) (ci := 3) (T := fs_T3) (N := 14) [fs_i x1, fs_i 0, fs_i 0, fs_i x2] [] d_Laws_catChance_5 ml_Laws_66 k_Laws_putNames v_Laws_putNames rfl h0 rfl (Nat.le_of_ble_eq_true rfl) rfl (Nat.le_of_ble_eq_true rfl) ?_
  refine fs_Call.mono (fun v M1 hv => ?_) h
  obtain ⟨rfl, h⟩ := hv
  show fs_A2 g m_Laws_catChance 4 8 [(0, fs_r x0), (1, fs_i x1), (2, fs_i x2)] [] M1 K
  refine a_aload_n (j := 0) d_Laws_catChance_8 rfl rfl ?_
  refine a_iconst d_Laws_catChance_9 (by unfold fs_in32; omega) ?_
  refine b_virtual (dc := 3) (ci := 3) (T := fs_T3) (N := 14) [fs_i 3] [] d_Laws_catChance_10 ml_Laws_76 k_Laws_isWorkedOut v_Laws_isWorkedOut rfl h0 rfl (Nat.le_of_ble_eq_true rfl) rfl (Nat.le_of_ble_eq_true rfl) ?_
  refine fs_Call.mono (fun v M2 hv => ?_) h
  obtain ⟨r2, rfl, h⟩ := hv
  show fs_A2 g m_Laws_catChance 4 13 [(0, fs_r x0), (1, fs_i x1), (2, fs_i x2)] [fs_i r2] M2 K
  refine a_if_eq (tgt := 26) d_Laws_catChance_13 rfl (fun c1 => ?_) (fun c1 => ?_)
  · have h := h.1 c1
    refine a_iconst d_Laws_catChance_26 (by unfold fs_in32; omega) ?_
    exact b_ireturn d_Laws_catChance_27 rfl rfl h
  · have h := h.2 c1
    refine a_aload_n (j := 0) d_Laws_catChance_16 rfl rfl ?_
    refine a_sipush d_Laws_catChance_17 (by decide) ?_
    refine b_virtual (dc := 2) (ci := 3) (T := fs_T3) (N := 14) [fs_i 1000] [] d_Laws_catChance_20 ml_Laws_80 k_Laws_within v_Laws_within rfl h0 rfl (Nat.le_of_ble_eq_true rfl) rfl (Nat.le_of_ble_eq_true rfl) ?_
    refine fs_Call.mono (fun v M3 hv => ?_) h
    obtain ⟨r3, rfl, h⟩ := hv
    show fs_A2 g m_Laws_catChance 4 23 [(0, fs_r x0), (1, fs_i x1), (2, fs_i x2)] [fs_i r3] M3 K
    refine a_goto (tgt := 27) d_Laws_catChance_23 rfl ?_
    exact b_ireturn d_Laws_catChance_27 rfl rfl h
end WALK
