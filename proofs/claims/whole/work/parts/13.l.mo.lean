-- ===== printed by program (wip/whole/gen12.py): what must hold at a method's entry, at its labels =====
section WALK
variable {g : fs_G}
set_option maxRecDepth 8000 in
set_option maxHeartbeats 4000000 in
theorem E_Mo_chance {M : fs_M} {K : fs_K} {x1 x2 : Int} 
    (h : ((x1 < 0 → K (some (fs_i (-1))) (fs_st M 226 0 0)) ∧ (¬ x1 < 0 → fs_C2 g m_Mo_isHouse 1 [fs_r 226, fs_i x2] (fs_st M 226 0 0) (fun v M1 => ∃ r1, v = some (fs_i r1) ∧ ((¬ r1 = 0 → fs_A2 g m_Mo_chance 9 39 [(0, fs_r 226), (2, fs_i x2), (3, fs_i (M1 245 0)), (4, fs_i 0), (5, fs_i 0)] [] (fs_st M1 245 0 x1) K) ∧ (r1 = 0 → K (some (fs_i (-1))) M1)))))) :
    fs_C2 g m_Mo_chance 9 [fs_r 226, fs_i x1, fs_i x2] M K := by
  refine b_enter2 (ls := [(0, fs_r 226), (1, fs_i x1), (2, fs_i x2)]) (plainFor_of_name pn_Mo) (Nat.le_of_ble_eq_true rfl) rfl ?_
  refine a_aload_n (j := 0) d_Mo_chance_0 rfl rfl ?_
  refine a_iconst d_Mo_chance_1 (by unfold fs_in32; omega) ?_
  refine b_putfield (x := 0) d_Mo_chance_2 fl_Mo_160 io_226 rfl rfl fs_nar_int ?_
  refine a_iload_n (j := 1) d_Mo_chance_5 rfl rfl ?_
  refine a_if_lt (tgt := 17) d_Mo_chance_6 rfl (fun c1 => ?_) (fun c1 => ?_)
  · have h := h.1 c1
    refine a_iconst d_Mo_chance_17 (by unfold fs_in32; omega) ?_
    exact b_ireturn d_Mo_chance_18 rfl rfl h
  · have h := h.2 c1
    refine a_aload_n (j := 0) d_Mo_chance_9 rfl rfl ?_
    refine a_iload_n (j := 2) d_Mo_chance_10 rfl rfl ?_
    refine b_virtual (dc := 1) (ci := 11) (T := fs_T11) (N := 78) [fs_i x2] [] d_Mo_chance_11 ml_Mo_314 k_Mo_isHouse v_Mo_isHouse rfl io_226 rfl (Nat.le_of_ble_eq_true rfl) rfl (Nat.le_of_ble_eq_true rfl) ?_
    refine fs_Call.mono (fun v M1 hv => ?_) h
    obtain ⟨r1, rfl, h⟩ := hv
    show fs_A2 g m_Mo_chance 9 14 [(0, fs_r 226), (1, fs_i x1), (2, fs_i x2)] [fs_i r1] M1 K
    refine a_if_ne (tgt := 19) d_Mo_chance_14 rfl (fun c2 => ?_) (fun c2 => ?_)
    · have h := h.1 c2
      refine a_aload_n (j := 0) d_Mo_chance_19 rfl rfl ?_
      refine b_getptr (q := 245) d_Mo_chance_20 fl_Mo_69 io_226 rfl rfl rfl ?_
      refine a_iconst d_Mo_chance_23 (by unfold fs_in32; omega) ?_
      refine b_iaload (v := M1 245 0) d_Mo_chance_24 ia_245 (by decide) (by decide) rfl ?_
      refine a_istore_n d_Mo_chance_25 rfl (Nat.le_of_ble_eq_true rfl) [1, 2, 3, 0] rfl ?_
      refine a_aload_n (j := 0) d_Mo_chance_26 rfl rfl ?_
      refine b_getptr (q := 245) d_Mo_chance_27 fl_Mo_69 io_226 rfl rfl rfl ?_
      refine a_iconst d_Mo_chance_30 (by unfold fs_in32; omega) ?_
      refine a_iload_n (j := 1) d_Mo_chance_31 rfl rfl ?_
      refine b_iastore d_Mo_chance_32 ia_245 (by decide) (by decide) ?_
      refine a_iconst d_Mo_chance_33 (by unfold fs_in32; omega) ?_
      refine a_istore d_Mo_chance_34 (Nat.le_of_ble_eq_true rfl) [1, 2, 3, 4, 0] rfl ?_
      refine a_iconst d_Mo_chance_36 (by unfold fs_in32; omega) ?_
      refine a_istore d_Mo_chance_37 (Nat.le_of_ble_eq_true rfl) [1, 2, 3, 4, 5, 0] rfl ?_
      refine a_sub [0, 2, 3, 4, 5] rfl ?_
      exact h
    · have h := h.2 c2
      refine a_iconst d_Mo_chance_17 (by unfold fs_in32; omega) ?_
      exact b_ireturn d_Mo_chance_18 rfl rfl h
set_option maxRecDepth 8000 in
set_option maxHeartbeats 4000000 in
theorem L_Mo_chance_39 {M : fs_M} {K : fs_K} {x2 x3 x4 x5 : Int} 
    (h : ((10 ≤ x5 → K (some (fs_i x4)) (fs_st M 245 0 x3)) ∧ (¬ 10 ≤ x5 → fs_C2 g m_Mo_passes 8 [fs_r 226] M (fun v M2 => v = none ∧ (0 ≤ x2 ∧ x2 < 6 ∧ ((0 ≤ M2 261 x2 → fs_A2 g m_Mo_chance 9 72 [(0, fs_r 226), (2, fs_i x2), (3, fs_i x3), (5, fs_i x5)] [fs_i x4] M2 K) ∧ (¬ 0 ≤ M2 261 x2 → ((¬ M2 261 x2 = (-2) → fs_A2 g m_Mo_chance 9 39 [(0, fs_r 226), (2, fs_i x2), (3, fs_i x3), (4, fs_i (fs_w32 (x4 + 0))), (5, fs_i (fs_w32 (x5 + 1)))] [] M2 K) ∧ (M2 261 x2 = (-2) → fs_A2 g m_Mo_chance 9 72 [(0, fs_r 226), (2, fs_i x2), (3, fs_i x3), (5, fs_i x5)] [fs_i x4] M2 K))))))))) :
    fs_A2 g m_Mo_chance 9 39 [(0, fs_r 226), (2, fs_i x2), (3, fs_i x3), (4, fs_i x4), (5, fs_i x5)] [] M K := by
  refine a_iload (j := 4) d_Mo_chance_39 rfl ?_
  refine a_bipush d_Mo_chance_41 (by decide) ?_
  refine a_icmp_ge (tgt := 101) d_Mo_chance_43 rfl (fun c3 => ?_) (fun c3 => ?_)
  · have h := h.1 c3
    refine a_aload_n (j := 0) d_Mo_chance_101 rfl rfl ?_
    refine b_getptr (q := 245) d_Mo_chance_102 fl_Mo_69 io_226 rfl rfl rfl ?_
    refine a_iconst d_Mo_chance_105 (by unfold fs_in32; omega) ?_
    refine a_iload_n (j := 2) d_Mo_chance_106 rfl rfl ?_
    refine b_iastore d_Mo_chance_107 ia_245 (by decide) (by decide) ?_
    refine a_iload (j := 3) d_Mo_chance_108 rfl ?_
    exact b_ireturn d_Mo_chance_110 rfl rfl h
  · have h := h.2 c3
    refine a_aload_n (j := 0) d_Mo_chance_46 rfl rfl ?_
    refine b_virtual (dc := 8) (ci := 11) (T := fs_T11) (N := 78) [] [] d_Mo_chance_47 ml_Mo_449 k_Mo_passes v_Mo_passes rfl io_226 rfl (Nat.le_of_ble_eq_true rfl) rfl (Nat.le_of_ble_eq_true rfl) ?_
    refine fs_Call.mono (fun v M2 hv => ?_) h
    obtain ⟨rfl, h⟩ := hv
    show fs_A2 g m_Mo_chance 9 50 [(0, fs_r 226), (2, fs_i x2), (3, fs_i x3), (4, fs_i x4), (5, fs_i x5)] [] M2 K
    refine a_iload (j := 3) d_Mo_chance_50 rfl ?_
    refine a_aload_n (j := 0) d_Mo_chance_52 rfl rfl ?_
    refine b_getptr (q := 261) d_Mo_chance_53 fl_Mo_127 io_226 rfl rfl rfl ?_
    refine a_iload_n (j := 1) d_Mo_chance_56 rfl rfl ?_
    obtain ⟨o4, o5, h⟩ := h
    refine b_iaload (v := M2 261 x2) d_Mo_chance_57 ia_261 o4 o5 rfl ?_
    refine a_if_ge (tgt := 72) d_Mo_chance_58 rfl (fun c6 => ?_) (fun c6 => ?_)
    · have h := h.1 c6
      refine a_sub [0, 1, 2, 4] rfl ?_
      exact h
    · have h := h.2 c6
      refine a_aload_n (j := 0) d_Mo_chance_61 rfl rfl ?_
      refine b_getptr (q := 261) d_Mo_chance_62 fl_Mo_127 io_226 rfl rfl rfl ?_
      refine a_iload_n (j := 1) d_Mo_chance_65 rfl rfl ?_
      refine b_iaload (v := M2 261 x2) d_Mo_chance_66 ia_261 o4 o5 rfl ?_
      refine a_bipush d_Mo_chance_67 (by decide) ?_
      refine a_icmp_ne (tgt := 91) d_Mo_chance_69 rfl (fun c7 => ?_) (fun c7 => ?_)
      · have h := h.1 c7
        refine a_iconst d_Mo_chance_91 (by unfold fs_in32; omega) ?_
        refine a_iadd d_Mo_chance_92 ?_
        refine a_istore d_Mo_chance_93 (Nat.le_of_ble_eq_true rfl) [1, 2, 3, 0, 4] rfl ?_
        refine a_iinc (j := 4) d_Mo_chance_95 rfl (Nat.le_of_ble_eq_true rfl) [1, 2, 3, 4, 0] rfl ?_
        refine a_goto (tgt := 39) d_Mo_chance_98 rfl ?_
        exact h
      · have h := h.2 c7
        refine a_sub [0, 1, 2, 4] rfl ?_
        exact h
set_option maxRecDepth 8000 in
set_option maxHeartbeats 4000000 in
theorem L_Mo_chance_72 {M : fs_M} {K : fs_K} {x2 x3 x5 x100 : Int} 
    (h : (0 ≤ x2 ∧ x2 < 6 ∧ ((M 232 x2 < M 262 x2 → fs_A2 g m_Mo_chance 9 39 [(0, fs_r 226), (2, fs_i x2), (3, fs_i x3), (4, fs_i (fs_w32 (x100 + 0))), (5, fs_i (fs_w32 (x5 + 1)))] [] M K) ∧ (¬ M 232 x2 < M 262 x2 → fs_A2 g m_Mo_chance 9 39 [(0, fs_r 226), (2, fs_i x2), (3, fs_i x3), (4, fs_i (fs_w32 (x100 + 1))), (5, fs_i (fs_w32 (x5 + 1)))] [] M K)))) :
    fs_A2 g m_Mo_chance 9 72 [(0, fs_r 226), (2, fs_i x2), (3, fs_i x3), (5, fs_i x5)] [fs_i x100] M K := by
  refine a_aload_n (j := 0) d_Mo_chance_72 rfl rfl ?_
  refine b_getptr (q := 262) d_Mo_chance_73 fl_Mo_130 io_226 rfl rfl rfl ?_
  refine a_iload_n (j := 1) d_Mo_chance_76 rfl rfl ?_
  obtain ⟨o8, o9, h⟩ := h
  refine b_iaload (v := M 262 x2) d_Mo_chance_77 ia_262 o8 o9 rfl ?_
  refine a_aload_n (j := 0) d_Mo_chance_78 rfl rfl ?_
  refine b_getptr (q := 232) d_Mo_chance_79 fl_Mo_25 io_226 rfl rfl rfl ?_
  refine a_iload_n (j := 1) d_Mo_chance_82 rfl rfl ?_
  refine b_iaload (v := M 232 x2) d_Mo_chance_83 ia_232 o8 (by have q := o9; omega) rfl ?_
  refine a_icmp_gt (tgt := 91) d_Mo_chance_84 rfl (fun c10 => ?_) (fun c10 => ?_)
  · have h := h.1 c10
    refine a_iconst d_Mo_chance_91 (by unfold fs_in32; omega) ?_
    refine a_iadd d_Mo_chance_92 ?_
    refine a_istore d_Mo_chance_93 (Nat.le_of_ble_eq_true rfl) [1, 2, 3, 0, 4] rfl ?_
    refine a_iinc (j := 4) d_Mo_chance_95 rfl (Nat.le_of_ble_eq_true rfl) [1, 2, 3, 4, 0] rfl ?_
    refine a_goto (tgt := 39) d_Mo_chance_98 rfl ?_
    exact h
  · have h := h.2 c10
    refine a_iconst d_Mo_chance_87 (by unfold fs_in32; omega) ?_
    refine a_goto (tgt := 92) d_Mo_chance_88 rfl ?_
    refine a_iadd d_Mo_chance_92 ?_
    refine a_istore d_Mo_chance_93 (Nat.le_of_ble_eq_true rfl) [1, 2, 3, 0, 4] rfl ?_
    refine a_iinc (j := 4) d_Mo_chance_95 rfl (Nat.le_of_ble_eq_true rfl) [1, 2, 3, 4, 0] rfl ?_
    refine a_goto (tgt := 39) d_Mo_chance_98 rfl ?_
    exact h
set_option maxRecDepth 8000 in
set_option maxHeartbeats 4000000 in
theorem E_Mo_best {M : fs_M} {K : fs_K} {x1 : Int} 
    (h : ((x1 < 0 → K (some (fs_i (-1))) (fs_st M 226 0 0)) ∧ (¬ x1 < 0 → ((x1 ≤ M 228 1 → fs_C2 g m_Mo_layBest 22 [fs_r 226, fs_i x1, fs_i (-1)] (fs_st M 226 0 0) (fun v M1 => v = none ∧ K (some (fs_i (M1 226 63))) M1)) ∧ (¬ x1 ≤ M 228 1 → K (some (fs_i (-1))) (fs_st M 226 0 0)))))) :
    fs_C2 g m_Mo_best 23 [fs_r 226, fs_i x1] M K := by
  refine b_enter2 (ls := [(0, fs_r 226), (1, fs_i x1)]) (plainFor_of_name pn_Mo) (Nat.le_of_ble_eq_true rfl) rfl ?_
  refine a_aload_n (j := 0) d_Mo_best_0 rfl rfl ?_
  refine a_iconst d_Mo_best_1 (by unfold fs_in32; omega) ?_
  refine b_putfield (x := 0) d_Mo_best_2 fl_Mo_160 io_226 rfl rfl fs_nar_int ?_
  refine a_iload_n (j := 1) d_Mo_best_5 rfl rfl ?_
  refine a_if_lt (tgt := 19) d_Mo_best_6 rfl (fun c1 => ?_) (fun c1 => ?_)
  · have h := h.1 c1
    refine a_iconst d_Mo_best_19 (by unfold fs_in32; omega) ?_
    exact b_ireturn d_Mo_best_20 rfl rfl h
  · have h := h.2 c1
    refine a_iload_n (j := 1) d_Mo_best_9 rfl rfl ?_
    refine a_aload_n (j := 0) d_Mo_best_10 rfl rfl ?_
    refine b_getptr (q := 228) d_Mo_best_11 fl_Mo_13 io_226 rfl rfl rfl ?_
    refine a_iconst d_Mo_best_14 (by unfold fs_in32; omega) ?_
    refine b_iaload (v := M 228 1) d_Mo_best_15 ia_228 (by decide) (by decide) rfl ?_
    refine a_icmp_le (tgt := 21) d_Mo_best_16 rfl (fun c2 => ?_) (fun c2 => ?_)
    · have h := h.1 c2
      refine a_aload_n (j := 0) d_Mo_best_21 rfl rfl ?_
      refine a_iload_n (j := 1) d_Mo_best_22 rfl rfl ?_
      refine a_iconst d_Mo_best_23 (by unfold fs_in32; omega) ?_
      refine b_virtual (dc := 22) (ci := 11) (T := fs_T11) (N := 78) [fs_i x1, fs_i (-1)] [] d_Mo_best_24 ml_Mo_470 k_Mo_layBest v_Mo_layBest rfl io_226 rfl (Nat.le_of_ble_eq_true rfl) rfl (Nat.le_of_ble_eq_true rfl) ?_
      refine fs_Call.mono (fun v M1 hv => ?_) h
      obtain ⟨rfl, h⟩ := hv
      show fs_A2 g m_Mo_best 23 27 [(0, fs_r 226), (1, fs_i x1)] [] M1 K
      refine a_aload_n (j := 0) d_Mo_best_27 rfl rfl ?_
      refine b_getfield (v := fs_i (M1 226 63)) d_Mo_best_28 fl_Mo_458 io_226 rfl ?_
      exact b_ireturn d_Mo_best_31 rfl rfl h
    · have h := h.2 c2
      refine a_iconst d_Mo_best_19 (by unfold fs_in32; omega) ?_
      exact b_ireturn d_Mo_best_20 rfl rfl h
set_option maxRecDepth 8000 in
set_option maxHeartbeats 4000000 in
theorem E_Mo_layBest {M : fs_M} {K : fs_K} {x1 x2 : Int} 
    (h : fs_C2 g m_Mo_asIs 2 [fs_r 226] M (fun v M1 => v = none ∧ fs_A2 g m_Mo_layBest 22 6 [(0, fs_r 226), (1, fs_i x1), (2, fs_i x2), (3, fs_i 0)] [] M1 K)) :
    fs_C2 g m_Mo_layBest 22 [fs_r 226, fs_i x1, fs_i x2] M K := by
  refine b_enter2 (ls := [(0, fs_r 226), (1, fs_i x1), (2, fs_i x2)]) (plainFor_of_name pn_Mo) (Nat.le_of_ble_eq_true rfl) rfl ?_
  refine a_aload_n (j := 0) d_Mo_layBest_0 rfl rfl ?_
  refine b_virtual (dc := 2) (ci := 11) (T := fs_T11) (N := 78) [] [] d_Mo_layBest_1 ml_Mo_406 k_Mo_asIs v_Mo_asIs rfl io_226 rfl (Nat.le_of_ble_eq_true rfl) rfl (Nat.le_of_ble_eq_true rfl) ?_
  refine fs_Call.mono (fun v M1 hv => ?_) h
  obtain ⟨rfl, h⟩ := hv
  show fs_A2 g m_Mo_layBest 22 4 [(0, fs_r 226), (1, fs_i x1), (2, fs_i x2)] [] M1 K
  refine a_iconst d_Mo_layBest_4 (by unfold fs_in32; omega) ?_
  refine a_istore_n d_Mo_layBest_5 rfl (Nat.le_of_ble_eq_true rfl) [1, 2, 3, 0] rfl ?_
  exact h
set_option maxRecDepth 8000 in
set_option maxHeartbeats 4000000 in
theorem L_Mo_layBest_6 {M : fs_M} {K : fs_K} {x1 x2 x3 : Int} 
    (h : ((3 ≤ x3 → fs_C2 g m_Mo_rows 21 [fs_r 226, fs_i 0, fs_i 0] (fs_st (fs_st (fs_st (fs_st (fs_st M 226 44 x2) 226 62 x1) 226 63 (-1)) 226 66 (-1)) 226 67 0) (fun v M2 => v = none ∧ K none M2)) ∧ (¬ 3 ≤ x3 → (0 ≤ x3 ∧ fs_A2 g m_Mo_layBest 22 6 [(0, fs_r 226), (1, fs_i x1), (2, fs_i x2), (3, fs_i (fs_w32 (x3 + 1)))] [] (fs_st M 252 x3 0) K)))) :
    fs_A2 g m_Mo_layBest 22 6 [(0, fs_r 226), (1, fs_i x1), (2, fs_i x2), (3, fs_i x3)] [] M K := by
  refine a_iload_n (j := 3) d_Mo_layBest_6 rfl rfl ?_
  refine a_iconst d_Mo_layBest_7 (by unfold fs_in32; omega) ?_
  refine a_icmp_ge (tgt := 24) d_Mo_layBest_8 rfl (fun c1 => ?_) (fun c1 => ?_)
  · have h := h.1 c1
    refine a_aload_n (j := 0) d_Mo_layBest_24 rfl rfl ?_
    refine a_iload_n (j := 2) d_Mo_layBest_25 rfl rfl ?_
    refine b_putfield (x := x2) d_Mo_layBest_26 fl_Mo_94 io_226 rfl rfl fs_nar_int ?_
    refine a_aload_n (j := 0) d_Mo_layBest_29 rfl rfl ?_
    refine a_iload_n (j := 1) d_Mo_layBest_30 rfl rfl ?_
    refine b_putfield (x := x1) d_Mo_layBest_31 fl_Mo_461 io_226 rfl rfl fs_nar_int ?_
    refine a_aload_n (j := 0) d_Mo_layBest_34 rfl rfl ?_
    refine a_iconst d_Mo_layBest_35 (by unfold fs_in32; omega) ?_
    refine b_putfield (x := (-1)) d_Mo_layBest_36 fl_Mo_458 io_226 rfl rfl fs_nar_int ?_
    refine a_aload_n (j := 0) d_Mo_layBest_39 rfl rfl ?_
    refine a_iconst d_Mo_layBest_40 (by unfold fs_in32; omega) ?_
    refine b_putfield (x := (-1)) d_Mo_layBest_41 fl_Mo_452 io_226 rfl rfl fs_nar_int ?_
    refine a_aload_n (j := 0) d_Mo_layBest_44 rfl rfl ?_
    refine a_iconst d_Mo_layBest_45 (by unfold fs_in32; omega) ?_
    refine b_putfield (x := 0) d_Mo_layBest_46 fl_Mo_455 io_226 rfl rfl (fs_nar_bool (Or.inl rfl)) ?_
    refine a_aload_n (j := 0) d_Mo_layBest_49 rfl rfl ?_
    refine a_iconst d_Mo_layBest_50 (by unfold fs_in32; omega) ?_
    refine a_iconst d_Mo_layBest_51 (by unfold fs_in32; omega) ?_
    refine b_virtual (dc := 21) (ci := 11) (T := fs_T11) (N := 78) [fs_i 0, fs_i 0] [] d_Mo_layBest_52 ml_Mo_467 k_Mo_rows v_Mo_rows rfl io_226 rfl (Nat.le_of_ble_eq_true rfl) rfl (Nat.le_of_ble_eq_true rfl) ?_
    refine fs_Call.mono (fun v M2 hv => ?_) h
    obtain ⟨rfl, h⟩ := hv
    show fs_A2 g m_Mo_layBest 22 55 [(0, fs_r 226), (1, fs_i x1), (2, fs_i x2), (3, fs_i x3)] [] M2 K
    exact b_return d_Mo_layBest_55 rfl h
  · have h := h.2 c1
    refine a_aload_n (j := 0) d_Mo_layBest_11 rfl rfl ?_
    refine b_getptr (q := 252) d_Mo_layBest_12 fl_Mo_100 io_226 rfl rfl rfl ?_
    refine a_iload_n (j := 3) d_Mo_layBest_15 rfl rfl ?_
    refine a_iconst d_Mo_layBest_16 (by unfold fs_in32; omega) ?_
    obtain ⟨o2, h⟩ := h
    refine b_iastore d_Mo_layBest_17 ia_252 o2 (by omega : x3 < 3) ?_
    refine a_iinc (j := 3) d_Mo_layBest_18 rfl (Nat.le_of_ble_eq_true rfl) [1, 2, 3, 0] rfl ?_
    refine a_goto (tgt := 6) d_Mo_layBest_21 rfl ?_
    exact h
set_option maxRecDepth 8000 in
set_option maxHeartbeats 4000000 in
theorem E_Mo_rows {d : Nat} (hd : 9 ≤ d) {M : fs_M} {K : fs_K} {x1 x2 : Int} 
    (h : ((M 226 67 = 0 → ((x1 < M 226 62 → fs_C2 g m_Mo_rows d [fs_r 226, fs_i (fs_w32 (x1 + 1)), fs_i x2] M (fun v M1 => v = none ∧ fs_A2 g m_Mo_rows (d + 1) 31 [(0, fs_r 226), (1, fs_i x1), (2, fs_i x2), (3, fs_i 0)] [] M1 K)) ∧ (¬ x1 < M 226 62 → fs_C2 g m_Mo_judges 9 [fs_r 226] M (fun v M2 => v = none ∧ K none M2)))) ∧ (¬ M 226 67 = 0 → K none M))) :
    fs_C2 g m_Mo_rows (d + 1) [fs_r 226, fs_i x1, fs_i x2] M K := by
  refine b_enter2 (ls := [(0, fs_r 226), (1, fs_i x1), (2, fs_i x2)]) (plainFor_of_name pn_Mo) (Nat.le_of_ble_eq_true rfl) rfl ?_
  refine a_aload_n (j := 0) d_Mo_rows_0 rfl rfl ?_
  refine b_getfield (v := fs_i (M 226 67)) d_Mo_rows_1 fl_Mo_455 io_226 rfl ?_
  refine a_if_eq (tgt := 8) d_Mo_rows_4 rfl (fun c1 => ?_) (fun c1 => ?_)
  · have h := h.1 c1
    refine a_iload_n (j := 1) d_Mo_rows_8 rfl rfl ?_
    refine a_aload_n (j := 0) d_Mo_rows_9 rfl rfl ?_
    refine b_getfield (v := fs_i (M 226 62)) d_Mo_rows_10 fl_Mo_461 io_226 rfl ?_
    refine a_icmp_lt (tgt := 21) d_Mo_rows_13 rfl (fun c2 => ?_) (fun c2 => ?_)
    · have h := h.1 c2
      refine a_aload_n (j := 0) d_Mo_rows_21 rfl rfl ?_
      refine a_iload_n (j := 1) d_Mo_rows_22 rfl rfl ?_
      refine a_iconst d_Mo_rows_23 (by unfold fs_in32; omega) ?_
      refine a_iadd d_Mo_rows_24 ?_
      refine a_iload_n (j := 2) d_Mo_rows_25 rfl rfl ?_
      refine b_virtual (dc := d) (ci := 11) (T := fs_T11) (N := 78) [fs_i (fs_w32 (x1 + 1)), fs_i x2] [] d_Mo_rows_26 ml_Mo_467 k_Mo_rows v_Mo_rows rfl io_226 rfl (Nat.le_refl _) rfl (Nat.le_of_ble_eq_true rfl) ?_
      refine fs_Call.mono (fun v M1 hv => ?_) h
      obtain ⟨rfl, h⟩ := hv
      show fs_A2 g m_Mo_rows (d + 1) 29 [(0, fs_r 226), (1, fs_i x1), (2, fs_i x2)] [] M1 K
      refine a_iconst d_Mo_rows_29 (by unfold fs_in32; omega) ?_
      refine a_istore_n d_Mo_rows_30 rfl (Nat.le_of_ble_eq_true rfl) [1, 2, 3, 0] rfl ?_
      exact h
    · have h := h.2 c2
      refine a_aload_n (j := 0) d_Mo_rows_16 rfl rfl ?_
      refine b_virtual (dc := 9) (ci := 11) (T := fs_T11) (N := 78) [] [] d_Mo_rows_17 ml_Mo_464 k_Mo_judges v_Mo_judges rfl io_226 rfl (by omega) rfl (Nat.le_of_ble_eq_true rfl) ?_
      refine fs_Call.mono (fun v M2 hv => ?_) h
      obtain ⟨rfl, h⟩ := hv
      show fs_A2 g m_Mo_rows (d + 1) 20 [(0, fs_r 226), (1, fs_i x1), (2, fs_i x2)] [] M2 K
      exact b_return d_Mo_rows_20 rfl h
  · have h := h.2 c1
    exact b_return d_Mo_rows_7 rfl h
set_option maxRecDepth 8000 in
set_option maxHeartbeats 4000000 in
theorem L_Mo_rows_31 {d : Nat} (hd : 9 ≤ d) {M : fs_M} {K : fs_K} {x1 x2 x3 : Int} 
    (h : ((M 228 0 ≤ x3 → K none M) ∧ (¬ M 228 0 ≤ x3 → ((fs_and (fs_shr x2 x3) 1 = 1 → fs_A2 g m_Mo_rows (d + 1) 31 [(0, fs_r 226), (1, fs_i x1), (2, fs_i x2), (3, fs_i (fs_w32 (x3 + 1)))] [] M K) ∧ (¬ fs_and (fs_shr x2 x3) 1 = 1 → ((¬ x3 = M 226 44 → (0 ≤ x1 ∧ x1 < 3 ∧ (0 ≤ fs_w32 ((fs_w32 (9 * x1)) + (M 252 x1)) ∧ fs_w32 ((fs_w32 (9 * x1)) + (M 252 x1)) < 27 ∧ fs_C2 g m_Mo_rows d [fs_r 226, fs_i x1, fs_i (fs_or x2 (fs_shl 1 x3))] (fs_st (fs_st M 251 (fs_w32 ((fs_w32 (9 * x1)) + (M 252 x1))) x3) 252 x1 (fs_w32 ((M 252 x1) + 1))) (fun v M3 => v = none ∧ fs_A2 g m_Mo_rows (d + 1) 31 [(0, fs_r 226), (1, fs_i x1), (2, fs_i x2), (3, fs_i (fs_w32 (x3 + 1)))] [] (fs_st M3 252 x1 (fs_w32 ((M3 252 x1) - 1))) K)))) ∧ (x3 = M 226 44 → fs_A2 g m_Mo_rows (d + 1) 31 [(0, fs_r 226), (1, fs_i x1), (2, fs_i x2), (3, fs_i (fs_w32 (x3 + 1)))] [] M K))))))) :
    fs_A2 g m_Mo_rows (d + 1) 31 [(0, fs_r 226), (1, fs_i x1), (2, fs_i x2), (3, fs_i x3)] [] M K := by
  refine a_iload_n (j := 3) d_Mo_rows_31 rfl rfl ?_
  refine a_aload_n (j := 0) d_Mo_rows_32 rfl rfl ?_
  refine b_getptr (q := 228) d_Mo_rows_33 fl_Mo_13 io_226 rfl rfl rfl ?_
  refine a_iconst d_Mo_rows_36 (by unfold fs_in32; omega) ?_
  refine b_iaload (v := M 228 0) d_Mo_rows_37 ia_228 (by decide) (by decide) rfl ?_
  refine a_icmp_ge (tgt := 114) d_Mo_rows_38 rfl (fun c3 => ?_) (fun c3 => ?_)
  · have h := h.1 c3
    exact b_return d_Mo_rows_114 rfl h
  · have h := h.2 c3
    refine a_iload_n (j := 2) d_Mo_rows_41 rfl rfl ?_
    refine a_iload_n (j := 3) d_Mo_rows_42 rfl rfl ?_
    refine a_ishr d_Mo_rows_43 ?_
    refine a_iconst d_Mo_rows_44 (by unfold fs_in32; omega) ?_
    refine a_iand d_Mo_rows_45 ?_
    refine a_iconst d_Mo_rows_46 (by unfold fs_in32; omega) ?_
    refine a_icmp_eq (tgt := 108) d_Mo_rows_47 rfl (fun c4 => ?_) (fun c4 => ?_)
    · have h := h.1 c4
      refine a_iinc (j := 3) d_Mo_rows_108 rfl (Nat.le_of_ble_eq_true rfl) [1, 2, 3, 0] rfl ?_
      refine a_goto (tgt := 31) d_Mo_rows_111 rfl ?_
      exact h
    · have h := h.2 c4
      refine a_iload_n (j := 3) d_Mo_rows_50 rfl rfl ?_
      refine a_aload_n (j := 0) d_Mo_rows_51 rfl rfl ?_
      refine b_getfield (v := fs_i (M 226 44)) d_Mo_rows_52 fl_Mo_94 io_226 rfl ?_
      refine a_icmp_ne (tgt := 61) d_Mo_rows_55 rfl (fun c5 => ?_) (fun c5 => ?_)
      · have h := h.1 c5
        refine a_aload_n (j := 0) d_Mo_rows_61 rfl rfl ?_
        refine b_getptr (q := 251) d_Mo_rows_62 fl_Mo_97 io_226 rfl rfl rfl ?_
        refine a_bipush d_Mo_rows_65 (by decide) ?_
        refine a_iload_n (j := 1) d_Mo_rows_67 rfl rfl ?_
        refine a_imul d_Mo_rows_68 ?_
        refine a_aload_n (j := 0) d_Mo_rows_69 rfl rfl ?_
        refine b_getptr (q := 252) d_Mo_rows_70 fl_Mo_100 io_226 rfl rfl rfl ?_
        refine a_iload_n (j := 1) d_Mo_rows_73 rfl rfl ?_
        obtain ⟨o6, o7, h⟩ := h
        refine b_iaload (v := M 252 x1) d_Mo_rows_74 ia_252 o6 o7 rfl ?_
        refine a_iadd d_Mo_rows_75 ?_
        refine a_iload_n (j := 3) d_Mo_rows_76 rfl rfl ?_
        obtain ⟨o8, o9, h⟩ := h
        refine b_iastore d_Mo_rows_77 ia_251 o8 o9 ?_
        refine a_aload_n (j := 0) d_Mo_rows_78 rfl rfl ?_
        refine b_getptr (q := 252) d_Mo_rows_79 fl_Mo_100 io_226 rfl rfl rfl ?_
        refine a_iload_n (j := 1) d_Mo_rows_82 rfl rfl ?_
        refine a_dup2 d_Mo_rows_83 rfl rfl ?_
        refine b_iaload (v := M 252 x1) d_Mo_rows_84 ia_252 o6 o7 rfl ?_
        refine a_iconst d_Mo_rows_85 (by unfold fs_in32; omega) ?_
        refine a_iadd d_Mo_rows_86 ?_
        refine b_iastore d_Mo_rows_87 ia_252 o6 o7 ?_
        refine a_aload_n (j := 0) d_Mo_rows_88 rfl rfl ?_
        refine a_iload_n (j := 1) d_Mo_rows_89 rfl rfl ?_
        refine a_iload_n (j := 2) d_Mo_rows_90 rfl rfl ?_
        refine a_iconst d_Mo_rows_91 (by unfold fs_in32; omega) ?_
        refine a_iload_n (j := 3) d_Mo_rows_92 rfl rfl ?_
        refine a_ishl d_Mo_rows_93 ?_
        refine a_ior d_Mo_rows_94 ?_
        refine b_virtual (dc := d) (ci := 11) (T := fs_T11) (N := 78) [fs_i x1, fs_i (fs_or x2 (fs_shl 1 x3))] [] d_Mo_rows_95 ml_Mo_467 k_Mo_rows v_Mo_rows rfl io_226 rfl (Nat.le_refl _) rfl (Nat.le_of_ble_eq_true rfl) ?_
        refine fs_Call.mono (fun v M3 hv => ?_) h
        obtain ⟨rfl, h⟩ := hv
        show fs_A2 g m_Mo_rows (d + 1) 98 [(0, fs_r 226), (1, fs_i x1), (2, fs_i x2), (3, fs_i x3)] [] M3 K
        refine a_aload_n (j := 0) d_Mo_rows_98 rfl rfl ?_
        refine b_getptr (q := 252) d_Mo_rows_99 fl_Mo_100 io_226 rfl rfl rfl ?_
        refine a_iload_n (j := 1) d_Mo_rows_102 rfl rfl ?_
        refine a_dup2 d_Mo_rows_103 rfl rfl ?_
        refine b_iaload (v := M3 252 x1) d_Mo_rows_104 ia_252 o6 o7 rfl ?_
        refine a_iconst d_Mo_rows_105 (by unfold fs_in32; omega) ?_
        refine a_isub d_Mo_rows_106 ?_
        refine b_iastore d_Mo_rows_107 ia_252 o6 o7 ?_
        refine a_iinc (j := 3) d_Mo_rows_108 rfl (Nat.le_of_ble_eq_true rfl) [1, 2, 3, 0] rfl ?_
        refine a_goto (tgt := 31) d_Mo_rows_111 rfl ?_
        exact h
      · have h := h.2 c5
        refine a_goto (tgt := 108) d_Mo_rows_58 rfl ?_
        refine a_iinc (j := 3) d_Mo_rows_108 rfl (Nat.le_of_ble_eq_true rfl) [1, 2, 3, 0] rfl ?_
        refine a_goto (tgt := 31) d_Mo_rows_111 rfl ?_
        exact h
set_option maxRecDepth 8000 in
set_option maxHeartbeats 4000000 in
theorem E_Mo_judges {M : fs_M} {K : fs_K} 
    (h : fs_C2 g m_Mo_walks 8 [fs_r 226, fs_i 240] M (fun v M1 => v = none ∧ ((M1 226 66 = (-1) → fs_C2 g m_Mo_gains 2 [fs_r 226] M1 (fun v M2 => ∃ r2, v = some (fs_i r2) ∧ ((M2 226 63 < r2 → fs_A2 g m_Mo_judges 9 106 [(0, fs_r 226), (2, fs_i 0)] [] (fs_st M2 226 63 r2) K) ∧ (¬ M2 226 63 < r2 → K none M2)))) ∧ (¬ M1 226 66 = (-1) → fs_A2 g m_Mo_judges 9 19 [(0, fs_r 226), (1, fs_i 1), (2, fs_i 0)] [] M1 K)))) :
    fs_C2 g m_Mo_judges 9 [fs_r 226] M K := by
  refine b_enter2 (ls := [(0, fs_r 226)]) (plainFor_of_name pn_Mo) (Nat.le_of_ble_eq_true rfl) rfl ?_
  refine a_aload_n (j := 0) d_Mo_judges_0 rfl rfl ?_
  refine a_sipush d_Mo_judges_1 (by decide) ?_
  refine b_virtual (dc := 8) (ci := 11) (T := fs_T11) (N := 78) [fs_i 240] [] d_Mo_judges_4 ml_Mo_409 k_Mo_walks v_Mo_walks rfl io_226 rfl (Nat.le_of_ble_eq_true rfl) rfl (Nat.le_of_ble_eq_true rfl) ?_
  refine fs_Call.mono (fun v M1 hv => ?_) h
  obtain ⟨rfl, h⟩ := hv
  show fs_A2 g m_Mo_judges 9 7 [(0, fs_r 226)] [] M1 K
  refine a_aload_n (j := 0) d_Mo_judges_7 rfl rfl ?_
  refine b_getfield (v := fs_i (M1 226 66)) d_Mo_judges_8 fl_Mo_452 io_226 rfl ?_
  refine a_iconst d_Mo_judges_11 (by unfold fs_in32; omega) ?_
  refine a_icmp_eq (tgt := 85) d_Mo_judges_12 rfl (fun c1 => ?_) (fun c1 => ?_)
  · have h := h.1 c1
    refine a_aload_n (j := 0) d_Mo_judges_85 rfl rfl ?_
    refine b_virtual (dc := 2) (ci := 11) (T := fs_T11) (N := 78) [] [] d_Mo_judges_86 ml_Mo_412 k_Mo_gains v_Mo_gains rfl io_226 rfl (Nat.le_of_ble_eq_true rfl) rfl (Nat.le_of_ble_eq_true rfl) ?_
    refine fs_Call.mono (fun v M2 hv => ?_) h
    obtain ⟨r2, rfl, h⟩ := hv
    show fs_A2 g m_Mo_judges 9 89 [(0, fs_r 226)] [fs_i r2] M2 K
    refine a_istore_n d_Mo_judges_89 rfl (Nat.le_of_ble_eq_true rfl) [1, 0] rfl ?_
    refine a_iload_n (j := 1) d_Mo_judges_90 rfl rfl ?_
    refine a_aload_n (j := 0) d_Mo_judges_91 rfl rfl ?_
    refine b_getfield (v := fs_i (M2 226 63)) d_Mo_judges_92 fl_Mo_458 io_226 rfl ?_
    refine a_icmp_gt (tgt := 99) d_Mo_judges_95 rfl (fun c2 => ?_) (fun c2 => ?_)
    · have h := h.1 c2
      refine a_aload_n (j := 0) d_Mo_judges_99 rfl rfl ?_
      refine a_iload_n (j := 1) d_Mo_judges_100 rfl rfl ?_
      refine b_putfield (x := r2) d_Mo_judges_101 fl_Mo_458 io_226 rfl rfl fs_nar_int ?_
      refine a_iconst d_Mo_judges_104 (by unfold fs_in32; omega) ?_
      refine a_istore_n d_Mo_judges_105 rfl (Nat.le_of_ble_eq_true rfl) [1, 2, 0] rfl ?_
      refine a_sub [0, 2] rfl ?_
      exact h
    · have h := h.2 c2
      exact b_return d_Mo_judges_98 rfl h
  · have h := h.2 c1
    refine a_iconst d_Mo_judges_15 (by unfold fs_in32; omega) ?_
    refine a_istore_n d_Mo_judges_16 rfl (Nat.le_of_ble_eq_true rfl) [1, 0] rfl ?_
    refine a_iconst d_Mo_judges_17 (by unfold fs_in32; omega) ?_
    refine a_istore_n d_Mo_judges_18 rfl (Nat.le_of_ble_eq_true rfl) [1, 2, 0] rfl ?_
    exact h
set_option maxRecDepth 8000 in
set_option maxHeartbeats 4000000 in
theorem L_Mo_judges_19 {M : fs_M} {K : fs_K} {x1 x2 : Int} 
    (h : ((M 228 0 ≤ x2 → ((fs_or (M 226 67) x1 = 0 ∨ fs_or (M 226 67) x1 = 1) ∧ K none (fs_st M 226 67 (fs_or (M 226 67) x1)))) ∧ (¬ M 228 0 ≤ x2 → ((¬ fs_and (fs_shr (M 226 66) x2) 1 = 1 → fs_A2 g m_Mo_judges 9 19 [(0, fs_r 226), (1, fs_i x1), (2, fs_i (fs_w32 (x2 + 1)))] [] M K) ∧ (fs_and (fs_shr (M 226 66) x2) 1 = 1 → (0 ≤ x2 ∧ x2 < 6 ∧ ((M 261 x2 = (-1) → fs_A2 g m_Mo_judges 9 19 [(0, fs_r 226), (1, fs_i 0), (2, fs_i (fs_w32 (x2 + 1)))] [] M K) ∧ (¬ M 261 x2 = (-1) → ((M 262 x2 ≤ M 232 x2 → fs_A2 g m_Mo_judges 9 19 [(0, fs_r 226), (1, fs_i x1), (2, fs_i (fs_w32 (x2 + 1)))] [] M K) ∧ (¬ M 262 x2 ≤ M 232 x2 → fs_A2 g m_Mo_judges 9 19 [(0, fs_r 226), (1, fs_i 0), (2, fs_i (fs_w32 (x2 + 1)))] [] M K)))))))))) :
    fs_A2 g m_Mo_judges 9 19 [(0, fs_r 226), (1, fs_i x1), (2, fs_i x2)] [] M K := by
  refine a_iload_n (j := 2) d_Mo_judges_19 rfl rfl ?_
  refine a_aload_n (j := 0) d_Mo_judges_20 rfl rfl ?_
  refine b_getptr (q := 228) d_Mo_judges_21 fl_Mo_13 io_226 rfl rfl rfl ?_
  refine a_iconst d_Mo_judges_24 (by unfold fs_in32; omega) ?_
  refine b_iaload (v := M 228 0) d_Mo_judges_25 ia_228 (by decide) (by decide) rfl ?_
  refine a_icmp_ge (tgt := 74) d_Mo_judges_26 rfl (fun c3 => ?_) (fun c3 => ?_)
  · have h := h.1 c3
    refine a_aload_n (j := 0) d_Mo_judges_74 rfl rfl ?_
    refine a_dup d_Mo_judges_75 rfl ?_
    refine b_getfield (v := fs_i (M 226 67)) d_Mo_judges_76 fl_Mo_455 io_226 rfl ?_
    refine a_iload_n (j := 1) d_Mo_judges_79 rfl rfl ?_
    refine a_ior d_Mo_judges_80 ?_
    obtain ⟨o4, h⟩ := h
    refine b_putfield (x := (fs_or (M 226 67) x1)) d_Mo_judges_81 fl_Mo_455 io_226 rfl rfl (fs_nar_bool o4) ?_
    exact b_return d_Mo_judges_84 rfl h
  · have h := h.2 c3
    refine a_aload_n (j := 0) d_Mo_judges_29 rfl rfl ?_
    refine b_getfield (v := fs_i (M 226 66)) d_Mo_judges_30 fl_Mo_452 io_226 rfl ?_
    refine a_iload_n (j := 2) d_Mo_judges_33 rfl rfl ?_
    refine a_ishr d_Mo_judges_34 ?_
    refine a_iconst d_Mo_judges_35 (by unfold fs_in32; omega) ?_
    refine a_iand d_Mo_judges_36 ?_
    refine a_iconst d_Mo_judges_37 (by unfold fs_in32; omega) ?_
    refine a_icmp_ne (tgt := 68) d_Mo_judges_38 rfl (fun c5 => ?_) (fun c5 => ?_)
    · have h := h.1 c5
      refine a_iinc (j := 2) d_Mo_judges_68 rfl (Nat.le_of_ble_eq_true rfl) [1, 2, 0] rfl ?_
      refine a_goto (tgt := 19) d_Mo_judges_71 rfl ?_
      exact h
    · have h := h.2 c5
      refine a_aload_n (j := 0) d_Mo_judges_41 rfl rfl ?_
      refine b_getptr (q := 261) d_Mo_judges_42 fl_Mo_127 io_226 rfl rfl rfl ?_
      refine a_iload_n (j := 2) d_Mo_judges_45 rfl rfl ?_
      obtain ⟨o6, o7, h⟩ := h
      refine b_iaload (v := M 261 x2) d_Mo_judges_46 ia_261 o6 o7 rfl ?_
      refine a_iconst d_Mo_judges_47 (by unfold fs_in32; omega) ?_
      refine a_icmp_eq (tgt := 66) d_Mo_judges_48 rfl (fun c8 => ?_) (fun c8 => ?_)
      · have h := h.1 c8
        refine a_iconst d_Mo_judges_66 (by unfold fs_in32; omega) ?_
        refine a_istore_n d_Mo_judges_67 rfl (Nat.le_of_ble_eq_true rfl) [1, 0, 2] rfl ?_
        refine a_iinc (j := 2) d_Mo_judges_68 rfl (Nat.le_of_ble_eq_true rfl) [1, 2, 0] rfl ?_
        refine a_goto (tgt := 19) d_Mo_judges_71 rfl ?_
        exact h
      · have h := h.2 c8
        refine a_aload_n (j := 0) d_Mo_judges_51 rfl rfl ?_
        refine b_getptr (q := 262) d_Mo_judges_52 fl_Mo_130 io_226 rfl rfl rfl ?_
        refine a_iload_n (j := 2) d_Mo_judges_55 rfl rfl ?_
        refine b_iaload (v := M 262 x2) d_Mo_judges_56 ia_262 o6 o7 rfl ?_
        refine a_aload_n (j := 0) d_Mo_judges_57 rfl rfl ?_
        refine b_getptr (q := 232) d_Mo_judges_58 fl_Mo_25 io_226 rfl rfl rfl ?_
        refine a_iload_n (j := 2) d_Mo_judges_61 rfl rfl ?_
        refine b_iaload (v := M 232 x2) d_Mo_judges_62 ia_232 o6 (by have q := o7; omega) rfl ?_
        refine a_icmp_le (tgt := 68) d_Mo_judges_63 rfl (fun c9 => ?_) (fun c9 => ?_)
        · have h := h.1 c9
          refine a_iinc (j := 2) d_Mo_judges_68 rfl (Nat.le_of_ble_eq_true rfl) [1, 2, 0] rfl ?_
          refine a_goto (tgt := 19) d_Mo_judges_71 rfl ?_
          exact h
        · have h := h.2 c9
          refine a_iconst d_Mo_judges_66 (by unfold fs_in32; omega) ?_
          refine a_istore_n d_Mo_judges_67 rfl (Nat.le_of_ble_eq_true rfl) [1, 0, 2] rfl ?_
          refine a_iinc (j := 2) d_Mo_judges_68 rfl (Nat.le_of_ble_eq_true rfl) [1, 2, 0] rfl ?_
          refine a_goto (tgt := 19) d_Mo_judges_71 rfl ?_
          exact h
set_option maxRecDepth 8000 in
set_option maxHeartbeats 4000000 in
theorem L_Mo_judges_106 {M : fs_M} {K : fs_K} {x2 : Int} 
    (h : ((3 ≤ x2 → K none M) ∧ (¬ 3 ≤ x2 → (0 ≤ x2 ∧ fs_A2 g m_Mo_judges 9 125 [(0, fs_r 226), (2, fs_i x2), (3, fs_i 0)] [] (fs_st M 264 x2 (M 252 x2)) K)))) :
    fs_A2 g m_Mo_judges 9 106 [(0, fs_r 226), (2, fs_i x2)] [] M K := by
  refine a_iload_n (j := 1) d_Mo_judges_106 rfl rfl ?_
  refine a_iconst d_Mo_judges_107 (by unfold fs_in32; omega) ?_
  refine a_icmp_ge (tgt := 165) d_Mo_judges_108 rfl (fun c10 => ?_) (fun c10 => ?_)
  · have h := h.1 c10
    exact b_return d_Mo_judges_165 rfl h
  · have h := h.2 c10
    refine a_aload_n (j := 0) d_Mo_judges_111 rfl rfl ?_
    refine b_getptr (q := 264) d_Mo_judges_112 fl_Mo_136 io_226 rfl rfl rfl ?_
    refine a_iload_n (j := 1) d_Mo_judges_115 rfl rfl ?_
    refine a_aload_n (j := 0) d_Mo_judges_116 rfl rfl ?_
    refine b_getptr (q := 252) d_Mo_judges_117 fl_Mo_100 io_226 rfl rfl rfl ?_
    refine a_iload_n (j := 1) d_Mo_judges_120 rfl rfl ?_
    obtain ⟨o11, h⟩ := h
    refine b_iaload (v := M 252 x2) d_Mo_judges_121 ia_252 o11 (by omega : x2 < 3) rfl ?_
    refine b_iastore d_Mo_judges_122 ia_264 o11 (by omega : x2 < 3) ?_
    refine a_iconst d_Mo_judges_123 (by unfold fs_in32; omega) ?_
    refine a_istore_n d_Mo_judges_124 rfl (Nat.le_of_ble_eq_true rfl) [1, 2, 0] rfl ?_
    exact h
set_option maxRecDepth 8000 in
set_option maxHeartbeats 4000000 in
theorem L_Mo_judges_125 {M : fs_M} {K : fs_K} {x2 x3 : Int} 
    (h : ((9 ≤ x3 → fs_A2 g m_Mo_judges 9 106 [(0, fs_r 226), (2, fs_i (fs_w32 (x2 + 1)))] [] M K) ∧ (¬ 9 ≤ x3 → (0 ≤ fs_w32 ((fs_w32 (9 * x2)) + x3) ∧ fs_w32 ((fs_w32 (9 * x2)) + x3) < 27 ∧ fs_A2 g m_Mo_judges 9 125 [(0, fs_r 226), (2, fs_i x2), (3, fs_i (fs_w32 (x3 + 1)))] [] (fs_st M 263 (fs_w32 ((fs_w32 (9 * x2)) + x3)) (M 251 (fs_w32 ((fs_w32 (9 * x2)) + x3)))) K)))) :
    fs_A2 g m_Mo_judges 9 125 [(0, fs_r 226), (2, fs_i x2), (3, fs_i x3)] [] M K := by
  refine a_iload_n (j := 2) d_Mo_judges_125 rfl rfl ?_
  refine a_bipush d_Mo_judges_126 (by decide) ?_
  refine a_icmp_ge (tgt := 159) d_Mo_judges_128 rfl (fun c12 => ?_) (fun c12 => ?_)
  · have h := h.1 c12
    refine a_iinc (j := 1) d_Mo_judges_159 rfl (Nat.le_of_ble_eq_true rfl) [1, 0, 2] rfl ?_
    refine a_goto (tgt := 106) d_Mo_judges_162 rfl ?_
    refine a_sub [0, 1] rfl ?_
    exact h
  · have h := h.2 c12
    refine a_aload_n (j := 0) d_Mo_judges_131 rfl rfl ?_
    refine b_getptr (q := 263) d_Mo_judges_132 fl_Mo_133 io_226 rfl rfl rfl ?_
    refine a_bipush d_Mo_judges_135 (by decide) ?_
    refine a_iload_n (j := 1) d_Mo_judges_137 rfl rfl ?_
    refine a_imul d_Mo_judges_138 ?_
    refine a_iload_n (j := 2) d_Mo_judges_139 rfl rfl ?_
    refine a_iadd d_Mo_judges_140 ?_
    refine a_aload_n (j := 0) d_Mo_judges_141 rfl rfl ?_
    refine b_getptr (q := 251) d_Mo_judges_142 fl_Mo_97 io_226 rfl rfl rfl ?_
    refine a_bipush d_Mo_judges_145 (by decide) ?_
    refine a_iload_n (j := 1) d_Mo_judges_147 rfl rfl ?_
    refine a_imul d_Mo_judges_148 ?_
    refine a_iload_n (j := 2) d_Mo_judges_149 rfl rfl ?_
    refine a_iadd d_Mo_judges_150 ?_
    obtain ⟨o13, o14, h⟩ := h
    refine b_iaload (v := M 251 (fs_w32 ((fs_w32 (9 * x2)) + x3))) d_Mo_judges_151 ia_251 o13 o14 rfl ?_
    refine b_iastore d_Mo_judges_152 ia_263 o13 o14 ?_
    refine a_iinc (j := 2) d_Mo_judges_153 rfl (Nat.le_of_ble_eq_true rfl) [1, 2, 0] rfl ?_
    refine a_goto (tgt := 125) d_Mo_judges_156 rfl ?_
    exact h
set_option maxRecDepth 8000 in
set_option maxHeartbeats 4000000 in
theorem E_Mo_chosen {M : fs_M} {K : fs_K} {x1 x2 x3 : Int} 
    (h : ((x1 < 0 → K (some (fs_i (-1))) (fs_st M 226 0 0)) ∧ (¬ x1 < 0 → ((M 228 1 < x1 → K (some (fs_i (-1))) (fs_st M 226 0 0)) ∧ (¬ M 228 1 < x1 → fs_C2 g m_Mo_isDark 1 [fs_r 226, fs_i x2] (fs_st M 226 0 0) (fun v M1 => ∃ r1, v = some (fs_i r1) ∧ ((r1 = 0 → K (some (fs_i (-1))) M1) ∧ (¬ r1 = 0 → ((x1 ≤ x2 → K (some (fs_i (-1))) M1) ∧ (¬ x1 ≤ x2 → ((0 ≤ x3 → fs_C2 g m_Mo_layBest 22 [fs_r 226, fs_i x1, fs_i (-1)] M1 (fun v M2 => v = none ∧ (0 ≤ x2 ∧ x2 < 3 ∧ ((M2 264 x2 ≤ x3 → K (some (fs_i (-2))) M2) ∧ (¬ M2 264 x2 ≤ x3 → (0 ≤ fs_w32 ((fs_w32 (9 * x2)) + x3) ∧ fs_w32 ((fs_w32 (9 * x2)) + x3) < 27 ∧ K (some (fs_i (M2 263 (fs_w32 ((fs_w32 (9 * x2)) + x3))))) M2)))))) ∧ (¬ 0 ≤ x3 → K (some (fs_i (-1))) M1)))))))))))) :
    fs_C2 g m_Mo_chosen 23 [fs_r 226, fs_i x1, fs_i x2, fs_i x3] M K := by
  refine b_enter2 (ls := [(0, fs_r 226), (1, fs_i x1), (2, fs_i x2), (3, fs_i x3)]) (plainFor_of_name pn_Mo) (Nat.le_of_ble_eq_true rfl) rfl ?_
  refine a_aload_n (j := 0) d_Mo_chosen_0 rfl rfl ?_
  refine a_iconst d_Mo_chosen_1 (by unfold fs_in32; omega) ?_
  refine b_putfield (x := 0) d_Mo_chosen_2 fl_Mo_160 io_226 rfl rfl fs_nar_int ?_
  refine a_iload_n (j := 1) d_Mo_chosen_5 rfl rfl ?_
  refine a_if_lt (tgt := 36) d_Mo_chosen_6 rfl (fun c1 => ?_) (fun c1 => ?_)
  · have h := h.1 c1
    refine a_iconst d_Mo_chosen_36 (by unfold fs_in32; omega) ?_
    exact b_ireturn d_Mo_chosen_37 rfl rfl h
  · have h := h.2 c1
    refine a_iload_n (j := 1) d_Mo_chosen_9 rfl rfl ?_
    refine a_aload_n (j := 0) d_Mo_chosen_10 rfl rfl ?_
    refine b_getptr (q := 228) d_Mo_chosen_11 fl_Mo_13 io_226 rfl rfl rfl ?_
    refine a_iconst d_Mo_chosen_14 (by unfold fs_in32; omega) ?_
    refine b_iaload (v := M 228 1) d_Mo_chosen_15 ia_228 (by decide) (by decide) rfl ?_
    refine a_icmp_gt (tgt := 36) d_Mo_chosen_16 rfl (fun c2 => ?_) (fun c2 => ?_)
    · have h := h.1 c2
      refine a_iconst d_Mo_chosen_36 (by unfold fs_in32; omega) ?_
      exact b_ireturn d_Mo_chosen_37 rfl rfl h
    · have h := h.2 c2
      refine a_aload_n (j := 0) d_Mo_chosen_19 rfl rfl ?_
      refine a_iload_n (j := 2) d_Mo_chosen_20 rfl rfl ?_
      refine b_virtual (dc := 1) (ci := 11) (T := fs_T11) (N := 78) [fs_i x2] [] d_Mo_chosen_21 ml_Mo_317 k_Mo_isDark v_Mo_isDark rfl io_226 rfl (Nat.le_of_ble_eq_true rfl) rfl (Nat.le_of_ble_eq_true rfl) ?_
      refine fs_Call.mono (fun v M1 hv => ?_) h
      obtain ⟨r1, rfl, h⟩ := hv
      show fs_A2 g m_Mo_chosen 23 24 [(0, fs_r 226), (1, fs_i x1), (2, fs_i x2), (3, fs_i x3)] [fs_i r1] M1 K
      refine a_if_eq (tgt := 36) d_Mo_chosen_24 rfl (fun c3 => ?_) (fun c3 => ?_)
      · have h := h.1 c3
        refine a_iconst d_Mo_chosen_36 (by unfold fs_in32; omega) ?_
        exact b_ireturn d_Mo_chosen_37 rfl rfl h
      · have h := h.2 c3
        refine a_iload_n (j := 2) d_Mo_chosen_27 rfl rfl ?_
        refine a_iload_n (j := 1) d_Mo_chosen_28 rfl rfl ?_
        refine a_icmp_ge (tgt := 36) d_Mo_chosen_29 rfl (fun c4 => ?_) (fun c4 => ?_)
        · have h := h.1 c4
          refine a_iconst d_Mo_chosen_36 (by unfold fs_in32; omega) ?_
          exact b_ireturn d_Mo_chosen_37 rfl rfl h
        · have h := h.2 c4
          refine a_iload_n (j := 3) d_Mo_chosen_32 rfl rfl ?_
          refine a_if_ge (tgt := 38) d_Mo_chosen_33 rfl (fun c5 => ?_) (fun c5 => ?_)
          · have h := h.1 c5
            refine a_aload_n (j := 0) d_Mo_chosen_38 rfl rfl ?_
            refine a_iload_n (j := 1) d_Mo_chosen_39 rfl rfl ?_
            refine a_iconst d_Mo_chosen_40 (by unfold fs_in32; omega) ?_
            refine b_virtual (dc := 22) (ci := 11) (T := fs_T11) (N := 78) [fs_i x1, fs_i (-1)] [] d_Mo_chosen_41 ml_Mo_470 k_Mo_layBest v_Mo_layBest rfl io_226 rfl (Nat.le_of_ble_eq_true rfl) rfl (Nat.le_of_ble_eq_true rfl) ?_
            refine fs_Call.mono (fun v M2 hv => ?_) h
            obtain ⟨rfl, h⟩ := hv
            show fs_A2 g m_Mo_chosen 23 44 [(0, fs_r 226), (1, fs_i x1), (2, fs_i x2), (3, fs_i x3)] [] M2 K
            refine a_iload_n (j := 3) d_Mo_chosen_44 rfl rfl ?_
            refine a_aload_n (j := 0) d_Mo_chosen_45 rfl rfl ?_
            refine b_getptr (q := 264) d_Mo_chosen_46 fl_Mo_136 io_226 rfl rfl rfl ?_
            refine a_iload_n (j := 2) d_Mo_chosen_49 rfl rfl ?_
            obtain ⟨o6, o7, h⟩ := h
            refine b_iaload (v := M2 264 x2) d_Mo_chosen_50 ia_264 o6 o7 rfl ?_
            refine a_icmp_ge (tgt := 68) d_Mo_chosen_51 rfl (fun c8 => ?_) (fun c8 => ?_)
            · have h := h.1 c8
              refine a_bipush d_Mo_chosen_68 (by decide) ?_
              exact b_ireturn d_Mo_chosen_70 rfl rfl h
            · have h := h.2 c8
              refine a_aload_n (j := 0) d_Mo_chosen_54 rfl rfl ?_
              refine b_getptr (q := 263) d_Mo_chosen_55 fl_Mo_133 io_226 rfl rfl rfl ?_
              refine a_bipush d_Mo_chosen_58 (by decide) ?_
              refine a_iload_n (j := 2) d_Mo_chosen_60 rfl rfl ?_
              refine a_imul d_Mo_chosen_61 ?_
              refine a_iload_n (j := 3) d_Mo_chosen_62 rfl rfl ?_
              refine a_iadd d_Mo_chosen_63 ?_
              obtain ⟨o9, o10, h⟩ := h
              refine b_iaload (v := M2 263 (fs_w32 ((fs_w32 (9 * x2)) + x3))) d_Mo_chosen_64 ia_263 o9 o10 rfl ?_
              refine a_goto (tgt := 70) d_Mo_chosen_65 rfl ?_
              exact b_ireturn d_Mo_chosen_70 rfl rfl h
          · have h := h.2 c5
            refine a_iconst d_Mo_chosen_36 (by unfold fs_in32; omega) ?_
            exact b_ireturn d_Mo_chosen_37 rfl rfl h
set_option maxRecDepth 8000 in
set_option maxHeartbeats 4000000 in
theorem E_Mo_many {M : fs_M} {K : fs_K} 
    (h : fs_C2 g m_Mo_asIs 2 [fs_r 226] (fs_st M 226 0 0) (fun v M1 => v = none ∧ fs_C2 g m_Mo_starts 7 [fs_r 226] M1 (fun v M2 => v = none ∧ fs_A2 g m_Mo_many 23 17 [(0, fs_r 226), (1, fs_i 0), (2, fs_i 0)] [] M2 K))) :
    fs_C2 g m_Mo_many 23 [fs_r 226] M K := by
  refine b_enter2 (ls := [(0, fs_r 226)]) (plainFor_of_name pn_Mo) (Nat.le_of_ble_eq_true rfl) rfl ?_
  refine a_aload_n (j := 0) d_Mo_many_0 rfl rfl ?_
  refine a_iconst d_Mo_many_1 (by unfold fs_in32; omega) ?_
  refine b_putfield (x := 0) d_Mo_many_2 fl_Mo_160 io_226 rfl rfl fs_nar_int ?_
  refine a_aload_n (j := 0) d_Mo_many_5 rfl rfl ?_
  refine b_virtual (dc := 2) (ci := 11) (T := fs_T11) (N := 78) [] [] d_Mo_many_6 ml_Mo_406 k_Mo_asIs v_Mo_asIs rfl io_226 rfl (Nat.le_of_ble_eq_true rfl) rfl (Nat.le_of_ble_eq_true rfl) ?_
  refine fs_Call.mono (fun v M1 hv => ?_) h
  obtain ⟨rfl, h⟩ := hv
  show fs_A2 g m_Mo_many 23 9 [(0, fs_r 226)] [] M1 K
  refine a_aload_n (j := 0) d_Mo_many_9 rfl rfl ?_
  refine b_virtual (dc := 7) (ci := 11) (T := fs_T11) (N := 78) [] [] d_Mo_many_10 ml_Mo_394 k_Mo_starts v_Mo_starts rfl io_226 rfl (Nat.le_of_ble_eq_true rfl) rfl (Nat.le_of_ble_eq_true rfl) ?_
  refine fs_Call.mono (fun v M2 hv => ?_) h
  obtain ⟨rfl, h⟩ := hv
  show fs_A2 g m_Mo_many 23 13 [(0, fs_r 226)] [] M2 K
  refine a_iconst d_Mo_many_13 (by unfold fs_in32; omega) ?_
  refine a_istore_n d_Mo_many_14 rfl (Nat.le_of_ble_eq_true rfl) [1, 0] rfl ?_
  refine a_iconst d_Mo_many_15 (by unfold fs_in32; omega) ?_
  refine a_istore_n d_Mo_many_16 rfl (Nat.le_of_ble_eq_true rfl) [1, 2, 0] rfl ?_
  exact h
set_option maxRecDepth 8000 in
set_option maxHeartbeats 4000000 in
theorem L_Mo_many_17 {M : fs_M} {K : fs_K} {x1 x2 : Int} 
    (h : ((M 228 0 ≤ x2 → fs_A2 g m_Mo_many 23 80 [(0, fs_r 226), (1, fs_i x1), (2, fs_i 0)] [] M K) ∧ (¬ M 228 0 ≤ x2 → ((¬ fs_and (fs_shr (M 243 0) x2) 1 = 1 → fs_A2 g m_Mo_many 23 64 [(0, fs_r 226), (2, fs_i x2)] [fs_i x1] M K) ∧ (fs_and (fs_shr (M 243 0) x2) 1 = 1 → (0 ≤ x2 ∧ x2 < 6 ∧ ((M 261 x2 = (-2) → fs_A2 g m_Mo_many 23 64 [(0, fs_r 226), (2, fs_i x2)] [fs_i x1] M K) ∧ (¬ M 261 x2 = (-2) → fs_A2 g m_Mo_many 23 17 [(0, fs_r 226), (1, fs_i (fs_w32 (x1 + (fs_div (M 231 x2) 2)))), (2, fs_i (fs_w32 (x2 + 1)))] [] M K)))))))) :
    fs_A2 g m_Mo_many 23 17 [(0, fs_r 226), (1, fs_i x1), (2, fs_i x2)] [] M K := by
  refine a_iload_n (j := 2) d_Mo_many_17 rfl rfl ?_
  refine a_aload_n (j := 0) d_Mo_many_18 rfl rfl ?_
  refine b_getptr (q := 228) d_Mo_many_19 fl_Mo_13 io_226 rfl rfl rfl ?_
  refine a_iconst d_Mo_many_22 (by unfold fs_in32; omega) ?_
  refine b_iaload (v := M 228 0) d_Mo_many_23 ia_228 (by decide) (by decide) rfl ?_
  refine a_icmp_ge (tgt := 78) d_Mo_many_24 rfl (fun c1 => ?_) (fun c1 => ?_)
  · have h := h.1 c1
    refine a_iconst d_Mo_many_78 (by unfold fs_in32; omega) ?_
    refine a_istore_n d_Mo_many_79 rfl (Nat.le_of_ble_eq_true rfl) [1, 2, 0] rfl ?_
    exact h
  · have h := h.2 c1
    refine a_iload_n (j := 1) d_Mo_many_27 rfl rfl ?_
    refine a_aload_n (j := 0) d_Mo_many_28 rfl rfl ?_
    refine b_getptr (q := 243) d_Mo_many_29 fl_Mo_63 io_226 rfl rfl rfl ?_
    refine a_iconst d_Mo_many_32 (by unfold fs_in32; omega) ?_
    refine b_iaload (v := M 243 0) d_Mo_many_33 ia_243 (by decide) (by decide) rfl ?_
    refine a_iload_n (j := 2) d_Mo_many_34 rfl rfl ?_
    refine a_ishr d_Mo_many_35 ?_
    refine a_iconst d_Mo_many_36 (by unfold fs_in32; omega) ?_
    refine a_iand d_Mo_many_37 ?_
    refine a_iconst d_Mo_many_38 (by unfold fs_in32; omega) ?_
    refine a_icmp_ne (tgt := 64) d_Mo_many_39 rfl (fun c2 => ?_) (fun c2 => ?_)
    · have h := h.1 c2
      refine a_sub [0, 2] rfl ?_
      exact h
    · have h := h.2 c2
      refine a_aload_n (j := 0) d_Mo_many_42 rfl rfl ?_
      refine b_getptr (q := 261) d_Mo_many_43 fl_Mo_127 io_226 rfl rfl rfl ?_
      refine a_iload_n (j := 2) d_Mo_many_46 rfl rfl ?_
      obtain ⟨o3, o4, h⟩ := h
      refine b_iaload (v := M 261 x2) d_Mo_many_47 ia_261 o3 o4 rfl ?_
      refine a_bipush d_Mo_many_48 (by decide) ?_
      refine a_icmp_eq (tgt := 64) d_Mo_many_50 rfl (fun c5 => ?_) (fun c5 => ?_)
      · have h := h.1 c5
        refine a_sub [0, 2] rfl ?_
        exact h
      · have h := h.2 c5
        refine a_aload_n (j := 0) d_Mo_many_53 rfl rfl ?_
        refine b_getptr (q := 231) d_Mo_many_54 fl_Mo_22 io_226 rfl rfl rfl ?_
        refine a_iload_n (j := 2) d_Mo_many_57 rfl rfl ?_
        refine b_iaload (v := M 231 x2) d_Mo_many_58 ia_231 o3 (by have q := o4; omega) rfl ?_
        refine a_iconst d_Mo_many_59 (by unfold fs_in32; omega) ?_
        refine a_idiv d_Mo_many_60 (by decide) ?_
        refine a_goto (tgt := 70) d_Mo_many_61 rfl ?_
        refine a_iadd d_Mo_many_70 ?_
        refine a_istore_n d_Mo_many_71 rfl (Nat.le_of_ble_eq_true rfl) [1, 0, 2] rfl ?_
        refine a_iinc (j := 2) d_Mo_many_72 rfl (Nat.le_of_ble_eq_true rfl) [1, 2, 0] rfl ?_
        refine a_goto (tgt := 17) d_Mo_many_75 rfl ?_
        exact h
set_option maxRecDepth 8000 in
set_option maxHeartbeats 4000000 in
theorem L_Mo_many_64 {M : fs_M} {K : fs_K} {x2 x100 : Int} 
    (h : (0 ≤ x2 ∧ x2 < 12 ∧ fs_A2 g m_Mo_many 23 17 [(0, fs_r 226), (1, fs_i (fs_w32 (x100 + (M 231 x2)))), (2, fs_i (fs_w32 (x2 + 1)))] [] M K)) :
    fs_A2 g m_Mo_many 23 64 [(0, fs_r 226), (2, fs_i x2)] [fs_i x100] M K := by
  refine a_aload_n (j := 0) d_Mo_many_64 rfl rfl ?_
  refine b_getptr (q := 231) d_Mo_many_65 fl_Mo_22 io_226 rfl rfl rfl ?_
  refine a_iload_n (j := 1) d_Mo_many_68 rfl rfl ?_
  obtain ⟨o6, o7, h⟩ := h
  refine b_iaload (v := M 231 x2) d_Mo_many_69 ia_231 o6 o7 rfl ?_
  refine a_iadd d_Mo_many_70 ?_
  refine a_istore_n d_Mo_many_71 rfl (Nat.le_of_ble_eq_true rfl) [1, 0, 2] rfl ?_
  refine a_iinc (j := 2) d_Mo_many_72 rfl (Nat.le_of_ble_eq_true rfl) [1, 2, 0] rfl ?_
  refine a_goto (tgt := 17) d_Mo_many_75 rfl ?_
  exact h
set_option maxRecDepth 8000 in
set_option maxHeartbeats 4000000 in
theorem L_Mo_many_80 {M : fs_M} {K : fs_K} {x1 x2 : Int} 
    (h : ((M 228 1 < x2 → K (some (fs_i (-2))) M) ∧ (¬ M 228 1 < x2 → fs_C2 g m_Mo_layBest 22 [fs_r 226, fs_i x2, fs_i (-1)] M (fun v M3 => v = none ∧ ((¬ M3 226 63 = x1 → fs_A2 g m_Mo_many 23 80 [(0, fs_r 226), (1, fs_i x1), (2, fs_i (fs_w32 (x2 + 1)))] [] M3 K) ∧ (M3 226 63 = x1 → K (some (fs_i x2)) M3)))))) :
    fs_A2 g m_Mo_many 23 80 [(0, fs_r 226), (1, fs_i x1), (2, fs_i x2)] [] M K := by
  refine a_iload_n (j := 2) d_Mo_many_80 rfl rfl ?_
  refine a_aload_n (j := 0) d_Mo_many_81 rfl rfl ?_
  refine b_getptr (q := 228) d_Mo_many_82 fl_Mo_13 io_226 rfl rfl rfl ?_
  refine a_iconst d_Mo_many_85 (by unfold fs_in32; omega) ?_
  refine b_iaload (v := M 228 1) d_Mo_many_86 ia_228 (by decide) (by decide) rfl ?_
  refine a_icmp_gt (tgt := 112) d_Mo_many_87 rfl (fun c8 => ?_) (fun c8 => ?_)
  · have h := h.1 c8
    refine a_bipush d_Mo_many_112 (by decide) ?_
    exact b_ireturn d_Mo_many_114 rfl rfl h
  · have h := h.2 c8
    refine a_aload_n (j := 0) d_Mo_many_90 rfl rfl ?_
    refine a_iload_n (j := 2) d_Mo_many_91 rfl rfl ?_
    refine a_iconst d_Mo_many_92 (by unfold fs_in32; omega) ?_
    refine b_virtual (dc := 22) (ci := 11) (T := fs_T11) (N := 78) [fs_i x2, fs_i (-1)] [] d_Mo_many_93 ml_Mo_470 k_Mo_layBest v_Mo_layBest rfl io_226 rfl (Nat.le_of_ble_eq_true rfl) rfl (Nat.le_of_ble_eq_true rfl) ?_
    refine fs_Call.mono (fun v M3 hv => ?_) h
    obtain ⟨rfl, h⟩ := hv
    show fs_A2 g m_Mo_many 23 96 [(0, fs_r 226), (1, fs_i x1), (2, fs_i x2)] [] M3 K
    refine a_aload_n (j := 0) d_Mo_many_96 rfl rfl ?_
    refine b_getfield (v := fs_i (M3 226 63)) d_Mo_many_97 fl_Mo_458 io_226 rfl ?_
    refine a_iload_n (j := 1) d_Mo_many_100 rfl rfl ?_
    refine a_icmp_ne (tgt := 106) d_Mo_many_101 rfl (fun c9 => ?_) (fun c9 => ?_)
    · have h := h.1 c9
      refine a_iinc (j := 2) d_Mo_many_106 rfl (Nat.le_of_ble_eq_true rfl) [1, 2, 0] rfl ?_
      refine a_goto (tgt := 80) d_Mo_many_109 rfl ?_
      exact h
    · have h := h.2 c9
      refine a_iload_n (j := 2) d_Mo_many_104 rfl rfl ?_
      exact b_ireturn d_Mo_many_105 rfl rfl h
set_option maxRecDepth 8000 in
set_option maxHeartbeats 4000000 in
theorem E_Mo_price {M : fs_M} {K : fs_K} {x1 : Int} 
    (h : fs_C2 g m_Mo_isHouse 1 [fs_r 226, fs_i x1] (fs_st M 226 0 0) (fun v M1 => ∃ r1, v = some (fs_i r1) ∧ ((¬ r1 = 0 → fs_C2 g m_Mo_layBest 22 [fs_r 226, fs_i (M1 228 1), fs_i (-1)] M1 (fun v M2 => v = none ∧ fs_A2 g m_Mo_price 23 33 [(0, fs_r 226), (1, fs_i x1), (2, fs_i (M2 226 63)), (3, fs_i 0)] [] M2 K)) ∧ (r1 = 0 → K (some (fs_i (-1))) M1)))) :
    fs_C2 g m_Mo_price 23 [fs_r 226, fs_i x1] M K := by
  refine b_enter2 (ls := [(0, fs_r 226), (1, fs_i x1)]) (plainFor_of_name pn_Mo) (Nat.le_of_ble_eq_true rfl) rfl ?_
  refine a_aload_n (j := 0) d_Mo_price_0 rfl rfl ?_
  refine a_iconst d_Mo_price_1 (by unfold fs_in32; omega) ?_
  refine b_putfield (x := 0) d_Mo_price_2 fl_Mo_160 io_226 rfl rfl fs_nar_int ?_
  refine a_aload_n (j := 0) d_Mo_price_5 rfl rfl ?_
  refine a_iload_n (j := 1) d_Mo_price_6 rfl rfl ?_
  refine b_virtual (dc := 1) (ci := 11) (T := fs_T11) (N := 78) [fs_i x1] [] d_Mo_price_7 ml_Mo_314 k_Mo_isHouse v_Mo_isHouse rfl io_226 rfl (Nat.le_of_ble_eq_true rfl) rfl (Nat.le_of_ble_eq_true rfl) ?_
  refine fs_Call.mono (fun v M1 hv => ?_) h
  obtain ⟨r1, rfl, h⟩ := hv
  show fs_A2 g m_Mo_price 23 10 [(0, fs_r 226), (1, fs_i x1)] [fs_i r1] M1 K
  refine a_if_ne (tgt := 15) d_Mo_price_10 rfl (fun c1 => ?_) (fun c1 => ?_)
  · have h := h.1 c1
    refine a_aload_n (j := 0) d_Mo_price_15 rfl rfl ?_
    refine a_aload_n (j := 0) d_Mo_price_16 rfl rfl ?_
    refine b_getptr (q := 228) d_Mo_price_17 fl_Mo_13 io_226 rfl rfl rfl ?_
    refine a_iconst d_Mo_price_20 (by unfold fs_in32; omega) ?_
    refine b_iaload (v := M1 228 1) d_Mo_price_21 ia_228 (by decide) (by decide) rfl ?_
    refine a_iconst d_Mo_price_22 (by unfold fs_in32; omega) ?_
    refine b_virtual (dc := 22) (ci := 11) (T := fs_T11) (N := 78) [fs_i (M1 228 1), fs_i (-1)] [] d_Mo_price_23 ml_Mo_470 k_Mo_layBest v_Mo_layBest rfl io_226 rfl (Nat.le_of_ble_eq_true rfl) rfl (Nat.le_of_ble_eq_true rfl) ?_
    refine fs_Call.mono (fun v M2 hv => ?_) h
    obtain ⟨rfl, h⟩ := hv
    show fs_A2 g m_Mo_price 23 26 [(0, fs_r 226), (1, fs_i x1)] [] M2 K
    refine a_aload_n (j := 0) d_Mo_price_26 rfl rfl ?_
    refine b_getfield (v := fs_i (M2 226 63)) d_Mo_price_27 fl_Mo_458 io_226 rfl ?_
    refine a_istore_n d_Mo_price_30 rfl (Nat.le_of_ble_eq_true rfl) [1, 2, 0] rfl ?_
    refine a_iconst d_Mo_price_31 (by unfold fs_in32; omega) ?_
    refine a_istore_n d_Mo_price_32 rfl (Nat.le_of_ble_eq_true rfl) [1, 2, 3, 0] rfl ?_
    exact h
  · have h := h.2 c1
    refine a_iconst d_Mo_price_13 (by unfold fs_in32; omega) ?_
    exact b_ireturn d_Mo_price_14 rfl rfl h
set_option maxRecDepth 8000 in
set_option maxHeartbeats 4000000 in
theorem L_Mo_price_33 {M : fs_M} {K : fs_K} {x1 x2 x3 : Int} 
    (h : ((3 ≤ x3 → fs_C2 g m_Mo_walks 8 [fs_r 226, fs_i 240] M (fun v M3 => v = none ∧ fs_C2 g m_Mo_gainOf 1 [fs_r 226, fs_i x1] M3 (fun v M4 => ∃ r4, v = some (fs_i r4) ∧ fs_C2 g m_Mo_layBest 22 [fs_r 226, fs_i (M4 228 1), fs_i x1] M4 (fun v M5 => v = none ∧ K (some (fs_i (fs_w32 ((M5 226 63) - (fs_w32 (x2 - r4)))))) M5)))) ∧ (¬ 3 ≤ x3 → (0 ≤ x3 ∧ fs_A2 g m_Mo_price 23 53 [(0, fs_r 226), (1, fs_i x1), (2, fs_i x2), (3, fs_i x3), (4, fs_i 0)] [] (fs_st M 252 x3 (M 264 x3)) K)))) :
    fs_A2 g m_Mo_price 23 33 [(0, fs_r 226), (1, fs_i x1), (2, fs_i x2), (3, fs_i x3)] [] M K := by
  refine a_iload_n (j := 3) d_Mo_price_33 rfl rfl ?_
  refine a_iconst d_Mo_price_34 (by unfold fs_in32; omega) ?_
  refine a_icmp_ge (tgt := 96) d_Mo_price_35 rfl (fun c2 => ?_) (fun c2 => ?_)
  · have h := h.1 c2
    refine a_aload_n (j := 0) d_Mo_price_96 rfl rfl ?_
    refine a_sipush d_Mo_price_97 (by decide) ?_
    refine b_virtual (dc := 8) (ci := 11) (T := fs_T11) (N := 78) [fs_i 240] [] d_Mo_price_100 ml_Mo_409 k_Mo_walks v_Mo_walks rfl io_226 rfl (Nat.le_of_ble_eq_true rfl) rfl (Nat.le_of_ble_eq_true rfl) ?_
    refine fs_Call.mono (fun v M3 hv => ?_) h
    obtain ⟨rfl, h⟩ := hv
    show fs_A2 g m_Mo_price 23 103 [(0, fs_r 226), (1, fs_i x1), (2, fs_i x2), (3, fs_i x3)] [] M3 K
    refine a_iload_n (j := 2) d_Mo_price_103 rfl rfl ?_
    refine a_aload_n (j := 0) d_Mo_price_104 rfl rfl ?_
    refine a_iload_n (j := 1) d_Mo_price_105 rfl rfl ?_
    refine b_virtual (dc := 1) (ci := 11) (T := fs_T11) (N := 78) [fs_i x1] [fs_i x2] d_Mo_price_106 ml_Mo_403 k_Mo_gainOf v_Mo_gainOf rfl io_226 rfl (Nat.le_of_ble_eq_true rfl) rfl (Nat.le_of_ble_eq_true rfl) ?_
    refine fs_Call.mono (fun v M4 hv => ?_) h
    obtain ⟨r4, rfl, h⟩ := hv
    show fs_A2 g m_Mo_price 23 109 [(0, fs_r 226), (1, fs_i x1), (2, fs_i x2), (3, fs_i x3)] [fs_i r4, fs_i x2] M4 K
    refine a_isub d_Mo_price_109 ?_
    refine a_istore_n d_Mo_price_110 rfl (Nat.le_of_ble_eq_true rfl) [1, 2, 3, 0] rfl ?_
    refine a_aload_n (j := 0) d_Mo_price_111 rfl rfl ?_
    refine a_aload_n (j := 0) d_Mo_price_112 rfl rfl ?_
    refine b_getptr (q := 228) d_Mo_price_113 fl_Mo_13 io_226 rfl rfl rfl ?_
    refine a_iconst d_Mo_price_116 (by unfold fs_in32; omega) ?_
    refine b_iaload (v := M4 228 1) d_Mo_price_117 ia_228 (by decide) (by decide) rfl ?_
    refine a_iload_n (j := 1) d_Mo_price_118 rfl rfl ?_
    refine b_virtual (dc := 22) (ci := 11) (T := fs_T11) (N := 78) [fs_i (M4 228 1), fs_i x1] [] d_Mo_price_119 ml_Mo_470 k_Mo_layBest v_Mo_layBest rfl io_226 rfl (Nat.le_of_ble_eq_true rfl) rfl (Nat.le_of_ble_eq_true rfl) ?_
    refine fs_Call.mono (fun v M5 hv => ?_) h
    obtain ⟨rfl, h⟩ := hv
    show fs_A2 g m_Mo_price 23 122 [(0, fs_r 226), (1, fs_i x1), (2, fs_i x2), (3, fs_i (fs_w32 (x2 - r4)))] [] M5 K
    refine a_aload_n (j := 0) d_Mo_price_122 rfl rfl ?_
    refine b_getfield (v := fs_i (M5 226 63)) d_Mo_price_123 fl_Mo_458 io_226 rfl ?_
    refine a_iload_n (j := 3) d_Mo_price_126 rfl rfl ?_
    refine a_isub d_Mo_price_127 ?_
    exact b_ireturn d_Mo_price_128 rfl rfl h
  · have h := h.2 c2
    refine a_aload_n (j := 0) d_Mo_price_38 rfl rfl ?_
    refine b_getptr (q := 252) d_Mo_price_39 fl_Mo_100 io_226 rfl rfl rfl ?_
    refine a_iload_n (j := 3) d_Mo_price_42 rfl rfl ?_
    refine a_aload_n (j := 0) d_Mo_price_43 rfl rfl ?_
    refine b_getptr (q := 264) d_Mo_price_44 fl_Mo_136 io_226 rfl rfl rfl ?_
    refine a_iload_n (j := 3) d_Mo_price_47 rfl rfl ?_
    obtain ⟨o3, h⟩ := h
    refine b_iaload (v := M 264 x3) d_Mo_price_48 ia_264 o3 (by omega : x3 < 3) rfl ?_
    refine b_iastore d_Mo_price_49 ia_252 o3 (by omega : x3 < 3) ?_
    refine a_iconst d_Mo_price_50 (by unfold fs_in32; omega) ?_
    refine a_istore d_Mo_price_51 (Nat.le_of_ble_eq_true rfl) [1, 2, 3, 4, 0] rfl ?_
    exact h
set_option maxRecDepth 8000 in
set_option maxHeartbeats 4000000 in
theorem L_Mo_price_53 {M : fs_M} {K : fs_K} {x1 x2 x3 x4 : Int} 
    (h : ((9 ≤ x4 → fs_A2 g m_Mo_price 23 33 [(0, fs_r 226), (1, fs_i x1), (2, fs_i x2), (3, fs_i (fs_w32 (x3 + 1)))] [] M K) ∧ (¬ 9 ≤ x4 → (0 ≤ fs_w32 ((fs_w32 (9 * x3)) + x4) ∧ fs_w32 ((fs_w32 (9 * x3)) + x4) < 27 ∧ fs_A2 g m_Mo_price 23 53 [(0, fs_r 226), (1, fs_i x1), (2, fs_i x2), (3, fs_i x3), (4, fs_i (fs_w32 (x4 + 1)))] [] (fs_st M 251 (fs_w32 ((fs_w32 (9 * x3)) + x4)) (M 263 (fs_w32 ((fs_w32 (9 * x3)) + x4)))) K)))) :
    fs_A2 g m_Mo_price 23 53 [(0, fs_r 226), (1, fs_i x1), (2, fs_i x2), (3, fs_i x3), (4, fs_i x4)] [] M K := by
  refine a_iload (j := 4) d_Mo_price_53 rfl ?_
  refine a_bipush d_Mo_price_55 (by decide) ?_
  refine a_icmp_ge (tgt := 90) d_Mo_price_57 rfl (fun c4 => ?_) (fun c4 => ?_)
  · have h := h.1 c4
    refine a_iinc (j := 3) d_Mo_price_90 rfl (Nat.le_of_ble_eq_true rfl) [1, 2, 3, 0, 4] rfl ?_
    refine a_goto (tgt := 33) d_Mo_price_93 rfl ?_
    refine a_sub [0, 1, 2, 3] rfl ?_
    exact h
  · have h := h.2 c4
    refine a_aload_n (j := 0) d_Mo_price_60 rfl rfl ?_
    refine b_getptr (q := 251) d_Mo_price_61 fl_Mo_97 io_226 rfl rfl rfl ?_
    refine a_bipush d_Mo_price_64 (by decide) ?_
    refine a_iload_n (j := 3) d_Mo_price_66 rfl rfl ?_
    refine a_imul d_Mo_price_67 ?_
    refine a_iload (j := 4) d_Mo_price_68 rfl ?_
    refine a_iadd d_Mo_price_70 ?_
    refine a_aload_n (j := 0) d_Mo_price_71 rfl rfl ?_
    refine b_getptr (q := 263) d_Mo_price_72 fl_Mo_133 io_226 rfl rfl rfl ?_
    refine a_bipush d_Mo_price_75 (by decide) ?_
    refine a_iload_n (j := 3) d_Mo_price_77 rfl rfl ?_
    refine a_imul d_Mo_price_78 ?_
    refine a_iload (j := 4) d_Mo_price_79 rfl ?_
    refine a_iadd d_Mo_price_81 ?_
    obtain ⟨o5, o6, h⟩ := h
    refine b_iaload (v := M 263 (fs_w32 ((fs_w32 (9 * x3)) + x4))) d_Mo_price_82 ia_263 o5 o6 rfl ?_
    refine b_iastore d_Mo_price_83 ia_251 o5 o6 ?_
    refine a_iinc (j := 4) d_Mo_price_84 rfl (Nat.le_of_ble_eq_true rfl) [1, 2, 3, 4, 0] rfl ?_
    refine a_goto (tgt := 53) d_Mo_price_87 rfl ?_
    exact h
set_option maxRecDepth 8000 in
set_option maxHeartbeats 4000000 in
theorem E_Mo_all {M : fs_M} {K : fs_K} {x1 : Int} 
    (h : ((x1 < 0 → K (some (fs_i (-1))) (fs_st M 226 0 0)) ∧ (¬ x1 < 0 → ((x1 < fs_shl 1 (M 228 0) → fs_C2 g m_Mo_asIs 2 [fs_r 226] (fs_st M 226 0 0) (fun v M1 => v = none ∧ fs_A2 g m_Mo_all 22 29 [(0, fs_r 226), (1, fs_i x1), (2, fs_i 0)] [] M1 K)) ∧ (¬ x1 < fs_shl 1 (M 228 0) → K (some (fs_i (-1))) (fs_st M 226 0 0)))))) :
    fs_C2 g m_Mo_all 22 [fs_r 226, fs_i x1] M K := by
  refine b_enter2 (ls := [(0, fs_r 226), (1, fs_i x1)]) (plainFor_of_name pn_Mo) (Nat.le_of_ble_eq_true rfl) rfl ?_
  refine a_aload_n (j := 0) d_Mo_all_0 rfl rfl ?_
  refine a_iconst d_Mo_all_1 (by unfold fs_in32; omega) ?_
  refine b_putfield (x := 0) d_Mo_all_2 fl_Mo_160 io_226 rfl rfl fs_nar_int ?_
  refine a_iload_n (j := 1) d_Mo_all_5 rfl rfl ?_
  refine a_if_lt (tgt := 21) d_Mo_all_6 rfl (fun c1 => ?_) (fun c1 => ?_)
  · have h := h.1 c1
    refine a_iconst d_Mo_all_21 (by unfold fs_in32; omega) ?_
    exact b_ireturn d_Mo_all_22 rfl rfl h
  · have h := h.2 c1
    refine a_iload_n (j := 1) d_Mo_all_9 rfl rfl ?_
    refine a_iconst d_Mo_all_10 (by unfold fs_in32; omega) ?_
    refine a_aload_n (j := 0) d_Mo_all_11 rfl rfl ?_
    refine b_getptr (q := 228) d_Mo_all_12 fl_Mo_13 io_226 rfl rfl rfl ?_
    refine a_iconst d_Mo_all_15 (by unfold fs_in32; omega) ?_
    refine b_iaload (v := M 228 0) d_Mo_all_16 ia_228 (by decide) (by decide) rfl ?_
    refine a_ishl d_Mo_all_17 ?_
    refine a_icmp_lt (tgt := 23) d_Mo_all_18 rfl (fun c2 => ?_) (fun c2 => ?_)
    · have h := h.1 c2
      refine a_aload_n (j := 0) d_Mo_all_23 rfl rfl ?_
      refine b_virtual (dc := 2) (ci := 11) (T := fs_T11) (N := 78) [] [] d_Mo_all_24 ml_Mo_406 k_Mo_asIs v_Mo_asIs rfl io_226 rfl (Nat.le_of_ble_eq_true rfl) rfl (Nat.le_of_ble_eq_true rfl) ?_
      refine fs_Call.mono (fun v M1 hv => ?_) h
      obtain ⟨rfl, h⟩ := hv
      show fs_A2 g m_Mo_all 22 27 [(0, fs_r 226), (1, fs_i x1)] [] M1 K
      refine a_iconst d_Mo_all_27 (by unfold fs_in32; omega) ?_
      refine a_istore_n d_Mo_all_28 rfl (Nat.le_of_ble_eq_true rfl) [1, 2, 0] rfl ?_
      exact h
    · have h := h.2 c2
      refine a_iconst d_Mo_all_21 (by unfold fs_in32; omega) ?_
      exact b_ireturn d_Mo_all_22 rfl rfl h
set_option maxRecDepth 8000 in
set_option maxHeartbeats 4000000 in
theorem L_Mo_all_29 {M : fs_M} {K : fs_K} {x1 x2 : Int} 
    (h : ((3 ≤ x2 → fs_C2 g m_Mo_rows 21 [fs_r 226, fs_i 0, fs_i 0] (fs_st (fs_st (fs_st M 226 62 (M 228 1)) 226 66 x1) 226 67 0) (fun v M2 => v = none ∧ ((M2 226 67 = 0 → K (some (fs_i 0)) (fs_st (fs_st M2 226 66 (-1)) 226 67 0)) ∧ (¬ M2 226 67 = 0 → K (some (fs_i 1)) (fs_st (fs_st M2 226 66 (-1)) 226 67 0))))) ∧ (¬ 3 ≤ x2 → (0 ≤ x2 ∧ fs_A2 g m_Mo_all 22 29 [(0, fs_r 226), (1, fs_i x1), (2, fs_i (fs_w32 (x2 + 1)))] [] (fs_st M 252 x2 0) K)))) :
    fs_A2 g m_Mo_all 22 29 [(0, fs_r 226), (1, fs_i x1), (2, fs_i x2)] [] M K := by
  refine a_iload_n (j := 2) d_Mo_all_29 rfl rfl ?_
  refine a_iconst d_Mo_all_30 (by unfold fs_in32; omega) ?_
  refine a_icmp_ge (tgt := 47) d_Mo_all_31 rfl (fun c3 => ?_) (fun c3 => ?_)
  · have h := h.1 c3
    refine a_aload_n (j := 0) d_Mo_all_47 rfl rfl ?_
    refine a_aload_n (j := 0) d_Mo_all_48 rfl rfl ?_
    refine b_getptr (q := 228) d_Mo_all_49 fl_Mo_13 io_226 rfl rfl rfl ?_
    refine a_iconst d_Mo_all_52 (by unfold fs_in32; omega) ?_
    refine b_iaload (v := M 228 1) d_Mo_all_53 ia_228 (by decide) (by decide) rfl ?_
    refine b_putfield (x := (M 228 1)) d_Mo_all_54 fl_Mo_461 io_226 rfl rfl fs_nar_int ?_
    refine a_aload_n (j := 0) d_Mo_all_57 rfl rfl ?_
    refine a_iload_n (j := 1) d_Mo_all_58 rfl rfl ?_
    refine b_putfield (x := x1) d_Mo_all_59 fl_Mo_452 io_226 rfl rfl fs_nar_int ?_
    refine a_aload_n (j := 0) d_Mo_all_62 rfl rfl ?_
    refine a_iconst d_Mo_all_63 (by unfold fs_in32; omega) ?_
    refine b_putfield (x := 0) d_Mo_all_64 fl_Mo_455 io_226 rfl rfl (fs_nar_bool (Or.inl rfl)) ?_
    refine a_aload_n (j := 0) d_Mo_all_67 rfl rfl ?_
    refine a_iconst d_Mo_all_68 (by unfold fs_in32; omega) ?_
    refine a_iconst d_Mo_all_69 (by unfold fs_in32; omega) ?_
    refine b_virtual (dc := 21) (ci := 11) (T := fs_T11) (N := 78) [fs_i 0, fs_i 0] [] d_Mo_all_70 ml_Mo_467 k_Mo_rows v_Mo_rows rfl io_226 rfl (Nat.le_of_ble_eq_true rfl) rfl (Nat.le_of_ble_eq_true rfl) ?_
    refine fs_Call.mono (fun v M2 hv => ?_) h
    obtain ⟨rfl, h⟩ := hv
    show fs_A2 g m_Mo_all 22 73 [(0, fs_r 226), (1, fs_i x1), (2, fs_i x2)] [] M2 K
    refine a_aload_n (j := 0) d_Mo_all_73 rfl rfl ?_
    refine a_iconst d_Mo_all_74 (by unfold fs_in32; omega) ?_
    refine b_putfield (x := (-1)) d_Mo_all_75 fl_Mo_452 io_226 rfl rfl fs_nar_int ?_
    refine a_aload_n (j := 0) d_Mo_all_78 rfl rfl ?_
    refine b_getfield (v := fs_i (M2 226 67)) d_Mo_all_79 fl_Mo_455 io_226 rfl ?_
    refine a_istore_n d_Mo_all_82 rfl (Nat.le_of_ble_eq_true rfl) [1, 2, 0] rfl ?_
    refine a_aload_n (j := 0) d_Mo_all_83 rfl rfl ?_
    refine a_iconst d_Mo_all_84 (by unfold fs_in32; omega) ?_
    refine b_putfield (x := 0) d_Mo_all_85 fl_Mo_455 io_226 rfl rfl (fs_nar_bool (Or.inl rfl)) ?_
    refine a_iload_n (j := 2) d_Mo_all_88 rfl rfl ?_
    refine a_if_eq (tgt := 96) d_Mo_all_89 rfl (fun c4 => ?_) (fun c4 => ?_)
    · have h := h.1 c4
      refine a_iconst d_Mo_all_96 (by unfold fs_in32; omega) ?_
      exact b_ireturn d_Mo_all_97 rfl rfl h
    · have h := h.2 c4
      refine a_iconst d_Mo_all_92 (by unfold fs_in32; omega) ?_
      refine a_goto (tgt := 97) d_Mo_all_93 rfl ?_
      exact b_ireturn d_Mo_all_97 rfl rfl h
  · have h := h.2 c3
    refine a_aload_n (j := 0) d_Mo_all_34 rfl rfl ?_
    refine b_getptr (q := 252) d_Mo_all_35 fl_Mo_100 io_226 rfl rfl rfl ?_
    refine a_iload_n (j := 2) d_Mo_all_38 rfl rfl ?_
    refine a_iconst d_Mo_all_39 (by unfold fs_in32; omega) ?_
    obtain ⟨o5, h⟩ := h
    refine b_iastore d_Mo_all_40 ia_252 o5 (by omega : x2 < 3) ?_
    refine a_iinc (j := 2) d_Mo_all_41 rfl (Nat.le_of_ble_eq_true rfl) [1, 2, 0] rfl ?_
    refine a_goto (tgt := 29) d_Mo_all_44 rfl ?_
    exact h
set_option maxRecDepth 8000 in
set_option maxHeartbeats 4000000 in
theorem E_Mo_refusal {M : fs_M} {K : fs_K} {x1 : Int} 
    (h : ((x1 < 0 → K (some (fs_i (-1))) (fs_st M 226 0 0)) ∧ (¬ x1 < 0 → ((x1 ≤ 1 → fs_C2 g m_Mo_asIs 2 [fs_r 226] (fs_st M 226 0 0) (fun v M1 => v = none ∧ fs_A2 g m_Mo_refusal 9 27 [(0, fs_r 226), (1, fs_i x1), (2, fs_i (-1)), (3, fs_i (-1)), (4, fs_i 0)] [] M1 K)) ∧ (¬ x1 ≤ 1 → K (some (fs_i (-1))) (fs_st M 226 0 0)))))) :
    fs_C2 g m_Mo_refusal 9 [fs_r 226, fs_i x1] M K := by
  refine b_enter2 (ls := [(0, fs_r 226), (1, fs_i x1)]) (plainFor_of_name pn_Mo) (Nat.le_of_ble_eq_true rfl) rfl ?_
  refine a_aload_n (j := 0) d_Mo_refusal_0 rfl rfl ?_
  refine a_iconst d_Mo_refusal_1 (by unfold fs_in32; omega) ?_
  refine b_putfield (x := 0) d_Mo_refusal_2 fl_Mo_160 io_226 rfl rfl fs_nar_int ?_
  refine a_iload_n (j := 1) d_Mo_refusal_5 rfl rfl ?_
  refine a_if_lt (tgt := 14) d_Mo_refusal_6 rfl (fun c1 => ?_) (fun c1 => ?_)
  · have h := h.1 c1
    refine a_iconst d_Mo_refusal_14 (by unfold fs_in32; omega) ?_
    exact b_ireturn d_Mo_refusal_15 rfl rfl h
  · have h := h.2 c1
    refine a_iload_n (j := 1) d_Mo_refusal_9 rfl rfl ?_
    refine a_iconst d_Mo_refusal_10 (by unfold fs_in32; omega) ?_
    refine a_icmp_le (tgt := 16) d_Mo_refusal_11 rfl (fun c2 => ?_) (fun c2 => ?_)
    · have h := h.1 c2
      refine a_aload_n (j := 0) d_Mo_refusal_16 rfl rfl ?_
      refine b_virtual (dc := 2) (ci := 11) (T := fs_T11) (N := 78) [] [] d_Mo_refusal_17 ml_Mo_406 k_Mo_asIs v_Mo_asIs rfl io_226 rfl (Nat.le_of_ble_eq_true rfl) rfl (Nat.le_of_ble_eq_true rfl) ?_
      refine fs_Call.mono (fun v M1 hv => ?_) h
      obtain ⟨rfl, h⟩ := hv
      show fs_A2 g m_Mo_refusal 9 20 [(0, fs_r 226), (1, fs_i x1)] [] M1 K
      refine a_iconst d_Mo_refusal_20 (by unfold fs_in32; omega) ?_
      refine a_istore_n d_Mo_refusal_21 rfl (Nat.le_of_ble_eq_true rfl) [1, 2, 0] rfl ?_
      refine a_iconst d_Mo_refusal_22 (by unfold fs_in32; omega) ?_
      refine a_istore_n d_Mo_refusal_23 rfl (Nat.le_of_ble_eq_true rfl) [1, 2, 3, 0] rfl ?_
      refine a_iconst d_Mo_refusal_24 (by unfold fs_in32; omega) ?_
      refine a_istore d_Mo_refusal_25 (Nat.le_of_ble_eq_true rfl) [1, 2, 3, 4, 0] rfl ?_
      exact h
    · have h := h.2 c2
      refine a_iconst d_Mo_refusal_14 (by unfold fs_in32; omega) ?_
      exact b_ireturn d_Mo_refusal_15 rfl rfl h
set_option maxRecDepth 8000 in
set_option maxHeartbeats 4000000 in
theorem L_Mo_refusal_27 {M : fs_M} {K : fs_K} {x1 x2 x3 x4 : Int} 
    (h : ((fs_shl 1 (M 228 0) ≤ x4 → ((¬ x1 = 0 → K (some (fs_i x2)) M) ∧ (x1 = 0 → K (some (fs_i x3)) M))) ∧ (¬ fs_shl 1 (M 228 0) ≤ x4 → fs_C2 g m_Mo_walks 8 [fs_r 226, fs_i 240] (fs_st M 226 47 x4) (fun v M2 => v = none ∧ fs_C2 g m_Mo_gains 2 [fs_r 226] M2 (fun v M3 => ∃ r3, v = some (fs_i r3) ∧ ((x2 = (-1) → fs_A2 g m_Mo_refusal 9 27 [(0, fs_r 226), (1, fs_i x1), (2, fs_i x4), (3, fs_i r3), (4, fs_i (fs_w32 (x4 + 1)))] [] M3 K) ∧ (¬ x2 = (-1) → ((r3 < x3 → fs_A2 g m_Mo_refusal 9 27 [(0, fs_r 226), (1, fs_i x1), (2, fs_i x2), (3, fs_i x3), (4, fs_i (fs_w32 (x4 + 1)))] [] M3 K) ∧ (¬ r3 < x3 → ((¬ r3 = x3 → fs_A2 g m_Mo_refusal 9 27 [(0, fs_r 226), (1, fs_i x1), (2, fs_i x4), (3, fs_i r3), (4, fs_i (fs_w32 (x4 + 1)))] [] M3 K) ∧ (r3 = x3 → fs_C2 g m_Mo_bitsOf 1 [fs_i x4] M3 (fun v M4 => ∃ r4, v = some (fs_i r4) ∧ fs_C2 g m_Mo_bitsOf 1 [fs_i x2] M4 (fun v M5 => ∃ r5, v = some (fs_i r5) ∧ ((r4 < r5 → fs_A2 g m_Mo_refusal 9 27 [(0, fs_r 226), (1, fs_i x1), (2, fs_i x4), (3, fs_i r3), (4, fs_i (fs_w32 (x4 + 1)))] [] M5 K) ∧ (¬ r4 < r5 → fs_A2 g m_Mo_refusal 9 27 [(0, fs_r 226), (1, fs_i x1), (2, fs_i x2), (3, fs_i x3), (4, fs_i (fs_w32 (x4 + 1)))] [] M5 K))))))))))))))) :
    fs_A2 g m_Mo_refusal 9 27 [(0, fs_r 226), (1, fs_i x1), (2, fs_i x2), (3, fs_i x3), (4, fs_i x4)] [] M K := by
  refine a_iload (j := 4) d_Mo_refusal_27 rfl ?_
  refine a_iconst d_Mo_refusal_29 (by unfold fs_in32; omega) ?_
  refine a_aload_n (j := 0) d_Mo_refusal_30 rfl rfl ?_
  refine b_getptr (q := 228) d_Mo_refusal_31 fl_Mo_13 io_226 rfl rfl rfl ?_
  refine a_iconst d_Mo_refusal_34 (by unfold fs_in32; omega) ?_
  refine b_iaload (v := M 228 0) d_Mo_refusal_35 ia_228 (by decide) (by decide) rfl ?_
  refine a_ishl d_Mo_refusal_36 ?_
  refine a_icmp_ge (tgt := 103) d_Mo_refusal_37 rfl (fun c3 => ?_) (fun c3 => ?_)
  · have h := h.1 c3
    refine a_iload_n (j := 1) d_Mo_refusal_103 rfl rfl ?_
    refine a_if_ne (tgt := 111) d_Mo_refusal_104 rfl (fun c4 => ?_) (fun c4 => ?_)
    · have h := h.1 c4
      refine a_iload_n (j := 2) d_Mo_refusal_111 rfl rfl ?_
      exact b_ireturn d_Mo_refusal_112 rfl rfl h
    · have h := h.2 c4
      refine a_iload_n (j := 3) d_Mo_refusal_107 rfl rfl ?_
      refine a_goto (tgt := 112) d_Mo_refusal_108 rfl ?_
      exact b_ireturn d_Mo_refusal_112 rfl rfl h
  · have h := h.2 c3
    refine a_aload_n (j := 0) d_Mo_refusal_40 rfl rfl ?_
    refine a_iload (j := 4) d_Mo_refusal_41 rfl ?_
    refine b_putfield (x := x4) d_Mo_refusal_43 fl_Mo_380 io_226 rfl rfl fs_nar_int ?_
    refine a_aload_n (j := 0) d_Mo_refusal_46 rfl rfl ?_
    refine a_sipush d_Mo_refusal_47 (by decide) ?_
    refine b_virtual (dc := 8) (ci := 11) (T := fs_T11) (N := 78) [fs_i 240] [] d_Mo_refusal_50 ml_Mo_409 k_Mo_walks v_Mo_walks rfl io_226 rfl (Nat.le_of_ble_eq_true rfl) rfl (Nat.le_of_ble_eq_true rfl) ?_
    refine fs_Call.mono (fun v M2 hv => ?_) h
    obtain ⟨rfl, h⟩ := hv
    show fs_A2 g m_Mo_refusal 9 53 [(0, fs_r 226), (1, fs_i x1), (2, fs_i x2), (3, fs_i x3), (4, fs_i x4)] [] M2 K
    refine a_aload_n (j := 0) d_Mo_refusal_53 rfl rfl ?_
    refine b_virtual (dc := 2) (ci := 11) (T := fs_T11) (N := 78) [] [] d_Mo_refusal_54 ml_Mo_412 k_Mo_gains v_Mo_gains rfl io_226 rfl (Nat.le_of_ble_eq_true rfl) rfl (Nat.le_of_ble_eq_true rfl) ?_
    refine fs_Call.mono (fun v M3 hv => ?_) h
    obtain ⟨r3, rfl, h⟩ := hv
    show fs_A2 g m_Mo_refusal 9 57 [(0, fs_r 226), (1, fs_i x1), (2, fs_i x2), (3, fs_i x3), (4, fs_i x4)] [fs_i r3] M3 K
    refine a_istore d_Mo_refusal_57 (Nat.le_of_ble_eq_true rfl) [1, 2, 3, 4, 5, 0] rfl ?_
    refine a_iload_n (j := 2) d_Mo_refusal_59 rfl rfl ?_
    refine a_iconst d_Mo_refusal_60 (by unfold fs_in32; omega) ?_
    refine a_icmp_eq (tgt := 91) d_Mo_refusal_61 rfl (fun c5 => ?_) (fun c5 => ?_)
    · have h := h.1 c5
      refine a_iload (j := 4) d_Mo_refusal_91 rfl ?_
      refine a_istore_n d_Mo_refusal_93 rfl (Nat.le_of_ble_eq_true rfl) [1, 2, 0, 3, 4, 5] rfl ?_
      refine a_iload (j := 5) d_Mo_refusal_94 rfl ?_
      refine a_istore_n d_Mo_refusal_96 rfl (Nat.le_of_ble_eq_true rfl) [1, 2, 3, 0, 4, 5] rfl ?_
      refine a_iinc (j := 4) d_Mo_refusal_97 rfl (Nat.le_of_ble_eq_true rfl) [1, 2, 3, 4, 0, 5] rfl ?_
      refine a_goto (tgt := 27) d_Mo_refusal_100 rfl ?_
      refine a_sub [0, 1, 2, 3, 4] rfl ?_
      exact h
    · have h := h.2 c5
      refine a_iload (j := 5) d_Mo_refusal_64 rfl ?_
      refine a_iload_n (j := 3) d_Mo_refusal_66 rfl rfl ?_
      refine a_icmp_lt (tgt := 97) d_Mo_refusal_67 rfl (fun c6 => ?_) (fun c6 => ?_)
      · have h := h.1 c6
        refine a_iinc (j := 4) d_Mo_refusal_97 rfl (Nat.le_of_ble_eq_true rfl) [1, 2, 3, 4, 0, 5] rfl ?_
        refine a_goto (tgt := 27) d_Mo_refusal_100 rfl ?_
        refine a_sub [0, 1, 2, 3, 4] rfl ?_
        exact h
      · have h := h.2 c6
        refine a_iload (j := 5) d_Mo_refusal_70 rfl ?_
        refine a_iload_n (j := 3) d_Mo_refusal_72 rfl rfl ?_
        refine a_icmp_ne (tgt := 91) d_Mo_refusal_73 rfl (fun c7 => ?_) (fun c7 => ?_)
        · have h := h.1 c7
          refine a_iload (j := 4) d_Mo_refusal_91 rfl ?_
          refine a_istore_n d_Mo_refusal_93 rfl (Nat.le_of_ble_eq_true rfl) [1, 2, 0, 3, 4, 5] rfl ?_
          refine a_iload (j := 5) d_Mo_refusal_94 rfl ?_
          refine a_istore_n d_Mo_refusal_96 rfl (Nat.le_of_ble_eq_true rfl) [1, 2, 3, 0, 4, 5] rfl ?_
          refine a_iinc (j := 4) d_Mo_refusal_97 rfl (Nat.le_of_ble_eq_true rfl) [1, 2, 3, 4, 0, 5] rfl ?_
          refine a_goto (tgt := 27) d_Mo_refusal_100 rfl ?_
          refine a_sub [0, 1, 2, 3, 4] rfl ?_
          exact h
        · have h := h.2 c7
          refine a_iload (j := 4) d_Mo_refusal_76 rfl ?_
          refine b_static (dc := 1) [fs_i x4] [] d_Mo_refusal_78 ml_Mo_473 k_Mo_bitsOf s_Mo_bitsOf rfl (Nat.le_of_ble_eq_true rfl) rfl (Nat.le_of_ble_eq_true rfl) ?_
          refine fs_Call.mono (fun v M4 hv => ?_) h
          obtain ⟨r4, rfl, h⟩ := hv
          show fs_A2 g m_Mo_refusal 9 81 [(0, fs_r 226), (1, fs_i x1), (2, fs_i x2), (3, fs_i x3), (4, fs_i x4), (5, fs_i r3)] [fs_i r4] M4 K
          refine a_iload_n (j := 2) d_Mo_refusal_81 rfl rfl ?_
          refine b_static (dc := 1) [fs_i x2] [fs_i r4] d_Mo_refusal_82 ml_Mo_473 k_Mo_bitsOf s_Mo_bitsOf rfl (Nat.le_of_ble_eq_true rfl) rfl (Nat.le_of_ble_eq_true rfl) ?_
          refine fs_Call.mono (fun v M5 hv => ?_) h
          obtain ⟨r5, rfl, h⟩ := hv
          show fs_A2 g m_Mo_refusal 9 85 [(0, fs_r 226), (1, fs_i x1), (2, fs_i x2), (3, fs_i x3), (4, fs_i x4), (5, fs_i r3)] [fs_i r5, fs_i r4] M5 K
          refine a_icmp_lt (tgt := 91) d_Mo_refusal_85 rfl (fun c8 => ?_) (fun c8 => ?_)
          · have h := h.1 c8
            refine a_iload (j := 4) d_Mo_refusal_91 rfl ?_
            refine a_istore_n d_Mo_refusal_93 rfl (Nat.le_of_ble_eq_true rfl) [1, 2, 0, 3, 4, 5] rfl ?_
            refine a_iload (j := 5) d_Mo_refusal_94 rfl ?_
            refine a_istore_n d_Mo_refusal_96 rfl (Nat.le_of_ble_eq_true rfl) [1, 2, 3, 0, 4, 5] rfl ?_
            refine a_iinc (j := 4) d_Mo_refusal_97 rfl (Nat.le_of_ble_eq_true rfl) [1, 2, 3, 4, 0, 5] rfl ?_
            refine a_goto (tgt := 27) d_Mo_refusal_100 rfl ?_
            refine a_sub [0, 1, 2, 3, 4] rfl ?_
            exact h
          · have h := h.2 c8
            refine a_goto (tgt := 97) d_Mo_refusal_88 rfl ?_
            refine a_iinc (j := 4) d_Mo_refusal_97 rfl (Nat.le_of_ble_eq_true rfl) [1, 2, 3, 4, 0, 5] rfl ?_
            refine a_goto (tgt := 27) d_Mo_refusal_100 rfl ?_
            refine a_sub [0, 1, 2, 3, 4] rfl ?_
            exact h
set_option maxRecDepth 8000 in
set_option maxHeartbeats 4000000 in
theorem E_Mo_bitsOf {M : fs_M} {K : fs_K} {x0 : Int} 
    (h : fs_A2 g m_Mo_bitsOf 1 4 [(0, fs_i x0), (1, fs_i 0), (2, fs_i 0)] [] M K) :
    fs_C2 g m_Mo_bitsOf 1 [fs_i x0] M K := by
  refine b_enter2 (ls := [(0, fs_i x0)]) (plainFor_of_name pn_Mo) (Nat.le_of_ble_eq_true rfl) rfl ?_
  refine a_iconst d_Mo_bitsOf_0 (by unfold fs_in32; omega) ?_
  refine a_istore_n d_Mo_bitsOf_1 rfl (Nat.le_of_ble_eq_true rfl) [1, 0] rfl ?_
  refine a_iconst d_Mo_bitsOf_2 (by unfold fs_in32; omega) ?_
  refine a_istore_n d_Mo_bitsOf_3 rfl (Nat.le_of_ble_eq_true rfl) [1, 2, 0] rfl ?_
  exact h
set_option maxRecDepth 8000 in
set_option maxHeartbeats 4000000 in
theorem L_Mo_bitsOf_4 {M : fs_M} {K : fs_K} {x0 x1 x2 : Int} 
    (h : ((6 ≤ x2 → K (some (fs_i x1)) M) ∧ (¬ 6 ≤ x2 → fs_A2 g m_Mo_bitsOf 1 4 [(0, fs_i x0), (1, fs_i (fs_w32 (x1 + (fs_and (fs_shr x0 x2) 1)))), (2, fs_i (fs_w32 (x2 + 1)))] [] M K))) :
    fs_A2 g m_Mo_bitsOf 1 4 [(0, fs_i x0), (1, fs_i x1), (2, fs_i x2)] [] M K := by
  refine a_iload_n (j := 2) d_Mo_bitsOf_4 rfl rfl ?_
  refine a_bipush d_Mo_bitsOf_5 (by decide) ?_
  refine a_icmp_ge (tgt := 24) d_Mo_bitsOf_7 rfl (fun c1 => ?_) (fun c1 => ?_)
  · have h := h.1 c1
    refine a_iload_n (j := 1) d_Mo_bitsOf_24 rfl rfl ?_
    exact b_ireturn d_Mo_bitsOf_25 rfl rfl h
  · have h := h.2 c1
    refine a_iload_n (j := 1) d_Mo_bitsOf_10 rfl rfl ?_
    refine a_iload_n (j := 0) d_Mo_bitsOf_11 rfl rfl ?_
    refine a_iload_n (j := 2) d_Mo_bitsOf_12 rfl rfl ?_
    refine a_ishr d_Mo_bitsOf_13 ?_
    refine a_iconst d_Mo_bitsOf_14 (by unfold fs_in32; omega) ?_
    refine a_iand d_Mo_bitsOf_15 ?_
    refine a_iadd d_Mo_bitsOf_16 ?_
    refine a_istore_n d_Mo_bitsOf_17 rfl (Nat.le_of_ble_eq_true rfl) [1, 0, 2] rfl ?_
    refine a_iinc (j := 2) d_Mo_bitsOf_18 rfl (Nat.le_of_ble_eq_true rfl) [1, 2, 0] rfl ?_
    refine a_goto (tgt := 4) d_Mo_bitsOf_21 rfl ?_
    exact h
set_option maxRecDepth 8000 in
set_option maxHeartbeats 4000000 in
theorem E_Mo_track {M : fs_M} {K : fs_K} {x1 x2 x3 : Int} 
    (h : fs_C2 g m_Mo_isDark 1 [fs_r 226, fs_i x1] (fs_st M 226 0 0) (fun v M1 => ∃ r1, v = some (fs_i r1) ∧ ((r1 = 0 → K (some (fs_i (-1))) M1) ∧ (¬ r1 = 0 → fs_C2 g m_Mo_isHouse 1 [fs_r 226, fs_i x2] M1 (fun v M2 => ∃ r2, v = some (fs_i r2) ∧ ((r2 = 0 → K (some (fs_i (-1))) M2) ∧ (¬ r2 = 0 → fs_C2 g m_Mo_isMinute 1 [fs_i x3] M2 (fun v M3 => ∃ r3, v = some (fs_i r3) ∧ ((r3 = 0 → K (some (fs_i (-1))) M3) ∧ (¬ r3 = 0 → ((¬ M3 226 68 = 24 → (0 ≤ M3 226 68 ∧ M3 226 68 < 24 ∧ K (some (fs_i (fs_w32 ((fs_w32 ((M3 226 68) + 1)) - 1)))) (fs_st (fs_st (fs_st (fs_st M3 265 (M3 226 68) x1) 266 (M3 226 68) x2) 267 (M3 226 68) x3) 226 68 (fs_w32 ((M3 226 68) + 1))))) ∧ (M3 226 68 = 24 → K (some (fs_i (-1))) M3)))))))))))) :
    fs_C2 g m_Mo_track 2 [fs_r 226, fs_i x1, fs_i x2, fs_i x3] M K := by
  refine b_enter2 (ls := [(0, fs_r 226), (1, fs_i x1), (2, fs_i x2), (3, fs_i x3)]) (plainFor_of_name pn_Mo) (Nat.le_of_ble_eq_true rfl) rfl ?_
  refine a_aload_n (j := 0) d_Mo_track_0 rfl rfl ?_
  refine a_iconst d_Mo_track_1 (by unfold fs_in32; omega) ?_
  refine b_putfield (x := 0) d_Mo_track_2 fl_Mo_160 io_226 rfl rfl fs_nar_int ?_
  refine a_aload_n (j := 0) d_Mo_track_5 rfl rfl ?_
  refine a_iload_n (j := 1) d_Mo_track_6 rfl rfl ?_
  refine b_virtual (dc := 1) (ci := 11) (T := fs_T11) (N := 78) [fs_i x1] [] d_Mo_track_7 ml_Mo_317 k_Mo_isDark v_Mo_isDark rfl io_226 rfl (Nat.le_of_ble_eq_true rfl) rfl (Nat.le_of_ble_eq_true rfl) ?_
  refine fs_Call.mono (fun v M1 hv => ?_) h
  obtain ⟨r1, rfl, h⟩ := hv
  show fs_A2 g m_Mo_track 2 10 [(0, fs_r 226), (1, fs_i x1), (2, fs_i x2), (3, fs_i x3)] [fs_i r1] M1 K
  refine a_if_eq (tgt := 37) d_Mo_track_10 rfl (fun c1 => ?_) (fun c1 => ?_)
  · have h := h.1 c1
    refine a_iconst d_Mo_track_37 (by unfold fs_in32; omega) ?_
    exact b_ireturn d_Mo_track_38 rfl rfl h
  · have h := h.2 c1
    refine a_aload_n (j := 0) d_Mo_track_13 rfl rfl ?_
    refine a_iload_n (j := 2) d_Mo_track_14 rfl rfl ?_
    refine b_virtual (dc := 1) (ci := 11) (T := fs_T11) (N := 78) [fs_i x2] [] d_Mo_track_15 ml_Mo_314 k_Mo_isHouse v_Mo_isHouse rfl io_226 rfl (Nat.le_of_ble_eq_true rfl) rfl (Nat.le_of_ble_eq_true rfl) ?_
    refine fs_Call.mono (fun v M2 hv => ?_) h
    obtain ⟨r2, rfl, h⟩ := hv
    show fs_A2 g m_Mo_track 2 18 [(0, fs_r 226), (1, fs_i x1), (2, fs_i x2), (3, fs_i x3)] [fs_i r2] M2 K
    refine a_if_eq (tgt := 37) d_Mo_track_18 rfl (fun c2 => ?_) (fun c2 => ?_)
    · have h := h.1 c2
      refine a_iconst d_Mo_track_37 (by unfold fs_in32; omega) ?_
      exact b_ireturn d_Mo_track_38 rfl rfl h
    · have h := h.2 c2
      refine a_iload_n (j := 3) d_Mo_track_21 rfl rfl ?_
      refine b_static (dc := 1) [fs_i x3] [] d_Mo_track_22 ml_Mo_363 k_Mo_isMinute s_Mo_isMinute rfl (Nat.le_of_ble_eq_true rfl) rfl (Nat.le_of_ble_eq_true rfl) ?_
      refine fs_Call.mono (fun v M3 hv => ?_) h
      obtain ⟨r3, rfl, h⟩ := hv
      show fs_A2 g m_Mo_track 2 25 [(0, fs_r 226), (1, fs_i x1), (2, fs_i x2), (3, fs_i x3)] [fs_i r3] M3 K
      refine a_if_eq (tgt := 37) d_Mo_track_25 rfl (fun c3 => ?_) (fun c3 => ?_)
      · have h := h.1 c3
        refine a_iconst d_Mo_track_37 (by unfold fs_in32; omega) ?_
        exact b_ireturn d_Mo_track_38 rfl rfl h
      · have h := h.2 c3
        refine a_aload_n (j := 0) d_Mo_track_28 rfl rfl ?_
        refine b_getfield (v := fs_i (M3 226 68)) d_Mo_track_29 fl_Mo_304 io_226 rfl ?_
        refine a_bipush d_Mo_track_32 (by decide) ?_
        refine a_icmp_ne (tgt := 39) d_Mo_track_34 rfl (fun c4 => ?_) (fun c4 => ?_)
        · have h := h.1 c4
          refine a_aload_n (j := 0) d_Mo_track_39 rfl rfl ?_
          refine b_getptr (q := 265) d_Mo_track_40 fl_Mo_142 io_226 rfl rfl rfl ?_
          refine a_aload_n (j := 0) d_Mo_track_43 rfl rfl ?_
          refine b_getfield (v := fs_i (M3 226 68)) d_Mo_track_44 fl_Mo_304 io_226 rfl ?_
          refine a_iload_n (j := 1) d_Mo_track_47 rfl rfl ?_
          obtain ⟨o5, o6, h⟩ := h
          refine b_iastore d_Mo_track_48 ia_265 o5 o6 ?_
          refine a_aload_n (j := 0) d_Mo_track_49 rfl rfl ?_
          refine b_getptr (q := 266) d_Mo_track_50 fl_Mo_145 io_226 rfl rfl rfl ?_
          refine a_aload_n (j := 0) d_Mo_track_53 rfl rfl ?_
          refine b_getfield (v := fs_i (M3 226 68)) d_Mo_track_54 fl_Mo_304 io_226 rfl ?_
          refine a_iload_n (j := 2) d_Mo_track_57 rfl rfl ?_
          refine b_iastore d_Mo_track_58 ia_266 o5 o6 ?_
          refine a_aload_n (j := 0) d_Mo_track_59 rfl rfl ?_
          refine b_getptr (q := 267) d_Mo_track_60 fl_Mo_148 io_226 rfl rfl rfl ?_
          refine a_aload_n (j := 0) d_Mo_track_63 rfl rfl ?_
          refine b_getfield (v := fs_i (M3 226 68)) d_Mo_track_64 fl_Mo_304 io_226 rfl ?_
          refine a_iload_n (j := 3) d_Mo_track_67 rfl rfl ?_
          refine b_iastore d_Mo_track_68 ia_267 o5 o6 ?_
          refine a_aload_n (j := 0) d_Mo_track_69 rfl rfl ?_
          refine a_dup d_Mo_track_70 rfl ?_
          refine b_getfield (v := fs_i (M3 226 68)) d_Mo_track_71 fl_Mo_304 io_226 rfl ?_
          refine a_iconst d_Mo_track_74 (by unfold fs_in32; omega) ?_
          refine a_iadd d_Mo_track_75 ?_
          refine b_putfield (x := (fs_w32 ((M3 226 68) + 1))) d_Mo_track_76 fl_Mo_304 io_226 rfl rfl fs_nar_int ?_
          refine a_aload_n (j := 0) d_Mo_track_79 rfl rfl ?_
          refine b_getfield (v := fs_i (fs_w32 ((M3 226 68) + 1))) d_Mo_track_80 fl_Mo_304 io_226 rfl ?_
          refine a_iconst d_Mo_track_83 (by unfold fs_in32; omega) ?_
          refine a_isub d_Mo_track_84 ?_
          exact b_ireturn d_Mo_track_85 rfl rfl h
        · have h := h.2 c4
          refine a_iconst d_Mo_track_37 (by unfold fs_in32; omega) ?_
          exact b_ireturn d_Mo_track_38 rfl rfl h
set_option maxRecDepth 8000 in
set_option maxHeartbeats 4000000 in
theorem E_Mo_strike {M : fs_M} {K : fs_K} {x1 : Int} 
    (h : ((x1 < 0 → K (some (fs_i (-1))) (fs_st M 226 0 0)) ∧ (¬ x1 < 0 → ((M 226 68 ≤ x1 → K (some (fs_i (-1))) (fs_st M 226 0 0)) ∧ (¬ M 226 68 ≤ x1 → ((¬ M 226 68 = 24 → (0 ≤ M 226 68 ∧ M 226 68 < 24 ∧ K (some (fs_i (fs_w32 ((fs_w32 ((M 226 68) + 1)) - 1)))) (fs_st (fs_st (fs_st (fs_st M 226 0 0) 265 (M 226 68) (-1)) 266 (M 226 68) x1) 226 68 (fs_w32 ((M 226 68) + 1))))) ∧ (M 226 68 = 24 → K (some (fs_i (-1))) (fs_st M 226 0 0)))))))) :
    fs_C2 g m_Mo_strike 1 [fs_r 226, fs_i x1] M K := by
  refine b_enter2 (ls := [(0, fs_r 226), (1, fs_i x1)]) (plainFor_of_name pn_Mo) (Nat.le_of_ble_eq_true rfl) rfl ?_
  refine a_aload_n (j := 0) d_Mo_strike_0 rfl rfl ?_
  refine a_iconst d_Mo_strike_1 (by unfold fs_in32; omega) ?_
  refine b_putfield (x := 0) d_Mo_strike_2 fl_Mo_160 io_226 rfl rfl fs_nar_int ?_
  refine a_iload_n (j := 1) d_Mo_strike_5 rfl rfl ?_
  refine a_if_lt (tgt := 26) d_Mo_strike_6 rfl (fun c1 => ?_) (fun c1 => ?_)
  · have h := h.1 c1
    refine a_iconst d_Mo_strike_26 (by unfold fs_in32; omega) ?_
    exact b_ireturn d_Mo_strike_27 rfl rfl h
  · have h := h.2 c1
    refine a_iload_n (j := 1) d_Mo_strike_9 rfl rfl ?_
    refine a_aload_n (j := 0) d_Mo_strike_10 rfl rfl ?_
    refine b_getfield (v := fs_i (M 226 68)) d_Mo_strike_11 fl_Mo_304 io_226 rfl ?_
    refine a_icmp_ge (tgt := 26) d_Mo_strike_14 rfl (fun c2 => ?_) (fun c2 => ?_)
    · have h := h.1 c2
      refine a_iconst d_Mo_strike_26 (by unfold fs_in32; omega) ?_
      exact b_ireturn d_Mo_strike_27 rfl rfl h
    · have h := h.2 c2
      refine a_aload_n (j := 0) d_Mo_strike_17 rfl rfl ?_
      refine b_getfield (v := fs_i (M 226 68)) d_Mo_strike_18 fl_Mo_304 io_226 rfl ?_
      refine a_bipush d_Mo_strike_21 (by decide) ?_
      refine a_icmp_ne (tgt := 28) d_Mo_strike_23 rfl (fun c3 => ?_) (fun c3 => ?_)
      · have h := h.1 c3
        refine a_aload_n (j := 0) d_Mo_strike_28 rfl rfl ?_
        refine b_getptr (q := 265) d_Mo_strike_29 fl_Mo_142 io_226 rfl rfl rfl ?_
        refine a_aload_n (j := 0) d_Mo_strike_32 rfl rfl ?_
        refine b_getfield (v := fs_i (M 226 68)) d_Mo_strike_33 fl_Mo_304 io_226 rfl ?_
        refine a_iconst d_Mo_strike_36 (by unfold fs_in32; omega) ?_
        obtain ⟨o4, o5, h⟩ := h
        refine b_iastore d_Mo_strike_37 ia_265 o4 o5 ?_
        refine a_aload_n (j := 0) d_Mo_strike_38 rfl rfl ?_
        refine b_getptr (q := 266) d_Mo_strike_39 fl_Mo_145 io_226 rfl rfl rfl ?_
        refine a_aload_n (j := 0) d_Mo_strike_42 rfl rfl ?_
        refine b_getfield (v := fs_i (M 226 68)) d_Mo_strike_43 fl_Mo_304 io_226 rfl ?_
        refine a_iload_n (j := 1) d_Mo_strike_46 rfl rfl ?_
        refine b_iastore d_Mo_strike_47 ia_266 o4 o5 ?_
        refine a_aload_n (j := 0) d_Mo_strike_48 rfl rfl ?_
        refine a_dup d_Mo_strike_49 rfl ?_
        refine b_getfield (v := fs_i (M 226 68)) d_Mo_strike_50 fl_Mo_304 io_226 rfl ?_
        refine a_iconst d_Mo_strike_53 (by unfold fs_in32; omega) ?_
        refine a_iadd d_Mo_strike_54 ?_
        refine b_putfield (x := (fs_w32 ((M 226 68) + 1))) d_Mo_strike_55 fl_Mo_304 io_226 rfl rfl fs_nar_int ?_
        refine a_aload_n (j := 0) d_Mo_strike_58 rfl rfl ?_
        refine b_getfield (v := fs_i (fs_w32 ((M 226 68) + 1))) d_Mo_strike_59 fl_Mo_304 io_226 rfl ?_
        refine a_iconst d_Mo_strike_62 (by unfold fs_in32; omega) ?_
        refine a_isub d_Mo_strike_63 ?_
        exact b_ireturn d_Mo_strike_64 rfl rfl h
      · have h := h.2 c3
        refine a_iconst d_Mo_strike_26 (by unfold fs_in32; omega) ?_
        exact b_ireturn d_Mo_strike_27 rfl rfl h
set_option maxRecDepth 8000 in
set_option maxHeartbeats 4000000 in
theorem E_Mo_known {M : fs_M} {K : fs_K} {x1 : Int} 
    (h : ((x1 < (-1) → K (some (fs_i 0)) (fs_st M 226 0 0)) ∧ (¬ x1 < (-1) → ((x1 ≤ M 226 68 → K (some (fs_i 1)) (fs_st (fs_st M 226 0 0) 226 69 x1)) ∧ (¬ x1 ≤ M 226 68 → K (some (fs_i 0)) (fs_st M 226 0 0)))))) :
    fs_C2 g m_Mo_known 1 [fs_r 226, fs_i x1] M K := by
  refine b_enter2 (ls := [(0, fs_r 226), (1, fs_i x1)]) (plainFor_of_name pn_Mo) (Nat.le_of_ble_eq_true rfl) rfl ?_
  refine a_aload_n (j := 0) d_Mo_known_0 rfl rfl ?_
  refine a_iconst d_Mo_known_1 (by unfold fs_in32; omega) ?_
  refine b_putfield (x := 0) d_Mo_known_2 fl_Mo_160 io_226 rfl rfl fs_nar_int ?_
  refine a_iload_n (j := 1) d_Mo_known_5 rfl rfl ?_
  refine a_iconst d_Mo_known_6 (by unfold fs_in32; omega) ?_
  refine a_icmp_lt (tgt := 18) d_Mo_known_7 rfl (fun c1 => ?_) (fun c1 => ?_)
  · have h := h.1 c1
    refine a_iconst d_Mo_known_18 (by unfold fs_in32; omega) ?_
    exact b_ireturn d_Mo_known_19 rfl (fs_nar01 (Or.inl rfl)) h
  · have h := h.2 c1
    refine a_iload_n (j := 1) d_Mo_known_10 rfl rfl ?_
    refine a_aload_n (j := 0) d_Mo_known_11 rfl rfl ?_
    refine b_getfield (v := fs_i (M 226 68)) d_Mo_known_12 fl_Mo_304 io_226 rfl ?_
    refine a_icmp_le (tgt := 20) d_Mo_known_15 rfl (fun c2 => ?_) (fun c2 => ?_)
    · have h := h.1 c2
      refine a_aload_n (j := 0) d_Mo_known_20 rfl rfl ?_
      refine a_iload_n (j := 1) d_Mo_known_21 rfl rfl ?_
      refine b_putfield (x := x1) d_Mo_known_22 fl_Mo_139 io_226 rfl rfl fs_nar_int ?_
      refine a_iconst d_Mo_known_25 (by unfold fs_in32; omega) ?_
      exact b_ireturn d_Mo_known_26 rfl (fs_nar01 (Or.inr rfl)) h
    · have h := h.2 c2
      refine a_iconst d_Mo_known_18 (by unfold fs_in32; omega) ?_
      exact b_ireturn d_Mo_known_19 rfl (fs_nar01 (Or.inl rfl)) h
set_option maxRecDepth 8000 in
set_option maxHeartbeats 4000000 in
theorem E_Mo_tales {M : fs_M} {K : fs_K} {x1 : Int} 
    (h : fs_C2 g m_Mo_isDark 1 [fs_r 226, fs_i x1] (fs_st M 226 0 0) (fun v M1 => ∃ r1, v = some (fs_i r1) ∧ ((¬ r1 = 0 → fs_C2 g m_Mo_layTales 21 [fs_r 226, fs_i x1, fs_i (-1)] M1 (fun v M2 => v = none ∧ K (some (fs_i (M2 226 74))) M2)) ∧ (r1 = 0 → K (some (fs_i (-1))) M1)))) :
    fs_C2 g m_Mo_tales 22 [fs_r 226, fs_i x1] M K := by
  refine b_enter2 (ls := [(0, fs_r 226), (1, fs_i x1)]) (plainFor_of_name pn_Mo) (Nat.le_of_ble_eq_true rfl) rfl ?_
  refine a_aload_n (j := 0) d_Mo_tales_0 rfl rfl ?_
  refine a_iconst d_Mo_tales_1 (by unfold fs_in32; omega) ?_
  refine b_putfield (x := 0) d_Mo_tales_2 fl_Mo_160 io_226 rfl rfl fs_nar_int ?_
  refine a_aload_n (j := 0) d_Mo_tales_5 rfl rfl ?_
  refine a_iload_n (j := 1) d_Mo_tales_6 rfl rfl ?_
  refine b_virtual (dc := 1) (ci := 11) (T := fs_T11) (N := 78) [fs_i x1] [] d_Mo_tales_7 ml_Mo_317 k_Mo_isDark v_Mo_isDark rfl io_226 rfl (Nat.le_of_ble_eq_true rfl) rfl (Nat.le_of_ble_eq_true rfl) ?_
  refine fs_Call.mono (fun v M1 hv => ?_) h
  obtain ⟨r1, rfl, h⟩ := hv
  show fs_A2 g m_Mo_tales 22 10 [(0, fs_r 226), (1, fs_i x1)] [fs_i r1] M1 K
  refine a_if_ne (tgt := 15) d_Mo_tales_10 rfl (fun c1 => ?_) (fun c1 => ?_)
  · have h := h.1 c1
    refine a_aload_n (j := 0) d_Mo_tales_15 rfl rfl ?_
    refine a_iload_n (j := 1) d_Mo_tales_16 rfl rfl ?_
    refine a_iconst d_Mo_tales_17 (by unfold fs_in32; omega) ?_
    refine b_virtual (dc := 21) (ci := 11) (T := fs_T11) (N := 78) [fs_i x1, fs_i (-1)] [] d_Mo_tales_18 ml_Mo_491 k_Mo_layTales v_Mo_layTales rfl io_226 rfl (Nat.le_of_ble_eq_true rfl) rfl (Nat.le_of_ble_eq_true rfl) ?_
    refine fs_Call.mono (fun v M2 hv => ?_) h
    obtain ⟨rfl, h⟩ := hv
    show fs_A2 g m_Mo_tales 22 21 [(0, fs_r 226), (1, fs_i x1)] [] M2 K
    refine a_aload_n (j := 0) d_Mo_tales_21 rfl rfl ?_
    refine b_getfield (v := fs_i (M2 226 74)) d_Mo_tales_22 fl_Mo_479 io_226 rfl ?_
    exact b_ireturn d_Mo_tales_25 rfl rfl h
  · have h := h.2 c1
    refine a_iconst d_Mo_tales_13 (by unfold fs_in32; omega) ?_
    exact b_ireturn d_Mo_tales_14 rfl rfl h
set_option maxRecDepth 8000 in
set_option maxHeartbeats 4000000 in
theorem E_Mo_layTales {M : fs_M} {K : fs_K} {x1 x2 : Int} 
    (h : fs_A2 g m_Mo_layTales 21 2 [(0, fs_r 226), (1, fs_i x1), (2, fs_i x2), (3, fs_i 0)] [] M K) :
    fs_C2 g m_Mo_layTales 21 [fs_r 226, fs_i x1, fs_i x2] M K := by
  refine b_enter2 (ls := [(0, fs_r 226), (1, fs_i x1), (2, fs_i x2)]) (plainFor_of_name pn_Mo) (Nat.le_of_ble_eq_true rfl) rfl ?_
  refine a_iconst d_Mo_layTales_0 (by unfold fs_in32; omega) ?_
  refine a_istore_n d_Mo_layTales_1 rfl (Nat.le_of_ble_eq_true rfl) [1, 2, 3, 0] rfl ?_
  exact h
set_option maxRecDepth 8000 in
set_option maxHeartbeats 4000000 in
theorem L_Mo_layTales_2 {M : fs_M} {K : fs_K} {x1 x2 x3 : Int} 
    (h : fs_C2 g m_Mo_knownMany 1 [fs_r 226] M (fun v M1 => ∃ r1, v = some (fs_i r1) ∧ ((r1 ≤ x3 → fs_C2 g m_Mo_knownMany 1 [fs_r 226] M1 (fun v M2 => ∃ r2, v = some (fs_i r2) ∧ fs_A2 g m_Mo_layTales 21 30 [(0, fs_r 226), (1, fs_i x1), (2, fs_i x2), (3, fs_i (fs_w32 (r2 - 1)))] [] M2 K)) ∧ (¬ r1 ≤ x3 → (0 ≤ x3 ∧ x3 < 24 ∧ fs_A2 g m_Mo_layTales 21 2 [(0, fs_r 226), (1, fs_i x1), (2, fs_i x2), (3, fs_i (fs_w32 (x3 + 1)))] [] (fs_st M1 268 x3 0) K))))) :
    fs_A2 g m_Mo_layTales 21 2 [(0, fs_r 226), (1, fs_i x1), (2, fs_i x2), (3, fs_i x3)] [] M K := by
  refine a_iload_n (j := 3) d_Mo_layTales_2 rfl rfl ?_
  refine a_aload_n (j := 0) d_Mo_layTales_3 rfl rfl ?_
  refine b_virtual (dc := 1) (ci := 11) (T := fs_T11) (N := 78) [] [fs_i x3] d_Mo_layTales_4 ml_Mo_476 k_Mo_knownMany v_Mo_knownMany rfl io_226 rfl (Nat.le_of_ble_eq_true rfl) rfl (Nat.le_of_ble_eq_true rfl) ?_
  refine fs_Call.mono (fun v M1 hv => ?_) h
  obtain ⟨r1, rfl, h⟩ := hv
  show fs_A2 g m_Mo_layTales 21 7 [(0, fs_r 226), (1, fs_i x1), (2, fs_i x2), (3, fs_i x3)] [fs_i r1, fs_i x3] M1 K
  refine a_icmp_ge (tgt := 23) d_Mo_layTales_7 rfl (fun c1 => ?_) (fun c1 => ?_)
  · have h := h.1 c1
    refine a_aload_n (j := 0) d_Mo_layTales_23 rfl rfl ?_
    refine b_virtual (dc := 1) (ci := 11) (T := fs_T11) (N := 78) [] [] d_Mo_layTales_24 ml_Mo_476 k_Mo_knownMany v_Mo_knownMany rfl io_226 rfl (Nat.le_of_ble_eq_true rfl) rfl (Nat.le_of_ble_eq_true rfl) ?_
    refine fs_Call.mono (fun v M2 hv => ?_) h
    obtain ⟨r2, rfl, h⟩ := hv
    show fs_A2 g m_Mo_layTales 21 27 [(0, fs_r 226), (1, fs_i x1), (2, fs_i x2), (3, fs_i x3)] [fs_i r2] M2 K
    refine a_iconst d_Mo_layTales_27 (by unfold fs_in32; omega) ?_
    refine a_isub d_Mo_layTales_28 ?_
    refine a_istore_n d_Mo_layTales_29 rfl (Nat.le_of_ble_eq_true rfl) [1, 2, 3, 0] rfl ?_
    exact h
  · have h := h.2 c1
    refine a_aload_n (j := 0) d_Mo_layTales_10 rfl rfl ?_
    refine b_getptr (q := 268) d_Mo_layTales_11 fl_Mo_151 io_226 rfl rfl rfl ?_
    refine a_iload_n (j := 3) d_Mo_layTales_14 rfl rfl ?_
    refine a_iconst d_Mo_layTales_15 (by unfold fs_in32; omega) ?_
    obtain ⟨o2, o3, h⟩ := h
    refine b_bastore d_Mo_layTales_16 ia_268 o2 o3 (Or.inl rfl) ?_
    refine a_iinc (j := 3) d_Mo_layTales_17 rfl (Nat.le_of_ble_eq_true rfl) [1, 2, 3, 0] rfl ?_
    refine a_goto (tgt := 2) d_Mo_layTales_20 rfl ?_
    exact h
set_option maxRecDepth 8000 in
set_option maxHeartbeats 4000000 in
theorem L_Mo_layTales_30 {M : fs_M} {K : fs_K} {x1 x2 x3 : Int} 
    (h : ((x3 < 0 → fs_C2 g m_Mo_asIs 2 [fs_r 226] M (fun v M3 => v = none ∧ fs_A2 g m_Mo_layTales 21 77 [(0, fs_r 226), (1, fs_i x1), (2, fs_i x2), (3, fs_i 0)] [] M3 K)) ∧ (¬ x3 < 0 → (x3 < 24 ∧ ((¬ M 268 x3 = 0 → fs_A2 g m_Mo_layTales 21 30 [(0, fs_r 226), (1, fs_i x1), (2, fs_i x2), (3, fs_i (fs_w32 (x3 + (-1))))] [] M K) ∧ (M 268 x3 = 0 → ((¬ M 265 x3 = (-1) → fs_A2 g m_Mo_layTales 21 30 [(0, fs_r 226), (1, fs_i x1), (2, fs_i x2), (3, fs_i (fs_w32 (x3 + (-1))))] [] M K) ∧ (M 265 x3 = (-1) → (0 ≤ M 266 x3 ∧ M 266 x3 < 24 ∧ fs_A2 g m_Mo_layTales 21 30 [(0, fs_r 226), (1, fs_i x1), (2, fs_i x2), (3, fs_i (fs_w32 (x3 + (-1))))] [] (fs_st M 268 (M 266 x3) 1) K))))))))) :
    fs_A2 g m_Mo_layTales 21 30 [(0, fs_r 226), (1, fs_i x1), (2, fs_i x2), (3, fs_i x3)] [] M K := by
  refine a_iload_n (j := 3) d_Mo_layTales_30 rfl rfl ?_
  refine a_if_lt (tgt := 71) d_Mo_layTales_31 rfl (fun c4 => ?_) (fun c4 => ?_)
  · have h := h.1 c4
    refine a_aload_n (j := 0) d_Mo_layTales_71 rfl rfl ?_
    refine b_virtual (dc := 2) (ci := 11) (T := fs_T11) (N := 78) [] [] d_Mo_layTales_72 ml_Mo_406 k_Mo_asIs v_Mo_asIs rfl io_226 rfl (Nat.le_of_ble_eq_true rfl) rfl (Nat.le_of_ble_eq_true rfl) ?_
    refine fs_Call.mono (fun v M3 hv => ?_) h
    obtain ⟨rfl, h⟩ := hv
    show fs_A2 g m_Mo_layTales 21 75 [(0, fs_r 226), (1, fs_i x1), (2, fs_i x2), (3, fs_i x3)] [] M3 K
    refine a_iconst d_Mo_layTales_75 (by unfold fs_in32; omega) ?_
    refine a_istore_n d_Mo_layTales_76 rfl (Nat.le_of_ble_eq_true rfl) [1, 2, 3, 0] rfl ?_
    exact h
  · have h := h.2 c4
    refine a_aload_n (j := 0) d_Mo_layTales_34 rfl rfl ?_
    refine b_getptr (q := 268) d_Mo_layTales_35 fl_Mo_151 io_226 rfl rfl rfl ?_
    refine a_iload_n (j := 3) d_Mo_layTales_38 rfl rfl ?_
    obtain ⟨o5, h⟩ := h
    refine b_baload (v := M 268 x3) d_Mo_layTales_39 ia_268 (by omega) o5 rfl ?_
    refine a_if_ne (tgt := 65) d_Mo_layTales_40 rfl (fun c6 => ?_) (fun c6 => ?_)
    · have h := h.1 c6
      refine a_iinc (j := 3) d_Mo_layTales_65 rfl (Nat.le_of_ble_eq_true rfl) [1, 2, 3, 0] rfl ?_
      refine a_goto (tgt := 30) d_Mo_layTales_68 rfl ?_
      exact h
    · have h := h.2 c6
      refine a_aload_n (j := 0) d_Mo_layTales_43 rfl rfl ?_
      refine b_getptr (q := 265) d_Mo_layTales_44 fl_Mo_142 io_226 rfl rfl rfl ?_
      refine a_iload_n (j := 3) d_Mo_layTales_47 rfl rfl ?_
      refine b_iaload (v := M 265 x3) d_Mo_layTales_48 ia_265 (by omega) o5 rfl ?_
      refine a_iconst d_Mo_layTales_49 (by unfold fs_in32; omega) ?_
      refine a_icmp_ne (tgt := 65) d_Mo_layTales_50 rfl (fun c7 => ?_) (fun c7 => ?_)
      · have h := h.1 c7
        refine a_iinc (j := 3) d_Mo_layTales_65 rfl (Nat.le_of_ble_eq_true rfl) [1, 2, 3, 0] rfl ?_
        refine a_goto (tgt := 30) d_Mo_layTales_68 rfl ?_
        exact h
      · have h := h.2 c7
        refine a_aload_n (j := 0) d_Mo_layTales_53 rfl rfl ?_
        refine b_getptr (q := 268) d_Mo_layTales_54 fl_Mo_151 io_226 rfl rfl rfl ?_
        refine a_aload_n (j := 0) d_Mo_layTales_57 rfl rfl ?_
        refine b_getptr (q := 266) d_Mo_layTales_58 fl_Mo_145 io_226 rfl rfl rfl ?_
        refine a_iload_n (j := 3) d_Mo_layTales_61 rfl rfl ?_
        refine b_iaload (v := M 266 x3) d_Mo_layTales_62 ia_266 (by omega) o5 rfl ?_
        refine a_iconst d_Mo_layTales_63 (by unfold fs_in32; omega) ?_
        obtain ⟨o8, o9, h⟩ := h
        refine b_bastore d_Mo_layTales_64 ia_268 o8 o9 (Or.inr rfl) ?_
        refine a_iinc (j := 3) d_Mo_layTales_65 rfl (Nat.le_of_ble_eq_true rfl) [1, 2, 3, 0] rfl ?_
        refine a_goto (tgt := 30) d_Mo_layTales_68 rfl ?_
        exact h
set_option maxRecDepth 8000 in
set_option maxHeartbeats 4000000 in
theorem L_Mo_layTales_77 {M : fs_M} {K : fs_K} {x1 x2 x3 : Int} 
    (h : ((3 ≤ x3 → fs_C2 g m_Mo_talesOf 20 [fs_r 226, fs_i x1, fs_i 0] (fs_st (fs_st (fs_st M 226 74 0) 226 75 x2) 226 77 0) (fun v M4 => v = none ∧ K none M4)) ∧ (¬ 3 ≤ x3 → (0 ≤ x3 ∧ fs_A2 g m_Mo_layTales 21 77 [(0, fs_r 226), (1, fs_i x1), (2, fs_i x2), (3, fs_i (fs_w32 (x3 + 1)))] [] (fs_st M 252 x3 0) K)))) :
    fs_A2 g m_Mo_layTales 21 77 [(0, fs_r 226), (1, fs_i x1), (2, fs_i x2), (3, fs_i x3)] [] M K := by
  refine a_iload_n (j := 3) d_Mo_layTales_77 rfl rfl ?_
  refine a_iconst d_Mo_layTales_78 (by unfold fs_in32; omega) ?_
  refine a_icmp_ge (tgt := 95) d_Mo_layTales_79 rfl (fun c10 => ?_) (fun c10 => ?_)
  · have h := h.1 c10
    refine a_aload_n (j := 0) d_Mo_layTales_95 rfl rfl ?_
    refine a_iconst d_Mo_layTales_96 (by unfold fs_in32; omega) ?_
    refine b_putfield (x := 0) d_Mo_layTales_97 fl_Mo_479 io_226 rfl rfl fs_nar_int ?_
    refine a_aload_n (j := 0) d_Mo_layTales_100 rfl rfl ?_
    refine a_iload_n (j := 2) d_Mo_layTales_101 rfl rfl ?_
    refine b_putfield (x := x2) d_Mo_layTales_102 fl_Mo_482 io_226 rfl rfl fs_nar_int ?_
    refine a_aload_n (j := 0) d_Mo_layTales_105 rfl rfl ?_
    refine a_iconst d_Mo_layTales_106 (by unfold fs_in32; omega) ?_
    refine b_putfield (x := 0) d_Mo_layTales_107 fl_Mo_485 io_226 rfl rfl fs_nar_int ?_
    refine a_aload_n (j := 0) d_Mo_layTales_110 rfl rfl ?_
    refine a_iload_n (j := 1) d_Mo_layTales_111 rfl rfl ?_
    refine a_iconst d_Mo_layTales_112 (by unfold fs_in32; omega) ?_
    refine b_virtual (dc := 20) (ci := 11) (T := fs_T11) (N := 78) [fs_i x1, fs_i 0] [] d_Mo_layTales_113 ml_Mo_488 k_Mo_talesOf v_Mo_talesOf rfl io_226 rfl (Nat.le_of_ble_eq_true rfl) rfl (Nat.le_of_ble_eq_true rfl) ?_
    refine fs_Call.mono (fun v M4 hv => ?_) h
    obtain ⟨rfl, h⟩ := hv
    show fs_A2 g m_Mo_layTales 21 116 [(0, fs_r 226), (1, fs_i x1), (2, fs_i x2), (3, fs_i x3)] [] M4 K
    exact b_return d_Mo_layTales_116 rfl h
  · have h := h.2 c10
    refine a_aload_n (j := 0) d_Mo_layTales_82 rfl rfl ?_
    refine b_getptr (q := 252) d_Mo_layTales_83 fl_Mo_100 io_226 rfl rfl rfl ?_
    refine a_iload_n (j := 3) d_Mo_layTales_86 rfl rfl ?_
    refine a_iconst d_Mo_layTales_87 (by unfold fs_in32; omega) ?_
    obtain ⟨o11, h⟩ := h
    refine b_iastore d_Mo_layTales_88 ia_252 o11 (by omega : x3 < 3) ?_
    refine a_iinc (j := 3) d_Mo_layTales_89 rfl (Nat.le_of_ble_eq_true rfl) [1, 2, 3, 0] rfl ?_
    refine a_goto (tgt := 77) d_Mo_layTales_92 rfl ?_
    exact h
set_option maxRecDepth 8000 in
set_option maxHeartbeats 4000000 in
theorem E_Mo_knownMany {M : fs_M} {K : fs_K} 
    (h : ((¬ M 226 69 = (-1) → K (some (fs_i (M 226 69))) M) ∧ (M 226 69 = (-1) → K (some (fs_i (M 226 68))) M))) :
    fs_C2 g m_Mo_knownMany 1 [fs_r 226] M K := by
  refine b_enter2 (ls := [(0, fs_r 226)]) (plainFor_of_name pn_Mo) (Nat.le_of_ble_eq_true rfl) rfl ?_
  refine a_aload_n (j := 0) d_Mo_knownMany_0 rfl rfl ?_
  refine b_getfield (v := fs_i (M 226 69)) d_Mo_knownMany_1 fl_Mo_139 io_226 rfl ?_
  refine a_iconst d_Mo_knownMany_4 (by unfold fs_in32; omega) ?_
  refine a_icmp_ne (tgt := 15) d_Mo_knownMany_5 rfl (fun c1 => ?_) (fun c1 => ?_)
  · have h := h.1 c1
    refine a_aload_n (j := 0) d_Mo_knownMany_15 rfl rfl ?_
    refine b_getfield (v := fs_i (M 226 69)) d_Mo_knownMany_16 fl_Mo_139 io_226 rfl ?_
    exact b_ireturn d_Mo_knownMany_19 rfl rfl h
  · have h := h.2 c1
    refine a_aload_n (j := 0) d_Mo_knownMany_8 rfl rfl ?_
    refine b_getfield (v := fs_i (M 226 68)) d_Mo_knownMany_9 fl_Mo_304 io_226 rfl ?_
    refine a_goto (tgt := 19) d_Mo_knownMany_12 rfl ?_
    exact b_ireturn d_Mo_knownMany_19 rfl rfl h
set_option maxRecDepth 8000 in
set_option maxHeartbeats 4000000 in
theorem E_Mo_talesOf {d : Nat} (hd : 8 ≤ d) {M : fs_M} {K : fs_K} {x1 x2 : Int} 
    (h : fs_C2 g m_Mo_walks 8 [fs_r 226, fs_i 240] M (fun v M1 => v = none ∧ fs_A2 g m_Mo_talesOf (d + 1) 12 [(0, fs_r 226), (1, fs_i x1), (2, fs_i x2), (3, fs_i 1), (4, fs_i 0)] [] M1 K)) :
    fs_C2 g m_Mo_talesOf (d + 1) [fs_r 226, fs_i x1, fs_i x2] M K := by
  refine b_enter2 (ls := [(0, fs_r 226), (1, fs_i x1), (2, fs_i x2)]) (plainFor_of_name pn_Mo) (Nat.le_of_ble_eq_true rfl) rfl ?_
  refine a_aload_n (j := 0) d_Mo_talesOf_0 rfl rfl ?_
  refine a_sipush d_Mo_talesOf_1 (by decide) ?_
  refine b_virtual (dc := 8) (ci := 11) (T := fs_T11) (N := 78) [fs_i 240] [] d_Mo_talesOf_4 ml_Mo_409 k_Mo_walks v_Mo_walks rfl io_226 rfl (by omega) rfl (Nat.le_of_ble_eq_true rfl) ?_
  refine fs_Call.mono (fun v M1 hv => ?_) h
  obtain ⟨rfl, h⟩ := hv
  show fs_A2 g m_Mo_talesOf (d + 1) 7 [(0, fs_r 226), (1, fs_i x1), (2, fs_i x2)] [] M1 K
  refine a_iconst d_Mo_talesOf_7 (by unfold fs_in32; omega) ?_
  refine a_istore_n d_Mo_talesOf_8 rfl (Nat.le_of_ble_eq_true rfl) [1, 2, 3, 0] rfl ?_
  refine a_iconst d_Mo_talesOf_9 (by unfold fs_in32; omega) ?_
  refine a_istore d_Mo_talesOf_10 (Nat.le_of_ble_eq_true rfl) [1, 2, 3, 4, 0] rfl ?_
  exact h
set_option maxRecDepth 8000 in
set_option maxHeartbeats 4000000 in
theorem L_Mo_talesOf_12 {d : Nat} (hd : 8 ≤ d) {M : fs_M} {K : fs_K} {x1 x2 x3 x4 : Int} 
    (h : fs_C2 g m_Mo_knownMany 1 [fs_r 226] M (fun v M2 => ∃ r2, v = some (fs_i r2) ∧ ((r2 ≤ x4 → ((x3 = 0 → fs_A2 g m_Mo_talesOf (d + 1) 163 [(0, fs_r 226), (1, fs_i x1), (2, fs_i x2), (4, fs_i 0)] [] M2 K) ∧ (¬ x3 = 0 → ((¬ M2 226 74 = M2 226 75 → fs_A2 g m_Mo_talesOf (d + 1) 150 [(0, fs_r 226), (1, fs_i x1), (2, fs_i x2)] [] M2 K) ∧ (M2 226 74 = M2 226 75 → (0 ≤ x1 ∧ x1 < 3 ∧ fs_A2 g m_Mo_talesOf (d + 1) 116 [(0, fs_r 226), (1, fs_i x1), (2, fs_i x2), (4, fs_i 0)] [] (fs_st M2 226 77 (M2 252 x1)) K)))))) ∧ (¬ r2 ≤ x4 → (0 ≤ x4 ∧ x4 < 24 ∧ ((¬ M2 268 x4 = 0 → fs_A2 g m_Mo_talesOf (d + 1) 12 [(0, fs_r 226), (1, fs_i x1), (2, fs_i x2), (3, fs_i x3), (4, fs_i (fs_w32 (x4 + 1)))] [] M2 K) ∧ (M2 268 x4 = 0 → ((¬ M2 265 x4 = x1 → fs_A2 g m_Mo_talesOf (d + 1) 12 [(0, fs_r 226), (1, fs_i x1), (2, fs_i x2), (3, fs_i x3), (4, fs_i (fs_w32 (x4 + 1)))] [] M2 K) ∧ (M2 265 x4 = x1 → (0 ≤ M2 266 x4 ∧ M2 266 x4 < 6 ∧ ((¬ M2 261 (M2 266 x4) = x1 → fs_A2 g m_Mo_talesOf (d + 1) 12 [(0, fs_r 226), (1, fs_i x1), (2, fs_i x2), (3, fs_i 0), (4, fs_i (fs_w32 (x4 + 1)))] [] M2 K) ∧ (M2 261 (M2 266 x4) = x1 → ((M2 262 (M2 266 x4) = M2 267 x4 → fs_A2 g m_Mo_talesOf (d + 1) 12 [(0, fs_r 226), (1, fs_i x1), (2, fs_i x2), (3, fs_i x3), (4, fs_i (fs_w32 (x4 + 1)))] [] M2 K) ∧ (¬ M2 262 (M2 266 x4) = M2 267 x4 → fs_A2 g m_Mo_talesOf (d + 1) 12 [(0, fs_r 226), (1, fs_i x1), (2, fs_i x2), (3, fs_i 0), (4, fs_i (fs_w32 (x4 + 1)))] [] M2 K)))))))))))))) :
    fs_A2 g m_Mo_talesOf (d + 1) 12 [(0, fs_r 226), (1, fs_i x1), (2, fs_i x2), (3, fs_i x3), (4, fs_i x4)] [] M K := by
  refine a_iload (j := 4) d_Mo_talesOf_12 rfl ?_
  refine a_aload_n (j := 0) d_Mo_talesOf_14 rfl rfl ?_
  refine b_virtual (dc := 1) (ci := 11) (T := fs_T11) (N := 78) [] [fs_i x4] d_Mo_talesOf_15 ml_Mo_476 k_Mo_knownMany v_Mo_knownMany rfl io_226 rfl (by omega) rfl (Nat.le_of_ble_eq_true rfl) ?_
  refine fs_Call.mono (fun v M2 hv => ?_) h
  obtain ⟨r2, rfl, h⟩ := hv
  show fs_A2 g m_Mo_talesOf (d + 1) 18 [(0, fs_r 226), (1, fs_i x1), (2, fs_i x2), (3, fs_i x3), (4, fs_i x4)] [fs_i r2, fs_i x4] M2 K
  refine a_icmp_ge (tgt := 88) d_Mo_talesOf_18 rfl (fun c1 => ?_) (fun c1 => ?_)
  · have h := h.1 c1
    refine a_iload_n (j := 3) d_Mo_talesOf_88 rfl rfl ?_
    refine a_if_eq (tgt := 160) d_Mo_talesOf_89 rfl (fun c2 => ?_) (fun c2 => ?_)
    · have h := h.1 c2
      refine a_iconst d_Mo_talesOf_160 (by unfold fs_in32; omega) ?_
      refine a_istore d_Mo_talesOf_161 (Nat.le_of_ble_eq_true rfl) [1, 2, 3, 4, 0] rfl ?_
      refine a_sub [0, 1, 2, 4] rfl ?_
      exact h
    · have h := h.2 c2
      refine a_aload_n (j := 0) d_Mo_talesOf_92 rfl rfl ?_
      refine b_getfield (v := fs_i (M2 226 74)) d_Mo_talesOf_93 fl_Mo_479 io_226 rfl ?_
      refine a_aload_n (j := 0) d_Mo_talesOf_96 rfl rfl ?_
      refine b_getfield (v := fs_i (M2 226 75)) d_Mo_talesOf_97 fl_Mo_482 io_226 rfl ?_
      refine a_icmp_ne (tgt := 150) d_Mo_talesOf_100 rfl (fun c3 => ?_) (fun c3 => ?_)
      · have h := h.1 c3
        refine a_sub [0, 1, 2] rfl ?_
        exact h
      · have h := h.2 c3
        refine a_aload_n (j := 0) d_Mo_talesOf_103 rfl rfl ?_
        refine a_aload_n (j := 0) d_Mo_talesOf_104 rfl rfl ?_
        refine b_getptr (q := 252) d_Mo_talesOf_105 fl_Mo_100 io_226 rfl rfl rfl ?_
        refine a_iload_n (j := 1) d_Mo_talesOf_108 rfl rfl ?_
        obtain ⟨o4, o5, h⟩ := h
        refine b_iaload (v := M2 252 x1) d_Mo_talesOf_109 ia_252 o4 o5 rfl ?_
        refine b_putfield (x := (M2 252 x1)) d_Mo_talesOf_110 fl_Mo_485 io_226 rfl rfl fs_nar_int ?_
        refine a_iconst d_Mo_talesOf_113 (by unfold fs_in32; omega) ?_
        refine a_istore d_Mo_talesOf_114 (Nat.le_of_ble_eq_true rfl) [1, 2, 3, 4, 0] rfl ?_
        refine a_sub [0, 1, 2, 4] rfl ?_
        exact h
  · have h := h.2 c1
    refine a_aload_n (j := 0) d_Mo_talesOf_21 rfl rfl ?_
    refine b_getptr (q := 268) d_Mo_talesOf_22 fl_Mo_151 io_226 rfl rfl rfl ?_
    refine a_iload (j := 4) d_Mo_talesOf_25 rfl ?_
    obtain ⟨o6, o7, h⟩ := h
    refine b_baload (v := M2 268 x4) d_Mo_talesOf_27 ia_268 o6 o7 rfl ?_
    refine a_if_ne (tgt := 82) d_Mo_talesOf_28 rfl (fun c8 => ?_) (fun c8 => ?_)
    · have h := h.1 c8
      refine a_iinc (j := 4) d_Mo_talesOf_82 rfl (Nat.le_of_ble_eq_true rfl) [1, 2, 3, 4, 0] rfl ?_
      refine a_goto (tgt := 12) d_Mo_talesOf_85 rfl ?_
      exact h
    · have h := h.2 c8
      refine a_aload_n (j := 0) d_Mo_talesOf_31 rfl rfl ?_
      refine b_getptr (q := 265) d_Mo_talesOf_32 fl_Mo_142 io_226 rfl rfl rfl ?_
      refine a_iload (j := 4) d_Mo_talesOf_35 rfl ?_
      refine b_iaload (v := M2 265 x4) d_Mo_talesOf_37 ia_265 o6 o7 rfl ?_
      refine a_iload_n (j := 1) d_Mo_talesOf_38 rfl rfl ?_
      refine a_icmp_ne (tgt := 82) d_Mo_talesOf_39 rfl (fun c9 => ?_) (fun c9 => ?_)
      · have h := h.1 c9
        refine a_iinc (j := 4) d_Mo_talesOf_82 rfl (Nat.le_of_ble_eq_true rfl) [1, 2, 3, 4, 0] rfl ?_
        refine a_goto (tgt := 12) d_Mo_talesOf_85 rfl ?_
        exact h
      · have h := h.2 c9
        refine a_aload_n (j := 0) d_Mo_talesOf_42 rfl rfl ?_
        refine b_getptr (q := 261) d_Mo_talesOf_43 fl_Mo_127 io_226 rfl rfl rfl ?_
        refine a_aload_n (j := 0) d_Mo_talesOf_46 rfl rfl ?_
        refine b_getptr (q := 266) d_Mo_talesOf_47 fl_Mo_145 io_226 rfl rfl rfl ?_
        refine a_iload (j := 4) d_Mo_talesOf_50 rfl ?_
        refine b_iaload (v := M2 266 x4) d_Mo_talesOf_52 ia_266 o6 o7 rfl ?_
        obtain ⟨o10, o11, h⟩ := h
        refine b_iaload (v := M2 261 (M2 266 x4)) d_Mo_talesOf_53 ia_261 o10 o11 rfl ?_
        refine a_iload_n (j := 1) d_Mo_talesOf_54 rfl rfl ?_
        refine a_icmp_ne (tgt := 80) d_Mo_talesOf_55 rfl (fun c12 => ?_) (fun c12 => ?_)
        · have h := h.1 c12
          refine a_iconst d_Mo_talesOf_80 (by unfold fs_in32; omega) ?_
          refine a_istore_n d_Mo_talesOf_81 rfl (Nat.le_of_ble_eq_true rfl) [1, 2, 3, 0, 4] rfl ?_
          refine a_iinc (j := 4) d_Mo_talesOf_82 rfl (Nat.le_of_ble_eq_true rfl) [1, 2, 3, 4, 0] rfl ?_
          refine a_goto (tgt := 12) d_Mo_talesOf_85 rfl ?_
          exact h
        · have h := h.2 c12
          refine a_aload_n (j := 0) d_Mo_talesOf_58 rfl rfl ?_
          refine b_getptr (q := 262) d_Mo_talesOf_59 fl_Mo_130 io_226 rfl rfl rfl ?_
          refine a_aload_n (j := 0) d_Mo_talesOf_62 rfl rfl ?_
          refine b_getptr (q := 266) d_Mo_talesOf_63 fl_Mo_145 io_226 rfl rfl rfl ?_
          refine a_iload (j := 4) d_Mo_talesOf_66 rfl ?_
          refine b_iaload (v := M2 266 x4) d_Mo_talesOf_68 ia_266 o6 o7 rfl ?_
          refine b_iaload (v := M2 262 (M2 266 x4)) d_Mo_talesOf_69 ia_262 o10 o11 rfl ?_
          refine a_aload_n (j := 0) d_Mo_talesOf_70 rfl rfl ?_
          refine b_getptr (q := 267) d_Mo_talesOf_71 fl_Mo_148 io_226 rfl rfl rfl ?_
          refine a_iload (j := 4) d_Mo_talesOf_74 rfl ?_
          refine b_iaload (v := M2 267 x4) d_Mo_talesOf_76 ia_267 o6 o7 rfl ?_
          refine a_icmp_eq (tgt := 82) d_Mo_talesOf_77 rfl (fun c13 => ?_) (fun c13 => ?_)
          · have h := h.1 c13
            refine a_iinc (j := 4) d_Mo_talesOf_82 rfl (Nat.le_of_ble_eq_true rfl) [1, 2, 3, 4, 0] rfl ?_
            refine a_goto (tgt := 12) d_Mo_talesOf_85 rfl ?_
            exact h
          · have h := h.2 c13
            refine a_iconst d_Mo_talesOf_80 (by unfold fs_in32; omega) ?_
            refine a_istore_n d_Mo_talesOf_81 rfl (Nat.le_of_ble_eq_true rfl) [1, 2, 3, 0, 4] rfl ?_
            refine a_iinc (j := 4) d_Mo_talesOf_82 rfl (Nat.le_of_ble_eq_true rfl) [1, 2, 3, 4, 0] rfl ?_
            refine a_goto (tgt := 12) d_Mo_talesOf_85 rfl ?_
            exact h
set_option maxRecDepth 8000 in
set_option maxHeartbeats 4000000 in
theorem L_Mo_talesOf_116 {d : Nat} (hd : 8 ≤ d) {M : fs_M} {K : fs_K} {x1 x2 x4 : Int} 
    (h : ((M 226 77 ≤ x4 → fs_A2 g m_Mo_talesOf (d + 1) 150 [(0, fs_r 226), (1, fs_i x1), (2, fs_i x2)] [] M K) ∧ (¬ M 226 77 ≤ x4 → (0 ≤ fs_w32 ((fs_w32 (9 * x1)) + x4) ∧ fs_w32 ((fs_w32 (9 * x1)) + x4) < 27 ∧ (0 ≤ x4 ∧ x4 < 9 ∧ fs_A2 g m_Mo_talesOf (d + 1) 116 [(0, fs_r 226), (1, fs_i x1), (2, fs_i x2), (4, fs_i (fs_w32 (x4 + 1)))] [] (fs_st M 269 x4 (M 251 (fs_w32 ((fs_w32 (9 * x1)) + x4)))) K))))) :
    fs_A2 g m_Mo_talesOf (d + 1) 116 [(0, fs_r 226), (1, fs_i x1), (2, fs_i x2), (4, fs_i x4)] [] M K := by
  refine a_iload (j := 3) d_Mo_talesOf_116 rfl ?_
  refine a_aload_n (j := 0) d_Mo_talesOf_118 rfl rfl ?_
  refine b_getfield (v := fs_i (M 226 77)) d_Mo_talesOf_119 fl_Mo_485 io_226 rfl ?_
  refine a_icmp_ge (tgt := 150) d_Mo_talesOf_122 rfl (fun c14 => ?_) (fun c14 => ?_)
  · have h := h.1 c14
    refine a_sub [0, 1, 2] rfl ?_
    exact h
  · have h := h.2 c14
    refine a_aload_n (j := 0) d_Mo_talesOf_125 rfl rfl ?_
    refine b_getptr (q := 269) d_Mo_talesOf_126 fl_Mo_154 io_226 rfl rfl rfl ?_
    refine a_iload (j := 3) d_Mo_talesOf_129 rfl ?_
    refine a_aload_n (j := 0) d_Mo_talesOf_131 rfl rfl ?_
    refine b_getptr (q := 251) d_Mo_talesOf_132 fl_Mo_97 io_226 rfl rfl rfl ?_
    refine a_bipush d_Mo_talesOf_135 (by decide) ?_
    refine a_iload_n (j := 1) d_Mo_talesOf_137 rfl rfl ?_
    refine a_imul d_Mo_talesOf_138 ?_
    refine a_iload (j := 3) d_Mo_talesOf_139 rfl ?_
    refine a_iadd d_Mo_talesOf_141 ?_
    obtain ⟨o15, o16, h⟩ := h
    refine b_iaload (v := M 251 (fs_w32 ((fs_w32 (9 * x1)) + x4))) d_Mo_talesOf_142 ia_251 o15 o16 rfl ?_
    obtain ⟨o17, o18, h⟩ := h
    refine b_iastore d_Mo_talesOf_143 ia_269 o17 o18 ?_
    refine a_iinc (j := 3) d_Mo_talesOf_144 rfl (Nat.le_of_ble_eq_true rfl) [1, 2, 3, 0] rfl ?_
    refine a_goto (tgt := 116) d_Mo_talesOf_147 rfl ?_
    exact h
set_option maxRecDepth 8000 in
set_option maxHeartbeats 4000000 in
theorem L_Mo_talesOf_150 {d : Nat} (hd : 8 ≤ d) {M : fs_M} {K : fs_K} {x1 x2 : Int} 
    (h : fs_A2 g m_Mo_talesOf (d + 1) 163 [(0, fs_r 226), (1, fs_i x1), (2, fs_i x2), (4, fs_i 0)] [] (fs_st M 226 74 (fs_w32 ((M 226 74) + 1))) K) :
    fs_A2 g m_Mo_talesOf (d + 1) 150 [(0, fs_r 226), (1, fs_i x1), (2, fs_i x2)] [] M K := by
  refine a_aload_n (j := 0) d_Mo_talesOf_150 rfl rfl ?_
  refine a_dup d_Mo_talesOf_151 rfl ?_
  refine b_getfield (v := fs_i (M 226 74)) d_Mo_talesOf_152 fl_Mo_479 io_226 rfl ?_
  refine a_iconst d_Mo_talesOf_155 (by unfold fs_in32; omega) ?_
  refine a_iadd d_Mo_talesOf_156 ?_
  refine b_putfield (x := (fs_w32 ((M 226 74) + 1))) d_Mo_talesOf_157 fl_Mo_479 io_226 rfl rfl fs_nar_int ?_
  refine a_iconst d_Mo_talesOf_160 (by unfold fs_in32; omega) ?_
  refine a_istore d_Mo_talesOf_161 (Nat.le_of_ble_eq_true rfl) [1, 2, 3, 0] rfl ?_
  exact h
set_option maxRecDepth 8000 in
set_option maxHeartbeats 4000000 in
theorem L_Mo_talesOf_163 {d : Nat} (hd : 8 ≤ d) {M : fs_M} {K : fs_K} {x1 x2 x4 : Int} 
    (h : ((M 228 0 ≤ x4 → K none M) ∧ (¬ M 228 0 ≤ x4 → ((¬ fs_and (fs_shr x2 x4) 1 = 1 → (0 ≤ x1 ∧ x1 < 3 ∧ (0 ≤ fs_w32 ((fs_w32 (9 * x1)) + (M 252 x1)) ∧ fs_w32 ((fs_w32 (9 * x1)) + (M 252 x1)) < 27 ∧ fs_C2 g m_Mo_talesOf d [fs_r 226, fs_i x1, fs_i (fs_or x2 (fs_shl 1 x4))] (fs_st (fs_st M 251 (fs_w32 ((fs_w32 (9 * x1)) + (M 252 x1))) x4) 252 x1 (fs_w32 ((M 252 x1) + 1))) (fun v M3 => v = none ∧ fs_A2 g m_Mo_talesOf (d + 1) 163 [(0, fs_r 226), (1, fs_i x1), (2, fs_i x2), (4, fs_i (fs_w32 (x4 + 1)))] [] (fs_st M3 252 x1 (fs_w32 ((M3 252 x1) - 1))) K)))) ∧ (fs_and (fs_shr x2 x4) 1 = 1 → fs_A2 g m_Mo_talesOf (d + 1) 163 [(0, fs_r 226), (1, fs_i x1), (2, fs_i x2), (4, fs_i (fs_w32 (x4 + 1)))] [] M K))))) :
    fs_A2 g m_Mo_talesOf (d + 1) 163 [(0, fs_r 226), (1, fs_i x1), (2, fs_i x2), (4, fs_i x4)] [] M K := by
  refine a_iload (j := 3) d_Mo_talesOf_163 rfl ?_
  refine a_aload_n (j := 0) d_Mo_talesOf_165 rfl rfl ?_
  refine b_getptr (q := 228) d_Mo_talesOf_166 fl_Mo_13 io_226 rfl rfl rfl ?_
  refine a_iconst d_Mo_talesOf_169 (by unfold fs_in32; omega) ?_
  refine b_iaload (v := M 228 0) d_Mo_talesOf_170 ia_228 (by decide) (by decide) rfl ?_
  refine a_icmp_ge (tgt := 242) d_Mo_talesOf_171 rfl (fun c19 => ?_) (fun c19 => ?_)
  · have h := h.1 c19
    exact b_return d_Mo_talesOf_242 rfl h
  · have h := h.2 c19
    refine a_iload_n (j := 2) d_Mo_talesOf_174 rfl rfl ?_
    refine a_iload (j := 3) d_Mo_talesOf_175 rfl ?_
    refine a_ishr d_Mo_talesOf_177 ?_
    refine a_iconst d_Mo_talesOf_178 (by unfold fs_in32; omega) ?_
    refine a_iand d_Mo_talesOf_179 ?_
    refine a_iconst d_Mo_talesOf_180 (by unfold fs_in32; omega) ?_
    refine a_icmp_ne (tgt := 187) d_Mo_talesOf_181 rfl (fun c20 => ?_) (fun c20 => ?_)
    · have h := h.1 c20
      refine a_aload_n (j := 0) d_Mo_talesOf_187 rfl rfl ?_
      refine b_getptr (q := 251) d_Mo_talesOf_188 fl_Mo_97 io_226 rfl rfl rfl ?_
      refine a_bipush d_Mo_talesOf_191 (by decide) ?_
      refine a_iload_n (j := 1) d_Mo_talesOf_193 rfl rfl ?_
      refine a_imul d_Mo_talesOf_194 ?_
      refine a_aload_n (j := 0) d_Mo_talesOf_195 rfl rfl ?_
      refine b_getptr (q := 252) d_Mo_talesOf_196 fl_Mo_100 io_226 rfl rfl rfl ?_
      refine a_iload_n (j := 1) d_Mo_talesOf_199 rfl rfl ?_
      obtain ⟨o21, o22, h⟩ := h
      refine b_iaload (v := M 252 x1) d_Mo_talesOf_200 ia_252 o21 o22 rfl ?_
      refine a_iadd d_Mo_talesOf_201 ?_
      refine a_iload (j := 3) d_Mo_talesOf_202 rfl ?_
      obtain ⟨o23, o24, h⟩ := h
      refine b_iastore d_Mo_talesOf_204 ia_251 o23 o24 ?_
      refine a_aload_n (j := 0) d_Mo_talesOf_205 rfl rfl ?_
      refine b_getptr (q := 252) d_Mo_talesOf_206 fl_Mo_100 io_226 rfl rfl rfl ?_
      refine a_iload_n (j := 1) d_Mo_talesOf_209 rfl rfl ?_
      refine a_dup2 d_Mo_talesOf_210 rfl rfl ?_
      refine b_iaload (v := M 252 x1) d_Mo_talesOf_211 ia_252 o21 o22 rfl ?_
      refine a_iconst d_Mo_talesOf_212 (by unfold fs_in32; omega) ?_
      refine a_iadd d_Mo_talesOf_213 ?_
      refine b_iastore d_Mo_talesOf_214 ia_252 o21 o22 ?_
      refine a_aload_n (j := 0) d_Mo_talesOf_215 rfl rfl ?_
      refine a_iload_n (j := 1) d_Mo_talesOf_216 rfl rfl ?_
      refine a_iload_n (j := 2) d_Mo_talesOf_217 rfl rfl ?_
      refine a_iconst d_Mo_talesOf_218 (by unfold fs_in32; omega) ?_
      refine a_iload (j := 3) d_Mo_talesOf_219 rfl ?_
      refine a_ishl d_Mo_talesOf_221 ?_
      refine a_ior d_Mo_talesOf_222 ?_
      refine b_virtual (dc := d) (ci := 11) (T := fs_T11) (N := 78) [fs_i x1, fs_i (fs_or x2 (fs_shl 1 x4))] [] d_Mo_talesOf_223 ml_Mo_488 k_Mo_talesOf v_Mo_talesOf rfl io_226 rfl (Nat.le_refl _) rfl (Nat.le_of_ble_eq_true rfl) ?_
      refine fs_Call.mono (fun v M3 hv => ?_) h
      obtain ⟨rfl, h⟩ := hv
      show fs_A2 g m_Mo_talesOf (d + 1) 226 [(0, fs_r 226), (1, fs_i x1), (2, fs_i x2), (4, fs_i x4)] [] M3 K
      refine a_aload_n (j := 0) d_Mo_talesOf_226 rfl rfl ?_
      refine b_getptr (q := 252) d_Mo_talesOf_227 fl_Mo_100 io_226 rfl rfl rfl ?_
      refine a_iload_n (j := 1) d_Mo_talesOf_230 rfl rfl ?_
      refine a_dup2 d_Mo_talesOf_231 rfl rfl ?_
      refine b_iaload (v := M3 252 x1) d_Mo_talesOf_232 ia_252 o21 o22 rfl ?_
      refine a_iconst d_Mo_talesOf_233 (by unfold fs_in32; omega) ?_
      refine a_isub d_Mo_talesOf_234 ?_
      refine b_iastore d_Mo_talesOf_235 ia_252 o21 o22 ?_
      refine a_iinc (j := 3) d_Mo_talesOf_236 rfl (Nat.le_of_ble_eq_true rfl) [1, 2, 3, 0] rfl ?_
      refine a_goto (tgt := 163) d_Mo_talesOf_239 rfl ?_
      exact h
    · have h := h.2 c20
      refine a_goto (tgt := 236) d_Mo_talesOf_184 rfl ?_
      refine a_iinc (j := 3) d_Mo_talesOf_236 rfl (Nat.le_of_ble_eq_true rfl) [1, 2, 3, 0] rfl ?_
      refine a_goto (tgt := 163) d_Mo_talesOf_239 rfl ?_
      exact h
set_option maxRecDepth 8000 in
set_option maxHeartbeats 4000000 in
theorem E_Mo_tale {M : fs_M} {K : fs_K} {x1 x2 x3 : Int} 
    (h : fs_C2 g m_Mo_isDark 1 [fs_r 226, fs_i x1] (fs_st M 226 0 0) (fun v M1 => ∃ r1, v = some (fs_i r1) ∧ ((r1 = 0 → K (some (fs_i (-1))) M1) ∧ (¬ r1 = 0 → ((x2 < 0 → K (some (fs_i (-1))) M1) ∧ (¬ x2 < 0 → ((0 ≤ x3 → fs_C2 g m_Mo_layTales 21 [fs_r 226, fs_i x1, fs_i x2] M1 (fun v M2 => v = none ∧ ((x2 < M2 226 74 → ((M2 226 77 ≤ x3 → K (some (fs_i (-2))) M2) ∧ (¬ M2 226 77 ≤ x3 → (x3 < 9 ∧ K (some (fs_i (M2 269 x3))) M2)))) ∧ (¬ x2 < M2 226 74 → K (some (fs_i (-3))) M2)))) ∧ (¬ 0 ≤ x3 → K (some (fs_i (-1))) M1)))))))) :
    fs_C2 g m_Mo_tale 22 [fs_r 226, fs_i x1, fs_i x2, fs_i x3] M K := by
  refine b_enter2 (ls := [(0, fs_r 226), (1, fs_i x1), (2, fs_i x2), (3, fs_i x3)]) (plainFor_of_name pn_Mo) (Nat.le_of_ble_eq_true rfl) rfl ?_
  refine a_aload_n (j := 0) d_Mo_tale_0 rfl rfl ?_
  refine a_iconst d_Mo_tale_1 (by unfold fs_in32; omega) ?_
  refine b_putfield (x := 0) d_Mo_tale_2 fl_Mo_160 io_226 rfl rfl fs_nar_int ?_
  refine a_aload_n (j := 0) d_Mo_tale_5 rfl rfl ?_
  refine a_iload_n (j := 1) d_Mo_tale_6 rfl rfl ?_
  refine b_virtual (dc := 1) (ci := 11) (T := fs_T11) (N := 78) [fs_i x1] [] d_Mo_tale_7 ml_Mo_317 k_Mo_isDark v_Mo_isDark rfl io_226 rfl (Nat.le_of_ble_eq_true rfl) rfl (Nat.le_of_ble_eq_true rfl) ?_
  refine fs_Call.mono (fun v M1 hv => ?_) h
  obtain ⟨r1, rfl, h⟩ := hv
  show fs_A2 g m_Mo_tale 22 10 [(0, fs_r 226), (1, fs_i x1), (2, fs_i x2), (3, fs_i x3)] [fs_i r1] M1 K
  refine a_if_eq (tgt := 21) d_Mo_tale_10 rfl (fun c1 => ?_) (fun c1 => ?_)
  · have h := h.1 c1
    refine a_iconst d_Mo_tale_21 (by unfold fs_in32; omega) ?_
    exact b_ireturn d_Mo_tale_22 rfl rfl h
  · have h := h.2 c1
    refine a_iload_n (j := 2) d_Mo_tale_13 rfl rfl ?_
    refine a_if_lt (tgt := 21) d_Mo_tale_14 rfl (fun c2 => ?_) (fun c2 => ?_)
    · have h := h.1 c2
      refine a_iconst d_Mo_tale_21 (by unfold fs_in32; omega) ?_
      exact b_ireturn d_Mo_tale_22 rfl rfl h
    · have h := h.2 c2
      refine a_iload_n (j := 3) d_Mo_tale_17 rfl rfl ?_
      refine a_if_ge (tgt := 23) d_Mo_tale_18 rfl (fun c3 => ?_) (fun c3 => ?_)
      · have h := h.1 c3
        refine a_aload_n (j := 0) d_Mo_tale_23 rfl rfl ?_
        refine a_iload_n (j := 1) d_Mo_tale_24 rfl rfl ?_
        refine a_iload_n (j := 2) d_Mo_tale_25 rfl rfl ?_
        refine b_virtual (dc := 21) (ci := 11) (T := fs_T11) (N := 78) [fs_i x1, fs_i x2] [] d_Mo_tale_26 ml_Mo_491 k_Mo_layTales v_Mo_layTales rfl io_226 rfl (Nat.le_of_ble_eq_true rfl) rfl (Nat.le_of_ble_eq_true rfl) ?_
        refine fs_Call.mono (fun v M2 hv => ?_) h
        obtain ⟨rfl, h⟩ := hv
        show fs_A2 g m_Mo_tale 22 29 [(0, fs_r 226), (1, fs_i x1), (2, fs_i x2), (3, fs_i x3)] [] M2 K
        refine a_iload_n (j := 2) d_Mo_tale_29 rfl rfl ?_
        refine a_aload_n (j := 0) d_Mo_tale_30 rfl rfl ?_
        refine b_getfield (v := fs_i (M2 226 74)) d_Mo_tale_31 fl_Mo_479 io_226 rfl ?_
        refine a_icmp_lt (tgt := 42) d_Mo_tale_34 rfl (fun c4 => ?_) (fun c4 => ?_)
        · have h := h.1 c4
          refine a_iload_n (j := 3) d_Mo_tale_42 rfl rfl ?_
          refine a_aload_n (j := 0) d_Mo_tale_43 rfl rfl ?_
          refine b_getfield (v := fs_i (M2 226 77)) d_Mo_tale_44 fl_Mo_485 io_226 rfl ?_
          refine a_icmp_ge (tgt := 59) d_Mo_tale_47 rfl (fun c5 => ?_) (fun c5 => ?_)
          · have h := h.1 c5
            refine a_bipush d_Mo_tale_59 (by decide) ?_
            exact b_ireturn d_Mo_tale_61 rfl rfl h
          · have h := h.2 c5
            refine a_aload_n (j := 0) d_Mo_tale_50 rfl rfl ?_
            refine b_getptr (q := 269) d_Mo_tale_51 fl_Mo_154 io_226 rfl rfl rfl ?_
            refine a_iload_n (j := 3) d_Mo_tale_54 rfl rfl ?_
            obtain ⟨o6, h⟩ := h
            refine b_iaload (v := M2 269 x3) d_Mo_tale_55 ia_269 c3 o6 rfl ?_
            refine a_goto (tgt := 61) d_Mo_tale_56 rfl ?_
            exact b_ireturn d_Mo_tale_61 rfl rfl h
        · have h := h.2 c4
          refine a_bipush d_Mo_tale_37 (by decide) ?_
          refine a_goto (tgt := 61) d_Mo_tale_39 rfl ?_
          exact b_ireturn d_Mo_tale_61 rfl rfl h
      · have h := h.2 c3
        refine a_iconst d_Mo_tale_21 (by unfold fs_in32; omega) ?_
        exact b_ireturn d_Mo_tale_22 rfl rfl h
set_option maxRecDepth 8000 in
set_option maxHeartbeats 4000000 in
theorem E_Mo_tried {M : fs_M} {K : fs_K} {x1 x2 : Int} 
    (h : ((¬ x1 = 3 → ((¬ x1 = 4 → ((x1 < 0 → fs_A2 g m_Mo_tried 9 49 [(0, fs_r 226), (1, fs_i x1), (2, fs_i x2)] [fs_i 0] (fs_st M 226 0 0) K) ∧ (¬ x1 < 0 → ((5 < x1 → fs_A2 g m_Mo_tried 9 49 [(0, fs_r 226), (1, fs_i x1), (2, fs_i x2)] [fs_i 0] (fs_st M 226 0 0) K) ∧ (¬ 5 < x1 → ((¬ x2 = 0 → fs_A2 g m_Mo_tried 9 49 [(0, fs_r 226), (1, fs_i x1), (2, fs_i x2)] [fs_i 0] (fs_st M 226 0 0) K) ∧ (x2 = 0 → fs_A2 g m_Mo_tried 9 49 [(0, fs_r 226), (1, fs_i x1), (2, fs_i x2)] [fs_i 1] (fs_st M 226 0 0) K))))))) ∧ (x1 = 4 → fs_C2 g m_Mo_isDark 1 [fs_r 226, fs_i x2] (fs_st M 226 0 0) (fun v M1 => ∃ r1, v = some (fs_i r1) ∧ fs_A2 g m_Mo_tried 9 49 [(0, fs_r 226), (1, fs_i x1), (2, fs_i x2)] [fs_i r1] M1 K)))) ∧ (x1 = 3 → fs_C2 g m_Mo_isHouse 1 [fs_r 226, fs_i x2] (fs_st M 226 0 0) (fun v M2 => ∃ r2, v = some (fs_i r2) ∧ fs_A2 g m_Mo_tried 9 49 [(0, fs_r 226), (1, fs_i x1), (2, fs_i x2)] [fs_i r2] M2 K)))) :
    fs_C2 g m_Mo_tried 9 [fs_r 226, fs_i x1, fs_i x2] M K := by
  refine b_enter2 (ls := [(0, fs_r 226), (1, fs_i x1), (2, fs_i x2)]) (plainFor_of_name pn_Mo) (Nat.le_of_ble_eq_true rfl) rfl ?_
  refine a_aload_n (j := 0) d_Mo_tried_0 rfl rfl ?_
  refine a_iconst d_Mo_tried_1 (by unfold fs_in32; omega) ?_
  refine b_putfield (x := 0) d_Mo_tried_2 fl_Mo_160 io_226 rfl rfl fs_nar_int ?_
  refine a_iload_n (j := 1) d_Mo_tried_5 rfl rfl ?_
  refine a_iconst d_Mo_tried_6 (by unfold fs_in32; omega) ?_
  refine a_icmp_ne (tgt := 18) d_Mo_tried_7 rfl (fun c1 => ?_) (fun c1 => ?_)
  · have h := h.1 c1
    refine a_iload_n (j := 1) d_Mo_tried_18 rfl rfl ?_
    refine a_iconst d_Mo_tried_19 (by unfold fs_in32; omega) ?_
    refine a_icmp_ne (tgt := 31) d_Mo_tried_20 rfl (fun c2 => ?_) (fun c2 => ?_)
    · have h := h.1 c2
      refine a_iload_n (j := 1) d_Mo_tried_31 rfl rfl ?_
      refine a_if_lt (tgt := 48) d_Mo_tried_32 rfl (fun c3 => ?_) (fun c3 => ?_)
      · have h := h.1 c3
        refine a_iconst d_Mo_tried_48 (by unfold fs_in32; omega) ?_
        exact h
      · have h := h.2 c3
        refine a_iload_n (j := 1) d_Mo_tried_35 rfl rfl ?_
        refine a_iconst d_Mo_tried_36 (by unfold fs_in32; omega) ?_
        refine a_icmp_gt (tgt := 48) d_Mo_tried_37 rfl (fun c4 => ?_) (fun c4 => ?_)
        · have h := h.1 c4
          refine a_iconst d_Mo_tried_48 (by unfold fs_in32; omega) ?_
          exact h
        · have h := h.2 c4
          refine a_iload_n (j := 2) d_Mo_tried_40 rfl rfl ?_
          refine a_if_ne (tgt := 48) d_Mo_tried_41 rfl (fun c5 => ?_) (fun c5 => ?_)
          · have h := h.1 c5
            refine a_iconst d_Mo_tried_48 (by unfold fs_in32; omega) ?_
            exact h
          · have h := h.2 c5
            refine a_iconst d_Mo_tried_44 (by unfold fs_in32; omega) ?_
            refine a_goto (tgt := 49) d_Mo_tried_45 rfl ?_
            exact h
    · have h := h.2 c2
      refine a_aload_n (j := 0) d_Mo_tried_23 rfl rfl ?_
      refine a_iload_n (j := 2) d_Mo_tried_24 rfl rfl ?_
      refine b_virtual (dc := 1) (ci := 11) (T := fs_T11) (N := 78) [fs_i x2] [] d_Mo_tried_25 ml_Mo_317 k_Mo_isDark v_Mo_isDark rfl io_226 rfl (Nat.le_of_ble_eq_true rfl) rfl (Nat.le_of_ble_eq_true rfl) ?_
      refine fs_Call.mono (fun v M1 hv => ?_) h
      obtain ⟨r1, rfl, h⟩ := hv
      show fs_A2 g m_Mo_tried 9 28 [(0, fs_r 226), (1, fs_i x1), (2, fs_i x2)] [fs_i r1] M1 K
      refine a_goto (tgt := 49) d_Mo_tried_28 rfl ?_
      exact h
  · have h := h.2 c1
    refine a_aload_n (j := 0) d_Mo_tried_10 rfl rfl ?_
    refine a_iload_n (j := 2) d_Mo_tried_11 rfl rfl ?_
    refine b_virtual (dc := 1) (ci := 11) (T := fs_T11) (N := 78) [fs_i x2] [] d_Mo_tried_12 ml_Mo_314 k_Mo_isHouse v_Mo_isHouse rfl io_226 rfl (Nat.le_of_ble_eq_true rfl) rfl (Nat.le_of_ble_eq_true rfl) ?_
    refine fs_Call.mono (fun v M2 hv => ?_) h
    obtain ⟨r2, rfl, h⟩ := hv
    show fs_A2 g m_Mo_tried 9 15 [(0, fs_r 226), (1, fs_i x1), (2, fs_i x2)] [fs_i r2] M2 K
    refine a_goto (tgt := 49) d_Mo_tried_15 rfl ?_
    exact h
set_option maxRecDepth 8000 in
set_option maxHeartbeats 4000000 in
theorem L_Mo_tried_49 {M : fs_M} {K : fs_K} {x1 x2 x100 : Int} 
    (h : ((¬ x100 = 0 → fs_C2 g m_Mo_asIs 2 [fs_r 226] M (fun v M3 => v = none ∧ ((¬ x1 = 0 → fs_A2 g m_Mo_tried 9 80 [(0, fs_r 226)] [] (fs_st (fs_st M3 226 42 x1) 226 43 x2) K) ∧ (x1 = 0 → fs_A2 g m_Mo_tried 9 80 [(0, fs_r 226)] [] (fs_st (fs_st (fs_st M3 226 42 x1) 226 43 x2) 226 47 63) K)))) ∧ (x100 = 0 → K (some (fs_i (-1))) M))) :
    fs_A2 g m_Mo_tried 9 49 [(0, fs_r 226), (1, fs_i x1), (2, fs_i x2)] [fs_i x100] M K := by
  refine a_istore_n d_Mo_tried_49 rfl (Nat.le_of_ble_eq_true rfl) [1, 2, 3, 0] rfl ?_
  refine a_iload_n (j := 3) d_Mo_tried_50 rfl rfl ?_
  refine a_if_ne (tgt := 56) d_Mo_tried_51 rfl (fun c6 => ?_) (fun c6 => ?_)
  · have h := h.1 c6
    refine a_aload_n (j := 0) d_Mo_tried_56 rfl rfl ?_
    refine b_virtual (dc := 2) (ci := 11) (T := fs_T11) (N := 78) [] [] d_Mo_tried_57 ml_Mo_406 k_Mo_asIs v_Mo_asIs rfl io_226 rfl (Nat.le_of_ble_eq_true rfl) rfl (Nat.le_of_ble_eq_true rfl) ?_
    refine fs_Call.mono (fun v M3 hv => ?_) h
    obtain ⟨rfl, h⟩ := hv
    show fs_A2 g m_Mo_tried 9 60 [(0, fs_r 226), (1, fs_i x1), (2, fs_i x2), (3, fs_i x100)] [] M3 K
    refine a_aload_n (j := 0) d_Mo_tried_60 rfl rfl ?_
    refine a_iload_n (j := 1) d_Mo_tried_61 rfl rfl ?_
    refine b_putfield (x := x1) d_Mo_tried_62 fl_Mo_88 io_226 rfl rfl fs_nar_int ?_
    refine a_aload_n (j := 0) d_Mo_tried_65 rfl rfl ?_
    refine a_iload_n (j := 2) d_Mo_tried_66 rfl rfl ?_
    refine b_putfield (x := x2) d_Mo_tried_67 fl_Mo_91 io_226 rfl rfl fs_nar_int ?_
    refine a_iload_n (j := 1) d_Mo_tried_70 rfl rfl ?_
    refine a_if_ne (tgt := 80) d_Mo_tried_71 rfl (fun c7 => ?_) (fun c7 => ?_)
    · have h := h.1 c7
      refine a_sub [0] rfl ?_
      exact h
    · have h := h.2 c7
      refine a_aload_n (j := 0) d_Mo_tried_74 rfl rfl ?_
      refine a_bipush d_Mo_tried_75 (by decide) ?_
      refine b_putfield (x := 63) d_Mo_tried_77 fl_Mo_380 io_226 rfl rfl fs_nar_int ?_
      refine a_sub [0] rfl ?_
      exact h
  · have h := h.2 c6
    refine a_iconst d_Mo_tried_54 (by unfold fs_in32; omega) ?_
    exact b_ireturn d_Mo_tried_55 rfl rfl h
set_option maxRecDepth 8000 in
set_option maxHeartbeats 4000000 in
theorem L_Mo_tried_80 {M : fs_M} {K : fs_K} 
    (h : fs_C2 g m_Mo_walks 8 [fs_r 226, fs_i 240] M (fun v M4 => v = none ∧ fs_C2 g m_Mo_gains 2 [fs_r 226] M4 (fun v M5 => ∃ r5, v = some (fs_i r5) ∧ fs_C2 g m_Mo_plain 1 [fs_r 226] M5 (fun v M6 => v = none ∧ K (some (fs_i r5)) M6)))) :
    fs_A2 g m_Mo_tried 9 80 [(0, fs_r 226)] [] M K := by
  refine a_aload_n (j := 0) d_Mo_tried_80 rfl rfl ?_
  refine a_sipush d_Mo_tried_81 (by decide) ?_
  refine b_virtual (dc := 8) (ci := 11) (T := fs_T11) (N := 78) [fs_i 240] [] d_Mo_tried_84 ml_Mo_409 k_Mo_walks v_Mo_walks rfl io_226 rfl (Nat.le_of_ble_eq_true rfl) rfl (Nat.le_of_ble_eq_true rfl) ?_
  refine fs_Call.mono (fun v M4 hv => ?_) h
  obtain ⟨rfl, h⟩ := hv
  show fs_A2 g m_Mo_tried 9 87 [(0, fs_r 226)] [] M4 K
  refine a_aload_n (j := 0) d_Mo_tried_87 rfl rfl ?_
  refine b_virtual (dc := 2) (ci := 11) (T := fs_T11) (N := 78) [] [] d_Mo_tried_88 ml_Mo_412 k_Mo_gains v_Mo_gains rfl io_226 rfl (Nat.le_of_ble_eq_true rfl) rfl (Nat.le_of_ble_eq_true rfl) ?_
  refine fs_Call.mono (fun v M5 hv => ?_) h
  obtain ⟨r5, rfl, h⟩ := hv
  show fs_A2 g m_Mo_tried 9 91 [(0, fs_r 226)] [fs_i r5] M5 K
  refine a_istore d_Mo_tried_91 (Nat.le_of_ble_eq_true rfl) [1, 0] rfl ?_
  refine a_aload_n (j := 0) d_Mo_tried_93 rfl rfl ?_
  refine b_virtual (dc := 1) (ci := 11) (T := fs_T11) (N := 78) [] [] d_Mo_tried_94 ml_Mo_366 k_Mo_plain v_Mo_plain rfl io_226 rfl (Nat.le_of_ble_eq_true rfl) rfl (Nat.le_of_ble_eq_true rfl) ?_
  refine fs_Call.mono (fun v M6 hv => ?_) h
  obtain ⟨rfl, h⟩ := hv
  show fs_A2 g m_Mo_tried 9 97 [(0, fs_r 226), (4, fs_i r5)] [] M6 K
  refine a_iload (j := 1) d_Mo_tried_97 rfl ?_
  exact b_ireturn d_Mo_tried_99 rfl rfl h
set_option maxRecDepth 8000 in
set_option maxHeartbeats 4000000 in
theorem E_Mo_undo {M : fs_M} {K : fs_K} 
    (h : ((¬ M 226 38 = 0 → fs_C2 g m_Mo_copies 1 [fs_r 226, fs_i 0, fs_i (fs_w32 (2 + (fs_w32 ((M 226 38) - 1))))] (fs_st (fs_st M 226 0 0) 226 38 (fs_w32 ((M 226 38) - 1))) (fun v M1 => v = none ∧ K (some (fs_i (M1 226 38))) M1)) ∧ (M 226 38 = 0 → K (some (fs_i (-1))) (fs_st M 226 0 0)))) :
    fs_C2 g m_Mo_undo 2 [fs_r 226] M K := by
  refine b_enter2 (ls := [(0, fs_r 226)]) (plainFor_of_name pn_Mo) (Nat.le_of_ble_eq_true rfl) rfl ?_
  refine a_aload_n (j := 0) d_Mo_undo_0 rfl rfl ?_
  refine a_iconst d_Mo_undo_1 (by unfold fs_in32; omega) ?_
  refine b_putfield (x := 0) d_Mo_undo_2 fl_Mo_160 io_226 rfl rfl fs_nar_int ?_
  refine a_aload_n (j := 0) d_Mo_undo_5 rfl rfl ?_
  refine b_getfield (v := fs_i (M 226 38)) d_Mo_undo_6 fl_Mo_311 io_226 rfl ?_
  refine a_if_ne (tgt := 14) d_Mo_undo_9 rfl (fun c1 => ?_) (fun c1 => ?_)
  · have h := h.1 c1
    refine a_aload_n (j := 0) d_Mo_undo_14 rfl rfl ?_
    refine a_dup d_Mo_undo_15 rfl ?_
    refine b_getfield (v := fs_i (M 226 38)) d_Mo_undo_16 fl_Mo_311 io_226 rfl ?_
    refine a_iconst d_Mo_undo_19 (by unfold fs_in32; omega) ?_
    refine a_isub d_Mo_undo_20 ?_
    refine b_putfield (x := (fs_w32 ((M 226 38) - 1))) d_Mo_undo_21 fl_Mo_311 io_226 rfl rfl fs_nar_int ?_
    refine a_aload_n (j := 0) d_Mo_undo_24 rfl rfl ?_
    refine a_iconst d_Mo_undo_25 (by unfold fs_in32; omega) ?_
    refine a_iconst d_Mo_undo_26 (by unfold fs_in32; omega) ?_
    refine a_aload_n (j := 0) d_Mo_undo_27 rfl rfl ?_
    refine b_getfield (v := fs_i (fs_w32 ((M 226 38) - 1))) d_Mo_undo_28 fl_Mo_311 io_226 rfl ?_
    refine a_iadd d_Mo_undo_31 ?_
    refine b_virtual (dc := 1) (ci := 11) (T := fs_T11) (N := 78) [fs_i 0, fs_i (fs_w32 (2 + (fs_w32 ((M 226 38) - 1))))] [] d_Mo_undo_32 ml_Mo_422 k_Mo_copies v_Mo_copies rfl io_226 rfl (Nat.le_of_ble_eq_true rfl) rfl (Nat.le_of_ble_eq_true rfl) ?_
    refine fs_Call.mono (fun v M1 hv => ?_) h
    obtain ⟨rfl, h⟩ := hv
    show fs_A2 g m_Mo_undo 2 35 [(0, fs_r 226)] [] M1 K
    refine a_aload_n (j := 0) d_Mo_undo_35 rfl rfl ?_
    refine b_getfield (v := fs_i (M1 226 38)) d_Mo_undo_36 fl_Mo_311 io_226 rfl ?_
    exact b_ireturn d_Mo_undo_39 rfl rfl h
  · have h := h.2 c1
    refine a_iconst d_Mo_undo_12 (by unfold fs_in32; omega) ?_
    exact b_ireturn d_Mo_undo_13 rfl rfl h
set_option maxRecDepth 8000 in
set_option maxHeartbeats 4000000 in
theorem E_Mo_keep {M : fs_M} {K : fs_K} 
    (h : fs_C2 g m_Mo_copies 1 [fs_r 226, fs_i 1, fs_i 0] (fs_st M 226 0 0) (fun v M1 => v = none ∧ fs_C2 g m_Mo_copiesNight 1 [fs_r 226, fs_i 1, fs_i 0] M1 (fun v M2 => v = none ∧ fs_C2 g m_Mo_gainAsIs 9 [fs_r 226] (fs_st M2 226 37 1) (fun v M3 => ∃ r3, v = some (fs_i r3) ∧ K (some (fs_i r3)) M3)))) :
    fs_C2 g m_Mo_keep 10 [fs_r 226] M K := by
  refine b_enter2 (ls := [(0, fs_r 226)]) (plainFor_of_name pn_Mo) (Nat.le_of_ble_eq_true rfl) rfl ?_
  refine a_aload_n (j := 0) d_Mo_keep_0 rfl rfl ?_
  refine a_iconst d_Mo_keep_1 (by unfold fs_in32; omega) ?_
  refine b_putfield (x := 0) d_Mo_keep_2 fl_Mo_160 io_226 rfl rfl fs_nar_int ?_
  refine a_aload_n (j := 0) d_Mo_keep_5 rfl rfl ?_
  refine a_iconst d_Mo_keep_6 (by unfold fs_in32; omega) ?_
  refine a_iconst d_Mo_keep_7 (by unfold fs_in32; omega) ?_
  refine b_virtual (dc := 1) (ci := 11) (T := fs_T11) (N := 78) [fs_i 1, fs_i 0] [] d_Mo_keep_8 ml_Mo_422 k_Mo_copies v_Mo_copies rfl io_226 rfl (Nat.le_of_ble_eq_true rfl) rfl (Nat.le_of_ble_eq_true rfl) ?_
  refine fs_Call.mono (fun v M1 hv => ?_) h
  obtain ⟨rfl, h⟩ := hv
  show fs_A2 g m_Mo_keep 10 11 [(0, fs_r 226)] [] M1 K
  refine a_aload_n (j := 0) d_Mo_keep_11 rfl rfl ?_
  refine a_iconst d_Mo_keep_12 (by unfold fs_in32; omega) ?_
  refine a_iconst d_Mo_keep_13 (by unfold fs_in32; omega) ?_
  refine b_virtual (dc := 1) (ci := 11) (T := fs_T11) (N := 78) [fs_i 1, fs_i 0] [] d_Mo_keep_14 ml_Mo_494 k_Mo_copiesNight v_Mo_copiesNight rfl io_226 rfl (Nat.le_of_ble_eq_true rfl) rfl (Nat.le_of_ble_eq_true rfl) ?_
  refine fs_Call.mono (fun v M2 hv => ?_) h
  obtain ⟨rfl, h⟩ := hv
  show fs_A2 g m_Mo_keep 10 17 [(0, fs_r 226)] [] M2 K
  refine a_aload_n (j := 0) d_Mo_keep_17 rfl rfl ?_
  refine a_iconst d_Mo_keep_18 (by unfold fs_in32; omega) ?_
  refine b_putfield (x := 1) d_Mo_keep_19 fl_Mo_307 io_226 rfl rfl (fs_nar_bool (Or.inr rfl)) ?_
  refine a_aload_n (j := 0) d_Mo_keep_22 rfl rfl ?_
  refine b_virtual (dc := 9) (ci := 11) (T := fs_T11) (N := 78) [] [] d_Mo_keep_23 ml_Mo_428 k_Mo_gainAsIs v_Mo_gainAsIs rfl io_226 rfl (Nat.le_of_ble_eq_true rfl) rfl (Nat.le_of_ble_eq_true rfl) ?_
  refine fs_Call.mono (fun v M3 hv => ?_) h
  obtain ⟨r3, rfl, h⟩ := hv
  show fs_A2 g m_Mo_keep 10 26 [(0, fs_r 226)] [fs_i r3] M3 K
  exact b_ireturn d_Mo_keep_26 rfl rfl h
set_option maxRecDepth 8000 in
set_option maxHeartbeats 4000000 in
theorem E_Mo_copiesNight {M : fs_M} {K : fs_K} {x1 x2 : Int} 
    (h : (0 ≤ x2 ∧ x2 < 2 ∧ (0 ≤ x1 ∧ x1 < 2 ∧ fs_A2 g m_Mo_copiesNight 1 26 [(0, fs_r 226), (1, fs_i x1), (2, fs_i x2), (3, fs_i 0)] [] (fs_st (fs_st M 245 x1 (M 245 x2)) 246 x1 (M 246 x2)) K))) :
    fs_C2 g m_Mo_copiesNight 1 [fs_r 226, fs_i x1, fs_i x2] M K := by
  refine b_enter2 (ls := [(0, fs_r 226), (1, fs_i x1), (2, fs_i x2)]) (plainFor_of_name pn_Mo) (Nat.le_of_ble_eq_true rfl) rfl ?_
  refine a_aload_n (j := 0) d_Mo_copiesNight_0 rfl rfl ?_
  refine b_getptr (q := 245) d_Mo_copiesNight_1 fl_Mo_69 io_226 rfl rfl rfl ?_
  refine a_iload_n (j := 1) d_Mo_copiesNight_4 rfl rfl ?_
  refine a_aload_n (j := 0) d_Mo_copiesNight_5 rfl rfl ?_
  refine b_getptr (q := 245) d_Mo_copiesNight_6 fl_Mo_69 io_226 rfl rfl rfl ?_
  refine a_iload_n (j := 2) d_Mo_copiesNight_9 rfl rfl ?_
  obtain ⟨o1, o2, h⟩ := h
  refine b_iaload (v := M 245 x2) d_Mo_copiesNight_10 ia_245 o1 o2 rfl ?_
  obtain ⟨o3, o4, h⟩ := h
  refine b_iastore d_Mo_copiesNight_11 ia_245 o3 o4 ?_
  refine a_aload_n (j := 0) d_Mo_copiesNight_12 rfl rfl ?_
  refine b_getptr (q := 246) d_Mo_copiesNight_13 fl_Mo_72 io_226 rfl rfl rfl ?_
  refine a_iload_n (j := 1) d_Mo_copiesNight_16 rfl rfl ?_
  refine a_aload_n (j := 0) d_Mo_copiesNight_17 rfl rfl ?_
  refine b_getptr (q := 246) d_Mo_copiesNight_18 fl_Mo_72 io_226 rfl rfl rfl ?_
  refine a_iload_n (j := 2) d_Mo_copiesNight_21 rfl rfl ?_
  refine b_iaload (v := M 246 x2) d_Mo_copiesNight_22 ia_246 o1 o2 rfl ?_
  refine b_iastore d_Mo_copiesNight_23 ia_246 o3 o4 ?_
  refine a_iconst d_Mo_copiesNight_24 (by unfold fs_in32; omega) ?_
  refine a_istore_n d_Mo_copiesNight_25 rfl (Nat.le_of_ble_eq_true rfl) [1, 2, 3, 0] rfl ?_
  exact h
set_option maxRecDepth 8000 in
set_option maxHeartbeats 4000000 in
theorem L_Mo_copiesNight_26 {M : fs_M} {K : fs_K} {x1 x2 x3 : Int} 
    (h : ((6 ≤ x3 → K none M) ∧ (¬ 6 ≤ x3 → (0 ≤ fs_w32 ((fs_w32 (6 * x2)) + x3) ∧ fs_w32 ((fs_w32 (6 * x2)) + x3) < 12 ∧ (0 ≤ fs_w32 ((fs_w32 (6 * x1)) + x3) ∧ fs_w32 ((fs_w32 (6 * x1)) + x3) < 12 ∧ fs_A2 g m_Mo_copiesNight 1 26 [(0, fs_r 226), (1, fs_i x1), (2, fs_i x2), (3, fs_i (fs_w32 (x3 + 1)))] [] (fs_st (fs_st M 247 (fs_w32 ((fs_w32 (6 * x1)) + x3)) (M 247 (fs_w32 ((fs_w32 (6 * x2)) + x3)))) 248 (fs_w32 ((fs_w32 (6 * x1)) + x3)) (M 248 (fs_w32 ((fs_w32 (6 * x2)) + x3)))) K))))) :
    fs_A2 g m_Mo_copiesNight 1 26 [(0, fs_r 226), (1, fs_i x1), (2, fs_i x2), (3, fs_i x3)] [] M K := by
  refine a_iload_n (j := 3) d_Mo_copiesNight_26 rfl rfl ?_
  refine a_bipush d_Mo_copiesNight_27 (by decide) ?_
  refine a_icmp_ge (tgt := 82) d_Mo_copiesNight_29 rfl (fun c5 => ?_) (fun c5 => ?_)
  · have h := h.1 c5
    exact b_return d_Mo_copiesNight_82 rfl h
  · have h := h.2 c5
    refine a_aload_n (j := 0) d_Mo_copiesNight_32 rfl rfl ?_
    refine b_getptr (q := 247) d_Mo_copiesNight_33 fl_Mo_75 io_226 rfl rfl rfl ?_
    refine a_bipush d_Mo_copiesNight_36 (by decide) ?_
    refine a_iload_n (j := 1) d_Mo_copiesNight_38 rfl rfl ?_
    refine a_imul d_Mo_copiesNight_39 ?_
    refine a_iload_n (j := 3) d_Mo_copiesNight_40 rfl rfl ?_
    refine a_iadd d_Mo_copiesNight_41 ?_
    refine a_aload_n (j := 0) d_Mo_copiesNight_42 rfl rfl ?_
    refine b_getptr (q := 247) d_Mo_copiesNight_43 fl_Mo_75 io_226 rfl rfl rfl ?_
    refine a_bipush d_Mo_copiesNight_46 (by decide) ?_
    refine a_iload_n (j := 2) d_Mo_copiesNight_48 rfl rfl ?_
    refine a_imul d_Mo_copiesNight_49 ?_
    refine a_iload_n (j := 3) d_Mo_copiesNight_50 rfl rfl ?_
    refine a_iadd d_Mo_copiesNight_51 ?_
    obtain ⟨o6, o7, h⟩ := h
    refine b_iaload (v := M 247 (fs_w32 ((fs_w32 (6 * x2)) + x3))) d_Mo_copiesNight_52 ia_247 o6 o7 rfl ?_
    obtain ⟨o8, o9, h⟩ := h
    refine b_iastore d_Mo_copiesNight_53 ia_247 o8 o9 ?_
    refine a_aload_n (j := 0) d_Mo_copiesNight_54 rfl rfl ?_
    refine b_getptr (q := 248) d_Mo_copiesNight_55 fl_Mo_78 io_226 rfl rfl rfl ?_
    refine a_bipush d_Mo_copiesNight_58 (by decide) ?_
    refine a_iload_n (j := 1) d_Mo_copiesNight_60 rfl rfl ?_
    refine a_imul d_Mo_copiesNight_61 ?_
    refine a_iload_n (j := 3) d_Mo_copiesNight_62 rfl rfl ?_
    refine a_iadd d_Mo_copiesNight_63 ?_
    refine a_aload_n (j := 0) d_Mo_copiesNight_64 rfl rfl ?_
    refine b_getptr (q := 248) d_Mo_copiesNight_65 fl_Mo_78 io_226 rfl rfl rfl ?_
    refine a_bipush d_Mo_copiesNight_68 (by decide) ?_
    refine a_iload_n (j := 2) d_Mo_copiesNight_70 rfl rfl ?_
    refine a_imul d_Mo_copiesNight_71 ?_
    refine a_iload_n (j := 3) d_Mo_copiesNight_72 rfl rfl ?_
    refine a_iadd d_Mo_copiesNight_73 ?_
    refine b_iaload (v := M 248 (fs_w32 ((fs_w32 (6 * x2)) + x3))) d_Mo_copiesNight_74 ia_248 o6 o7 rfl ?_
    refine b_iastore d_Mo_copiesNight_75 ia_248 o8 o9 ?_
    refine a_iinc (j := 3) d_Mo_copiesNight_76 rfl (Nat.le_of_ble_eq_true rfl) [1, 2, 3, 0] rfl ?_
    refine a_goto (tgt := 26) d_Mo_copiesNight_79 rfl ?_
    exact h
set_option maxRecDepth 8000 in
set_option maxHeartbeats 4000000 in
theorem E_Mo_back {M : fs_M} {K : fs_K} 
    (h : ((¬ M 226 37 = 0 → fs_C2 g m_Mo_copies 1 [fs_r 226, fs_i 0, fs_i 1] (fs_st M 226 0 0) (fun v M1 => v = none ∧ fs_C2 g m_Mo_copiesNight 1 [fs_r 226, fs_i 0, fs_i 1] M1 (fun v M2 => v = none ∧ fs_C2 g m_Mo_gainAsIs 9 [fs_r 226] (fs_st M2 226 38 0) (fun v M3 => ∃ r3, v = some (fs_i r3) ∧ K (some (fs_i r3)) M3)))) ∧ (M 226 37 = 0 → K (some (fs_i (-1))) (fs_st M 226 0 0)))) :
    fs_C2 g m_Mo_back 10 [fs_r 226] M K := by
  refine b_enter2 (ls := [(0, fs_r 226)]) (plainFor_of_name pn_Mo) (Nat.le_of_ble_eq_true rfl) rfl ?_
  refine a_aload_n (j := 0) d_Mo_back_0 rfl rfl ?_
  refine a_iconst d_Mo_back_1 (by unfold fs_in32; omega) ?_
  refine b_putfield (x := 0) d_Mo_back_2 fl_Mo_160 io_226 rfl rfl fs_nar_int ?_
  refine a_aload_n (j := 0) d_Mo_back_5 rfl rfl ?_
  refine b_getfield (v := fs_i (M 226 37)) d_Mo_back_6 fl_Mo_307 io_226 rfl ?_
  refine a_if_ne (tgt := 14) d_Mo_back_9 rfl (fun c1 => ?_) (fun c1 => ?_)
  · have h := h.1 c1
    refine a_aload_n (j := 0) d_Mo_back_14 rfl rfl ?_
    refine a_iconst d_Mo_back_15 (by unfold fs_in32; omega) ?_
    refine a_iconst d_Mo_back_16 (by unfold fs_in32; omega) ?_
    refine b_virtual (dc := 1) (ci := 11) (T := fs_T11) (N := 78) [fs_i 0, fs_i 1] [] d_Mo_back_17 ml_Mo_422 k_Mo_copies v_Mo_copies rfl io_226 rfl (Nat.le_of_ble_eq_true rfl) rfl (Nat.le_of_ble_eq_true rfl) ?_
    refine fs_Call.mono (fun v M1 hv => ?_) h
    obtain ⟨rfl, h⟩ := hv
    show fs_A2 g m_Mo_back 10 20 [(0, fs_r 226)] [] M1 K
    refine a_aload_n (j := 0) d_Mo_back_20 rfl rfl ?_
    refine a_iconst d_Mo_back_21 (by unfold fs_in32; omega) ?_
    refine a_iconst d_Mo_back_22 (by unfold fs_in32; omega) ?_
    refine b_virtual (dc := 1) (ci := 11) (T := fs_T11) (N := 78) [fs_i 0, fs_i 1] [] d_Mo_back_23 ml_Mo_494 k_Mo_copiesNight v_Mo_copiesNight rfl io_226 rfl (Nat.le_of_ble_eq_true rfl) rfl (Nat.le_of_ble_eq_true rfl) ?_
    refine fs_Call.mono (fun v M2 hv => ?_) h
    obtain ⟨rfl, h⟩ := hv
    show fs_A2 g m_Mo_back 10 26 [(0, fs_r 226)] [] M2 K
    refine a_aload_n (j := 0) d_Mo_back_26 rfl rfl ?_
    refine a_iconst d_Mo_back_27 (by unfold fs_in32; omega) ?_
    refine b_putfield (x := 0) d_Mo_back_28 fl_Mo_311 io_226 rfl rfl fs_nar_int ?_
    refine a_aload_n (j := 0) d_Mo_back_31 rfl rfl ?_
    refine b_virtual (dc := 9) (ci := 11) (T := fs_T11) (N := 78) [] [] d_Mo_back_32 ml_Mo_428 k_Mo_gainAsIs v_Mo_gainAsIs rfl io_226 rfl (Nat.le_of_ble_eq_true rfl) rfl (Nat.le_of_ble_eq_true rfl) ?_
    refine fs_Call.mono (fun v M3 hv => ?_) h
    obtain ⟨r3, rfl, h⟩ := hv
    show fs_A2 g m_Mo_back 10 35 [(0, fs_r 226)] [fs_i r3] M3 K
    exact b_ireturn d_Mo_back_35 rfl rfl h
  · have h := h.2 c1
    refine a_iconst d_Mo_back_12 (by unfold fs_in32; omega) ?_
    exact b_ireturn d_Mo_back_13 rfl rfl h
set_option maxRecDepth 8000 in
set_option maxHeartbeats 4000000 in
theorem E_Mo_count {M : fs_M} {K : fs_K} {x1 : Int} 
    (h : ((x1 = 0 → K (some (fs_i (M 228 0))) (fs_st M 226 0 0)) ∧ (x1 = 1 → K (some (fs_i (M 228 1))) (fs_st M 226 0 0)) ∧ (x1 = 2 → K (some (fs_i (M 228 3))) (fs_st M 226 0 0)) ∧ (x1 = 3 → fs_C2 g m_Mo_asIs 2 [fs_r 226] (fs_st M 226 0 0) (fun v M1 => v = none ∧ fs_C2 g m_Mo_walks 8 [fs_r 226, fs_i 240] M1 (fun v M2 => v = none ∧ fs_A2 g m_Mo_count 9 90 [(0, fs_r 226), (2, fs_i 0), (3, fs_i 0)] [] M2 K))) ∧ (x1 = 4 → K (some (fs_i (M 226 68))) (fs_st M 226 0 0)) ∧ (x1 = 5 → fs_C2 g m_Mo_knownMany 1 [fs_r 226] (fs_st M 226 0 0) (fun v M3 => ∃ r3, v = some (fs_i r3) ∧ K (some (fs_i r3)) M3)) ∧ (x1 = 6 → K (some (fs_i (M 226 38))) (fs_st M 226 0 0)) ∧ (x1 = 7 → K (some (fs_i (M 246 0))) (fs_st M 226 0 0)) ∧ (¬ x1 = 0 ∧ ¬ x1 = 1 ∧ ¬ x1 = 2 ∧ ¬ x1 = 3 ∧ ¬ x1 = 4 ∧ ¬ x1 = 5 ∧ ¬ x1 = 6 ∧ ¬ x1 = 7 → K (some (fs_i (-1))) (fs_st M 226 0 0)))) :
    fs_C2 g m_Mo_count 9 [fs_r 226, fs_i x1] M K := by
  refine b_enter2 (ls := [(0, fs_r 226), (1, fs_i x1)]) (plainFor_of_name pn_Mo) (Nat.le_of_ble_eq_true rfl) rfl ?_
  refine a_aload_n (j := 0) d_Mo_count_0 rfl rfl ?_
  refine a_iconst d_Mo_count_1 (by unfold fs_in32; omega) ?_
  refine b_putfield (x := 0) d_Mo_count_2 fl_Mo_160 io_226 rfl rfl fs_nar_int ?_
  refine a_iconst d_Mo_count_5 (by unfold fs_in32; omega) ?_
  refine a_istore_n d_Mo_count_6 rfl (Nat.le_of_ble_eq_true rfl) [1, 2, 0] rfl ?_
  refine a_iload_n (j := 1) d_Mo_count_7 rfl rfl ?_
  obtain ⟨hs8_0, hs8_1, hs8_2, hs8_3, hs8_4, hs8_5, hs8_6, hs8_7, hs8_8⟩ := h
  by_cases q8_0 : x1 = 0
  · have h := hs8_0 q8_0
    refine a_tableIn (tgt := 56) d_Mo_count_8 (by omega) (by omega) (by rw [q8_0]; rfl) rfl ?_
    refine a_aload_n (j := 0) d_Mo_count_56 rfl rfl ?_
    refine b_getptr (q := 228) d_Mo_count_57 fl_Mo_13 io_226 rfl rfl rfl ?_
    refine a_iconst d_Mo_count_60 (by unfold fs_in32; omega) ?_
    refine b_iaload (v := M 228 0) d_Mo_count_61 ia_228 (by decide) (by decide) rfl ?_
    exact b_ireturn d_Mo_count_62 rfl rfl h
  ·
    by_cases q8_1 : x1 = 1
    · have h := hs8_1 q8_1
      refine a_tableIn (tgt := 63) d_Mo_count_8 (by omega) (by omega) (by rw [q8_1]; rfl) rfl ?_
      refine a_aload_n (j := 0) d_Mo_count_63 rfl rfl ?_
      refine b_getptr (q := 228) d_Mo_count_64 fl_Mo_13 io_226 rfl rfl rfl ?_
      refine a_iconst d_Mo_count_67 (by unfold fs_in32; omega) ?_
      refine b_iaload (v := M 228 1) d_Mo_count_68 ia_228 (by decide) (by decide) rfl ?_
      exact b_ireturn d_Mo_count_69 rfl rfl h
    ·
      by_cases q8_2 : x1 = 2
      · have h := hs8_2 q8_2
        refine a_tableIn (tgt := 70) d_Mo_count_8 (by omega) (by omega) (by rw [q8_2]; rfl) rfl ?_
        refine a_aload_n (j := 0) d_Mo_count_70 rfl rfl ?_
        refine b_getptr (q := 228) d_Mo_count_71 fl_Mo_13 io_226 rfl rfl rfl ?_
        refine a_iconst d_Mo_count_74 (by unfold fs_in32; omega) ?_
        refine b_iaload (v := M 228 3) d_Mo_count_75 ia_228 (by decide) (by decide) rfl ?_
        exact b_ireturn d_Mo_count_76 rfl rfl h
      ·
        by_cases q8_3 : x1 = 3
        · have h := hs8_3 q8_3
          refine a_tableIn (tgt := 77) d_Mo_count_8 (by omega) (by omega) (by rw [q8_3]; rfl) rfl ?_
          refine a_aload_n (j := 0) d_Mo_count_77 rfl rfl ?_
          refine b_virtual (dc := 2) (ci := 11) (T := fs_T11) (N := 78) [] [] d_Mo_count_78 ml_Mo_406 k_Mo_asIs v_Mo_asIs rfl io_226 rfl (Nat.le_of_ble_eq_true rfl) rfl (Nat.le_of_ble_eq_true rfl) ?_
          refine fs_Call.mono (fun v M1 hv => ?_) h
          obtain ⟨rfl, h⟩ := hv
          show fs_A2 g m_Mo_count 9 81 [(0, fs_r 226), (1, fs_i x1), (2, fs_i 0)] [] M1 K
          refine a_aload_n (j := 0) d_Mo_count_81 rfl rfl ?_
          refine a_sipush d_Mo_count_82 (by decide) ?_
          refine b_virtual (dc := 8) (ci := 11) (T := fs_T11) (N := 78) [fs_i 240] [] d_Mo_count_85 ml_Mo_409 k_Mo_walks v_Mo_walks rfl io_226 rfl (Nat.le_of_ble_eq_true rfl) rfl (Nat.le_of_ble_eq_true rfl) ?_
          refine fs_Call.mono (fun v M2 hv => ?_) h
          obtain ⟨rfl, h⟩ := hv
          show fs_A2 g m_Mo_count 9 88 [(0, fs_r 226), (1, fs_i x1), (2, fs_i 0)] [] M2 K
          refine a_iconst d_Mo_count_88 (by unfold fs_in32; omega) ?_
          refine a_istore_n d_Mo_count_89 rfl (Nat.le_of_ble_eq_true rfl) [1, 2, 3, 0] rfl ?_
          refine a_sub [0, 2, 3] rfl ?_
          exact h
        ·
          by_cases q8_4 : x1 = 4
          · have h := hs8_4 q8_4
            refine a_tableIn (tgt := 126) d_Mo_count_8 (by omega) (by omega) (by rw [q8_4]; rfl) rfl ?_
            refine a_aload_n (j := 0) d_Mo_count_126 rfl rfl ?_
            refine b_getfield (v := fs_i (M 226 68)) d_Mo_count_127 fl_Mo_304 io_226 rfl ?_
            exact b_ireturn d_Mo_count_130 rfl rfl h
          ·
            by_cases q8_5 : x1 = 5
            · have h := hs8_5 q8_5
              refine a_tableIn (tgt := 131) d_Mo_count_8 (by omega) (by omega) (by rw [q8_5]; rfl) rfl ?_
              refine a_aload_n (j := 0) d_Mo_count_131 rfl rfl ?_
              refine b_virtual (dc := 1) (ci := 11) (T := fs_T11) (N := 78) [] [] d_Mo_count_132 ml_Mo_476 k_Mo_knownMany v_Mo_knownMany rfl io_226 rfl (Nat.le_of_ble_eq_true rfl) rfl (Nat.le_of_ble_eq_true rfl) ?_
              refine fs_Call.mono (fun v M3 hv => ?_) h
              obtain ⟨r3, rfl, h⟩ := hv
              show fs_A2 g m_Mo_count 9 135 [(0, fs_r 226), (1, fs_i x1), (2, fs_i 0)] [fs_i r3] M3 K
              exact b_ireturn d_Mo_count_135 rfl rfl h
            ·
              by_cases q8_6 : x1 = 6
              · have h := hs8_6 q8_6
                refine a_tableIn (tgt := 136) d_Mo_count_8 (by omega) (by omega) (by rw [q8_6]; rfl) rfl ?_
                refine a_aload_n (j := 0) d_Mo_count_136 rfl rfl ?_
                refine b_getfield (v := fs_i (M 226 38)) d_Mo_count_137 fl_Mo_311 io_226 rfl ?_
                exact b_ireturn d_Mo_count_140 rfl rfl h
              ·
                by_cases q8_7 : x1 = 7
                · have h := hs8_7 q8_7
                  refine a_tableIn (tgt := 141) d_Mo_count_8 (by omega) (by omega) (by rw [q8_7]; rfl) rfl ?_
                  refine a_aload_n (j := 0) d_Mo_count_141 rfl rfl ?_
                  refine b_getptr (q := 246) d_Mo_count_142 fl_Mo_72 io_226 rfl rfl rfl ?_
                  refine a_iconst d_Mo_count_145 (by unfold fs_in32; omega) ?_
                  refine b_iaload (v := M 246 0) d_Mo_count_146 ia_246 (by decide) (by decide) rfl ?_
                  exact b_ireturn d_Mo_count_147 rfl rfl h
                ·
                  have h := hs8_8 ⟨q8_0, q8_1, q8_2, q8_3, q8_4, q8_5, q8_6, q8_7⟩
                  refine a_tableOut (tgt := 148) d_Mo_count_8 (by omega) rfl ?_
                  refine a_iconst d_Mo_count_148 (by unfold fs_in32; omega) ?_
                  exact b_ireturn d_Mo_count_149 rfl rfl h
set_option maxRecDepth 8000 in
set_option maxHeartbeats 4000000 in
theorem L_Mo_count_90 {M : fs_M} {K : fs_K} {x2 x3 : Int} 
    (h : ((M 228 0 ≤ x3 → K (some (fs_i x2)) M) ∧ (¬ M 228 0 ≤ x3 → (0 ≤ x3 ∧ x3 < 6 ∧ ((¬ M 261 x3 = (-1) → fs_A2 g m_Mo_count 9 90 [(0, fs_r 226), (2, fs_i (fs_w32 (x2 + 1))), (3, fs_i (fs_w32 (x3 + 1)))] [] M K) ∧ (M 261 x3 = (-1) → fs_A2 g m_Mo_count 9 90 [(0, fs_r 226), (2, fs_i (fs_w32 (x2 + 0))), (3, fs_i (fs_w32 (x3 + 1)))] [] M K)))))) :
    fs_A2 g m_Mo_count 9 90 [(0, fs_r 226), (2, fs_i x2), (3, fs_i x3)] [] M K := by
  refine a_iload_n (j := 2) d_Mo_count_90 rfl rfl ?_
  refine a_aload_n (j := 0) d_Mo_count_91 rfl rfl ?_
  refine b_getptr (q := 228) d_Mo_count_92 fl_Mo_13 io_226 rfl rfl rfl ?_
  refine a_iconst d_Mo_count_95 (by unfold fs_in32; omega) ?_
  refine b_iaload (v := M 228 0) d_Mo_count_96 ia_228 (by decide) (by decide) rfl ?_
  refine a_icmp_ge (tgt := 124) d_Mo_count_97 rfl (fun c1 => ?_) (fun c1 => ?_)
  · have h := h.1 c1
    refine a_iload_n (j := 1) d_Mo_count_124 rfl rfl ?_
    exact b_ireturn d_Mo_count_125 rfl rfl h
  · have h := h.2 c1
    refine a_iload_n (j := 1) d_Mo_count_100 rfl rfl ?_
    refine a_aload_n (j := 0) d_Mo_count_101 rfl rfl ?_
    refine b_getptr (q := 261) d_Mo_count_102 fl_Mo_127 io_226 rfl rfl rfl ?_
    refine a_iload_n (j := 2) d_Mo_count_105 rfl rfl ?_
    obtain ⟨o2, o3, h⟩ := h
    refine b_iaload (v := M 261 x3) d_Mo_count_106 ia_261 o2 o3 rfl ?_
    refine a_iconst d_Mo_count_107 (by unfold fs_in32; omega) ?_
    refine a_icmp_ne (tgt := 115) d_Mo_count_108 rfl (fun c4 => ?_) (fun c4 => ?_)
    · have h := h.1 c4
      refine a_iconst d_Mo_count_115 (by unfold fs_in32; omega) ?_
      refine a_iadd d_Mo_count_116 ?_
      refine a_istore_n d_Mo_count_117 rfl (Nat.le_of_ble_eq_true rfl) [1, 0, 2] rfl ?_
      refine a_iinc (j := 2) d_Mo_count_118 rfl (Nat.le_of_ble_eq_true rfl) [1, 2, 0] rfl ?_
      refine a_goto (tgt := 90) d_Mo_count_121 rfl ?_
      exact h
    · have h := h.2 c4
      refine a_iconst d_Mo_count_111 (by unfold fs_in32; omega) ?_
      refine a_goto (tgt := 116) d_Mo_count_112 rfl ?_
      refine a_iadd d_Mo_count_116 ?_
      refine a_istore_n d_Mo_count_117 rfl (Nat.le_of_ble_eq_true rfl) [1, 0, 2] rfl ?_
      refine a_iinc (j := 2) d_Mo_count_118 rfl (Nat.le_of_ble_eq_true rfl) [1, 2, 0] rfl ?_
      refine a_goto (tgt := 90) d_Mo_count_121 rfl ?_
      exact h
end WALK
