-- ===== printed by program (wip/whole/gen12.py): what must hold at a method's entry, at its labels =====
section WALK
variable {g : fs_G}
set_option maxRecDepth 8000 in
set_option maxHeartbeats 4000000 in
theorem E_Mo_keepNow {M : fs_M} {K : fs_K} 
    (h : ((¬ M 226 38 = 20 → fs_A2 g m_Mo_keepNow 2 45 [(0, fs_r 226)] [] M K) ∧ (M 226 38 = 20 → fs_A2 g m_Mo_keepNow 2 11 [(0, fs_r 226), (1, fs_i 1)] [] M K))) :
    fs_C2 g m_Mo_keepNow 2 [fs_r 226] M K := by
  refine b_enter2 (ls := [(0, fs_r 226)]) (plainFor_of_name pn_Mo) (Nat.le_of_ble_eq_true rfl) rfl ?_
  refine a_aload_n (j := 0) d_Mo_keepNow_0 rfl rfl ?_
  refine b_getfield (v := fs_i (M 226 38)) d_Mo_keepNow_1 fl_Mo_311 io_226 rfl ?_
  refine a_bipush d_Mo_keepNow_4 (by decide) ?_
  refine a_icmp_ne (tgt := 45) d_Mo_keepNow_6 rfl (fun c1 => ?_) (fun c1 => ?_)
  · have h := h.1 c1
    exact h
  · have h := h.2 c1
    refine a_iconst d_Mo_keepNow_9 (by unfold fs_in32; omega) ?_
    refine a_istore_n d_Mo_keepNow_10 rfl (Nat.le_of_ble_eq_true rfl) [1, 0] rfl ?_
    exact h
set_option maxRecDepth 8000 in
set_option maxHeartbeats 4000000 in
theorem L_Mo_keepNow_11 {M : fs_M} {K : fs_K} {x1 : Int} 
    (h : ((20 ≤ x1 → fs_A2 g m_Mo_keepNow 2 45 [(0, fs_r 226)] [] (fs_st M 226 38 (fs_w32 ((M 226 38) - 1))) K) ∧ (¬ 20 ≤ x1 → fs_C2 g m_Mo_copies 1 [fs_r 226, fs_i (fs_w32 ((fs_w32 (2 + x1)) - 1)), fs_i (fs_w32 (2 + x1))] M (fun v M1 => v = none ∧ fs_A2 g m_Mo_keepNow 2 11 [(0, fs_r 226), (1, fs_i (fs_w32 (x1 + 1)))] [] M1 K)))) :
    fs_A2 g m_Mo_keepNow 2 11 [(0, fs_r 226), (1, fs_i x1)] [] M K := by
  refine a_iload_n (j := 1) d_Mo_keepNow_11 rfl rfl ?_
  refine a_bipush d_Mo_keepNow_12 (by decide) ?_
  refine a_icmp_ge (tgt := 35) d_Mo_keepNow_14 rfl (fun c2 => ?_) (fun c2 => ?_)
  · have h := h.1 c2
    refine a_aload_n (j := 0) d_Mo_keepNow_35 rfl rfl ?_
    refine a_dup d_Mo_keepNow_36 rfl ?_
    refine b_getfield (v := fs_i (M 226 38)) d_Mo_keepNow_37 fl_Mo_311 io_226 rfl ?_
    refine a_iconst d_Mo_keepNow_40 (by unfold fs_in32; omega) ?_
    refine a_isub d_Mo_keepNow_41 ?_
    refine b_putfield (x := (fs_w32 ((M 226 38) - 1))) d_Mo_keepNow_42 fl_Mo_311 io_226 rfl rfl fs_nar_int ?_
    refine a_sub [0] rfl ?_
    exact h
  · have h := h.2 c2
    refine a_aload_n (j := 0) d_Mo_keepNow_17 rfl rfl ?_
    refine a_iconst d_Mo_keepNow_18 (by unfold fs_in32; omega) ?_
    refine a_iload_n (j := 1) d_Mo_keepNow_19 rfl rfl ?_
    refine a_iadd d_Mo_keepNow_20 ?_
    refine a_iconst d_Mo_keepNow_21 (by unfold fs_in32; omega) ?_
    refine a_isub d_Mo_keepNow_22 ?_
    refine a_iconst d_Mo_keepNow_23 (by unfold fs_in32; omega) ?_
    refine a_iload_n (j := 1) d_Mo_keepNow_24 rfl rfl ?_
    refine a_iadd d_Mo_keepNow_25 ?_
    refine b_virtual (dc := 1) (ci := 11) (T := fs_T11) (N := 78) [fs_i (fs_w32 ((fs_w32 (2 + x1)) - 1)), fs_i (fs_w32 (2 + x1))] [] d_Mo_keepNow_26 ml_Mo_422 k_Mo_copies v_Mo_copies rfl io_226 rfl (Nat.le_of_ble_eq_true rfl) rfl (Nat.le_of_ble_eq_true rfl) ?_
    refine fs_Call.mono (fun v M1 hv => ?_) h
    obtain ⟨rfl, h⟩ := hv
    show fs_A2 g m_Mo_keepNow 2 29 [(0, fs_r 226), (1, fs_i x1)] [] M1 K
    refine a_iinc (j := 1) d_Mo_keepNow_29 rfl (Nat.le_of_ble_eq_true rfl) [1, 0] rfl ?_
    refine a_goto (tgt := 11) d_Mo_keepNow_32 rfl ?_
    exact h
set_option maxRecDepth 8000 in
set_option maxHeartbeats 4000000 in
theorem L_Mo_keepNow_45 {M : fs_M} {K : fs_K} 
    (h : fs_C2 g m_Mo_copies 1 [fs_r 226, fs_i (fs_w32 (2 + (M 226 38))), fs_i 0] M (fun v M2 => v = none ∧ K none (fs_st M2 226 38 (fs_w32 ((M2 226 38) + 1))))) :
    fs_A2 g m_Mo_keepNow 2 45 [(0, fs_r 226)] [] M K := by
  refine a_aload_n (j := 0) d_Mo_keepNow_45 rfl rfl ?_
  refine a_iconst d_Mo_keepNow_46 (by unfold fs_in32; omega) ?_
  refine a_aload_n (j := 0) d_Mo_keepNow_47 rfl rfl ?_
  refine b_getfield (v := fs_i (M 226 38)) d_Mo_keepNow_48 fl_Mo_311 io_226 rfl ?_
  refine a_iadd d_Mo_keepNow_51 ?_
  refine a_iconst d_Mo_keepNow_52 (by unfold fs_in32; omega) ?_
  refine b_virtual (dc := 1) (ci := 11) (T := fs_T11) (N := 78) [fs_i (fs_w32 (2 + (M 226 38))), fs_i 0] [] d_Mo_keepNow_53 ml_Mo_422 k_Mo_copies v_Mo_copies rfl io_226 rfl (Nat.le_of_ble_eq_true rfl) rfl (Nat.le_of_ble_eq_true rfl) ?_
  refine fs_Call.mono (fun v M2 hv => ?_) h
  obtain ⟨rfl, h⟩ := hv
  show fs_A2 g m_Mo_keepNow 2 56 [(0, fs_r 226)] [] M2 K
  refine a_aload_n (j := 0) d_Mo_keepNow_56 rfl rfl ?_
  refine a_dup d_Mo_keepNow_57 rfl ?_
  refine b_getfield (v := fs_i (M2 226 38)) d_Mo_keepNow_58 fl_Mo_311 io_226 rfl ?_
  refine a_iconst d_Mo_keepNow_61 (by unfold fs_in32; omega) ?_
  refine a_iadd d_Mo_keepNow_62 ?_
  refine b_putfield (x := (fs_w32 ((M2 226 38) + 1))) d_Mo_keepNow_63 fl_Mo_311 io_226 rfl rfl fs_nar_int ?_
  exact b_return d_Mo_keepNow_66 rfl h
set_option maxRecDepth 8000 in
set_option maxHeartbeats 4000000 in
theorem E_Mo_copies {M : fs_M} {K : fs_K} {x1 x2 : Int} 
    (h : fs_A2 g m_Mo_copies 1 2 [(0, fs_r 226), (1, fs_i x1), (2, fs_i x2), (3, fs_i 0)] [] M K) :
    fs_C2 g m_Mo_copies 1 [fs_r 226, fs_i x1, fs_i x2] M K := by
  refine b_enter2 (ls := [(0, fs_r 226), (1, fs_i x1), (2, fs_i x2)]) (plainFor_of_name pn_Mo) (Nat.le_of_ble_eq_true rfl) rfl ?_
  refine a_iconst d_Mo_copies_0 (by unfold fs_in32; omega) ?_
  refine a_istore_n d_Mo_copies_1 rfl (Nat.le_of_ble_eq_true rfl) [1, 2, 3, 0] rfl ?_
  exact h
set_option maxRecDepth 8000 in
set_option maxHeartbeats 4000000 in
theorem L_Mo_copies_2 {M : fs_M} {K : fs_K} {x1 x2 x3 : Int} 
    (h : ((27 ≤ x3 → fs_A2 g m_Mo_copies 1 38 [(0, fs_r 226), (1, fs_i x1), (2, fs_i x2), (3, fs_i 0)] [] M K) ∧ (¬ 27 ≤ x3 → (0 ≤ fs_w32 ((fs_w32 (27 * x2)) + x3) ∧ fs_w32 ((fs_w32 (27 * x2)) + x3) < 594 ∧ (0 ≤ fs_w32 ((fs_w32 (27 * x1)) + x3) ∧ fs_w32 ((fs_w32 (27 * x1)) + x3) < 594 ∧ fs_A2 g m_Mo_copies 1 2 [(0, fs_r 226), (1, fs_i x1), (2, fs_i x2), (3, fs_i (fs_w32 (x3 + 1)))] [] (fs_st M 241 (fs_w32 ((fs_w32 (27 * x1)) + x3)) (M 241 (fs_w32 ((fs_w32 (27 * x2)) + x3)))) K))))) :
    fs_A2 g m_Mo_copies 1 2 [(0, fs_r 226), (1, fs_i x1), (2, fs_i x2), (3, fs_i x3)] [] M K := by
  refine a_iload_n (j := 3) d_Mo_copies_2 rfl rfl ?_
  refine a_bipush d_Mo_copies_3 (by decide) ?_
  refine a_icmp_ge (tgt := 36) d_Mo_copies_5 rfl (fun c1 => ?_) (fun c1 => ?_)
  · have h := h.1 c1
    refine a_iconst d_Mo_copies_36 (by unfold fs_in32; omega) ?_
    refine a_istore_n d_Mo_copies_37 rfl (Nat.le_of_ble_eq_true rfl) [1, 2, 3, 0] rfl ?_
    exact h
  · have h := h.2 c1
    refine a_aload_n (j := 0) d_Mo_copies_8 rfl rfl ?_
    refine b_getptr (q := 241) d_Mo_copies_9 fl_Mo_57 io_226 rfl rfl rfl ?_
    refine a_bipush d_Mo_copies_12 (by decide) ?_
    refine a_iload_n (j := 1) d_Mo_copies_14 rfl rfl ?_
    refine a_imul d_Mo_copies_15 ?_
    refine a_iload_n (j := 3) d_Mo_copies_16 rfl rfl ?_
    refine a_iadd d_Mo_copies_17 ?_
    refine a_aload_n (j := 0) d_Mo_copies_18 rfl rfl ?_
    refine b_getptr (q := 241) d_Mo_copies_19 fl_Mo_57 io_226 rfl rfl rfl ?_
    refine a_bipush d_Mo_copies_22 (by decide) ?_
    refine a_iload_n (j := 2) d_Mo_copies_24 rfl rfl ?_
    refine a_imul d_Mo_copies_25 ?_
    refine a_iload_n (j := 3) d_Mo_copies_26 rfl rfl ?_
    refine a_iadd d_Mo_copies_27 ?_
    obtain ⟨o2, o3, h⟩ := h
    refine b_iaload (v := M 241 (fs_w32 ((fs_w32 (27 * x2)) + x3))) d_Mo_copies_28 ia_241 o2 o3 rfl ?_
    obtain ⟨o4, o5, h⟩ := h
    refine b_iastore d_Mo_copies_29 ia_241 o4 o5 ?_
    refine a_iinc (j := 3) d_Mo_copies_30 rfl (Nat.le_of_ble_eq_true rfl) [1, 2, 3, 0] rfl ?_
    refine a_goto (tgt := 2) d_Mo_copies_33 rfl ?_
    exact h
set_option maxRecDepth 8000 in
set_option maxHeartbeats 4000000 in
theorem L_Mo_copies_38 {M : fs_M} {K : fs_K} {x1 x2 x3 : Int} 
    (h : ((3 ≤ x3 → (0 ≤ x2 ∧ x2 < 22 ∧ (0 ≤ x1 ∧ x1 < 22 ∧ K none (fs_st (fs_st M 243 x1 (M 243 x2)) 244 x1 (M 244 x2))))) ∧ (¬ 3 ≤ x3 → (0 ≤ fs_w32 ((fs_w32 (3 * x2)) + x3) ∧ fs_w32 ((fs_w32 (3 * x2)) + x3) < 66 ∧ (0 ≤ fs_w32 ((fs_w32 (3 * x1)) + x3) ∧ fs_w32 ((fs_w32 (3 * x1)) + x3) < 66 ∧ fs_A2 g m_Mo_copies 1 38 [(0, fs_r 226), (1, fs_i x1), (2, fs_i x2), (3, fs_i (fs_w32 (x3 + 1)))] [] (fs_st M 242 (fs_w32 ((fs_w32 (3 * x1)) + x3)) (M 242 (fs_w32 ((fs_w32 (3 * x2)) + x3)))) K))))) :
    fs_A2 g m_Mo_copies 1 38 [(0, fs_r 226), (1, fs_i x1), (2, fs_i x2), (3, fs_i x3)] [] M K := by
  refine a_iload_n (j := 3) d_Mo_copies_38 rfl rfl ?_
  refine a_iconst d_Mo_copies_39 (by unfold fs_in32; omega) ?_
  refine a_icmp_ge (tgt := 69) d_Mo_copies_40 rfl (fun c6 => ?_) (fun c6 => ?_)
  · have h := h.1 c6
    refine a_aload_n (j := 0) d_Mo_copies_69 rfl rfl ?_
    refine b_getptr (q := 243) d_Mo_copies_70 fl_Mo_63 io_226 rfl rfl rfl ?_
    refine a_iload_n (j := 1) d_Mo_copies_73 rfl rfl ?_
    refine a_aload_n (j := 0) d_Mo_copies_74 rfl rfl ?_
    refine b_getptr (q := 243) d_Mo_copies_75 fl_Mo_63 io_226 rfl rfl rfl ?_
    refine a_iload_n (j := 2) d_Mo_copies_78 rfl rfl ?_
    obtain ⟨o7, o8, h⟩ := h
    refine b_iaload (v := M 243 x2) d_Mo_copies_79 ia_243 o7 o8 rfl ?_
    obtain ⟨o9, o10, h⟩ := h
    refine b_iastore d_Mo_copies_80 ia_243 o9 o10 ?_
    refine a_aload_n (j := 0) d_Mo_copies_81 rfl rfl ?_
    refine b_getptr (q := 244) d_Mo_copies_82 fl_Mo_66 io_226 rfl rfl rfl ?_
    refine a_iload_n (j := 1) d_Mo_copies_85 rfl rfl ?_
    refine a_aload_n (j := 0) d_Mo_copies_86 rfl rfl ?_
    refine b_getptr (q := 244) d_Mo_copies_87 fl_Mo_66 io_226 rfl rfl rfl ?_
    refine a_iload_n (j := 2) d_Mo_copies_90 rfl rfl ?_
    refine b_iaload (v := M 244 x2) d_Mo_copies_91 ia_244 o7 o8 rfl ?_
    refine b_iastore d_Mo_copies_92 ia_244 o9 o10 ?_
    exact b_return d_Mo_copies_93 rfl h
  · have h := h.2 c6
    refine a_aload_n (j := 0) d_Mo_copies_43 rfl rfl ?_
    refine b_getptr (q := 242) d_Mo_copies_44 fl_Mo_60 io_226 rfl rfl rfl ?_
    refine a_iconst d_Mo_copies_47 (by unfold fs_in32; omega) ?_
    refine a_iload_n (j := 1) d_Mo_copies_48 rfl rfl ?_
    refine a_imul d_Mo_copies_49 ?_
    refine a_iload_n (j := 3) d_Mo_copies_50 rfl rfl ?_
    refine a_iadd d_Mo_copies_51 ?_
    refine a_aload_n (j := 0) d_Mo_copies_52 rfl rfl ?_
    refine b_getptr (q := 242) d_Mo_copies_53 fl_Mo_60 io_226 rfl rfl rfl ?_
    refine a_iconst d_Mo_copies_56 (by unfold fs_in32; omega) ?_
    refine a_iload_n (j := 2) d_Mo_copies_57 rfl rfl ?_
    refine a_imul d_Mo_copies_58 ?_
    refine a_iload_n (j := 3) d_Mo_copies_59 rfl rfl ?_
    refine a_iadd d_Mo_copies_60 ?_
    obtain ⟨o11, o12, h⟩ := h
    refine b_iaload (v := M 242 (fs_w32 ((fs_w32 (3 * x2)) + x3))) d_Mo_copies_61 ia_242 o11 o12 rfl ?_
    obtain ⟨o13, o14, h⟩ := h
    refine b_iastore d_Mo_copies_62 ia_242 o13 o14 ?_
    refine a_iinc (j := 3) d_Mo_copies_63 rfl (Nat.le_of_ble_eq_true rfl) [1, 2, 3, 0] rfl ?_
    refine a_goto (tgt := 38) d_Mo_copies_66 rfl ?_
    exact h
set_option maxRecDepth 8000 in
set_option maxHeartbeats 4000000 in
theorem E_Mo_drop {M : fs_M} {K : fs_K} {x1 : Int} 
    (h : fs_C2 g m_Mo_isDark 1 [fs_r 226, fs_i x1] (fs_st M 226 0 0) (fun v M1 => ∃ r1, v = some (fs_i r1) ∧ ((r1 = 0 → K (some (fs_i (-1))) M1) ∧ (¬ r1 = 0 → (0 ≤ x1 ∧ x1 < 66 ∧ ((¬ M1 242 x1 = 0 → fs_C2 g m_Mo_keepNow 2 [fs_r 226] M1 (fun v M2 => v = none ∧ (0 ≤ fs_w32 ((fs_w32 (9 * x1)) + (fs_w32 ((M2 242 x1) - 1))) ∧ fs_w32 ((fs_w32 (9 * x1)) + (fs_w32 ((M2 242 x1) - 1))) < 594 ∧ K (some (fs_i (M2 241 (fs_w32 ((fs_w32 (9 * x1)) + (fs_w32 ((M2 242 x1) - 1))))))) (fs_st M2 242 x1 (fs_w32 ((M2 242 x1) - 1)))))) ∧ (M1 242 x1 = 0 → K (some (fs_i (-1))) M1))))))) :
    fs_C2 g m_Mo_drop 3 [fs_r 226, fs_i x1] M K := by
  refine b_enter2 (ls := [(0, fs_r 226), (1, fs_i x1)]) (plainFor_of_name pn_Mo) (Nat.le_of_ble_eq_true rfl) rfl ?_
  refine a_aload_n (j := 0) d_Mo_drop_0 rfl rfl ?_
  refine a_iconst d_Mo_drop_1 (by unfold fs_in32; omega) ?_
  refine b_putfield (x := 0) d_Mo_drop_2 fl_Mo_160 io_226 rfl rfl fs_nar_int ?_
  refine a_aload_n (j := 0) d_Mo_drop_5 rfl rfl ?_
  refine a_iload_n (j := 1) d_Mo_drop_6 rfl rfl ?_
  refine b_virtual (dc := 1) (ci := 11) (T := fs_T11) (N := 78) [fs_i x1] [] d_Mo_drop_7 ml_Mo_317 k_Mo_isDark v_Mo_isDark rfl io_226 rfl (Nat.le_of_ble_eq_true rfl) rfl (Nat.le_of_ble_eq_true rfl) ?_
  refine fs_Call.mono (fun v M1 hv => ?_) h
  obtain ⟨r1, rfl, h⟩ := hv
  show fs_A2 g m_Mo_drop 3 10 [(0, fs_r 226), (1, fs_i x1)] [fs_i r1] M1 K
  refine a_if_eq (tgt := 22) d_Mo_drop_10 rfl (fun c1 => ?_) (fun c1 => ?_)
  · have h := h.1 c1
    refine a_iconst d_Mo_drop_22 (by unfold fs_in32; omega) ?_
    exact b_ireturn d_Mo_drop_23 rfl rfl h
  · have h := h.2 c1
    refine a_aload_n (j := 0) d_Mo_drop_13 rfl rfl ?_
    refine b_getptr (q := 242) d_Mo_drop_14 fl_Mo_60 io_226 rfl rfl rfl ?_
    refine a_iload_n (j := 1) d_Mo_drop_17 rfl rfl ?_
    obtain ⟨o2, o3, h⟩ := h
    refine b_iaload (v := M1 242 x1) d_Mo_drop_18 ia_242 o2 o3 rfl ?_
    refine a_if_ne (tgt := 24) d_Mo_drop_19 rfl (fun c4 => ?_) (fun c4 => ?_)
    · have h := h.1 c4
      refine a_aload_n (j := 0) d_Mo_drop_24 rfl rfl ?_
      refine b_virtual (dc := 2) (ci := 11) (T := fs_T11) (N := 78) [] [] d_Mo_drop_25 ml_Mo_425 k_Mo_keepNow v_Mo_keepNow rfl io_226 rfl (Nat.le_of_ble_eq_true rfl) rfl (Nat.le_of_ble_eq_true rfl) ?_
      refine fs_Call.mono (fun v M2 hv => ?_) h
      obtain ⟨rfl, h⟩ := hv
      show fs_A2 g m_Mo_drop 3 28 [(0, fs_r 226), (1, fs_i x1)] [] M2 K
      refine a_aload_n (j := 0) d_Mo_drop_28 rfl rfl ?_
      refine b_getptr (q := 242) d_Mo_drop_29 fl_Mo_60 io_226 rfl rfl rfl ?_
      refine a_iload_n (j := 1) d_Mo_drop_32 rfl rfl ?_
      refine a_dup2 d_Mo_drop_33 rfl rfl ?_
      refine b_iaload (v := M2 242 x1) d_Mo_drop_34 ia_242 o2 o3 rfl ?_
      refine a_iconst d_Mo_drop_35 (by unfold fs_in32; omega) ?_
      refine a_isub d_Mo_drop_36 ?_
      refine b_iastore d_Mo_drop_37 ia_242 o2 o3 ?_
      refine a_aload_n (j := 0) d_Mo_drop_38 rfl rfl ?_
      refine b_getptr (q := 241) d_Mo_drop_39 fl_Mo_57 io_226 rfl rfl rfl ?_
      refine a_bipush d_Mo_drop_42 (by decide) ?_
      refine a_iload_n (j := 1) d_Mo_drop_44 rfl rfl ?_
      refine a_imul d_Mo_drop_45 ?_
      refine a_aload_n (j := 0) d_Mo_drop_46 rfl rfl ?_
      refine b_getptr (q := 242) d_Mo_drop_47 fl_Mo_60 io_226 rfl rfl rfl ?_
      refine a_iload_n (j := 1) d_Mo_drop_50 rfl rfl ?_
      refine b_iaload (v := fs_w32 ((M2 242 x1) - 1)) d_Mo_drop_51 ia_242 o2 o3 (fs_st_s) ?_
      refine a_iadd d_Mo_drop_52 ?_
      obtain ⟨o5, o6, h⟩ := h
      refine b_iaload (v := M2 241 (fs_w32 ((fs_w32 (9 * x1)) + (fs_w32 ((M2 242 x1) - 1))))) d_Mo_drop_53 ia_241 o5 o6 rfl ?_
      exact b_ireturn d_Mo_drop_54 rfl rfl h
    · have h := h.2 c4
      refine a_iconst d_Mo_drop_22 (by unfold fs_in32; omega) ?_
      exact b_ireturn d_Mo_drop_23 rfl rfl h
set_option maxRecDepth 8000 in
set_option maxHeartbeats 4000000 in
theorem E_Mo_glass {M : fs_M} {K : fs_K} {x1 x2 : Int} 
    (h : fs_C2 g m_Mo_isHouse 1 [fs_r 226, fs_i x1] (fs_st M 226 0 0) (fun v M1 => ∃ r1, v = some (fs_i r1) ∧ ((r1 = 0 → K (some (fs_i 0)) M1) ∧ (¬ r1 = 0 → ((¬ fs_and (fs_shr (M1 243 0) x1) 1 = 1 → fs_A2 g m_Mo_glass 3 32 [(0, fs_r 226), (1, fs_i x1), (2, fs_i x2)] [fs_i 0] M1 K) ∧ (fs_and (fs_shr (M1 243 0) x1) 1 = 1 → fs_A2 g m_Mo_glass 3 32 [(0, fs_r 226), (1, fs_i x1), (2, fs_i x2)] [fs_i 1] M1 K)))))) :
    fs_C2 g m_Mo_glass 3 [fs_r 226, fs_i x1, fs_i x2] M K := by
  refine b_enter2 (ls := [(0, fs_r 226), (1, fs_i x1), (2, fs_i x2)]) (plainFor_of_name pn_Mo) (Nat.le_of_ble_eq_true rfl) rfl ?_
  refine a_aload_n (j := 0) d_Mo_glass_0 rfl rfl ?_
  refine a_iconst d_Mo_glass_1 (by unfold fs_in32; omega) ?_
  refine b_putfield (x := 0) d_Mo_glass_2 fl_Mo_160 io_226 rfl rfl fs_nar_int ?_
  refine a_aload_n (j := 0) d_Mo_glass_5 rfl rfl ?_
  refine a_iload_n (j := 1) d_Mo_glass_6 rfl rfl ?_
  refine b_virtual (dc := 1) (ci := 11) (T := fs_T11) (N := 78) [fs_i x1] [] d_Mo_glass_7 ml_Mo_314 k_Mo_isHouse v_Mo_isHouse rfl io_226 rfl (Nat.le_of_ble_eq_true rfl) rfl (Nat.le_of_ble_eq_true rfl) ?_
  refine fs_Call.mono (fun v M1 hv => ?_) h
  obtain ⟨r1, rfl, h⟩ := hv
  show fs_A2 g m_Mo_glass 3 10 [(0, fs_r 226), (1, fs_i x1), (2, fs_i x2)] [fs_i r1] M1 K
  refine a_if_eq (tgt := 36) d_Mo_glass_10 rfl (fun c1 => ?_) (fun c1 => ?_)
  · have h := h.1 c1
    refine a_iconst d_Mo_glass_36 (by unfold fs_in32; omega) ?_
    exact b_ireturn d_Mo_glass_37 rfl (fs_nar01 (Or.inl rfl)) h
  · have h := h.2 c1
    refine a_aload_n (j := 0) d_Mo_glass_13 rfl rfl ?_
    refine b_getptr (q := 243) d_Mo_glass_14 fl_Mo_63 io_226 rfl rfl rfl ?_
    refine a_iconst d_Mo_glass_17 (by unfold fs_in32; omega) ?_
    refine b_iaload (v := M1 243 0) d_Mo_glass_18 ia_243 (by decide) (by decide) rfl ?_
    refine a_iload_n (j := 1) d_Mo_glass_19 rfl rfl ?_
    refine a_ishr d_Mo_glass_20 ?_
    refine a_iconst d_Mo_glass_21 (by unfold fs_in32; omega) ?_
    refine a_iand d_Mo_glass_22 ?_
    refine a_iconst d_Mo_glass_23 (by unfold fs_in32; omega) ?_
    refine a_icmp_ne (tgt := 31) d_Mo_glass_24 rfl (fun c2 => ?_) (fun c2 => ?_)
    · have h := h.1 c2
      refine a_iconst d_Mo_glass_31 (by unfold fs_in32; omega) ?_
      exact h
    · have h := h.2 c2
      refine a_iconst d_Mo_glass_27 (by unfold fs_in32; omega) ?_
      refine a_goto (tgt := 32) d_Mo_glass_28 rfl ?_
      exact h
set_option maxRecDepth 8000 in
set_option maxHeartbeats 4000000 in
theorem L_Mo_glass_32 {M : fs_M} {K : fs_K} {x1 x2 x100 : Int} 
    (h : ((¬ x100 = x2 → fs_C2 g m_Mo_keepNow 2 [fs_r 226] M (fun v M2 => v = none ∧ K (some (fs_i 1)) (fs_st M2 243 0 (fs_xor (M2 243 0) (fs_shl 1 x1))))) ∧ (x100 = x2 → K (some (fs_i 0)) M))) :
    fs_A2 g m_Mo_glass 3 32 [(0, fs_r 226), (1, fs_i x1), (2, fs_i x2)] [fs_i x100] M K := by
  refine a_iload_n (j := 2) d_Mo_glass_32 rfl rfl ?_
  refine a_icmp_ne (tgt := 38) d_Mo_glass_33 rfl (fun c3 => ?_) (fun c3 => ?_)
  · have h := h.1 c3
    refine a_aload_n (j := 0) d_Mo_glass_38 rfl rfl ?_
    refine b_virtual (dc := 2) (ci := 11) (T := fs_T11) (N := 78) [] [] d_Mo_glass_39 ml_Mo_425 k_Mo_keepNow v_Mo_keepNow rfl io_226 rfl (Nat.le_of_ble_eq_true rfl) rfl (Nat.le_of_ble_eq_true rfl) ?_
    refine fs_Call.mono (fun v M2 hv => ?_) h
    obtain ⟨rfl, h⟩ := hv
    show fs_A2 g m_Mo_glass 3 42 [(0, fs_r 226), (1, fs_i x1), (2, fs_i x2)] [] M2 K
    refine a_aload_n (j := 0) d_Mo_glass_42 rfl rfl ?_
    refine b_getptr (q := 243) d_Mo_glass_43 fl_Mo_63 io_226 rfl rfl rfl ?_
    refine a_iconst d_Mo_glass_46 (by unfold fs_in32; omega) ?_
    refine a_dup2 d_Mo_glass_47 rfl rfl ?_
    refine b_iaload (v := M2 243 0) d_Mo_glass_48 ia_243 (by decide) (by decide) rfl ?_
    refine a_iconst d_Mo_glass_49 (by unfold fs_in32; omega) ?_
    refine a_iload_n (j := 1) d_Mo_glass_50 rfl rfl ?_
    refine a_ishl d_Mo_glass_51 ?_
    refine a_ixor d_Mo_glass_52 ?_
    refine b_iastore d_Mo_glass_53 ia_243 (by decide) (by decide) ?_
    refine a_iconst d_Mo_glass_54 (by unfold fs_in32; omega) ?_
    exact b_ireturn d_Mo_glass_55 rfl (fs_nar01 (Or.inr rfl)) h
  · have h := h.2 c3
    refine a_iconst d_Mo_glass_36 (by unfold fs_in32; omega) ?_
    exact b_ireturn d_Mo_glass_37 rfl (fs_nar01 (Or.inl rfl)) h
set_option maxRecDepth 8000 in
set_option maxHeartbeats 4000000 in
theorem E_Mo_out {M : fs_M} {K : fs_K} {x1 x2 : Int} 
    (h : fs_C2 g m_Mo_isHouse 1 [fs_r 226, fs_i x1] (fs_st M 226 0 0) (fun v M1 => ∃ r1, v = some (fs_i r1) ∧ ((r1 = 0 → K (some (fs_i 0)) M1) ∧ (¬ r1 = 0 → (0 ≤ x1 ∧ x1 < 12 ∧ ((M1 233 x1 = 0 → K (some (fs_i 0)) M1) ∧ (¬ M1 233 x1 = 0 → ((¬ fs_and (fs_shr (M1 244 0) x1) 1 = 1 → fs_A2 g m_Mo_out 3 41 [(0, fs_r 226), (1, fs_i x1), (2, fs_i x2)] [fs_i 0] M1 K) ∧ (fs_and (fs_shr (M1 244 0) x1) 1 = 1 → fs_A2 g m_Mo_out 3 41 [(0, fs_r 226), (1, fs_i x1), (2, fs_i x2)] [fs_i 1] M1 K))))))))) :
    fs_C2 g m_Mo_out 3 [fs_r 226, fs_i x1, fs_i x2] M K := by
  refine b_enter2 (ls := [(0, fs_r 226), (1, fs_i x1), (2, fs_i x2)]) (plainFor_of_name pn_Mo) (Nat.le_of_ble_eq_true rfl) rfl ?_
  refine a_aload_n (j := 0) d_Mo_out_0 rfl rfl ?_
  refine a_iconst d_Mo_out_1 (by unfold fs_in32; omega) ?_
  refine b_putfield (x := 0) d_Mo_out_2 fl_Mo_160 io_226 rfl rfl fs_nar_int ?_
  refine a_aload_n (j := 0) d_Mo_out_5 rfl rfl ?_
  refine a_iload_n (j := 1) d_Mo_out_6 rfl rfl ?_
  refine b_virtual (dc := 1) (ci := 11) (T := fs_T11) (N := 78) [fs_i x1] [] d_Mo_out_7 ml_Mo_314 k_Mo_isHouse v_Mo_isHouse rfl io_226 rfl (Nat.le_of_ble_eq_true rfl) rfl (Nat.le_of_ble_eq_true rfl) ?_
  refine fs_Call.mono (fun v M1 hv => ?_) h
  obtain ⟨r1, rfl, h⟩ := hv
  show fs_A2 g m_Mo_out 3 10 [(0, fs_r 226), (1, fs_i x1), (2, fs_i x2)] [fs_i r1] M1 K
  refine a_if_eq (tgt := 45) d_Mo_out_10 rfl (fun c1 => ?_) (fun c1 => ?_)
  · have h := h.1 c1
    refine a_iconst d_Mo_out_45 (by unfold fs_in32; omega) ?_
    exact b_ireturn d_Mo_out_46 rfl (fs_nar01 (Or.inl rfl)) h
  · have h := h.2 c1
    refine a_aload_n (j := 0) d_Mo_out_13 rfl rfl ?_
    refine b_getptr (q := 233) d_Mo_out_14 fl_Mo_28 io_226 rfl rfl rfl ?_
    refine a_iload_n (j := 1) d_Mo_out_17 rfl rfl ?_
    obtain ⟨o2, o3, h⟩ := h
    refine b_baload (v := M1 233 x1) d_Mo_out_18 ia_233 o2 o3 rfl ?_
    refine a_if_eq (tgt := 45) d_Mo_out_19 rfl (fun c4 => ?_) (fun c4 => ?_)
    · have h := h.1 c4
      refine a_iconst d_Mo_out_45 (by unfold fs_in32; omega) ?_
      exact b_ireturn d_Mo_out_46 rfl (fs_nar01 (Or.inl rfl)) h
    · have h := h.2 c4
      refine a_aload_n (j := 0) d_Mo_out_22 rfl rfl ?_
      refine b_getptr (q := 244) d_Mo_out_23 fl_Mo_66 io_226 rfl rfl rfl ?_
      refine a_iconst d_Mo_out_26 (by unfold fs_in32; omega) ?_
      refine b_iaload (v := M1 244 0) d_Mo_out_27 ia_244 (by decide) (by decide) rfl ?_
      refine a_iload_n (j := 1) d_Mo_out_28 rfl rfl ?_
      refine a_ishr d_Mo_out_29 ?_
      refine a_iconst d_Mo_out_30 (by unfold fs_in32; omega) ?_
      refine a_iand d_Mo_out_31 ?_
      refine a_iconst d_Mo_out_32 (by unfold fs_in32; omega) ?_
      refine a_icmp_ne (tgt := 40) d_Mo_out_33 rfl (fun c5 => ?_) (fun c5 => ?_)
      · have h := h.1 c5
        refine a_iconst d_Mo_out_40 (by unfold fs_in32; omega) ?_
        exact h
      · have h := h.2 c5
        refine a_iconst d_Mo_out_36 (by unfold fs_in32; omega) ?_
        refine a_goto (tgt := 41) d_Mo_out_37 rfl ?_
        exact h
set_option maxRecDepth 8000 in
set_option maxHeartbeats 4000000 in
theorem L_Mo_out_41 {M : fs_M} {K : fs_K} {x1 x2 x100 : Int} 
    (h : ((¬ x100 = x2 → fs_C2 g m_Mo_keepNow 2 [fs_r 226] M (fun v M2 => v = none ∧ K (some (fs_i 1)) (fs_st M2 244 0 (fs_xor (M2 244 0) (fs_shl 1 x1))))) ∧ (x100 = x2 → K (some (fs_i 0)) M))) :
    fs_A2 g m_Mo_out 3 41 [(0, fs_r 226), (1, fs_i x1), (2, fs_i x2)] [fs_i x100] M K := by
  refine a_iload_n (j := 2) d_Mo_out_41 rfl rfl ?_
  refine a_icmp_ne (tgt := 47) d_Mo_out_42 rfl (fun c6 => ?_) (fun c6 => ?_)
  · have h := h.1 c6
    refine a_aload_n (j := 0) d_Mo_out_47 rfl rfl ?_
    refine b_virtual (dc := 2) (ci := 11) (T := fs_T11) (N := 78) [] [] d_Mo_out_48 ml_Mo_425 k_Mo_keepNow v_Mo_keepNow rfl io_226 rfl (Nat.le_of_ble_eq_true rfl) rfl (Nat.le_of_ble_eq_true rfl) ?_
    refine fs_Call.mono (fun v M2 hv => ?_) h
    obtain ⟨rfl, h⟩ := hv
    show fs_A2 g m_Mo_out 3 51 [(0, fs_r 226), (1, fs_i x1), (2, fs_i x2)] [] M2 K
    refine a_aload_n (j := 0) d_Mo_out_51 rfl rfl ?_
    refine b_getptr (q := 244) d_Mo_out_52 fl_Mo_66 io_226 rfl rfl rfl ?_
    refine a_iconst d_Mo_out_55 (by unfold fs_in32; omega) ?_
    refine a_dup2 d_Mo_out_56 rfl rfl ?_
    refine b_iaload (v := M2 244 0) d_Mo_out_57 ia_244 (by decide) (by decide) rfl ?_
    refine a_iconst d_Mo_out_58 (by unfold fs_in32; omega) ?_
    refine a_iload_n (j := 1) d_Mo_out_59 rfl rfl ?_
    refine a_ishl d_Mo_out_60 ?_
    refine a_ixor d_Mo_out_61 ?_
    refine b_iastore d_Mo_out_62 ia_244 (by decide) (by decide) ?_
    refine a_iconst d_Mo_out_63 (by unfold fs_in32; omega) ?_
    exact b_ireturn d_Mo_out_64 rfl (fs_nar01 (Or.inr rfl)) h
  · have h := h.2 c6
    refine a_iconst d_Mo_out_45 (by unfold fs_in32; omega) ?_
    exact b_ireturn d_Mo_out_46 rfl (fs_nar01 (Or.inl rfl)) h
set_option maxRecDepth 8000 in
set_option maxHeartbeats 4000000 in
theorem E_Mo_done {M : fs_M} {K : fs_K} {x1 x2 : Int} 
    (h : fs_C2 g m_Mo_isHouse 1 [fs_r 226, fs_i x1] (fs_st M 226 0 0) (fun v M1 => ∃ r1, v = some (fs_i r1) ∧ ((r1 = 0 → K (some (fs_i (-1))) M1) ∧ (¬ r1 = 0 → ((x2 < 0 → K (some (fs_i (-1))) M1) ∧ (¬ x2 < 0 → ((x2 ≤ 1 → fs_C2 g m_Mo_asIs 2 [fs_r 226] M1 (fun v M2 => v = none ∧ fs_C2 g m_Mo_walks 8 [fs_r 226, fs_i 240] M2 (fun v M3 => v = none ∧ ((¬ x2 = 0 → (0 ≤ x1 ∧ x1 < 6 ∧ K (some (fs_i (M3 262 x1))) M3)) ∧ (x2 = 0 → (0 ≤ x1 ∧ x1 < 6 ∧ K (some (fs_i (M3 261 x1))) M3)))))) ∧ (¬ x2 ≤ 1 → K (some (fs_i (-1))) M1)))))))) :
    fs_C2 g m_Mo_done 9 [fs_r 226, fs_i x1, fs_i x2] M K := by
  refine b_enter2 (ls := [(0, fs_r 226), (1, fs_i x1), (2, fs_i x2)]) (plainFor_of_name pn_Mo) (Nat.le_of_ble_eq_true rfl) rfl ?_
  refine a_aload_n (j := 0) d_Mo_done_0 rfl rfl ?_
  refine a_iconst d_Mo_done_1 (by unfold fs_in32; omega) ?_
  refine b_putfield (x := 0) d_Mo_done_2 fl_Mo_160 io_226 rfl rfl fs_nar_int ?_
  refine a_aload_n (j := 0) d_Mo_done_5 rfl rfl ?_
  refine a_iload_n (j := 1) d_Mo_done_6 rfl rfl ?_
  refine b_virtual (dc := 1) (ci := 11) (T := fs_T11) (N := 78) [fs_i x1] [] d_Mo_done_7 ml_Mo_314 k_Mo_isHouse v_Mo_isHouse rfl io_226 rfl (Nat.le_of_ble_eq_true rfl) rfl (Nat.le_of_ble_eq_true rfl) ?_
  refine fs_Call.mono (fun v M1 hv => ?_) h
  obtain ⟨r1, rfl, h⟩ := hv
  show fs_A2 g m_Mo_done 9 10 [(0, fs_r 226), (1, fs_i x1), (2, fs_i x2)] [fs_i r1] M1 K
  refine a_if_eq (tgt := 22) d_Mo_done_10 rfl (fun c1 => ?_) (fun c1 => ?_)
  · have h := h.1 c1
    refine a_iconst d_Mo_done_22 (by unfold fs_in32; omega) ?_
    exact b_ireturn d_Mo_done_23 rfl rfl h
  · have h := h.2 c1
    refine a_iload_n (j := 2) d_Mo_done_13 rfl rfl ?_
    refine a_if_lt (tgt := 22) d_Mo_done_14 rfl (fun c2 => ?_) (fun c2 => ?_)
    · have h := h.1 c2
      refine a_iconst d_Mo_done_22 (by unfold fs_in32; omega) ?_
      exact b_ireturn d_Mo_done_23 rfl rfl h
    · have h := h.2 c2
      refine a_iload_n (j := 2) d_Mo_done_17 rfl rfl ?_
      refine a_iconst d_Mo_done_18 (by unfold fs_in32; omega) ?_
      refine a_icmp_le (tgt := 24) d_Mo_done_19 rfl (fun c3 => ?_) (fun c3 => ?_)
      · have h := h.1 c3
        refine a_aload_n (j := 0) d_Mo_done_24 rfl rfl ?_
        refine b_virtual (dc := 2) (ci := 11) (T := fs_T11) (N := 78) [] [] d_Mo_done_25 ml_Mo_406 k_Mo_asIs v_Mo_asIs rfl io_226 rfl (Nat.le_of_ble_eq_true rfl) rfl (Nat.le_of_ble_eq_true rfl) ?_
        refine fs_Call.mono (fun v M2 hv => ?_) h
        obtain ⟨rfl, h⟩ := hv
        show fs_A2 g m_Mo_done 9 28 [(0, fs_r 226), (1, fs_i x1), (2, fs_i x2)] [] M2 K
        refine a_aload_n (j := 0) d_Mo_done_28 rfl rfl ?_
        refine a_sipush d_Mo_done_29 (by decide) ?_
        refine b_virtual (dc := 8) (ci := 11) (T := fs_T11) (N := 78) [fs_i 240] [] d_Mo_done_32 ml_Mo_409 k_Mo_walks v_Mo_walks rfl io_226 rfl (Nat.le_of_ble_eq_true rfl) rfl (Nat.le_of_ble_eq_true rfl) ?_
        refine fs_Call.mono (fun v M3 hv => ?_) h
        obtain ⟨rfl, h⟩ := hv
        show fs_A2 g m_Mo_done 9 35 [(0, fs_r 226), (1, fs_i x1), (2, fs_i x2)] [] M3 K
        refine a_iload_n (j := 2) d_Mo_done_35 rfl rfl ?_
        refine a_if_ne (tgt := 48) d_Mo_done_36 rfl (fun c4 => ?_) (fun c4 => ?_)
        · have h := h.1 c4
          refine a_aload_n (j := 0) d_Mo_done_48 rfl rfl ?_
          refine b_getptr (q := 262) d_Mo_done_49 fl_Mo_130 io_226 rfl rfl rfl ?_
          refine a_iload_n (j := 1) d_Mo_done_52 rfl rfl ?_
          obtain ⟨o5, o6, h⟩ := h
          refine b_iaload (v := M3 262 x1) d_Mo_done_53 ia_262 o5 o6 rfl ?_
          exact b_ireturn d_Mo_done_54 rfl rfl h
        · have h := h.2 c4
          refine a_aload_n (j := 0) d_Mo_done_39 rfl rfl ?_
          refine b_getptr (q := 261) d_Mo_done_40 fl_Mo_127 io_226 rfl rfl rfl ?_
          refine a_iload_n (j := 1) d_Mo_done_43 rfl rfl ?_
          obtain ⟨o7, o8, h⟩ := h
          refine b_iaload (v := M3 261 x1) d_Mo_done_44 ia_261 o7 o8 rfl ?_
          refine a_goto (tgt := 54) d_Mo_done_45 rfl ?_
          exact b_ireturn d_Mo_done_54 rfl rfl h
      · have h := h.2 c3
        refine a_iconst d_Mo_done_22 (by unfold fs_in32; omega) ?_
        exact b_ireturn d_Mo_done_23 rfl rfl h
set_option maxRecDepth 8000 in
set_option maxHeartbeats 4000000 in
theorem E_Mo_asIs {M : fs_M} {K : fs_K} 
    (h : fs_C2 g m_Mo_plain 1 [fs_r 226] M (fun v M1 => v = none ∧ fs_A2 g m_Mo_asIs 2 16 [(0, fs_r 226), (1, fs_i 0)] [] (fs_st M1 226 47 (M1 243 0)) K)) :
    fs_C2 g m_Mo_asIs 2 [fs_r 226] M K := by
  refine b_enter2 (ls := [(0, fs_r 226)]) (plainFor_of_name pn_Mo) (Nat.le_of_ble_eq_true rfl) rfl ?_
  refine a_aload_n (j := 0) d_Mo_asIs_0 rfl rfl ?_
  refine b_virtual (dc := 1) (ci := 11) (T := fs_T11) (N := 78) [] [] d_Mo_asIs_1 ml_Mo_366 k_Mo_plain v_Mo_plain rfl io_226 rfl (Nat.le_of_ble_eq_true rfl) rfl (Nat.le_of_ble_eq_true rfl) ?_
  refine fs_Call.mono (fun v M1 hv => ?_) h
  obtain ⟨rfl, h⟩ := hv
  show fs_A2 g m_Mo_asIs 2 4 [(0, fs_r 226)] [] M1 K
  refine a_aload_n (j := 0) d_Mo_asIs_4 rfl rfl ?_
  refine a_aload_n (j := 0) d_Mo_asIs_5 rfl rfl ?_
  refine b_getptr (q := 243) d_Mo_asIs_6 fl_Mo_63 io_226 rfl rfl rfl ?_
  refine a_iconst d_Mo_asIs_9 (by unfold fs_in32; omega) ?_
  refine b_iaload (v := M1 243 0) d_Mo_asIs_10 ia_243 (by decide) (by decide) rfl ?_
  refine b_putfield (x := (M1 243 0)) d_Mo_asIs_11 fl_Mo_380 io_226 rfl rfl fs_nar_int ?_
  refine a_iconst d_Mo_asIs_14 (by unfold fs_in32; omega) ?_
  refine a_istore_n d_Mo_asIs_15 rfl (Nat.le_of_ble_eq_true rfl) [1, 0] rfl ?_
  exact h
set_option maxRecDepth 8000 in
set_option maxHeartbeats 4000000 in
theorem L_Mo_asIs_16 {M : fs_M} {K : fs_K} {x1 : Int} 
    (h : ((3 ≤ x1 → K none M) ∧ (¬ 3 ≤ x1 → (0 ≤ x1 ∧ fs_A2 g m_Mo_asIs 2 35 [(0, fs_r 226), (1, fs_i x1), (2, fs_i 0)] [] (fs_st M 252 x1 (M 242 x1)) K)))) :
    fs_A2 g m_Mo_asIs 2 16 [(0, fs_r 226), (1, fs_i x1)] [] M K := by
  refine a_iload_n (j := 1) d_Mo_asIs_16 rfl rfl ?_
  refine a_iconst d_Mo_asIs_17 (by unfold fs_in32; omega) ?_
  refine a_icmp_ge (tgt := 75) d_Mo_asIs_18 rfl (fun c1 => ?_) (fun c1 => ?_)
  · have h := h.1 c1
    exact b_return d_Mo_asIs_75 rfl h
  · have h := h.2 c1
    refine a_aload_n (j := 0) d_Mo_asIs_21 rfl rfl ?_
    refine b_getptr (q := 252) d_Mo_asIs_22 fl_Mo_100 io_226 rfl rfl rfl ?_
    refine a_iload_n (j := 1) d_Mo_asIs_25 rfl rfl ?_
    refine a_aload_n (j := 0) d_Mo_asIs_26 rfl rfl ?_
    refine b_getptr (q := 242) d_Mo_asIs_27 fl_Mo_60 io_226 rfl rfl rfl ?_
    refine a_iload_n (j := 1) d_Mo_asIs_30 rfl rfl ?_
    obtain ⟨o2, h⟩ := h
    refine b_iaload (v := M 242 x1) d_Mo_asIs_31 ia_242 o2 (by have q := (by omega : x1 < 3); omega) rfl ?_
    refine b_iastore d_Mo_asIs_32 ia_252 o2 (by omega : x1 < 3) ?_
    refine a_iconst d_Mo_asIs_33 (by unfold fs_in32; omega) ?_
    refine a_istore_n d_Mo_asIs_34 rfl (Nat.le_of_ble_eq_true rfl) [1, 2, 0] rfl ?_
    exact h
set_option maxRecDepth 8000 in
set_option maxHeartbeats 4000000 in
theorem L_Mo_asIs_35 {M : fs_M} {K : fs_K} {x1 x2 : Int} 
    (h : ((9 ≤ x2 → fs_A2 g m_Mo_asIs 2 16 [(0, fs_r 226), (1, fs_i (fs_w32 (x1 + 1)))] [] M K) ∧ (¬ 9 ≤ x2 → (0 ≤ fs_w32 ((fs_w32 (9 * x1)) + x2) ∧ fs_w32 ((fs_w32 (9 * x1)) + x2) < 594 ∧ (fs_w32 ((fs_w32 (9 * x1)) + x2) < 27 ∧ fs_A2 g m_Mo_asIs 2 35 [(0, fs_r 226), (1, fs_i x1), (2, fs_i (fs_w32 (x2 + 1)))] [] (fs_st M 251 (fs_w32 ((fs_w32 (9 * x1)) + x2)) (M 241 (fs_w32 ((fs_w32 (9 * x1)) + x2)))) K))))) :
    fs_A2 g m_Mo_asIs 2 35 [(0, fs_r 226), (1, fs_i x1), (2, fs_i x2)] [] M K := by
  refine a_iload_n (j := 2) d_Mo_asIs_35 rfl rfl ?_
  refine a_bipush d_Mo_asIs_36 (by decide) ?_
  refine a_icmp_ge (tgt := 69) d_Mo_asIs_38 rfl (fun c3 => ?_) (fun c3 => ?_)
  · have h := h.1 c3
    refine a_iinc (j := 1) d_Mo_asIs_69 rfl (Nat.le_of_ble_eq_true rfl) [1, 0, 2] rfl ?_
    refine a_goto (tgt := 16) d_Mo_asIs_72 rfl ?_
    refine a_sub [0, 1] rfl ?_
    exact h
  · have h := h.2 c3
    refine a_aload_n (j := 0) d_Mo_asIs_41 rfl rfl ?_
    refine b_getptr (q := 251) d_Mo_asIs_42 fl_Mo_97 io_226 rfl rfl rfl ?_
    refine a_bipush d_Mo_asIs_45 (by decide) ?_
    refine a_iload_n (j := 1) d_Mo_asIs_47 rfl rfl ?_
    refine a_imul d_Mo_asIs_48 ?_
    refine a_iload_n (j := 2) d_Mo_asIs_49 rfl rfl ?_
    refine a_iadd d_Mo_asIs_50 ?_
    refine a_aload_n (j := 0) d_Mo_asIs_51 rfl rfl ?_
    refine b_getptr (q := 241) d_Mo_asIs_52 fl_Mo_57 io_226 rfl rfl rfl ?_
    refine a_bipush d_Mo_asIs_55 (by decide) ?_
    refine a_iload_n (j := 1) d_Mo_asIs_57 rfl rfl ?_
    refine a_imul d_Mo_asIs_58 ?_
    refine a_iload_n (j := 2) d_Mo_asIs_59 rfl rfl ?_
    refine a_iadd d_Mo_asIs_60 ?_
    obtain ⟨o4, o5, h⟩ := h
    refine b_iaload (v := M 241 (fs_w32 ((fs_w32 (9 * x1)) + x2))) d_Mo_asIs_61 ia_241 o4 o5 rfl ?_
    obtain ⟨o6, h⟩ := h
    refine b_iastore d_Mo_asIs_62 ia_251 o4 o6 ?_
    refine a_iinc (j := 2) d_Mo_asIs_63 rfl (Nat.le_of_ble_eq_true rfl) [1, 2, 0] rfl ?_
    refine a_goto (tgt := 35) d_Mo_asIs_66 rfl ?_
    exact h
set_option maxRecDepth 8000 in
set_option maxHeartbeats 4000000 in
theorem E_Mo_walks {M : fs_M} {K : fs_K} {x1 : Int} 
    (h : fs_C2 g m_Mo_starts 7 [fs_r 226] M (fun v M1 => v = none ∧ fs_C2 g m_Mo_next 1 [fs_r 226] M1 (fun v M2 => ∃ r2, v = some (fs_i r2) ∧ fs_A2 g m_Mo_walks 8 9 [(0, fs_r 226), (1, fs_i x1), (2, fs_i r2)] [] M2 K))) :
    fs_C2 g m_Mo_walks 8 [fs_r 226, fs_i x1] M K := by
  refine b_enter2 (ls := [(0, fs_r 226), (1, fs_i x1)]) (plainFor_of_name pn_Mo) (Nat.le_of_ble_eq_true rfl) rfl ?_
  refine a_aload_n (j := 0) d_Mo_walks_0 rfl rfl ?_
  refine b_virtual (dc := 7) (ci := 11) (T := fs_T11) (N := 78) [] [] d_Mo_walks_1 ml_Mo_394 k_Mo_starts v_Mo_starts rfl io_226 rfl (Nat.le_of_ble_eq_true rfl) rfl (Nat.le_of_ble_eq_true rfl) ?_
  refine fs_Call.mono (fun v M1 hv => ?_) h
  obtain ⟨rfl, h⟩ := hv
  show fs_A2 g m_Mo_walks 8 4 [(0, fs_r 226), (1, fs_i x1)] [] M1 K
  refine a_aload_n (j := 0) d_Mo_walks_4 rfl rfl ?_
  refine b_virtual (dc := 1) (ci := 11) (T := fs_T11) (N := 78) [] [] d_Mo_walks_5 ml_Mo_397 k_Mo_next v_Mo_next rfl io_226 rfl (Nat.le_of_ble_eq_true rfl) rfl (Nat.le_of_ble_eq_true rfl) ?_
  refine fs_Call.mono (fun v M2 hv => ?_) h
  obtain ⟨r2, rfl, h⟩ := hv
  show fs_A2 g m_Mo_walks 8 8 [(0, fs_r 226), (1, fs_i x1)] [fs_i r2] M2 K
  refine a_istore_n d_Mo_walks_8 rfl (Nat.le_of_ble_eq_true rfl) [1, 2, 0] rfl ?_
  exact h
set_option maxRecDepth 8000 in
set_option maxHeartbeats 4000000 in
theorem L_Mo_walks_9 {M : fs_M} {K : fs_K} {x1 x2 : Int} 
    (h : (0 ≤ x2 ∧ x2 < 3 ∧ ((x1 < M 257 x2 → K none M) ∧ (¬ x1 < M 257 x2 → fs_C2 g m_Mo_arrives 7 [fs_r 226, fs_i x2] M (fun v M3 => v = none ∧ fs_C2 g m_Mo_next 1 [fs_r 226] M3 (fun v M4 => ∃ r4, v = some (fs_i r4) ∧ fs_A2 g m_Mo_walks 8 9 [(0, fs_r 226), (1, fs_i x1), (2, fs_i r4)] [] M4 K)))))) :
    fs_A2 g m_Mo_walks 8 9 [(0, fs_r 226), (1, fs_i x1), (2, fs_i x2)] [] M K := by
  refine a_aload_n (j := 0) d_Mo_walks_9 rfl rfl ?_
  refine b_getptr (q := 257) d_Mo_walks_10 fl_Mo_115 io_226 rfl rfl rfl ?_
  refine a_iload_n (j := 2) d_Mo_walks_13 rfl rfl ?_
  obtain ⟨o1, o2, h⟩ := h
  refine b_iaload (v := M 257 x2) d_Mo_walks_14 ia_257 o1 o2 rfl ?_
  refine a_iload_n (j := 1) d_Mo_walks_15 rfl rfl ?_
  refine a_icmp_gt (tgt := 32) d_Mo_walks_16 rfl (fun c3 => ?_) (fun c3 => ?_)
  · have h := h.1 c3
    exact b_return d_Mo_walks_32 rfl h
  · have h := h.2 c3
    refine a_aload_n (j := 0) d_Mo_walks_19 rfl rfl ?_
    refine a_iload_n (j := 2) d_Mo_walks_20 rfl rfl ?_
    refine b_virtual (dc := 7) (ci := 11) (T := fs_T11) (N := 78) [fs_i x2] [] d_Mo_walks_21 ml_Mo_400 k_Mo_arrives v_Mo_arrives rfl io_226 rfl (Nat.le_of_ble_eq_true rfl) rfl (Nat.le_of_ble_eq_true rfl) ?_
    refine fs_Call.mono (fun v M3 hv => ?_) h
    obtain ⟨rfl, h⟩ := hv
    show fs_A2 g m_Mo_walks 8 24 [(0, fs_r 226), (1, fs_i x1), (2, fs_i x2)] [] M3 K
    refine a_aload_n (j := 0) d_Mo_walks_24 rfl rfl ?_
    refine b_virtual (dc := 1) (ci := 11) (T := fs_T11) (N := 78) [] [] d_Mo_walks_25 ml_Mo_397 k_Mo_next v_Mo_next rfl io_226 rfl (Nat.le_of_ble_eq_true rfl) rfl (Nat.le_of_ble_eq_true rfl) ?_
    refine fs_Call.mono (fun v M4 hv => ?_) h
    obtain ⟨r4, rfl, h⟩ := hv
    show fs_A2 g m_Mo_walks 8 28 [(0, fs_r 226), (1, fs_i x1), (2, fs_i x2)] [fs_i r4] M4 K
    refine a_istore_n d_Mo_walks_28 rfl (Nat.le_of_ble_eq_true rfl) [1, 2, 0] rfl ?_
    refine a_goto (tgt := 9) d_Mo_walks_29 rfl ?_
    exact h
set_option maxRecDepth 8000 in
set_option maxHeartbeats 4000000 in
theorem E_Mo_starts {M : fs_M} {K : fs_K} 
    (h : fs_A2 g m_Mo_starts 7 2 [(0, fs_r 226), (1, fs_i 0)] [] M K) :
    fs_C2 g m_Mo_starts 7 [fs_r 226] M K := by
  refine b_enter2 (ls := [(0, fs_r 226)]) (plainFor_of_name pn_Mo) (Nat.le_of_ble_eq_true rfl) rfl ?_
  refine a_iconst d_Mo_starts_0 (by unfold fs_in32; omega) ?_
  refine a_istore_n d_Mo_starts_1 rfl (Nat.le_of_ble_eq_true rfl) [1, 0] rfl ?_
  exact h
set_option maxRecDepth 8000 in
set_option maxHeartbeats 4000000 in
theorem L_Mo_starts_2 {M : fs_M} {K : fs_K} {x1 : Int} 
    (h : ((6 ≤ x1 → fs_A2 g m_Mo_starts 7 30 [(0, fs_r 226), (1, fs_i 0)] [] M K) ∧ (¬ 6 ≤ x1 → (0 ≤ x1 ∧ fs_A2 g m_Mo_starts 7 2 [(0, fs_r 226), (1, fs_i (fs_w32 (x1 + 1)))] [] (fs_st (fs_st M 261 x1 (-1)) 262 x1 (-1)) K)))) :
    fs_A2 g m_Mo_starts 7 2 [(0, fs_r 226), (1, fs_i x1)] [] M K := by
  refine a_iload_n (j := 1) d_Mo_starts_2 rfl rfl ?_
  refine a_bipush d_Mo_starts_3 (by decide) ?_
  refine a_icmp_ge (tgt := 28) d_Mo_starts_5 rfl (fun c1 => ?_) (fun c1 => ?_)
  · have h := h.1 c1
    refine a_iconst d_Mo_starts_28 (by unfold fs_in32; omega) ?_
    refine a_istore_n d_Mo_starts_29 rfl (Nat.le_of_ble_eq_true rfl) [1, 0] rfl ?_
    exact h
  · have h := h.2 c1
    refine a_aload_n (j := 0) d_Mo_starts_8 rfl rfl ?_
    refine b_getptr (q := 261) d_Mo_starts_9 fl_Mo_127 io_226 rfl rfl rfl ?_
    refine a_iload_n (j := 1) d_Mo_starts_12 rfl rfl ?_
    refine a_iconst d_Mo_starts_13 (by unfold fs_in32; omega) ?_
    obtain ⟨o2, h⟩ := h
    refine b_iastore d_Mo_starts_14 ia_261 o2 (by omega : x1 < 6) ?_
    refine a_aload_n (j := 0) d_Mo_starts_15 rfl rfl ?_
    refine b_getptr (q := 262) d_Mo_starts_16 fl_Mo_130 io_226 rfl rfl rfl ?_
    refine a_iload_n (j := 1) d_Mo_starts_19 rfl rfl ?_
    refine a_iconst d_Mo_starts_20 (by unfold fs_in32; omega) ?_
    refine b_iastore d_Mo_starts_21 ia_262 o2 (by omega : x1 < 6) ?_
    refine a_iinc (j := 1) d_Mo_starts_22 rfl (Nat.le_of_ble_eq_true rfl) [1, 0] rfl ?_
    refine a_goto (tgt := 2) d_Mo_starts_25 rfl ?_
    exact h
set_option maxRecDepth 8000 in
set_option maxHeartbeats 4000000 in
theorem L_Mo_starts_30 {M : fs_M} {K : fs_K} {x1 : Int} 
    (h : ((M 228 0 ≤ x1 → fs_A2 g m_Mo_starts 7 118 [(0, fs_r 226), (1, fs_i 0)] [] (fs_st M 226 56 0) K) ∧ (¬ M 228 0 ≤ x1 → ((fs_and (fs_shr (M 244 0) x1) 1 = 0 → fs_A2 g m_Mo_starts 7 30 [(0, fs_r 226), (1, fs_i (fs_w32 (x1 + 1)))] [] M K) ∧ (¬ fs_and (fs_shr (M 244 0) x1) 1 = 0 → fs_C2 g m_Mo_isGone 1 [fs_r 226, fs_i x1] M (fun v M1 => ∃ r1, v = some (fs_i r1) ∧ ((r1 = 0 → fs_C2 g m_Mo_calls 1 [fs_r 226, fs_i x1, fs_i 1, fs_i 0, fs_i 0] M1 (fun v M2 => v = none ∧ fs_C2 g m_Mo_may 4 [fs_r 226] (fs_st M2 249 6 1) (fun v M3 => ∃ r3, v = some (fs_i r3) ∧ ((¬ r3 = 0 → (0 ≤ x1 ∧ x1 < 6 ∧ fs_A2 g m_Mo_starts 7 30 [(0, fs_r 226), (1, fs_i (fs_w32 (x1 + 1)))] [] (fs_st (fs_st M3 261 x1 (-2)) 262 x1 1) K)) ∧ (r3 = 0 → fs_A2 g m_Mo_starts 7 30 [(0, fs_r 226), (1, fs_i (fs_w32 (x1 + 1)))] [] M3 K))))) ∧ (¬ r1 = 0 → fs_A2 g m_Mo_starts 7 30 [(0, fs_r 226), (1, fs_i (fs_w32 (x1 + 1)))] [] M1 K)))))))) :
    fs_A2 g m_Mo_starts 7 30 [(0, fs_r 226), (1, fs_i x1)] [] M K := by
  refine a_iload_n (j := 1) d_Mo_starts_30 rfl rfl ?_
  refine a_aload_n (j := 0) d_Mo_starts_31 rfl rfl ?_
  refine b_getptr (q := 228) d_Mo_starts_32 fl_Mo_13 io_226 rfl rfl rfl ?_
  refine a_iconst d_Mo_starts_35 (by unfold fs_in32; omega) ?_
  refine b_iaload (v := M 228 0) d_Mo_starts_36 ia_228 (by decide) (by decide) rfl ?_
  refine a_icmp_ge (tgt := 111) d_Mo_starts_37 rfl (fun c3 => ?_) (fun c3 => ?_)
  · have h := h.1 c3
    refine a_aload_n (j := 0) d_Mo_starts_111 rfl rfl ?_
    refine a_iconst d_Mo_starts_112 (by unfold fs_in32; omega) ?_
    refine b_putfield (x := 0) d_Mo_starts_113 fl_Mo_388 io_226 rfl rfl fs_nar_int ?_
    refine a_iconst d_Mo_starts_116 (by unfold fs_in32; omega) ?_
    refine a_istore_n d_Mo_starts_117 rfl (Nat.le_of_ble_eq_true rfl) [1, 0] rfl ?_
    exact h
  · have h := h.2 c3
    refine a_aload_n (j := 0) d_Mo_starts_40 rfl rfl ?_
    refine b_getptr (q := 244) d_Mo_starts_41 fl_Mo_66 io_226 rfl rfl rfl ?_
    refine a_iconst d_Mo_starts_44 (by unfold fs_in32; omega) ?_
    refine b_iaload (v := M 244 0) d_Mo_starts_45 ia_244 (by decide) (by decide) rfl ?_
    refine a_iload_n (j := 1) d_Mo_starts_46 rfl rfl ?_
    refine a_ishr d_Mo_starts_47 ?_
    refine a_iconst d_Mo_starts_48 (by unfold fs_in32; omega) ?_
    refine a_iand d_Mo_starts_49 ?_
    refine a_if_eq (tgt := 105) d_Mo_starts_50 rfl (fun c4 => ?_) (fun c4 => ?_)
    · have h := h.1 c4
      refine a_iinc (j := 1) d_Mo_starts_105 rfl (Nat.le_of_ble_eq_true rfl) [1, 0] rfl ?_
      refine a_goto (tgt := 30) d_Mo_starts_108 rfl ?_
      exact h
    · have h := h.2 c4
      refine a_aload_n (j := 0) d_Mo_starts_53 rfl rfl ?_
      refine a_iload_n (j := 1) d_Mo_starts_54 rfl rfl ?_
      refine b_virtual (dc := 1) (ci := 11) (T := fs_T11) (N := 78) [fs_i x1] [] d_Mo_starts_55 ml_Mo_383 k_Mo_isGone v_Mo_isGone rfl io_226 rfl (Nat.le_of_ble_eq_true rfl) rfl (Nat.le_of_ble_eq_true rfl) ?_
      refine fs_Call.mono (fun v M1 hv => ?_) h
      obtain ⟨r1, rfl, h⟩ := hv
      show fs_A2 g m_Mo_starts 7 58 [(0, fs_r 226), (1, fs_i x1)] [fs_i r1] M1 K
      refine a_if_eq (tgt := 64) d_Mo_starts_58 rfl (fun c5 => ?_) (fun c5 => ?_)
      · have h := h.1 c5
        refine a_aload_n (j := 0) d_Mo_starts_64 rfl rfl ?_
        refine a_iload_n (j := 1) d_Mo_starts_65 rfl rfl ?_
        refine a_iconst d_Mo_starts_66 (by unfold fs_in32; omega) ?_
        refine a_iconst d_Mo_starts_67 (by unfold fs_in32; omega) ?_
        refine a_iconst d_Mo_starts_68 (by unfold fs_in32; omega) ?_
        refine b_virtual (dc := 1) (ci := 11) (T := fs_T11) (N := 78) [fs_i x1, fs_i 1, fs_i 0, fs_i 0] [] d_Mo_starts_69 ml_Mo_353 k_Mo_calls v_Mo_calls rfl io_226 rfl (Nat.le_of_ble_eq_true rfl) rfl (Nat.le_of_ble_eq_true rfl) ?_
        refine fs_Call.mono (fun v M2 hv => ?_) h
        obtain ⟨rfl, h⟩ := hv
        show fs_A2 g m_Mo_starts 7 72 [(0, fs_r 226), (1, fs_i x1)] [] M2 K
        refine a_aload_n (j := 0) d_Mo_starts_72 rfl rfl ?_
        refine b_getptr (q := 249) d_Mo_starts_73 fl_Mo_81 io_226 rfl rfl rfl ?_
        refine a_bipush d_Mo_starts_76 (by decide) ?_
        refine a_lconst (v := 1) d_Mo_starts_78 rfl (by unfold fs_in64; omega) ?_
        refine b_lastore d_Mo_starts_79 ia_249 (by decide) (by decide) ?_
        refine a_aload_n (j := 0) d_Mo_starts_80 rfl rfl ?_
        refine b_virtual (dc := 4) (ci := 11) (T := fs_T11) (N := 78) [] [] d_Mo_starts_81 ml_Mo_373 k_Mo_may v_Mo_may rfl io_226 rfl (Nat.le_of_ble_eq_true rfl) rfl (Nat.le_of_ble_eq_true rfl) ?_
        refine fs_Call.mono (fun v M3 hv => ?_) h
        obtain ⟨r3, rfl, h⟩ := hv
        show fs_A2 g m_Mo_starts 7 84 [(0, fs_r 226), (1, fs_i x1)] [fs_i r3] M3 K
        refine a_if_ne (tgt := 90) d_Mo_starts_84 rfl (fun c6 => ?_) (fun c6 => ?_)
        · have h := h.1 c6
          refine a_aload_n (j := 0) d_Mo_starts_90 rfl rfl ?_
          refine b_getptr (q := 261) d_Mo_starts_91 fl_Mo_127 io_226 rfl rfl rfl ?_
          refine a_iload_n (j := 1) d_Mo_starts_94 rfl rfl ?_
          refine a_bipush d_Mo_starts_95 (by decide) ?_
          obtain ⟨o7, o8, h⟩ := h
          refine b_iastore d_Mo_starts_97 ia_261 o7 o8 ?_
          refine a_aload_n (j := 0) d_Mo_starts_98 rfl rfl ?_
          refine b_getptr (q := 262) d_Mo_starts_99 fl_Mo_130 io_226 rfl rfl rfl ?_
          refine a_iload_n (j := 1) d_Mo_starts_102 rfl rfl ?_
          refine a_iconst d_Mo_starts_103 (by unfold fs_in32; omega) ?_
          refine b_iastore d_Mo_starts_104 ia_262 o7 o8 ?_
          refine a_iinc (j := 1) d_Mo_starts_105 rfl (Nat.le_of_ble_eq_true rfl) [1, 0] rfl ?_
          refine a_goto (tgt := 30) d_Mo_starts_108 rfl ?_
          exact h
        · have h := h.2 c6
          refine a_goto (tgt := 105) d_Mo_starts_87 rfl ?_
          refine a_iinc (j := 1) d_Mo_starts_105 rfl (Nat.le_of_ble_eq_true rfl) [1, 0] rfl ?_
          refine a_goto (tgt := 30) d_Mo_starts_108 rfl ?_
          exact h
      · have h := h.2 c5
        refine a_goto (tgt := 105) d_Mo_starts_61 rfl ?_
        refine a_iinc (j := 1) d_Mo_starts_105 rfl (Nat.le_of_ble_eq_true rfl) [1, 0] rfl ?_
        refine a_goto (tgt := 30) d_Mo_starts_108 rfl ?_
        exact h
set_option maxRecDepth 8000 in
set_option maxHeartbeats 4000000 in
theorem L_Mo_starts_118 {M : fs_M} {K : fs_K} {x1 : Int} 
    (h : ((3 ≤ x1 → K none M) ∧ (¬ 3 ≤ x1 → (0 ≤ x1 ∧ fs_C2 g m_Mo_isDark 1 [fs_r 226, fs_i x1] (fs_st (fs_st (fs_st (fs_st (fs_st (fs_st (fs_st M 257 x1 241) 258 x1 (-2)) 259 x1 1) 260 x1 0) 254 x1 (M 235 x1)) 255 x1 0) 256 x1 (M 236 x1)) (fun v M4 => ∃ r4, v = some (fs_i r4) ∧ ((r4 = 0 → fs_A2 g m_Mo_starts 7 118 [(0, fs_r 226), (1, fs_i (fs_w32 (x1 + 1)))] [] M4 K) ∧ (¬ r4 = 0 → ((¬ M4 226 42 = 4 → fs_A2 g m_Mo_starts 7 212 [(0, fs_r 226), (1, fs_i x1)] [] M4 K) ∧ (M4 226 42 = 4 → ((¬ M4 226 43 = x1 → fs_A2 g m_Mo_starts 7 212 [(0, fs_r 226), (1, fs_i x1)] [] M4 K) ∧ (M4 226 43 = x1 → fs_A2 g m_Mo_starts 7 118 [(0, fs_r 226), (1, fs_i (fs_w32 (x1 + 1)))] [] M4 K))))))))))) :
    fs_A2 g m_Mo_starts 7 118 [(0, fs_r 226), (1, fs_i x1)] [] M K := by
  refine a_iload_n (j := 1) d_Mo_starts_118 rfl rfl ?_
  refine a_iconst d_Mo_starts_119 (by unfold fs_in32; omega) ?_
  refine a_icmp_ge (tgt := 231) d_Mo_starts_120 rfl (fun c9 => ?_) (fun c9 => ?_)
  · have h := h.1 c9
    exact b_return d_Mo_starts_231 rfl h
  · have h := h.2 c9
    refine a_aload_n (j := 0) d_Mo_starts_123 rfl rfl ?_
    refine b_getptr (q := 257) d_Mo_starts_124 fl_Mo_115 io_226 rfl rfl rfl ?_
    refine a_iload_n (j := 1) d_Mo_starts_127 rfl rfl ?_
    refine a_sipush d_Mo_starts_128 (by decide) ?_
    obtain ⟨o10, h⟩ := h
    refine b_iastore d_Mo_starts_131 ia_257 o10 (by omega : x1 < 3) ?_
    refine a_aload_n (j := 0) d_Mo_starts_132 rfl rfl ?_
    refine b_getptr (q := 258) d_Mo_starts_133 fl_Mo_118 io_226 rfl rfl rfl ?_
    refine a_iload_n (j := 1) d_Mo_starts_136 rfl rfl ?_
    refine a_bipush d_Mo_starts_137 (by decide) ?_
    refine b_iastore d_Mo_starts_139 ia_258 o10 (by omega : x1 < 3) ?_
    refine a_aload_n (j := 0) d_Mo_starts_140 rfl rfl ?_
    refine b_getptr (q := 259) d_Mo_starts_141 fl_Mo_121 io_226 rfl rfl rfl ?_
    refine a_iload_n (j := 1) d_Mo_starts_144 rfl rfl ?_
    refine a_iconst d_Mo_starts_145 (by unfold fs_in32; omega) ?_
    refine b_iastore d_Mo_starts_146 ia_259 o10 (by omega : x1 < 3) ?_
    refine a_aload_n (j := 0) d_Mo_starts_147 rfl rfl ?_
    refine b_getptr (q := 260) d_Mo_starts_148 fl_Mo_124 io_226 rfl rfl rfl ?_
    refine a_iload_n (j := 1) d_Mo_starts_151 rfl rfl ?_
    refine a_iconst d_Mo_starts_152 (by unfold fs_in32; omega) ?_
    refine b_iastore d_Mo_starts_153 ia_260 o10 (by omega : x1 < 3) ?_
    refine a_aload_n (j := 0) d_Mo_starts_154 rfl rfl ?_
    refine b_getptr (q := 254) d_Mo_starts_155 fl_Mo_106 io_226 rfl rfl rfl ?_
    refine a_iload_n (j := 1) d_Mo_starts_158 rfl rfl ?_
    refine a_aload_n (j := 0) d_Mo_starts_159 rfl rfl ?_
    refine b_getptr (q := 235) d_Mo_starts_160 fl_Mo_35 io_226 rfl rfl rfl ?_
    refine a_iload_n (j := 1) d_Mo_starts_163 rfl rfl ?_
    refine b_iaload (v := M 235 x1) d_Mo_starts_164 ia_235 o10 (by have q := (by omega : x1 < 3); omega) rfl ?_
    refine b_iastore d_Mo_starts_165 ia_254 o10 (by omega : x1 < 3) ?_
    refine a_aload_n (j := 0) d_Mo_starts_166 rfl rfl ?_
    refine b_getptr (q := 255) d_Mo_starts_167 fl_Mo_109 io_226 rfl rfl rfl ?_
    refine a_iload_n (j := 1) d_Mo_starts_170 rfl rfl ?_
    refine a_iconst d_Mo_starts_171 (by unfold fs_in32; omega) ?_
    refine b_iastore d_Mo_starts_172 ia_255 o10 (by omega : x1 < 3) ?_
    refine a_aload_n (j := 0) d_Mo_starts_173 rfl rfl ?_
    refine b_getptr (q := 256) d_Mo_starts_174 fl_Mo_112 io_226 rfl rfl rfl ?_
    refine a_iload_n (j := 1) d_Mo_starts_177 rfl rfl ?_
    refine a_aload_n (j := 0) d_Mo_starts_178 rfl rfl ?_
    refine b_getptr (q := 236) d_Mo_starts_179 fl_Mo_38 io_226 rfl rfl rfl ?_
    refine a_iload_n (j := 1) d_Mo_starts_182 rfl rfl ?_
    refine b_iaload (v := M 236 x1) d_Mo_starts_183 ia_236 o10 (by have q := (by omega : x1 < 3); omega) rfl ?_
    refine b_iastore d_Mo_starts_184 ia_256 o10 (by omega : x1 < 3) ?_
    refine a_aload_n (j := 0) d_Mo_starts_185 rfl rfl ?_
    refine a_iload_n (j := 1) d_Mo_starts_186 rfl rfl ?_
    refine b_virtual (dc := 1) (ci := 11) (T := fs_T11) (N := 78) [fs_i x1] [] d_Mo_starts_187 ml_Mo_317 k_Mo_isDark v_Mo_isDark rfl io_226 rfl (Nat.le_of_ble_eq_true rfl) rfl (Nat.le_of_ble_eq_true rfl) ?_
    refine fs_Call.mono (fun v M4 hv => ?_) h
    obtain ⟨r4, rfl, h⟩ := hv
    show fs_A2 g m_Mo_starts 7 190 [(0, fs_r 226), (1, fs_i x1)] [fs_i r4] M4 K
    refine a_if_eq (tgt := 225) d_Mo_starts_190 rfl (fun c11 => ?_) (fun c11 => ?_)
    · have h := h.1 c11
      refine a_iinc (j := 1) d_Mo_starts_225 rfl (Nat.le_of_ble_eq_true rfl) [1, 0] rfl ?_
      refine a_goto (tgt := 118) d_Mo_starts_228 rfl ?_
      exact h
    · have h := h.2 c11
      refine a_aload_n (j := 0) d_Mo_starts_193 rfl rfl ?_
      refine b_getfield (v := fs_i (M4 226 42)) d_Mo_starts_194 fl_Mo_88 io_226 rfl ?_
      refine a_iconst d_Mo_starts_197 (by unfold fs_in32; omega) ?_
      refine a_icmp_ne (tgt := 212) d_Mo_starts_198 rfl (fun c12 => ?_) (fun c12 => ?_)
      · have h := h.1 c12
        exact h
      · have h := h.2 c12
        refine a_aload_n (j := 0) d_Mo_starts_201 rfl rfl ?_
        refine b_getfield (v := fs_i (M4 226 43)) d_Mo_starts_202 fl_Mo_91 io_226 rfl ?_
        refine a_iload_n (j := 1) d_Mo_starts_205 rfl rfl ?_
        refine a_icmp_ne (tgt := 212) d_Mo_starts_206 rfl (fun c13 => ?_) (fun c13 => ?_)
        · have h := h.1 c13
          exact h
        · have h := h.2 c13
          refine a_goto (tgt := 225) d_Mo_starts_209 rfl ?_
          refine a_iinc (j := 1) d_Mo_starts_225 rfl (Nat.le_of_ble_eq_true rfl) [1, 0] rfl ?_
          refine a_goto (tgt := 118) d_Mo_starts_228 rfl ?_
          exact h
set_option maxRecDepth 8000 in
set_option maxHeartbeats 4000000 in
theorem L_Mo_starts_212 {M : fs_M} {K : fs_K} {x1 : Int} 
    (h : (0 ≤ x1 ∧ x1 < 3 ∧ fs_C2 g m_Mo_leaves 6 [fs_r 226, fs_i x1, fs_i 1] (fs_st M 253 x1 0) (fun v M5 => v = none ∧ fs_A2 g m_Mo_starts 7 118 [(0, fs_r 226), (1, fs_i (fs_w32 (x1 + 1)))] [] M5 K))) :
    fs_A2 g m_Mo_starts 7 212 [(0, fs_r 226), (1, fs_i x1)] [] M K := by
  refine a_aload_n (j := 0) d_Mo_starts_212 rfl rfl ?_
  refine b_getptr (q := 253) d_Mo_starts_213 fl_Mo_103 io_226 rfl rfl rfl ?_
  refine a_iload_n (j := 1) d_Mo_starts_216 rfl rfl ?_
  refine a_iconst d_Mo_starts_217 (by unfold fs_in32; omega) ?_
  obtain ⟨o14, o15, h⟩ := h
  refine b_iastore d_Mo_starts_218 ia_253 o14 o15 ?_
  refine a_aload_n (j := 0) d_Mo_starts_219 rfl rfl ?_
  refine a_iload_n (j := 1) d_Mo_starts_220 rfl rfl ?_
  refine a_iconst d_Mo_starts_221 (by unfold fs_in32; omega) ?_
  refine b_virtual (dc := 6) (ci := 11) (T := fs_T11) (N := 78) [fs_i x1, fs_i 1] [] d_Mo_starts_222 ml_Mo_391 k_Mo_leaves v_Mo_leaves rfl io_226 rfl (Nat.le_of_ble_eq_true rfl) rfl (Nat.le_of_ble_eq_true rfl) ?_
  refine fs_Call.mono (fun v M5 hv => ?_) h
  obtain ⟨rfl, h⟩ := hv
  show fs_A2 g m_Mo_starts 7 225 [(0, fs_r 226), (1, fs_i x1)] [] M5 K
  refine a_iinc (j := 1) d_Mo_starts_225 rfl (Nat.le_of_ble_eq_true rfl) [1, 0] rfl ?_
  refine a_goto (tgt := 118) d_Mo_starts_228 rfl ?_
  exact h
set_option maxRecDepth 8000 in
set_option maxHeartbeats 4000000 in
theorem E_Mo_isGone {M : fs_M} {K : fs_K} {x1 : Int} 
    (h : ((¬ M 226 42 = 3 → fs_A2 g m_Mo_isGone 1 16 [(0, fs_r 226), (1, fs_i x1)] [] M K) ∧ (M 226 42 = 3 → ((M 226 43 = x1 → K (some (fs_i 1)) M) ∧ (¬ M 226 43 = x1 → fs_A2 g m_Mo_isGone 1 16 [(0, fs_r 226), (1, fs_i x1)] [] M K))))) :
    fs_C2 g m_Mo_isGone 1 [fs_r 226, fs_i x1] M K := by
  refine b_enter2 (ls := [(0, fs_r 226), (1, fs_i x1)]) (plainFor_of_name pn_Mo) (Nat.le_of_ble_eq_true rfl) rfl ?_
  refine a_aload_n (j := 0) d_Mo_isGone_0 rfl rfl ?_
  refine b_getfield (v := fs_i (M 226 42)) d_Mo_isGone_1 fl_Mo_88 io_226 rfl ?_
  refine a_iconst d_Mo_isGone_4 (by unfold fs_in32; omega) ?_
  refine a_icmp_ne (tgt := 16) d_Mo_isGone_5 rfl (fun c1 => ?_) (fun c1 => ?_)
  · have h := h.1 c1
    exact h
  · have h := h.2 c1
    refine a_aload_n (j := 0) d_Mo_isGone_8 rfl rfl ?_
    refine b_getfield (v := fs_i (M 226 43)) d_Mo_isGone_9 fl_Mo_91 io_226 rfl ?_
    refine a_iload_n (j := 1) d_Mo_isGone_12 rfl rfl ?_
    refine a_icmp_eq (tgt := 24) d_Mo_isGone_13 rfl (fun c2 => ?_) (fun c2 => ?_)
    · have h := h.1 c2
      refine a_iconst d_Mo_isGone_24 (by unfold fs_in32; omega) ?_
      refine a_goto (tgt := 29) d_Mo_isGone_25 rfl ?_
      exact b_ireturn d_Mo_isGone_29 rfl (fs_nar01 (Or.inr rfl)) h
    · have h := h.2 c2
      exact h
set_option maxRecDepth 8000 in
set_option maxHeartbeats 4000000 in
theorem L_Mo_isGone_16 {M : fs_M} {K : fs_K} {x1 : Int} 
    (h : ((¬ M 226 44 = x1 → K (some (fs_i 0)) M) ∧ (M 226 44 = x1 → K (some (fs_i 1)) M))) :
    fs_A2 g m_Mo_isGone 1 16 [(0, fs_r 226), (1, fs_i x1)] [] M K := by
  refine a_aload_n (j := 0) d_Mo_isGone_16 rfl rfl ?_
  refine b_getfield (v := fs_i (M 226 44)) d_Mo_isGone_17 fl_Mo_94 io_226 rfl ?_
  refine a_iload_n (j := 1) d_Mo_isGone_20 rfl rfl ?_
  refine a_icmp_ne (tgt := 28) d_Mo_isGone_21 rfl (fun c3 => ?_) (fun c3 => ?_)
  · have h := h.1 c3
    refine a_iconst d_Mo_isGone_28 (by unfold fs_in32; omega) ?_
    exact b_ireturn d_Mo_isGone_29 rfl (fs_nar01 (Or.inl rfl)) h
  · have h := h.2 c3
    refine a_iconst d_Mo_isGone_24 (by unfold fs_in32; omega) ?_
    refine a_goto (tgt := 29) d_Mo_isGone_25 rfl ?_
    exact b_ireturn d_Mo_isGone_29 rfl (fs_nar01 (Or.inr rfl)) h
set_option maxRecDepth 8000 in
set_option maxHeartbeats 4000000 in
theorem E_Mo_leaves {M : fs_M} {K : fs_K} {x1 x2 : Int} 
    (h : (0 ≤ x1 ∧ x1 < 3 ∧ ((M 252 x1 ≤ M 253 x1 → fs_A2 g m_Mo_leaves 6 51 [(0, fs_r 226), (1, fs_i x1), (2, fs_i x2)] [] M K) ∧ (¬ M 252 x1 ≤ M 253 x1 → (0 ≤ fs_w32 ((fs_w32 (9 * x1)) + (M 253 x1)) ∧ fs_w32 ((fs_w32 (9 * x1)) + (M 253 x1)) < 27 ∧ fs_C2 g m_Mo_isGone 1 [fs_r 226, fs_i (M 251 (fs_w32 ((fs_w32 (9 * x1)) + (M 253 x1))))] M (fun v M1 => ∃ r1, v = some (fs_i r1) ∧ ((r1 = 0 → fs_A2 g m_Mo_leaves 6 51 [(0, fs_r 226), (1, fs_i x1), (2, fs_i x2)] [] M1 K) ∧ (¬ r1 = 0 → fs_A2 g m_Mo_leaves 6 0 [(0, fs_r 226), (1, fs_i x1), (2, fs_i x2)] [] (fs_st M1 253 x1 (fs_w32 ((M1 253 x1) + 1))) K)))))))) :
    fs_C2 g m_Mo_leaves 6 [fs_r 226, fs_i x1, fs_i x2] M K := by
  refine b_enter2 (ls := [(0, fs_r 226), (1, fs_i x1), (2, fs_i x2)]) (plainFor_of_name pn_Mo) (Nat.le_of_ble_eq_true rfl) rfl ?_
  refine a_aload_n (j := 0) d_Mo_leaves_0 rfl rfl ?_
  refine b_getptr (q := 253) d_Mo_leaves_1 fl_Mo_103 io_226 rfl rfl rfl ?_
  refine a_iload_n (j := 1) d_Mo_leaves_4 rfl rfl ?_
  obtain ⟨o1, o2, h⟩ := h
  refine b_iaload (v := M 253 x1) d_Mo_leaves_5 ia_253 o1 o2 rfl ?_
  refine a_aload_n (j := 0) d_Mo_leaves_6 rfl rfl ?_
  refine b_getptr (q := 252) d_Mo_leaves_7 fl_Mo_100 io_226 rfl rfl rfl ?_
  refine a_iload_n (j := 1) d_Mo_leaves_10 rfl rfl ?_
  refine b_iaload (v := M 252 x1) d_Mo_leaves_11 ia_252 o1 o2 rfl ?_
  refine a_icmp_ge (tgt := 51) d_Mo_leaves_12 rfl (fun c3 => ?_) (fun c3 => ?_)
  · have h := h.1 c3
    exact h
  · have h := h.2 c3
    refine a_aload_n (j := 0) d_Mo_leaves_15 rfl rfl ?_
    refine a_aload_n (j := 0) d_Mo_leaves_16 rfl rfl ?_
    refine b_getptr (q := 251) d_Mo_leaves_17 fl_Mo_97 io_226 rfl rfl rfl ?_
    refine a_bipush d_Mo_leaves_20 (by decide) ?_
    refine a_iload_n (j := 1) d_Mo_leaves_22 rfl rfl ?_
    refine a_imul d_Mo_leaves_23 ?_
    refine a_aload_n (j := 0) d_Mo_leaves_24 rfl rfl ?_
    refine b_getptr (q := 253) d_Mo_leaves_25 fl_Mo_103 io_226 rfl rfl rfl ?_
    refine a_iload_n (j := 1) d_Mo_leaves_28 rfl rfl ?_
    refine b_iaload (v := M 253 x1) d_Mo_leaves_29 ia_253 o1 o2 rfl ?_
    refine a_iadd d_Mo_leaves_30 ?_
    obtain ⟨o4, o5, h⟩ := h
    refine b_iaload (v := M 251 (fs_w32 ((fs_w32 (9 * x1)) + (M 253 x1)))) d_Mo_leaves_31 ia_251 o4 o5 rfl ?_
    refine b_virtual (dc := 1) (ci := 11) (T := fs_T11) (N := 78) [fs_i (M 251 (fs_w32 ((fs_w32 (9 * x1)) + (M 253 x1))))] [] d_Mo_leaves_32 ml_Mo_383 k_Mo_isGone v_Mo_isGone rfl io_226 rfl (Nat.le_of_ble_eq_true rfl) rfl (Nat.le_of_ble_eq_true rfl) ?_
    refine fs_Call.mono (fun v M1 hv => ?_) h
    obtain ⟨r1, rfl, h⟩ := hv
    show fs_A2 g m_Mo_leaves 6 35 [(0, fs_r 226), (1, fs_i x1), (2, fs_i x2)] [fs_i r1] M1 K
    refine a_if_eq (tgt := 51) d_Mo_leaves_35 rfl (fun c6 => ?_) (fun c6 => ?_)
    · have h := h.1 c6
      exact h
    · have h := h.2 c6
      refine a_aload_n (j := 0) d_Mo_leaves_38 rfl rfl ?_
      refine b_getptr (q := 253) d_Mo_leaves_39 fl_Mo_103 io_226 rfl rfl rfl ?_
      refine a_iload_n (j := 1) d_Mo_leaves_42 rfl rfl ?_
      refine a_dup2 d_Mo_leaves_43 rfl rfl ?_
      refine b_iaload (v := M1 253 x1) d_Mo_leaves_44 ia_253 o1 o2 rfl ?_
      refine a_iconst d_Mo_leaves_45 (by unfold fs_in32; omega) ?_
      refine a_iadd d_Mo_leaves_46 ?_
      refine b_iastore d_Mo_leaves_47 ia_253 o1 o2 ?_
      refine a_goto (tgt := 0) d_Mo_leaves_48 rfl ?_
      exact h
set_option maxRecDepth 8000 in
set_option maxHeartbeats 4000000 in
theorem L_Mo_leaves_0 {M : fs_M} {K : fs_K} {x1 x2 : Int} 
    (h : (0 ≤ x1 ∧ x1 < 3 ∧ ((M 252 x1 ≤ M 253 x1 → fs_A2 g m_Mo_leaves 6 51 [(0, fs_r 226), (1, fs_i x1), (2, fs_i x2)] [] M K) ∧ (¬ M 252 x1 ≤ M 253 x1 → (0 ≤ fs_w32 ((fs_w32 (9 * x1)) + (M 253 x1)) ∧ fs_w32 ((fs_w32 (9 * x1)) + (M 253 x1)) < 27 ∧ fs_C2 g m_Mo_isGone 1 [fs_r 226, fs_i (M 251 (fs_w32 ((fs_w32 (9 * x1)) + (M 253 x1))))] M (fun v M2 => ∃ r2, v = some (fs_i r2) ∧ ((r2 = 0 → fs_A2 g m_Mo_leaves 6 51 [(0, fs_r 226), (1, fs_i x1), (2, fs_i x2)] [] M2 K) ∧ (¬ r2 = 0 → fs_A2 g m_Mo_leaves 6 0 [(0, fs_r 226), (1, fs_i x1), (2, fs_i x2)] [] (fs_st M2 253 x1 (fs_w32 ((M2 253 x1) + 1))) K)))))))) :
    fs_A2 g m_Mo_leaves 6 0 [(0, fs_r 226), (1, fs_i x1), (2, fs_i x2)] [] M K := by
  refine a_aload_n (j := 0) d_Mo_leaves_0 rfl rfl ?_
  refine b_getptr (q := 253) d_Mo_leaves_1 fl_Mo_103 io_226 rfl rfl rfl ?_
  refine a_iload_n (j := 1) d_Mo_leaves_4 rfl rfl ?_
  obtain ⟨o7, o8, h⟩ := h
  refine b_iaload (v := M 253 x1) d_Mo_leaves_5 ia_253 o7 o8 rfl ?_
  refine a_aload_n (j := 0) d_Mo_leaves_6 rfl rfl ?_
  refine b_getptr (q := 252) d_Mo_leaves_7 fl_Mo_100 io_226 rfl rfl rfl ?_
  refine a_iload_n (j := 1) d_Mo_leaves_10 rfl rfl ?_
  refine b_iaload (v := M 252 x1) d_Mo_leaves_11 ia_252 o7 o8 rfl ?_
  refine a_icmp_ge (tgt := 51) d_Mo_leaves_12 rfl (fun c9 => ?_) (fun c9 => ?_)
  · have h := h.1 c9
    exact h
  · have h := h.2 c9
    refine a_aload_n (j := 0) d_Mo_leaves_15 rfl rfl ?_
    refine a_aload_n (j := 0) d_Mo_leaves_16 rfl rfl ?_
    refine b_getptr (q := 251) d_Mo_leaves_17 fl_Mo_97 io_226 rfl rfl rfl ?_
    refine a_bipush d_Mo_leaves_20 (by decide) ?_
    refine a_iload_n (j := 1) d_Mo_leaves_22 rfl rfl ?_
    refine a_imul d_Mo_leaves_23 ?_
    refine a_aload_n (j := 0) d_Mo_leaves_24 rfl rfl ?_
    refine b_getptr (q := 253) d_Mo_leaves_25 fl_Mo_103 io_226 rfl rfl rfl ?_
    refine a_iload_n (j := 1) d_Mo_leaves_28 rfl rfl ?_
    refine b_iaload (v := M 253 x1) d_Mo_leaves_29 ia_253 o7 o8 rfl ?_
    refine a_iadd d_Mo_leaves_30 ?_
    obtain ⟨o10, o11, h⟩ := h
    refine b_iaload (v := M 251 (fs_w32 ((fs_w32 (9 * x1)) + (M 253 x1)))) d_Mo_leaves_31 ia_251 o10 o11 rfl ?_
    refine b_virtual (dc := 1) (ci := 11) (T := fs_T11) (N := 78) [fs_i (M 251 (fs_w32 ((fs_w32 (9 * x1)) + (M 253 x1))))] [] d_Mo_leaves_32 ml_Mo_383 k_Mo_isGone v_Mo_isGone rfl io_226 rfl (Nat.le_of_ble_eq_true rfl) rfl (Nat.le_of_ble_eq_true rfl) ?_
    refine fs_Call.mono (fun v M2 hv => ?_) h
    obtain ⟨r2, rfl, h⟩ := hv
    show fs_A2 g m_Mo_leaves 6 35 [(0, fs_r 226), (1, fs_i x1), (2, fs_i x2)] [fs_i r2] M2 K
    refine a_if_eq (tgt := 51) d_Mo_leaves_35 rfl (fun c12 => ?_) (fun c12 => ?_)
    · have h := h.1 c12
      exact h
    · have h := h.2 c12
      refine a_aload_n (j := 0) d_Mo_leaves_38 rfl rfl ?_
      refine b_getptr (q := 253) d_Mo_leaves_39 fl_Mo_103 io_226 rfl rfl rfl ?_
      refine a_iload_n (j := 1) d_Mo_leaves_42 rfl rfl ?_
      refine a_dup2 d_Mo_leaves_43 rfl rfl ?_
      refine b_iaload (v := M2 253 x1) d_Mo_leaves_44 ia_253 o7 o8 rfl ?_
      refine a_iconst d_Mo_leaves_45 (by unfold fs_in32; omega) ?_
      refine a_iadd d_Mo_leaves_46 ?_
      refine b_iastore d_Mo_leaves_47 ia_253 o7 o8 ?_
      refine a_goto (tgt := 0) d_Mo_leaves_48 rfl ?_
      exact h
set_option maxRecDepth 8000 in
set_option maxHeartbeats 4000000 in
theorem L_Mo_leaves_51 {M : fs_M} {K : fs_K} {x1 x2 : Int} 
    (h : (0 ≤ x1 ∧ x1 < 3 ∧ ((M 252 x1 ≤ M 253 x1 → K none (fs_st M 257 x1 241)) ∧ (¬ M 252 x1 ≤ M 253 x1 → (0 ≤ fs_w32 ((fs_w32 (9 * x1)) + (M 253 x1)) ∧ fs_w32 ((fs_w32 (9 * x1)) + (M 253 x1)) < 27 ∧ fs_C2 g m_Mo_walkOf 5 [fs_r 226, fs_i (M 254 x1), fs_i (M 251 (fs_w32 ((fs_w32 (9 * x1)) + (M 253 x1)))), fs_i x2, fs_i (M 255 x1), fs_i (M 256 x1)] (fs_st M 257 x1 241) (fun v M3 => ∃ r3, v = some (fs_i r3) ∧ fs_C2 g m_Math_min_I 1 [fs_i 241, fs_i (fs_w32 (x2 + r3))] M3 (fun v M4 => ∃ r4, v = some (fs_i r4) ∧ K none (fs_st M4 257 x1 r4)))))))) :
    fs_A2 g m_Mo_leaves 6 51 [(0, fs_r 226), (1, fs_i x1), (2, fs_i x2)] [] M K := by
  refine a_aload_n (j := 0) d_Mo_leaves_51 rfl rfl ?_
  refine b_getptr (q := 257) d_Mo_leaves_52 fl_Mo_115 io_226 rfl rfl rfl ?_
  refine a_iload_n (j := 1) d_Mo_leaves_55 rfl rfl ?_
  refine a_sipush d_Mo_leaves_56 (by decide) ?_
  obtain ⟨o13, o14, h⟩ := h
  refine b_iastore d_Mo_leaves_59 ia_257 o13 o14 ?_
  refine a_aload_n (j := 0) d_Mo_leaves_60 rfl rfl ?_
  refine b_getptr (q := 253) d_Mo_leaves_61 fl_Mo_103 io_226 rfl rfl rfl ?_
  refine a_iload_n (j := 1) d_Mo_leaves_64 rfl rfl ?_
  refine b_iaload (v := M 253 x1) d_Mo_leaves_65 ia_253 o13 o14 rfl ?_
  refine a_aload_n (j := 0) d_Mo_leaves_66 rfl rfl ?_
  refine b_getptr (q := 252) d_Mo_leaves_67 fl_Mo_100 io_226 rfl rfl rfl ?_
  refine a_iload_n (j := 1) d_Mo_leaves_70 rfl rfl ?_
  refine b_iaload (v := M 252 x1) d_Mo_leaves_71 ia_252 o13 o14 rfl ?_
  refine a_icmp_ge (tgt := 128) d_Mo_leaves_72 rfl (fun c15 => ?_) (fun c15 => ?_)
  · have h := h.1 c15
    exact b_return d_Mo_leaves_128 rfl h
  · have h := h.2 c15
    refine a_aload_n (j := 0) d_Mo_leaves_75 rfl rfl ?_
    refine b_getptr (q := 257) d_Mo_leaves_76 fl_Mo_115 io_226 rfl rfl rfl ?_
    refine a_iload_n (j := 1) d_Mo_leaves_79 rfl rfl ?_
    refine a_sipush d_Mo_leaves_80 (by decide) ?_
    refine a_iload_n (j := 2) d_Mo_leaves_83 rfl rfl ?_
    refine a_aload_n (j := 0) d_Mo_leaves_84 rfl rfl ?_
    refine a_aload_n (j := 0) d_Mo_leaves_85 rfl rfl ?_
    refine b_getptr (q := 254) d_Mo_leaves_86 fl_Mo_106 io_226 rfl rfl rfl ?_
    refine a_iload_n (j := 1) d_Mo_leaves_89 rfl rfl ?_
    refine b_iaload (v := M 254 x1) d_Mo_leaves_90 ia_254 o13 o14 rfl ?_
    refine a_aload_n (j := 0) d_Mo_leaves_91 rfl rfl ?_
    refine b_getptr (q := 251) d_Mo_leaves_92 fl_Mo_97 io_226 rfl rfl rfl ?_
    refine a_bipush d_Mo_leaves_95 (by decide) ?_
    refine a_iload_n (j := 1) d_Mo_leaves_97 rfl rfl ?_
    refine a_imul d_Mo_leaves_98 ?_
    refine a_aload_n (j := 0) d_Mo_leaves_99 rfl rfl ?_
    refine b_getptr (q := 253) d_Mo_leaves_100 fl_Mo_103 io_226 rfl rfl rfl ?_
    refine a_iload_n (j := 1) d_Mo_leaves_103 rfl rfl ?_
    refine b_iaload (v := M 253 x1) d_Mo_leaves_104 ia_253 o13 o14 rfl ?_
    refine a_iadd d_Mo_leaves_105 ?_
    obtain ⟨o16, o17, h⟩ := h
    refine b_iaload (v := M 251 (fs_w32 ((fs_w32 (9 * x1)) + (M 253 x1)))) d_Mo_leaves_106 ia_251 o16 o17 rfl ?_
    refine a_iload_n (j := 2) d_Mo_leaves_107 rfl rfl ?_
    refine a_aload_n (j := 0) d_Mo_leaves_108 rfl rfl ?_
    refine b_getptr (q := 255) d_Mo_leaves_109 fl_Mo_109 io_226 rfl rfl rfl ?_
    refine a_iload_n (j := 1) d_Mo_leaves_112 rfl rfl ?_
    refine b_iaload (v := M 255 x1) d_Mo_leaves_113 ia_255 o13 o14 rfl ?_
    refine a_aload_n (j := 0) d_Mo_leaves_114 rfl rfl ?_
    refine b_getptr (q := 256) d_Mo_leaves_115 fl_Mo_112 io_226 rfl rfl rfl ?_
    refine a_iload_n (j := 1) d_Mo_leaves_118 rfl rfl ?_
    refine b_iaload (v := M 256 x1) d_Mo_leaves_119 ia_256 o13 o14 rfl ?_
    refine b_virtual (dc := 5) (ci := 11) (T := fs_T11) (N := 78) [fs_i (M 254 x1), fs_i (M 251 (fs_w32 ((fs_w32 (9 * x1)) + (M 253 x1)))), fs_i x2, fs_i (M 255 x1), fs_i (M 256 x1)] [fs_i x2, fs_i 241, fs_i x1, fs_r 257] d_Mo_leaves_120 ml_Mo_369 k_Mo_walkOf v_Mo_walkOf rfl io_226 rfl (Nat.le_of_ble_eq_true rfl) rfl (Nat.le_of_ble_eq_true rfl) ?_
    refine fs_Call.mono (fun v M3 hv => ?_) h
    obtain ⟨r3, rfl, h⟩ := hv
    show fs_A2 g m_Mo_leaves 6 123 [(0, fs_r 226), (1, fs_i x1), (2, fs_i x2)] [fs_i r3, fs_i x2, fs_i 241, fs_i x1, fs_r 257] M3 K
    refine a_iadd d_Mo_leaves_123 ?_
    refine b_static (dc := 1) [fs_i 241, fs_i (fs_w32 (x2 + r3))] [fs_i x1, fs_r 257] d_Mo_leaves_124 ml_Mo_386 k_Math_min_I s_Math_min_I rfl (Nat.le_of_ble_eq_true rfl) rfl (Nat.le_of_ble_eq_true rfl) ?_
    refine fs_Call.mono (fun v M4 hv => ?_) h
    obtain ⟨r4, rfl, h⟩ := hv
    show fs_A2 g m_Mo_leaves 6 127 [(0, fs_r 226), (1, fs_i x1), (2, fs_i x2)] [fs_i r4, fs_i x1, fs_r 257] M4 K
    refine b_iastore d_Mo_leaves_127 ia_257 o13 o14 ?_
    exact b_return d_Mo_leaves_128 rfl h
set_option maxRecDepth 8000 in
set_option maxHeartbeats 4000000 in
theorem E_Mo_next {M : fs_M} {K : fs_K} 
    (h : fs_A2 g m_Mo_next 1 4 [(0, fs_r 226), (1, fs_i 0), (2, fs_i 1)] [] M K) :
    fs_C2 g m_Mo_next 1 [fs_r 226] M K := by
  refine b_enter2 (ls := [(0, fs_r 226)]) (plainFor_of_name pn_Mo) (Nat.le_of_ble_eq_true rfl) rfl ?_
  refine a_iconst d_Mo_next_0 (by unfold fs_in32; omega) ?_
  refine a_istore_n d_Mo_next_1 rfl (Nat.le_of_ble_eq_true rfl) [1, 0] rfl ?_
  refine a_iconst d_Mo_next_2 (by unfold fs_in32; omega) ?_
  refine a_istore_n d_Mo_next_3 rfl (Nat.le_of_ble_eq_true rfl) [1, 2, 0] rfl ?_
  exact h
set_option maxRecDepth 8000 in
set_option maxHeartbeats 4000000 in
theorem L_Mo_next_4 {M : fs_M} {K : fs_K} {x1 x2 : Int} 
    (h : ((3 ≤ x2 → K (some (fs_i x1)) M) ∧ (¬ 3 ≤ x2 → (0 ≤ x2 ∧ (0 ≤ x1 ∧ x1 < 3 ∧ ((M 257 x1 ≤ M 257 x2 → fs_A2 g m_Mo_next 1 4 [(0, fs_r 226), (1, fs_i x1), (2, fs_i (fs_w32 (x2 + 1)))] [] M K) ∧ (¬ M 257 x1 ≤ M 257 x2 → fs_A2 g m_Mo_next 1 4 [(0, fs_r 226), (1, fs_i x2), (2, fs_i (fs_w32 (x2 + 1)))] [] M K))))))) :
    fs_A2 g m_Mo_next 1 4 [(0, fs_r 226), (1, fs_i x1), (2, fs_i x2)] [] M K := by
  refine a_iload_n (j := 2) d_Mo_next_4 rfl rfl ?_
  refine a_iconst d_Mo_next_5 (by unfold fs_in32; omega) ?_
  refine a_icmp_ge (tgt := 32) d_Mo_next_6 rfl (fun c1 => ?_) (fun c1 => ?_)
  · have h := h.1 c1
    refine a_iload_n (j := 1) d_Mo_next_32 rfl rfl ?_
    exact b_ireturn d_Mo_next_33 rfl rfl h
  · have h := h.2 c1
    refine a_aload_n (j := 0) d_Mo_next_9 rfl rfl ?_
    refine b_getptr (q := 257) d_Mo_next_10 fl_Mo_115 io_226 rfl rfl rfl ?_
    refine a_iload_n (j := 2) d_Mo_next_13 rfl rfl ?_
    obtain ⟨o2, h⟩ := h
    refine b_iaload (v := M 257 x2) d_Mo_next_14 ia_257 o2 (by omega : x2 < 3) rfl ?_
    refine a_aload_n (j := 0) d_Mo_next_15 rfl rfl ?_
    refine b_getptr (q := 257) d_Mo_next_16 fl_Mo_115 io_226 rfl rfl rfl ?_
    refine a_iload_n (j := 1) d_Mo_next_19 rfl rfl ?_
    obtain ⟨o3, o4, h⟩ := h
    refine b_iaload (v := M 257 x1) d_Mo_next_20 ia_257 o3 o4 rfl ?_
    refine a_icmp_ge (tgt := 26) d_Mo_next_21 rfl (fun c5 => ?_) (fun c5 => ?_)
    · have h := h.1 c5
      refine a_iinc (j := 2) d_Mo_next_26 rfl (Nat.le_of_ble_eq_true rfl) [1, 2, 0] rfl ?_
      refine a_goto (tgt := 4) d_Mo_next_29 rfl ?_
      exact h
    · have h := h.2 c5
      refine a_iload_n (j := 2) d_Mo_next_24 rfl rfl ?_
      refine a_istore_n d_Mo_next_25 rfl (Nat.le_of_ble_eq_true rfl) [1, 0, 2] rfl ?_
      refine a_iinc (j := 2) d_Mo_next_26 rfl (Nat.le_of_ble_eq_true rfl) [1, 2, 0] rfl ?_
      refine a_goto (tgt := 4) d_Mo_next_29 rfl ?_
      exact h
set_option maxRecDepth 8000 in
set_option maxHeartbeats 4000000 in
theorem E_Mo_arrives {M : fs_M} {K : fs_K} {x1 : Int} 
    (h : (0 ≤ x1 ∧ x1 < 3 ∧ (0 ≤ fs_w32 ((fs_w32 (9 * x1)) + (M 253 x1)) ∧ fs_w32 ((fs_w32 (9 * x1)) + (M 253 x1)) < 27 ∧ (0 ≤ M 251 (fs_w32 ((fs_w32 (9 * x1)) + (M 253 x1))) ∧ M 251 (fs_w32 ((fs_w32 (9 * x1)) + (M 253 x1))) < 12 ∧ fs_C2 g m_Mo_calls 1 [fs_r 226, fs_i (M 251 (fs_w32 ((fs_w32 (9 * x1)) + (M 253 x1)))), fs_i (M 257 x1), fs_i (M 255 x1), fs_i (M 256 x1)] (fs_st (fs_st M 258 x1 (M 253 x1)) 254 x1 (M 230 (M 251 (fs_w32 ((fs_w32 (9 * x1)) + (M 253 x1)))))) (fun v M1 => v = none ∧ (M 251 (fs_w32 ((fs_w32 (9 * x1)) + (M 253 x1))) < 6 ∧ ((¬ M1 261 (M 251 (fs_w32 ((fs_w32 (9 * x1)) + (M 253 x1)))) = (-1) → fs_A2 g m_Mo_arrives 7 171 [(0, fs_r 226), (1, fs_i x1), (2, fs_i (M 257 x1)), (3, fs_i (M 251 (fs_w32 ((fs_w32 (9 * x1)) + (M 253 x1))))), (4, fs_i 0)] [] M1 K) ∧ (M1 261 (M 251 (fs_w32 ((fs_w32 (9 * x1)) + (M 253 x1)))) = (-1) → ((M1 256 x1 ≤ 0 → fs_A2 g m_Mo_arrives 7 171 [(0, fs_r 226), (1, fs_i x1), (2, fs_i (M 257 x1)), (3, fs_i (M 251 (fs_w32 ((fs_w32 (9 * x1)) + (M 253 x1))))), (4, fs_i 0)] [] M1 K) ∧ (¬ M1 256 x1 ≤ 0 → fs_C2 g m_Mo_may 4 [fs_r 226] M1 (fun v M2 => ∃ r2, v = some (fs_i r2) ∧ ((r2 = 0 → fs_A2 g m_Mo_arrives 7 171 [(0, fs_r 226), (1, fs_i x1), (2, fs_i (M 257 x1)), (3, fs_i (M 251 (fs_w32 ((fs_w32 (9 * x1)) + (M 253 x1))))), (4, fs_i 0)] [] M2 K) ∧ (¬ r2 = 0 → ((M2 226 42 = 1 → fs_A2 g m_Mo_arrives 7 137 [(0, fs_r 226), (1, fs_i x1), (2, fs_i (M 257 x1)), (3, fs_i (M 251 (fs_w32 ((fs_w32 (9 * x1)) + (M 253 x1))))), (4, fs_i 0)] [] (fs_st (fs_st (fs_st M2 261 (M 251 (fs_w32 ((fs_w32 (9 * x1)) + (M 253 x1)))) x1) 262 (M 251 (fs_w32 ((fs_w32 (9 * x1)) + (M 253 x1)))) (M 257 x1)) 260 x1 (fs_w32 ((M2 260 x1) + 1))) K) ∧ (¬ M2 226 42 = 1 → fs_A2 g m_Mo_arrives 7 137 [(0, fs_r 226), (1, fs_i x1), (2, fs_i (M 257 x1)), (3, fs_i (M 251 (fs_w32 ((fs_w32 (9 * x1)) + (M 253 x1))))), (4, fs_i 0)] [] (fs_st (fs_st (fs_st (fs_st M2 261 (M 251 (fs_w32 ((fs_w32 (9 * x1)) + (M 253 x1)))) x1) 262 (M 251 (fs_w32 ((fs_w32 (9 * x1)) + (M 253 x1)))) (M 257 x1)) 260 x1 (fs_w32 ((M2 260 x1) + 1))) 256 x1 (fs_w32 ((M2 256 x1) - 1))) K))))))))))))))) :
    fs_C2 g m_Mo_arrives 7 [fs_r 226, fs_i x1] M K := by
  refine b_enter2 (ls := [(0, fs_r 226), (1, fs_i x1)]) (plainFor_of_name pn_Mo) (Nat.le_of_ble_eq_true rfl) rfl ?_
  refine a_aload_n (j := 0) d_Mo_arrives_0 rfl rfl ?_
  refine b_getptr (q := 257) d_Mo_arrives_1 fl_Mo_115 io_226 rfl rfl rfl ?_
  refine a_iload_n (j := 1) d_Mo_arrives_4 rfl rfl ?_
  obtain ⟨o1, o2, h⟩ := h
  refine b_iaload (v := M 257 x1) d_Mo_arrives_5 ia_257 o1 o2 rfl ?_
  refine a_istore_n d_Mo_arrives_6 rfl (Nat.le_of_ble_eq_true rfl) [1, 2, 0] rfl ?_
  refine a_aload_n (j := 0) d_Mo_arrives_7 rfl rfl ?_
  refine b_getptr (q := 251) d_Mo_arrives_8 fl_Mo_97 io_226 rfl rfl rfl ?_
  refine a_bipush d_Mo_arrives_11 (by decide) ?_
  refine a_iload_n (j := 1) d_Mo_arrives_13 rfl rfl ?_
  refine a_imul d_Mo_arrives_14 ?_
  refine a_aload_n (j := 0) d_Mo_arrives_15 rfl rfl ?_
  refine b_getptr (q := 253) d_Mo_arrives_16 fl_Mo_103 io_226 rfl rfl rfl ?_
  refine a_iload_n (j := 1) d_Mo_arrives_19 rfl rfl ?_
  refine b_iaload (v := M 253 x1) d_Mo_arrives_20 ia_253 o1 o2 rfl ?_
  refine a_iadd d_Mo_arrives_21 ?_
  obtain ⟨o3, o4, h⟩ := h
  refine b_iaload (v := M 251 (fs_w32 ((fs_w32 (9 * x1)) + (M 253 x1)))) d_Mo_arrives_22 ia_251 o3 o4 rfl ?_
  refine a_istore_n d_Mo_arrives_23 rfl (Nat.le_of_ble_eq_true rfl) [1, 2, 3, 0] rfl ?_
  refine a_aload_n (j := 0) d_Mo_arrives_24 rfl rfl ?_
  refine b_getptr (q := 258) d_Mo_arrives_25 fl_Mo_118 io_226 rfl rfl rfl ?_
  refine a_iload_n (j := 1) d_Mo_arrives_28 rfl rfl ?_
  refine a_aload_n (j := 0) d_Mo_arrives_29 rfl rfl ?_
  refine b_getptr (q := 253) d_Mo_arrives_30 fl_Mo_103 io_226 rfl rfl rfl ?_
  refine a_iload_n (j := 1) d_Mo_arrives_33 rfl rfl ?_
  refine b_iaload (v := M 253 x1) d_Mo_arrives_34 ia_253 o1 o2 rfl ?_
  refine b_iastore d_Mo_arrives_35 ia_258 o1 o2 ?_
  refine a_aload_n (j := 0) d_Mo_arrives_36 rfl rfl ?_
  refine b_getptr (q := 254) d_Mo_arrives_37 fl_Mo_106 io_226 rfl rfl rfl ?_
  refine a_iload_n (j := 1) d_Mo_arrives_40 rfl rfl ?_
  refine a_aload_n (j := 0) d_Mo_arrives_41 rfl rfl ?_
  refine b_getptr (q := 230) d_Mo_arrives_42 fl_Mo_19 io_226 rfl rfl rfl ?_
  refine a_iload_n (j := 3) d_Mo_arrives_45 rfl rfl ?_
  obtain ⟨o5, o6, h⟩ := h
  refine b_iaload (v := M 230 (M 251 (fs_w32 ((fs_w32 (9 * x1)) + (M 253 x1))))) d_Mo_arrives_46 ia_230 o5 o6 rfl ?_
  refine b_iastore d_Mo_arrives_47 ia_254 o1 o2 ?_
  refine a_iconst d_Mo_arrives_48 (by unfold fs_in32; omega) ?_
  refine a_istore d_Mo_arrives_49 (Nat.le_of_ble_eq_true rfl) [1, 2, 3, 4, 0] rfl ?_
  refine a_aload_n (j := 0) d_Mo_arrives_51 rfl rfl ?_
  refine a_iload_n (j := 3) d_Mo_arrives_52 rfl rfl ?_
  refine a_iload_n (j := 2) d_Mo_arrives_53 rfl rfl ?_
  refine a_aload_n (j := 0) d_Mo_arrives_54 rfl rfl ?_
  refine b_getptr (q := 255) d_Mo_arrives_55 fl_Mo_109 io_226 rfl rfl rfl ?_
  refine a_iload_n (j := 1) d_Mo_arrives_58 rfl rfl ?_
  refine b_iaload (v := M 255 x1) d_Mo_arrives_59 ia_255 o1 o2 rfl ?_
  refine a_aload_n (j := 0) d_Mo_arrives_60 rfl rfl ?_
  refine b_getptr (q := 256) d_Mo_arrives_61 fl_Mo_112 io_226 rfl rfl rfl ?_
  refine a_iload_n (j := 1) d_Mo_arrives_64 rfl rfl ?_
  refine b_iaload (v := M 256 x1) d_Mo_arrives_65 ia_256 o1 o2 rfl ?_
  refine b_virtual (dc := 1) (ci := 11) (T := fs_T11) (N := 78) [fs_i (M 251 (fs_w32 ((fs_w32 (9 * x1)) + (M 253 x1)))), fs_i (M 257 x1), fs_i (M 255 x1), fs_i (M 256 x1)] [] d_Mo_arrives_66 ml_Mo_353 k_Mo_calls v_Mo_calls rfl io_226 rfl (Nat.le_of_ble_eq_true rfl) rfl (Nat.le_of_ble_eq_true rfl) ?_
  refine fs_Call.mono (fun v M1 hv => ?_) h
  obtain ⟨rfl, h⟩ := hv
  show fs_A2 g m_Mo_arrives 7 69 [(0, fs_r 226), (1, fs_i x1), (2, fs_i (M 257 x1)), (3, fs_i (M 251 (fs_w32 ((fs_w32 (9 * x1)) + (M 253 x1))))), (4, fs_i 0)] [] M1 K
  refine a_aload_n (j := 0) d_Mo_arrives_69 rfl rfl ?_
  refine b_getptr (q := 261) d_Mo_arrives_70 fl_Mo_127 io_226 rfl rfl rfl ?_
  refine a_iload_n (j := 3) d_Mo_arrives_73 rfl rfl ?_
  obtain ⟨o7, h⟩ := h
  refine b_iaload (v := M1 261 (M 251 (fs_w32 ((fs_w32 (9 * x1)) + (M 253 x1))))) d_Mo_arrives_74 ia_261 o5 o7 rfl ?_
  refine a_iconst d_Mo_arrives_75 (by unfold fs_in32; omega) ?_
  refine a_icmp_ne (tgt := 171) d_Mo_arrives_76 rfl (fun c8 => ?_) (fun c8 => ?_)
  · have h := h.1 c8
    exact h
  · have h := h.2 c8
    refine a_aload_n (j := 0) d_Mo_arrives_79 rfl rfl ?_
    refine b_getptr (q := 256) d_Mo_arrives_80 fl_Mo_112 io_226 rfl rfl rfl ?_
    refine a_iload_n (j := 1) d_Mo_arrives_83 rfl rfl ?_
    refine b_iaload (v := M1 256 x1) d_Mo_arrives_84 ia_256 o1 o2 rfl ?_
    refine a_if_le (tgt := 171) d_Mo_arrives_85 rfl (fun c9 => ?_) (fun c9 => ?_)
    · have h := h.1 c9
      exact h
    · have h := h.2 c9
      refine a_aload_n (j := 0) d_Mo_arrives_88 rfl rfl ?_
      refine b_virtual (dc := 4) (ci := 11) (T := fs_T11) (N := 78) [] [] d_Mo_arrives_89 ml_Mo_373 k_Mo_may v_Mo_may rfl io_226 rfl (Nat.le_of_ble_eq_true rfl) rfl (Nat.le_of_ble_eq_true rfl) ?_
      refine fs_Call.mono (fun v M2 hv => ?_) h
      obtain ⟨r2, rfl, h⟩ := hv
      show fs_A2 g m_Mo_arrives 7 92 [(0, fs_r 226), (1, fs_i x1), (2, fs_i (M 257 x1)), (3, fs_i (M 251 (fs_w32 ((fs_w32 (9 * x1)) + (M 253 x1))))), (4, fs_i 0)] [fs_i r2] M2 K
      refine a_if_eq (tgt := 171) d_Mo_arrives_92 rfl (fun c10 => ?_) (fun c10 => ?_)
      · have h := h.1 c10
        exact h
      · have h := h.2 c10
        refine a_aload_n (j := 0) d_Mo_arrives_95 rfl rfl ?_
        refine b_getptr (q := 261) d_Mo_arrives_96 fl_Mo_127 io_226 rfl rfl rfl ?_
        refine a_iload_n (j := 3) d_Mo_arrives_99 rfl rfl ?_
        refine a_iload_n (j := 1) d_Mo_arrives_100 rfl rfl ?_
        refine b_iastore d_Mo_arrives_101 ia_261 o5 o7 ?_
        refine a_aload_n (j := 0) d_Mo_arrives_102 rfl rfl ?_
        refine b_getptr (q := 262) d_Mo_arrives_103 fl_Mo_130 io_226 rfl rfl rfl ?_
        refine a_iload_n (j := 3) d_Mo_arrives_106 rfl rfl ?_
        refine a_iload_n (j := 2) d_Mo_arrives_107 rfl rfl ?_
        refine b_iastore d_Mo_arrives_108 ia_262 o5 o7 ?_
        refine a_aload_n (j := 0) d_Mo_arrives_109 rfl rfl ?_
        refine b_getptr (q := 260) d_Mo_arrives_110 fl_Mo_124 io_226 rfl rfl rfl ?_
        refine a_iload_n (j := 1) d_Mo_arrives_113 rfl rfl ?_
        refine a_dup2 d_Mo_arrives_114 rfl rfl ?_
        refine b_iaload (v := M2 260 x1) d_Mo_arrives_115 ia_260 o1 o2 rfl ?_
        refine a_iconst d_Mo_arrives_116 (by unfold fs_in32; omega) ?_
        refine a_iadd d_Mo_arrives_117 ?_
        refine b_iastore d_Mo_arrives_118 ia_260 o1 o2 ?_
        refine a_aload_n (j := 0) d_Mo_arrives_119 rfl rfl ?_
        refine b_getfield (v := fs_i (M2 226 42)) d_Mo_arrives_120 fl_Mo_88 io_226 rfl ?_
        refine a_iconst d_Mo_arrives_123 (by unfold fs_in32; omega) ?_
        refine a_icmp_eq (tgt := 137) d_Mo_arrives_124 rfl (fun c11 => ?_) (fun c11 => ?_)
        · have h := h.1 c11
          exact h
        · have h := h.2 c11
          refine a_aload_n (j := 0) d_Mo_arrives_127 rfl rfl ?_
          refine b_getptr (q := 256) d_Mo_arrives_128 fl_Mo_112 io_226 rfl rfl rfl ?_
          refine a_iload_n (j := 1) d_Mo_arrives_131 rfl rfl ?_
          refine a_dup2 d_Mo_arrives_132 rfl rfl ?_
          refine b_iaload (v := M2 256 x1) d_Mo_arrives_133 ia_256 o1 o2 rfl ?_
          refine a_iconst d_Mo_arrives_134 (by unfold fs_in32; omega) ?_
          refine a_isub d_Mo_arrives_135 ?_
          refine b_iastore d_Mo_arrives_136 ia_256 o1 o2 ?_
          exact h
set_option maxRecDepth 8000 in
set_option maxHeartbeats 4000000 in
theorem L_Mo_arrives_137 {M : fs_M} {K : fs_K} {x1 x2 x3 x4 : Int} 
    (h : ((¬ fs_and (fs_shr (M 226 47) x3) 1 = 0 → fs_A2 g m_Mo_arrives 7 183 [(0, fs_r 226), (1, fs_i x1), (2, fs_i x2), (4, fs_i x4)] [] M K) ∧ (fs_and (fs_shr (M 226 47) x3) 1 = 0 → (0 ≤ x1 ∧ x1 < 3 ∧ fs_C2 g m_Mo_asks 4 [fs_r 226, fs_i 1, fs_i 60, fs_i 2] (fs_st M 255 x1 (fs_w32 ((M 255 x1) + 1))) (fun v M3 => ∃ r3, v = some (fs_i r3) ∧ fs_A2 g m_Mo_arrives 7 183 [(0, fs_r 226), (1, fs_i x1), (2, fs_i x2), (4, fs_i r3)] [] M3 K))))) :
    fs_A2 g m_Mo_arrives 7 137 [(0, fs_r 226), (1, fs_i x1), (2, fs_i x2), (3, fs_i x3), (4, fs_i x4)] [] M K := by
  refine a_aload_n (j := 0) d_Mo_arrives_137 rfl rfl ?_
  refine b_getfield (v := fs_i (M 226 47)) d_Mo_arrives_138 fl_Mo_380 io_226 rfl ?_
  refine a_iload_n (j := 3) d_Mo_arrives_141 rfl rfl ?_
  refine a_ishr d_Mo_arrives_142 ?_
  refine a_iconst d_Mo_arrives_143 (by unfold fs_in32; omega) ?_
  refine a_iand d_Mo_arrives_144 ?_
  refine a_if_ne (tgt := 183) d_Mo_arrives_145 rfl (fun c12 => ?_) (fun c12 => ?_)
  · have h := h.1 c12
    refine a_sub [0, 1, 2, 4] rfl ?_
    exact h
  · have h := h.2 c12
    refine a_aload_n (j := 0) d_Mo_arrives_148 rfl rfl ?_
    refine b_getptr (q := 255) d_Mo_arrives_149 fl_Mo_109 io_226 rfl rfl rfl ?_
    refine a_iload_n (j := 1) d_Mo_arrives_152 rfl rfl ?_
    refine a_dup2 d_Mo_arrives_153 rfl rfl ?_
    obtain ⟨o13, o14, h⟩ := h
    refine b_iaload (v := M 255 x1) d_Mo_arrives_154 ia_255 o13 o14 rfl ?_
    refine a_iconst d_Mo_arrives_155 (by unfold fs_in32; omega) ?_
    refine a_iadd d_Mo_arrives_156 ?_
    refine b_iastore d_Mo_arrives_157 ia_255 o13 o14 ?_
    refine a_aload_n (j := 0) d_Mo_arrives_158 rfl rfl ?_
    refine a_iconst d_Mo_arrives_159 (by unfold fs_in32; omega) ?_
    refine a_bipush d_Mo_arrives_160 (by decide) ?_
    refine a_iconst d_Mo_arrives_162 (by unfold fs_in32; omega) ?_
    refine b_virtual (dc := 4) (ci := 11) (T := fs_T11) (N := 78) [fs_i 1, fs_i 60, fs_i 2] [] d_Mo_arrives_163 ml_Mo_359 k_Mo_asks v_Mo_asks rfl io_226 rfl (Nat.le_of_ble_eq_true rfl) rfl (Nat.le_of_ble_eq_true rfl) ?_
    refine fs_Call.mono (fun v M3 hv => ?_) h
    obtain ⟨r3, rfl, h⟩ := hv
    show fs_A2 g m_Mo_arrives 7 166 [(0, fs_r 226), (1, fs_i x1), (2, fs_i x2), (3, fs_i x3), (4, fs_i x4)] [fs_i r3] M3 K
    refine a_istore d_Mo_arrives_166 (Nat.le_of_ble_eq_true rfl) [1, 2, 3, 4, 0] rfl ?_
    refine a_goto (tgt := 183) d_Mo_arrives_168 rfl ?_
    refine a_sub [0, 1, 2, 4] rfl ?_
    exact h
set_option maxRecDepth 8000 in
set_option maxHeartbeats 4000000 in
theorem L_Mo_arrives_183 {M : fs_M} {K : fs_K} {x1 x2 x4 : Int} 
    (h : (0 ≤ x1 ∧ x1 < 3 ∧ fs_C2 g m_Mo_leaves 6 [fs_r 226, fs_i x1, fs_i (fs_w32 (x2 + x4))] (fs_st (fs_st M 253 x1 (fs_w32 ((M 253 x1) + 1))) 259 x1 (fs_w32 (x2 + x4))) (fun v M4 => v = none ∧ K none M4))) :
    fs_A2 g m_Mo_arrives 7 183 [(0, fs_r 226), (1, fs_i x1), (2, fs_i x2), (4, fs_i x4)] [] M K := by
  refine a_aload_n (j := 0) d_Mo_arrives_183 rfl rfl ?_
  refine b_getptr (q := 253) d_Mo_arrives_184 fl_Mo_103 io_226 rfl rfl rfl ?_
  refine a_iload_n (j := 1) d_Mo_arrives_187 rfl rfl ?_
  refine a_dup2 d_Mo_arrives_188 rfl rfl ?_
  obtain ⟨o15, o16, h⟩ := h
  refine b_iaload (v := M 253 x1) d_Mo_arrives_189 ia_253 o15 o16 rfl ?_
  refine a_iconst d_Mo_arrives_190 (by unfold fs_in32; omega) ?_
  refine a_iadd d_Mo_arrives_191 ?_
  refine b_iastore d_Mo_arrives_192 ia_253 o15 o16 ?_
  refine a_aload_n (j := 0) d_Mo_arrives_193 rfl rfl ?_
  refine b_getptr (q := 259) d_Mo_arrives_194 fl_Mo_121 io_226 rfl rfl rfl ?_
  refine a_iload_n (j := 1) d_Mo_arrives_197 rfl rfl ?_
  refine a_iload_n (j := 2) d_Mo_arrives_198 rfl rfl ?_
  refine a_iload (j := 3) d_Mo_arrives_199 rfl ?_
  refine a_iadd d_Mo_arrives_201 ?_
  refine b_iastore d_Mo_arrives_202 ia_259 o15 o16 ?_
  refine a_aload_n (j := 0) d_Mo_arrives_203 rfl rfl ?_
  refine a_iload_n (j := 1) d_Mo_arrives_204 rfl rfl ?_
  refine a_iload_n (j := 2) d_Mo_arrives_205 rfl rfl ?_
  refine a_iload (j := 3) d_Mo_arrives_206 rfl ?_
  refine a_iadd d_Mo_arrives_208 ?_
  refine b_virtual (dc := 6) (ci := 11) (T := fs_T11) (N := 78) [fs_i x1, fs_i (fs_w32 (x2 + x4))] [] d_Mo_arrives_209 ml_Mo_391 k_Mo_leaves v_Mo_leaves rfl io_226 rfl (Nat.le_of_ble_eq_true rfl) rfl (Nat.le_of_ble_eq_true rfl) ?_
  refine fs_Call.mono (fun v M4 hv => ?_) h
  obtain ⟨rfl, h⟩ := hv
  show fs_A2 g m_Mo_arrives 7 212 [(0, fs_r 226), (1, fs_i x1), (2, fs_i x2), (4, fs_i x4)] [] M4 K
  exact b_return d_Mo_arrives_212 rfl h
set_option maxRecDepth 8000 in
set_option maxHeartbeats 4000000 in
theorem L_Mo_arrives_171 {M : fs_M} {K : fs_K} {x1 x2 x3 x4 : Int} 
    (h : fs_A2 g m_Mo_arrives 7 183 [(0, fs_r 226), (1, fs_i x1), (2, fs_i x2), (4, fs_i x4)] [] (fs_st M 226 56 (fs_or (M 226 56) (fs_shl 1 x3))) K) :
    fs_A2 g m_Mo_arrives 7 171 [(0, fs_r 226), (1, fs_i x1), (2, fs_i x2), (3, fs_i x3), (4, fs_i x4)] [] M K := by
  refine a_aload_n (j := 0) d_Mo_arrives_171 rfl rfl ?_
  refine a_dup d_Mo_arrives_172 rfl ?_
  refine b_getfield (v := fs_i (M 226 56)) d_Mo_arrives_173 fl_Mo_388 io_226 rfl ?_
  refine a_iconst d_Mo_arrives_176 (by unfold fs_in32; omega) ?_
  refine a_iload_n (j := 3) d_Mo_arrives_177 rfl rfl ?_
  refine a_ishl d_Mo_arrives_178 ?_
  refine a_ior d_Mo_arrives_179 ?_
  refine b_putfield (x := (fs_or (M 226 56) (fs_shl 1 x3))) d_Mo_arrives_180 fl_Mo_388 io_226 rfl rfl fs_nar_int ?_
  refine a_sub [0, 1, 2, 4] rfl ?_
  exact h
set_option maxRecDepth 8000 in
set_option maxHeartbeats 4000000 in
theorem E_Mo_where {M : fs_M} {K : fs_K} {x1 x2 : Int} 
    (h : fs_C2 g m_Mo_isDark 1 [fs_r 226, fs_i x1] (fs_st M 226 0 0) (fun v M1 => ∃ r1, v = some (fs_i r1) ∧ ((r1 = 0 → K (some (fs_i (-1))) M1) ∧ (¬ r1 = 0 → fs_C2 g m_Mo_isMinute 1 [fs_i x2] M1 (fun v M2 => ∃ r2, v = some (fs_i r2) ∧ ((¬ r2 = 0 → fs_C2 g m_Mo_asIs 2 [fs_r 226] M2 (fun v M3 => v = none ∧ fs_C2 g m_Mo_walks 8 [fs_r 226, fs_i x2] M3 (fun v M4 => v = none ∧ (0 ≤ x1 ∧ x1 < 3 ∧ K (some (fs_i (M4 258 x1))) M4)))) ∧ (r2 = 0 → K (some (fs_i (-1))) M2))))))) :
    fs_C2 g m_Mo_where 9 [fs_r 226, fs_i x1, fs_i x2] M K := by
  refine b_enter2 (ls := [(0, fs_r 226), (1, fs_i x1), (2, fs_i x2)]) (plainFor_of_name pn_Mo) (Nat.le_of_ble_eq_true rfl) rfl ?_
  refine a_aload_n (j := 0) d_Mo_where_0 rfl rfl ?_
  refine a_iconst d_Mo_where_1 (by unfold fs_in32; omega) ?_
  refine b_putfield (x := 0) d_Mo_where_2 fl_Mo_160 io_226 rfl rfl fs_nar_int ?_
  refine a_aload_n (j := 0) d_Mo_where_5 rfl rfl ?_
  refine a_iload_n (j := 1) d_Mo_where_6 rfl rfl ?_
  refine b_virtual (dc := 1) (ci := 11) (T := fs_T11) (N := 78) [fs_i x1] [] d_Mo_where_7 ml_Mo_317 k_Mo_isDark v_Mo_isDark rfl io_226 rfl (Nat.le_of_ble_eq_true rfl) rfl (Nat.le_of_ble_eq_true rfl) ?_
  refine fs_Call.mono (fun v M1 hv => ?_) h
  obtain ⟨r1, rfl, h⟩ := hv
  show fs_A2 g m_Mo_where 9 10 [(0, fs_r 226), (1, fs_i x1), (2, fs_i x2)] [fs_i r1] M1 K
  refine a_if_eq (tgt := 20) d_Mo_where_10 rfl (fun c1 => ?_) (fun c1 => ?_)
  · have h := h.1 c1
    refine a_iconst d_Mo_where_20 (by unfold fs_in32; omega) ?_
    exact b_ireturn d_Mo_where_21 rfl rfl h
  · have h := h.2 c1
    refine a_iload_n (j := 2) d_Mo_where_13 rfl rfl ?_
    refine b_static (dc := 1) [fs_i x2] [] d_Mo_where_14 ml_Mo_363 k_Mo_isMinute s_Mo_isMinute rfl (Nat.le_of_ble_eq_true rfl) rfl (Nat.le_of_ble_eq_true rfl) ?_
    refine fs_Call.mono (fun v M2 hv => ?_) h
    obtain ⟨r2, rfl, h⟩ := hv
    show fs_A2 g m_Mo_where 9 17 [(0, fs_r 226), (1, fs_i x1), (2, fs_i x2)] [fs_i r2] M2 K
    refine a_if_ne (tgt := 22) d_Mo_where_17 rfl (fun c2 => ?_) (fun c2 => ?_)
    · have h := h.1 c2
      refine a_aload_n (j := 0) d_Mo_where_22 rfl rfl ?_
      refine b_virtual (dc := 2) (ci := 11) (T := fs_T11) (N := 78) [] [] d_Mo_where_23 ml_Mo_406 k_Mo_asIs v_Mo_asIs rfl io_226 rfl (Nat.le_of_ble_eq_true rfl) rfl (Nat.le_of_ble_eq_true rfl) ?_
      refine fs_Call.mono (fun v M3 hv => ?_) h
      obtain ⟨rfl, h⟩ := hv
      show fs_A2 g m_Mo_where 9 26 [(0, fs_r 226), (1, fs_i x1), (2, fs_i x2)] [] M3 K
      refine a_aload_n (j := 0) d_Mo_where_26 rfl rfl ?_
      refine a_iload_n (j := 2) d_Mo_where_27 rfl rfl ?_
      refine b_virtual (dc := 8) (ci := 11) (T := fs_T11) (N := 78) [fs_i x2] [] d_Mo_where_28 ml_Mo_409 k_Mo_walks v_Mo_walks rfl io_226 rfl (Nat.le_of_ble_eq_true rfl) rfl (Nat.le_of_ble_eq_true rfl) ?_
      refine fs_Call.mono (fun v M4 hv => ?_) h
      obtain ⟨rfl, h⟩ := hv
      show fs_A2 g m_Mo_where 9 31 [(0, fs_r 226), (1, fs_i x1), (2, fs_i x2)] [] M4 K
      refine a_aload_n (j := 0) d_Mo_where_31 rfl rfl ?_
      refine b_getptr (q := 258) d_Mo_where_32 fl_Mo_118 io_226 rfl rfl rfl ?_
      refine a_iload_n (j := 1) d_Mo_where_35 rfl rfl ?_
      obtain ⟨o3, o4, h⟩ := h
      refine b_iaload (v := M4 258 x1) d_Mo_where_36 ia_258 o3 o4 rfl ?_
      exact b_ireturn d_Mo_where_37 rfl rfl h
    · have h := h.2 c2
      refine a_iconst d_Mo_where_20 (by unfold fs_in32; omega) ?_
      exact b_ireturn d_Mo_where_21 rfl rfl h
set_option maxRecDepth 8000 in
set_option maxHeartbeats 4000000 in
theorem E_Mo_gain {M : fs_M} {K : fs_K} 
    (h : fs_C2 g m_Mo_gainAsIs 9 [fs_r 226] (fs_st M 226 0 0) (fun v M1 => ∃ r1, v = some (fs_i r1) ∧ K (some (fs_i r1)) M1)) :
    fs_C2 g m_Mo_gain 10 [fs_r 226] M K := by
  refine b_enter2 (ls := [(0, fs_r 226)]) (plainFor_of_name pn_Mo) (Nat.le_of_ble_eq_true rfl) rfl ?_
  refine a_aload_n (j := 0) d_Mo_gain_0 rfl rfl ?_
  refine a_iconst d_Mo_gain_1 (by unfold fs_in32; omega) ?_
  refine b_putfield (x := 0) d_Mo_gain_2 fl_Mo_160 io_226 rfl rfl fs_nar_int ?_
  refine a_aload_n (j := 0) d_Mo_gain_5 rfl rfl ?_
  refine b_virtual (dc := 9) (ci := 11) (T := fs_T11) (N := 78) [] [] d_Mo_gain_6 ml_Mo_428 k_Mo_gainAsIs v_Mo_gainAsIs rfl io_226 rfl (Nat.le_of_ble_eq_true rfl) rfl (Nat.le_of_ble_eq_true rfl) ?_
  refine fs_Call.mono (fun v M1 hv => ?_) h
  obtain ⟨r1, rfl, h⟩ := hv
  show fs_A2 g m_Mo_gain 10 9 [(0, fs_r 226)] [fs_i r1] M1 K
  exact b_ireturn d_Mo_gain_9 rfl rfl h
set_option maxRecDepth 8000 in
set_option maxHeartbeats 4000000 in
theorem E_Mo_gainAsIs {M : fs_M} {K : fs_K} 
    (h : fs_C2 g m_Mo_asIs 2 [fs_r 226] M (fun v M1 => v = none ∧ fs_C2 g m_Mo_walks 8 [fs_r 226, fs_i 240] M1 (fun v M2 => v = none ∧ fs_C2 g m_Mo_gains 2 [fs_r 226] M2 (fun v M3 => ∃ r3, v = some (fs_i r3) ∧ K (some (fs_i r3)) M3)))) :
    fs_C2 g m_Mo_gainAsIs 9 [fs_r 226] M K := by
  refine b_enter2 (ls := [(0, fs_r 226)]) (plainFor_of_name pn_Mo) (Nat.le_of_ble_eq_true rfl) rfl ?_
  refine a_aload_n (j := 0) d_Mo_gainAsIs_0 rfl rfl ?_
  refine b_virtual (dc := 2) (ci := 11) (T := fs_T11) (N := 78) [] [] d_Mo_gainAsIs_1 ml_Mo_406 k_Mo_asIs v_Mo_asIs rfl io_226 rfl (Nat.le_of_ble_eq_true rfl) rfl (Nat.le_of_ble_eq_true rfl) ?_
  refine fs_Call.mono (fun v M1 hv => ?_) h
  obtain ⟨rfl, h⟩ := hv
  show fs_A2 g m_Mo_gainAsIs 9 4 [(0, fs_r 226)] [] M1 K
  refine a_aload_n (j := 0) d_Mo_gainAsIs_4 rfl rfl ?_
  refine a_sipush d_Mo_gainAsIs_5 (by decide) ?_
  refine b_virtual (dc := 8) (ci := 11) (T := fs_T11) (N := 78) [fs_i 240] [] d_Mo_gainAsIs_8 ml_Mo_409 k_Mo_walks v_Mo_walks rfl io_226 rfl (Nat.le_of_ble_eq_true rfl) rfl (Nat.le_of_ble_eq_true rfl) ?_
  refine fs_Call.mono (fun v M2 hv => ?_) h
  obtain ⟨rfl, h⟩ := hv
  show fs_A2 g m_Mo_gainAsIs 9 11 [(0, fs_r 226)] [] M2 K
  refine a_aload_n (j := 0) d_Mo_gainAsIs_11 rfl rfl ?_
  refine b_virtual (dc := 2) (ci := 11) (T := fs_T11) (N := 78) [] [] d_Mo_gainAsIs_12 ml_Mo_412 k_Mo_gains v_Mo_gains rfl io_226 rfl (Nat.le_of_ble_eq_true rfl) rfl (Nat.le_of_ble_eq_true rfl) ?_
  refine fs_Call.mono (fun v M3 hv => ?_) h
  obtain ⟨r3, rfl, h⟩ := hv
  show fs_A2 g m_Mo_gainAsIs 9 15 [(0, fs_r 226)] [fs_i r3] M3 K
  exact b_ireturn d_Mo_gainAsIs_15 rfl rfl h
set_option maxRecDepth 8000 in
set_option maxHeartbeats 4000000 in
theorem E_Mo_gains {M : fs_M} {K : fs_K} 
    (h : fs_A2 g m_Mo_gains 2 4 [(0, fs_r 226), (1, fs_i 0), (2, fs_i 0)] [] M K) :
    fs_C2 g m_Mo_gains 2 [fs_r 226] M K := by
  refine b_enter2 (ls := [(0, fs_r 226)]) (plainFor_of_name pn_Mo) (Nat.le_of_ble_eq_true rfl) rfl ?_
  refine a_iconst d_Mo_gains_0 (by unfold fs_in32; omega) ?_
  refine a_istore_n d_Mo_gains_1 rfl (Nat.le_of_ble_eq_true rfl) [1, 0] rfl ?_
  refine a_iconst d_Mo_gains_2 (by unfold fs_in32; omega) ?_
  refine a_istore_n d_Mo_gains_3 rfl (Nat.le_of_ble_eq_true rfl) [1, 2, 0] rfl ?_
  exact h
set_option maxRecDepth 8000 in
set_option maxHeartbeats 4000000 in
theorem L_Mo_gains_4 {M : fs_M} {K : fs_K} {x1 x2 : Int} 
    (h : ((M 228 0 ≤ x2 → K (some (fs_i x1)) M) ∧ (¬ M 228 0 ≤ x2 → fs_C2 g m_Mo_gainOf 1 [fs_r 226, fs_i x2] M (fun v M1 => ∃ r1, v = some (fs_i r1) ∧ fs_A2 g m_Mo_gains 2 4 [(0, fs_r 226), (1, fs_i (fs_w32 (x1 + r1))), (2, fs_i (fs_w32 (x2 + 1)))] [] M1 K)))) :
    fs_A2 g m_Mo_gains 2 4 [(0, fs_r 226), (1, fs_i x1), (2, fs_i x2)] [] M K := by
  refine a_iload_n (j := 2) d_Mo_gains_4 rfl rfl ?_
  refine a_aload_n (j := 0) d_Mo_gains_5 rfl rfl ?_
  refine b_getptr (q := 228) d_Mo_gains_6 fl_Mo_13 io_226 rfl rfl rfl ?_
  refine a_iconst d_Mo_gains_9 (by unfold fs_in32; omega) ?_
  refine b_iaload (v := M 228 0) d_Mo_gains_10 ia_228 (by decide) (by decide) rfl ?_
  refine a_icmp_ge (tgt := 28) d_Mo_gains_11 rfl (fun c1 => ?_) (fun c1 => ?_)
  · have h := h.1 c1
    refine a_iload_n (j := 1) d_Mo_gains_28 rfl rfl ?_
    exact b_ireturn d_Mo_gains_29 rfl rfl h
  · have h := h.2 c1
    refine a_iload_n (j := 1) d_Mo_gains_14 rfl rfl ?_
    refine a_aload_n (j := 0) d_Mo_gains_15 rfl rfl ?_
    refine a_iload_n (j := 2) d_Mo_gains_16 rfl rfl ?_
    refine b_virtual (dc := 1) (ci := 11) (T := fs_T11) (N := 78) [fs_i x2] [fs_i x1] d_Mo_gains_17 ml_Mo_403 k_Mo_gainOf v_Mo_gainOf rfl io_226 rfl (Nat.le_of_ble_eq_true rfl) rfl (Nat.le_of_ble_eq_true rfl) ?_
    refine fs_Call.mono (fun v M1 hv => ?_) h
    obtain ⟨r1, rfl, h⟩ := hv
    show fs_A2 g m_Mo_gains 2 20 [(0, fs_r 226), (1, fs_i x1), (2, fs_i x2)] [fs_i r1, fs_i x1] M1 K
    refine a_iadd d_Mo_gains_20 ?_
    refine a_istore_n d_Mo_gains_21 rfl (Nat.le_of_ble_eq_true rfl) [1, 0, 2] rfl ?_
    refine a_iinc (j := 2) d_Mo_gains_22 rfl (Nat.le_of_ble_eq_true rfl) [1, 2, 0] rfl ?_
    refine a_goto (tgt := 4) d_Mo_gains_25 rfl ?_
    exact h
set_option maxRecDepth 8000 in
set_option maxHeartbeats 4000000 in
theorem E_Mo_gainOf {M : fs_M} {K : fs_K} {x1 : Int} 
    (h : (0 ≤ x1 ∧ x1 < 6 ∧ ((M 261 x1 = (-1) → K (some (fs_i 0)) M) ∧ (¬ M 261 x1 = (-1) → ((M 261 x1 = (-3) → K (some (fs_i 0)) M) ∧ (¬ M 261 x1 = (-3) → ((M 262 x1 ≤ M 232 x1 → ((M 226 42 = 0 → K (some (fs_i (M 231 x1))) M) ∧ (¬ M 226 42 = 0 → ((¬ fs_and (fs_shr (M 226 47) x1) 1 = 1 → K (some (fs_i (M 231 x1))) M) ∧ (fs_and (fs_shr (M 226 47) x1) 1 = 1 → ((M 261 x1 < 0 → K (some (fs_i (M 231 x1))) M) ∧ (¬ M 261 x1 < 0 → K (some (fs_i (fs_div (M 231 x1) 2))) M))))))) ∧ (¬ M 262 x1 ≤ M 232 x1 → K (some (fs_i 0)) M)))))))) :
    fs_C2 g m_Mo_gainOf 1 [fs_r 226, fs_i x1] M K := by
  refine b_enter2 (ls := [(0, fs_r 226), (1, fs_i x1)]) (plainFor_of_name pn_Mo) (Nat.le_of_ble_eq_true rfl) rfl ?_
  refine a_aload_n (j := 0) d_Mo_gainOf_0 rfl rfl ?_
  refine b_getptr (q := 261) d_Mo_gainOf_1 fl_Mo_127 io_226 rfl rfl rfl ?_
  refine a_iload_n (j := 1) d_Mo_gainOf_4 rfl rfl ?_
  obtain ⟨o1, o2, h⟩ := h
  refine b_iaload (v := M 261 x1) d_Mo_gainOf_5 ia_261 o1 o2 rfl ?_
  refine a_iconst d_Mo_gainOf_6 (by unfold fs_in32; omega) ?_
  refine a_icmp_eq (tgt := 36) d_Mo_gainOf_7 rfl (fun c3 => ?_) (fun c3 => ?_)
  · have h := h.1 c3
    refine a_iconst d_Mo_gainOf_36 (by unfold fs_in32; omega) ?_
    exact b_ireturn d_Mo_gainOf_37 rfl rfl h
  · have h := h.2 c3
    refine a_aload_n (j := 0) d_Mo_gainOf_10 rfl rfl ?_
    refine b_getptr (q := 261) d_Mo_gainOf_11 fl_Mo_127 io_226 rfl rfl rfl ?_
    refine a_iload_n (j := 1) d_Mo_gainOf_14 rfl rfl ?_
    refine b_iaload (v := M 261 x1) d_Mo_gainOf_15 ia_261 o1 o2 rfl ?_
    refine a_bipush d_Mo_gainOf_16 (by decide) ?_
    refine a_icmp_eq (tgt := 36) d_Mo_gainOf_18 rfl (fun c4 => ?_) (fun c4 => ?_)
    · have h := h.1 c4
      refine a_iconst d_Mo_gainOf_36 (by unfold fs_in32; omega) ?_
      exact b_ireturn d_Mo_gainOf_37 rfl rfl h
    · have h := h.2 c4
      refine a_aload_n (j := 0) d_Mo_gainOf_21 rfl rfl ?_
      refine b_getptr (q := 262) d_Mo_gainOf_22 fl_Mo_130 io_226 rfl rfl rfl ?_
      refine a_iload_n (j := 1) d_Mo_gainOf_25 rfl rfl ?_
      refine b_iaload (v := M 262 x1) d_Mo_gainOf_26 ia_262 o1 o2 rfl ?_
      refine a_aload_n (j := 0) d_Mo_gainOf_27 rfl rfl ?_
      refine b_getptr (q := 232) d_Mo_gainOf_28 fl_Mo_25 io_226 rfl rfl rfl ?_
      refine a_iload_n (j := 1) d_Mo_gainOf_31 rfl rfl ?_
      refine b_iaload (v := M 232 x1) d_Mo_gainOf_32 ia_232 o1 (by have q := o2; omega) rfl ?_
      refine a_icmp_le (tgt := 38) d_Mo_gainOf_33 rfl (fun c5 => ?_) (fun c5 => ?_)
      · have h := h.1 c5
        refine a_aload_n (j := 0) d_Mo_gainOf_38 rfl rfl ?_
        refine b_getfield (v := fs_i (M 226 42)) d_Mo_gainOf_39 fl_Mo_88 io_226 rfl ?_
        refine a_if_eq (tgt := 77) d_Mo_gainOf_42 rfl (fun c6 => ?_) (fun c6 => ?_)
        · have h := h.1 c6
          refine a_aload_n (j := 0) d_Mo_gainOf_77 rfl rfl ?_
          refine b_getptr (q := 231) d_Mo_gainOf_78 fl_Mo_22 io_226 rfl rfl rfl ?_
          refine a_iload_n (j := 1) d_Mo_gainOf_81 rfl rfl ?_
          refine b_iaload (v := M 231 x1) d_Mo_gainOf_82 ia_231 o1 (by have q := o2; omega) rfl ?_
          exact b_ireturn d_Mo_gainOf_83 rfl rfl h
        · have h := h.2 c6
          refine a_aload_n (j := 0) d_Mo_gainOf_45 rfl rfl ?_
          refine b_getfield (v := fs_i (M 226 47)) d_Mo_gainOf_46 fl_Mo_380 io_226 rfl ?_
          refine a_iload_n (j := 1) d_Mo_gainOf_49 rfl rfl ?_
          refine a_ishr d_Mo_gainOf_50 ?_
          refine a_iconst d_Mo_gainOf_51 (by unfold fs_in32; omega) ?_
          refine a_iand d_Mo_gainOf_52 ?_
          refine a_iconst d_Mo_gainOf_53 (by unfold fs_in32; omega) ?_
          refine a_icmp_ne (tgt := 77) d_Mo_gainOf_54 rfl (fun c7 => ?_) (fun c7 => ?_)
          · have h := h.1 c7
            refine a_aload_n (j := 0) d_Mo_gainOf_77 rfl rfl ?_
            refine b_getptr (q := 231) d_Mo_gainOf_78 fl_Mo_22 io_226 rfl rfl rfl ?_
            refine a_iload_n (j := 1) d_Mo_gainOf_81 rfl rfl ?_
            refine b_iaload (v := M 231 x1) d_Mo_gainOf_82 ia_231 o1 (by have q := o2; omega) rfl ?_
            exact b_ireturn d_Mo_gainOf_83 rfl rfl h
          · have h := h.2 c7
            refine a_aload_n (j := 0) d_Mo_gainOf_57 rfl rfl ?_
            refine b_getptr (q := 261) d_Mo_gainOf_58 fl_Mo_127 io_226 rfl rfl rfl ?_
            refine a_iload_n (j := 1) d_Mo_gainOf_61 rfl rfl ?_
            refine b_iaload (v := M 261 x1) d_Mo_gainOf_62 ia_261 o1 o2 rfl ?_
            refine a_if_lt (tgt := 77) d_Mo_gainOf_63 rfl (fun c8 => ?_) (fun c8 => ?_)
            · have h := h.1 c8
              refine a_aload_n (j := 0) d_Mo_gainOf_77 rfl rfl ?_
              refine b_getptr (q := 231) d_Mo_gainOf_78 fl_Mo_22 io_226 rfl rfl rfl ?_
              refine a_iload_n (j := 1) d_Mo_gainOf_81 rfl rfl ?_
              refine b_iaload (v := M 231 x1) d_Mo_gainOf_82 ia_231 o1 (by have q := o2; omega) rfl ?_
              exact b_ireturn d_Mo_gainOf_83 rfl rfl h
            · have h := h.2 c8
              refine a_aload_n (j := 0) d_Mo_gainOf_66 rfl rfl ?_
              refine b_getptr (q := 231) d_Mo_gainOf_67 fl_Mo_22 io_226 rfl rfl rfl ?_
              refine a_iload_n (j := 1) d_Mo_gainOf_70 rfl rfl ?_
              refine b_iaload (v := M 231 x1) d_Mo_gainOf_71 ia_231 o1 (by have q := o2; omega) rfl ?_
              refine a_iconst d_Mo_gainOf_72 (by unfold fs_in32; omega) ?_
              refine a_idiv d_Mo_gainOf_73 (by decide) ?_
              refine a_goto (tgt := 83) d_Mo_gainOf_74 rfl ?_
              exact b_ireturn d_Mo_gainOf_83 rfl rfl h
      · have h := h.2 c5
        refine a_iconst d_Mo_gainOf_36 (by unfold fs_in32; omega) ?_
        exact b_ireturn d_Mo_gainOf_37 rfl rfl h
set_option maxRecDepth 8000 in
set_option maxHeartbeats 4000000 in
theorem E_Mo_after {M : fs_M} {K : fs_K} {x1 x2 : Int} 
    (h : fs_C2 g m_Mo_isDark 1 [fs_r 226, fs_i x1] (fs_st M 226 0 0) (fun v M1 => ∃ r1, v = some (fs_i r1) ∧ ((¬ r1 = 0 → fs_C2 g m_Mo_asIs 2 [fs_r 226] M1 (fun v M2 => v = none ∧ fs_C2 g m_Mo_walks 8 [fs_r 226, fs_i 240] M2 (fun v M3 => v = none ∧ ((x2 = 0 → (0 ≤ x1 ∧ x1 < 3 ∧ K (some (fs_i (M3 259 x1))) M3)) ∧ (x2 = 1 → (0 ≤ x1 ∧ x1 < 3 ∧ K (some (fs_i (M3 255 x1))) M3)) ∧ (x2 = 2 → (0 ≤ x1 ∧ x1 < 3 ∧ K (some (fs_i (M3 256 x1))) M3)) ∧ (x2 = 3 → (0 ≤ x1 ∧ x1 < 3 ∧ K (some (fs_i (M3 260 x1))) M3)) ∧ (x2 = 4 → (0 ≤ x1 ∧ x1 < 3 ∧ K (some (fs_i (M3 254 x1))) M3)) ∧ (¬ x2 = 0 ∧ ¬ x2 = 1 ∧ ¬ x2 = 2 ∧ ¬ x2 = 3 ∧ ¬ x2 = 4 → K (some (fs_i (-1))) M3))))) ∧ (r1 = 0 → K (some (fs_i (-1))) M1)))) :
    fs_C2 g m_Mo_after 9 [fs_r 226, fs_i x1, fs_i x2] M K := by
  refine b_enter2 (ls := [(0, fs_r 226), (1, fs_i x1), (2, fs_i x2)]) (plainFor_of_name pn_Mo) (Nat.le_of_ble_eq_true rfl) rfl ?_
  refine a_aload_n (j := 0) d_Mo_after_0 rfl rfl ?_
  refine a_iconst d_Mo_after_1 (by unfold fs_in32; omega) ?_
  refine b_putfield (x := 0) d_Mo_after_2 fl_Mo_160 io_226 rfl rfl fs_nar_int ?_
  refine a_aload_n (j := 0) d_Mo_after_5 rfl rfl ?_
  refine a_iload_n (j := 1) d_Mo_after_6 rfl rfl ?_
  refine b_virtual (dc := 1) (ci := 11) (T := fs_T11) (N := 78) [fs_i x1] [] d_Mo_after_7 ml_Mo_317 k_Mo_isDark v_Mo_isDark rfl io_226 rfl (Nat.le_of_ble_eq_true rfl) rfl (Nat.le_of_ble_eq_true rfl) ?_
  refine fs_Call.mono (fun v M1 hv => ?_) h
  obtain ⟨r1, rfl, h⟩ := hv
  show fs_A2 g m_Mo_after 9 10 [(0, fs_r 226), (1, fs_i x1), (2, fs_i x2)] [fs_i r1] M1 K
  refine a_if_ne (tgt := 15) d_Mo_after_10 rfl (fun c1 => ?_) (fun c1 => ?_)
  · have h := h.1 c1
    refine a_aload_n (j := 0) d_Mo_after_15 rfl rfl ?_
    refine b_virtual (dc := 2) (ci := 11) (T := fs_T11) (N := 78) [] [] d_Mo_after_16 ml_Mo_406 k_Mo_asIs v_Mo_asIs rfl io_226 rfl (Nat.le_of_ble_eq_true rfl) rfl (Nat.le_of_ble_eq_true rfl) ?_
    refine fs_Call.mono (fun v M2 hv => ?_) h
    obtain ⟨rfl, h⟩ := hv
    show fs_A2 g m_Mo_after 9 19 [(0, fs_r 226), (1, fs_i x1), (2, fs_i x2)] [] M2 K
    refine a_aload_n (j := 0) d_Mo_after_19 rfl rfl ?_
    refine a_sipush d_Mo_after_20 (by decide) ?_
    refine b_virtual (dc := 8) (ci := 11) (T := fs_T11) (N := 78) [fs_i 240] [] d_Mo_after_23 ml_Mo_409 k_Mo_walks v_Mo_walks rfl io_226 rfl (Nat.le_of_ble_eq_true rfl) rfl (Nat.le_of_ble_eq_true rfl) ?_
    refine fs_Call.mono (fun v M3 hv => ?_) h
    obtain ⟨rfl, h⟩ := hv
    show fs_A2 g m_Mo_after 9 26 [(0, fs_r 226), (1, fs_i x1), (2, fs_i x2)] [] M3 K
    refine a_iload_n (j := 2) d_Mo_after_26 rfl rfl ?_
    obtain ⟨hs27_0, hs27_1, hs27_2, hs27_3, hs27_4, hs27_5⟩ := h
    by_cases q27_0 : x2 = 0
    · have h := hs27_0 q27_0
      refine a_tableIn (tgt := 60) d_Mo_after_27 (by omega) (by omega) (by rw [q27_0]; rfl) rfl ?_
      refine a_aload_n (j := 0) d_Mo_after_60 rfl rfl ?_
      refine b_getptr (q := 259) d_Mo_after_61 fl_Mo_121 io_226 rfl rfl rfl ?_
      refine a_iload_n (j := 1) d_Mo_after_64 rfl rfl ?_
      obtain ⟨o2, o3, h⟩ := h
      refine b_iaload (v := M3 259 x1) d_Mo_after_65 ia_259 o2 o3 rfl ?_
      exact b_ireturn d_Mo_after_66 rfl rfl h
    ·
      by_cases q27_1 : x2 = 1
      · have h := hs27_1 q27_1
        refine a_tableIn (tgt := 67) d_Mo_after_27 (by omega) (by omega) (by rw [q27_1]; rfl) rfl ?_
        refine a_aload_n (j := 0) d_Mo_after_67 rfl rfl ?_
        refine b_getptr (q := 255) d_Mo_after_68 fl_Mo_109 io_226 rfl rfl rfl ?_
        refine a_iload_n (j := 1) d_Mo_after_71 rfl rfl ?_
        obtain ⟨o4, o5, h⟩ := h
        refine b_iaload (v := M3 255 x1) d_Mo_after_72 ia_255 o4 o5 rfl ?_
        exact b_ireturn d_Mo_after_73 rfl rfl h
      ·
        by_cases q27_2 : x2 = 2
        · have h := hs27_2 q27_2
          refine a_tableIn (tgt := 74) d_Mo_after_27 (by omega) (by omega) (by rw [q27_2]; rfl) rfl ?_
          refine a_aload_n (j := 0) d_Mo_after_74 rfl rfl ?_
          refine b_getptr (q := 256) d_Mo_after_75 fl_Mo_112 io_226 rfl rfl rfl ?_
          refine a_iload_n (j := 1) d_Mo_after_78 rfl rfl ?_
          obtain ⟨o6, o7, h⟩ := h
          refine b_iaload (v := M3 256 x1) d_Mo_after_79 ia_256 o6 o7 rfl ?_
          exact b_ireturn d_Mo_after_80 rfl rfl h
        ·
          by_cases q27_3 : x2 = 3
          · have h := hs27_3 q27_3
            refine a_tableIn (tgt := 81) d_Mo_after_27 (by omega) (by omega) (by rw [q27_3]; rfl) rfl ?_
            refine a_aload_n (j := 0) d_Mo_after_81 rfl rfl ?_
            refine b_getptr (q := 260) d_Mo_after_82 fl_Mo_124 io_226 rfl rfl rfl ?_
            refine a_iload_n (j := 1) d_Mo_after_85 rfl rfl ?_
            obtain ⟨o8, o9, h⟩ := h
            refine b_iaload (v := M3 260 x1) d_Mo_after_86 ia_260 o8 o9 rfl ?_
            exact b_ireturn d_Mo_after_87 rfl rfl h
          ·
            by_cases q27_4 : x2 = 4
            · have h := hs27_4 q27_4
              refine a_tableIn (tgt := 88) d_Mo_after_27 (by omega) (by omega) (by rw [q27_4]; rfl) rfl ?_
              refine a_aload_n (j := 0) d_Mo_after_88 rfl rfl ?_
              refine b_getptr (q := 254) d_Mo_after_89 fl_Mo_106 io_226 rfl rfl rfl ?_
              refine a_iload_n (j := 1) d_Mo_after_92 rfl rfl ?_
              obtain ⟨o10, o11, h⟩ := h
              refine b_iaload (v := M3 254 x1) d_Mo_after_93 ia_254 o10 o11 rfl ?_
              exact b_ireturn d_Mo_after_94 rfl rfl h
            ·
              have h := hs27_5 ⟨q27_0, q27_1, q27_2, q27_3, q27_4⟩
              refine a_tableOut (tgt := 95) d_Mo_after_27 (by omega) rfl ?_
              refine a_iconst d_Mo_after_95 (by unfold fs_in32; omega) ?_
              exact b_ireturn d_Mo_after_96 rfl rfl h
  · have h := h.2 c1
    refine a_iconst d_Mo_after_13 (by unfold fs_in32; omega) ?_
    exact b_ireturn d_Mo_after_14 rfl rfl h
set_option maxRecDepth 8000 in
set_option maxHeartbeats 4000000 in
theorem E_Mo_which {M : fs_M} {K : fs_K} {x1 : Int} 
    (h : ((x1 < 0 → K (some (fs_i (-1))) (fs_st M 226 0 0)) ∧ (¬ x1 < 0 → ((x1 ≤ 2 → fs_C2 g m_Mo_asIs 2 [fs_r 226] (fs_st M 226 0 0) (fun v M1 => v = none ∧ fs_C2 g m_Mo_walks 8 [fs_r 226, fs_i 240] M1 (fun v M2 => v = none ∧ fs_A2 g m_Mo_which 9 31 [(0, fs_r 226), (1, fs_i x1), (2, fs_i 0), (3, fs_i 0)] [] M2 K))) ∧ (¬ x1 ≤ 2 → K (some (fs_i (-1))) (fs_st M 226 0 0)))))) :
    fs_C2 g m_Mo_which 9 [fs_r 226, fs_i x1] M K := by
  refine b_enter2 (ls := [(0, fs_r 226), (1, fs_i x1)]) (plainFor_of_name pn_Mo) (Nat.le_of_ble_eq_true rfl) rfl ?_
  refine a_aload_n (j := 0) d_Mo_which_0 rfl rfl ?_
  refine a_iconst d_Mo_which_1 (by unfold fs_in32; omega) ?_
  refine b_putfield (x := 0) d_Mo_which_2 fl_Mo_160 io_226 rfl rfl fs_nar_int ?_
  refine a_iload_n (j := 1) d_Mo_which_5 rfl rfl ?_
  refine a_if_lt (tgt := 14) d_Mo_which_6 rfl (fun c1 => ?_) (fun c1 => ?_)
  · have h := h.1 c1
    refine a_iconst d_Mo_which_14 (by unfold fs_in32; omega) ?_
    exact b_ireturn d_Mo_which_15 rfl rfl h
  · have h := h.2 c1
    refine a_iload_n (j := 1) d_Mo_which_9 rfl rfl ?_
    refine a_iconst d_Mo_which_10 (by unfold fs_in32; omega) ?_
    refine a_icmp_le (tgt := 16) d_Mo_which_11 rfl (fun c2 => ?_) (fun c2 => ?_)
    · have h := h.1 c2
      refine a_aload_n (j := 0) d_Mo_which_16 rfl rfl ?_
      refine b_virtual (dc := 2) (ci := 11) (T := fs_T11) (N := 78) [] [] d_Mo_which_17 ml_Mo_406 k_Mo_asIs v_Mo_asIs rfl io_226 rfl (Nat.le_of_ble_eq_true rfl) rfl (Nat.le_of_ble_eq_true rfl) ?_
      refine fs_Call.mono (fun v M1 hv => ?_) h
      obtain ⟨rfl, h⟩ := hv
      show fs_A2 g m_Mo_which 9 20 [(0, fs_r 226), (1, fs_i x1)] [] M1 K
      refine a_aload_n (j := 0) d_Mo_which_20 rfl rfl ?_
      refine a_sipush d_Mo_which_21 (by decide) ?_
      refine b_virtual (dc := 8) (ci := 11) (T := fs_T11) (N := 78) [fs_i 240] [] d_Mo_which_24 ml_Mo_409 k_Mo_walks v_Mo_walks rfl io_226 rfl (Nat.le_of_ble_eq_true rfl) rfl (Nat.le_of_ble_eq_true rfl) ?_
      refine fs_Call.mono (fun v M2 hv => ?_) h
      obtain ⟨rfl, h⟩ := hv
      show fs_A2 g m_Mo_which 9 27 [(0, fs_r 226), (1, fs_i x1)] [] M2 K
      refine a_iconst d_Mo_which_27 (by unfold fs_in32; omega) ?_
      refine a_istore_n d_Mo_which_28 rfl (Nat.le_of_ble_eq_true rfl) [1, 2, 0] rfl ?_
      refine a_iconst d_Mo_which_29 (by unfold fs_in32; omega) ?_
      refine a_istore_n d_Mo_which_30 rfl (Nat.le_of_ble_eq_true rfl) [1, 2, 3, 0] rfl ?_
      exact h
    · have h := h.2 c2
      refine a_iconst d_Mo_which_14 (by unfold fs_in32; omega) ?_
      exact b_ireturn d_Mo_which_15 rfl rfl h
set_option maxRecDepth 8000 in
set_option maxHeartbeats 4000000 in
theorem L_Mo_which_31 {M : fs_M} {K : fs_K} {x1 x2 x3 : Int} 
    (h : ((M 228 0 ≤ x3 → K (some (fs_i x2)) M) ∧ (¬ M 228 0 ≤ x3 → ((¬ x1 = 0 → ((¬ x1 = 1 → ((¬ fs_and (fs_shr (M 226 56) x3) 1 = 1 → fs_A2 g m_Mo_which 9 118 [(0, fs_r 226), (1, fs_i x1), (2, fs_i x2), (3, fs_i x3)] [fs_i 0] M K) ∧ (fs_and (fs_shr (M 226 56) x3) 1 = 1 → fs_A2 g m_Mo_which 9 118 [(0, fs_r 226), (1, fs_i x1), (2, fs_i x2), (3, fs_i x3)] [fs_i 1] M K))) ∧ (x1 = 1 → (0 ≤ x3 ∧ x3 < 6 ∧ ((¬ M 261 x3 = (-1) → fs_A2 g m_Mo_which 9 118 [(0, fs_r 226), (1, fs_i x1), (2, fs_i x2), (3, fs_i x3)] [fs_i 0] M K) ∧ (M 261 x3 = (-1) → fs_A2 g m_Mo_which 9 118 [(0, fs_r 226), (1, fs_i x1), (2, fs_i x2), (3, fs_i x3)] [fs_i 1] M K)))))) ∧ (x1 = 0 → (0 ≤ x3 ∧ x3 < 6 ∧ ((M 261 x3 = (-1) → fs_A2 g m_Mo_which 9 118 [(0, fs_r 226), (1, fs_i x1), (2, fs_i x2), (3, fs_i x3)] [fs_i 0] M K) ∧ (¬ M 261 x3 = (-1) → ((M 262 x3 ≤ M 232 x3 → fs_A2 g m_Mo_which 9 118 [(0, fs_r 226), (1, fs_i x1), (2, fs_i x2), (3, fs_i x3)] [fs_i 0] M K) ∧ (¬ M 262 x3 ≤ M 232 x3 → fs_A2 g m_Mo_which 9 118 [(0, fs_r 226), (1, fs_i x1), (2, fs_i x2), (3, fs_i x3)] [fs_i 1] M K)))))))))) :
    fs_A2 g m_Mo_which 9 31 [(0, fs_r 226), (1, fs_i x1), (2, fs_i x2), (3, fs_i x3)] [] M K := by
  refine a_iload_n (j := 3) d_Mo_which_31 rfl rfl ?_
  refine a_aload_n (j := 0) d_Mo_which_32 rfl rfl ?_
  refine b_getptr (q := 228) d_Mo_which_33 fl_Mo_13 io_226 rfl rfl rfl ?_
  refine a_iconst d_Mo_which_36 (by unfold fs_in32; omega) ?_
  refine b_iaload (v := M 228 0) d_Mo_which_37 ia_228 (by decide) (by decide) rfl ?_
  refine a_icmp_ge (tgt := 141) d_Mo_which_38 rfl (fun c3 => ?_) (fun c3 => ?_)
  · have h := h.1 c3
    refine a_iload_n (j := 2) d_Mo_which_141 rfl rfl ?_
    exact b_ireturn d_Mo_which_142 rfl rfl h
  · have h := h.2 c3
    refine a_iload_n (j := 1) d_Mo_which_41 rfl rfl ?_
    refine a_if_ne (tgt := 78) d_Mo_which_42 rfl (fun c4 => ?_) (fun c4 => ?_)
    · have h := h.1 c4
      refine a_iload_n (j := 1) d_Mo_which_78 rfl rfl ?_
      refine a_iconst d_Mo_which_79 (by unfold fs_in32; omega) ?_
      refine a_icmp_ne (tgt := 101) d_Mo_which_80 rfl (fun c5 => ?_) (fun c5 => ?_)
      · have h := h.1 c5
        refine a_aload_n (j := 0) d_Mo_which_101 rfl rfl ?_
        refine b_getfield (v := fs_i (M 226 56)) d_Mo_which_102 fl_Mo_388 io_226 rfl ?_
        refine a_iload_n (j := 3) d_Mo_which_105 rfl rfl ?_
        refine a_ishr d_Mo_which_106 ?_
        refine a_iconst d_Mo_which_107 (by unfold fs_in32; omega) ?_
        refine a_iand d_Mo_which_108 ?_
        refine a_iconst d_Mo_which_109 (by unfold fs_in32; omega) ?_
        refine a_icmp_ne (tgt := 117) d_Mo_which_110 rfl (fun c6 => ?_) (fun c6 => ?_)
        · have h := h.1 c6
          refine a_iconst d_Mo_which_117 (by unfold fs_in32; omega) ?_
          exact h
        · have h := h.2 c6
          refine a_iconst d_Mo_which_113 (by unfold fs_in32; omega) ?_
          refine a_goto (tgt := 118) d_Mo_which_114 rfl ?_
          exact h
      · have h := h.2 c5
        refine a_aload_n (j := 0) d_Mo_which_83 rfl rfl ?_
        refine b_getptr (q := 261) d_Mo_which_84 fl_Mo_127 io_226 rfl rfl rfl ?_
        refine a_iload_n (j := 3) d_Mo_which_87 rfl rfl ?_
        obtain ⟨o7, o8, h⟩ := h
        refine b_iaload (v := M 261 x3) d_Mo_which_88 ia_261 o7 o8 rfl ?_
        refine a_iconst d_Mo_which_89 (by unfold fs_in32; omega) ?_
        refine a_icmp_ne (tgt := 97) d_Mo_which_90 rfl (fun c9 => ?_) (fun c9 => ?_)
        · have h := h.1 c9
          refine a_iconst d_Mo_which_97 (by unfold fs_in32; omega) ?_
          refine a_goto (tgt := 118) d_Mo_which_98 rfl ?_
          exact h
        · have h := h.2 c9
          refine a_iconst d_Mo_which_93 (by unfold fs_in32; omega) ?_
          refine a_goto (tgt := 118) d_Mo_which_94 rfl ?_
          exact h
    · have h := h.2 c4
      refine a_aload_n (j := 0) d_Mo_which_45 rfl rfl ?_
      refine b_getptr (q := 261) d_Mo_which_46 fl_Mo_127 io_226 rfl rfl rfl ?_
      refine a_iload_n (j := 3) d_Mo_which_49 rfl rfl ?_
      obtain ⟨o10, o11, h⟩ := h
      refine b_iaload (v := M 261 x3) d_Mo_which_50 ia_261 o10 o11 rfl ?_
      refine a_iconst d_Mo_which_51 (by unfold fs_in32; omega) ?_
      refine a_icmp_eq (tgt := 74) d_Mo_which_52 rfl (fun c12 => ?_) (fun c12 => ?_)
      · have h := h.1 c12
        refine a_iconst d_Mo_which_74 (by unfold fs_in32; omega) ?_
        refine a_goto (tgt := 118) d_Mo_which_75 rfl ?_
        exact h
      · have h := h.2 c12
        refine a_aload_n (j := 0) d_Mo_which_55 rfl rfl ?_
        refine b_getptr (q := 262) d_Mo_which_56 fl_Mo_130 io_226 rfl rfl rfl ?_
        refine a_iload_n (j := 3) d_Mo_which_59 rfl rfl ?_
        refine b_iaload (v := M 262 x3) d_Mo_which_60 ia_262 o10 o11 rfl ?_
        refine a_aload_n (j := 0) d_Mo_which_61 rfl rfl ?_
        refine b_getptr (q := 232) d_Mo_which_62 fl_Mo_25 io_226 rfl rfl rfl ?_
        refine a_iload_n (j := 3) d_Mo_which_65 rfl rfl ?_
        refine b_iaload (v := M 232 x3) d_Mo_which_66 ia_232 o10 (by have q := o11; omega) rfl ?_
        refine a_icmp_le (tgt := 74) d_Mo_which_67 rfl (fun c13 => ?_) (fun c13 => ?_)
        · have h := h.1 c13
          refine a_iconst d_Mo_which_74 (by unfold fs_in32; omega) ?_
          refine a_goto (tgt := 118) d_Mo_which_75 rfl ?_
          exact h
        · have h := h.2 c13
          refine a_iconst d_Mo_which_70 (by unfold fs_in32; omega) ?_
          refine a_goto (tgt := 118) d_Mo_which_71 rfl ?_
          exact h
set_option maxRecDepth 8000 in
set_option maxHeartbeats 4000000 in
theorem L_Mo_which_118 {M : fs_M} {K : fs_K} {x1 x2 x3 x100 : Int} 
    (h : ((x100 = 0 → fs_A2 g m_Mo_which 9 31 [(0, fs_r 226), (1, fs_i x1), (2, fs_i (fs_or x2 0)), (3, fs_i (fs_w32 (x3 + 1)))] [] M K) ∧ (¬ x100 = 0 → fs_A2 g m_Mo_which 9 31 [(0, fs_r 226), (1, fs_i x1), (2, fs_i (fs_or x2 (fs_shl 1 x3))), (3, fs_i (fs_w32 (x3 + 1)))] [] M K))) :
    fs_A2 g m_Mo_which 9 118 [(0, fs_r 226), (1, fs_i x1), (2, fs_i x2), (3, fs_i x3)] [fs_i x100] M K := by
  refine a_istore d_Mo_which_118 (Nat.le_of_ble_eq_true rfl) [1, 2, 3, 4, 0] rfl ?_
  refine a_iload_n (j := 2) d_Mo_which_120 rfl rfl ?_
  refine a_iload (j := 4) d_Mo_which_121 rfl ?_
  refine a_if_eq (tgt := 132) d_Mo_which_123 rfl (fun c14 => ?_) (fun c14 => ?_)
  · have h := h.1 c14
    refine a_iconst d_Mo_which_132 (by unfold fs_in32; omega) ?_
    refine a_ior d_Mo_which_133 ?_
    refine a_istore_n d_Mo_which_134 rfl (Nat.le_of_ble_eq_true rfl) [1, 2, 0, 3, 4] rfl ?_
    refine a_iinc (j := 3) d_Mo_which_135 rfl (Nat.le_of_ble_eq_true rfl) [1, 2, 3, 0, 4] rfl ?_
    refine a_goto (tgt := 31) d_Mo_which_138 rfl ?_
    refine a_sub [0, 1, 2, 3] rfl ?_
    exact h
  · have h := h.2 c14
    refine a_iconst d_Mo_which_126 (by unfold fs_in32; omega) ?_
    refine a_iload_n (j := 3) d_Mo_which_127 rfl rfl ?_
    refine a_ishl d_Mo_which_128 ?_
    refine a_goto (tgt := 133) d_Mo_which_129 rfl ?_
    refine a_ior d_Mo_which_133 ?_
    refine a_istore_n d_Mo_which_134 rfl (Nat.le_of_ble_eq_true rfl) [1, 2, 0, 3, 4] rfl ?_
    refine a_iinc (j := 3) d_Mo_which_135 rfl (Nat.le_of_ble_eq_true rfl) [1, 2, 3, 0, 4] rfl ?_
    refine a_goto (tgt := 31) d_Mo_which_138 rfl ?_
    refine a_sub [0, 1, 2, 3] rfl ?_
    exact h
set_option maxRecDepth 8000 in
set_option maxHeartbeats 4000000 in
theorem E_Mo_exchange {M : fs_M} {K : fs_K} {x1 : Int} 
    (h : ((x1 < 0 → K (some (fs_i (-1))) (fs_st M 226 0 0)) ∧ (¬ x1 < 0 → ((x1 ≤ 4 → fs_C2 g m_Mo_layExchange 10 [fs_r 226] (fs_st M 226 0 0) (fun v M1 => ∃ r1, v = some (fs_i r1) ∧ ((¬ r1 = 0 → ((x1 = 0 → K (some (fs_i (M1 226 61))) M1) ∧ (x1 = 1 → K (some (fs_i (fs_div (M1 226 59) 9))) M1) ∧ (x1 = 2 → K (some (fs_i (fs_rem (M1 226 59) 9))) M1) ∧ (x1 = 3 → K (some (fs_i (fs_div (M1 226 60) 9))) M1) ∧ (¬ x1 = 0 ∧ ¬ x1 = 1 ∧ ¬ x1 = 2 ∧ ¬ x1 = 3 → K (some (fs_i (fs_rem (M1 226 60) 9))) M1))) ∧ (r1 = 0 → K (some (fs_i (-2))) M1)))) ∧ (¬ x1 ≤ 4 → K (some (fs_i (-1))) (fs_st M 226 0 0)))))) :
    fs_C2 g m_Mo_exchange 11 [fs_r 226, fs_i x1] M K := by
  refine b_enter2 (ls := [(0, fs_r 226), (1, fs_i x1)]) (plainFor_of_name pn_Mo) (Nat.le_of_ble_eq_true rfl) rfl ?_
  refine a_aload_n (j := 0) d_Mo_exchange_0 rfl rfl ?_
  refine a_iconst d_Mo_exchange_1 (by unfold fs_in32; omega) ?_
  refine b_putfield (x := 0) d_Mo_exchange_2 fl_Mo_160 io_226 rfl rfl fs_nar_int ?_
  refine a_iload_n (j := 1) d_Mo_exchange_5 rfl rfl ?_
  refine a_if_lt (tgt := 14) d_Mo_exchange_6 rfl (fun c1 => ?_) (fun c1 => ?_)
  · have h := h.1 c1
    refine a_iconst d_Mo_exchange_14 (by unfold fs_in32; omega) ?_
    exact b_ireturn d_Mo_exchange_15 rfl rfl h
  · have h := h.2 c1
    refine a_iload_n (j := 1) d_Mo_exchange_9 rfl rfl ?_
    refine a_iconst d_Mo_exchange_10 (by unfold fs_in32; omega) ?_
    refine a_icmp_le (tgt := 16) d_Mo_exchange_11 rfl (fun c2 => ?_) (fun c2 => ?_)
    · have h := h.1 c2
      refine a_aload_n (j := 0) d_Mo_exchange_16 rfl rfl ?_
      refine b_virtual (dc := 10) (ci := 11) (T := fs_T11) (N := 78) [] [] d_Mo_exchange_17 ml_Mo_446 k_Mo_layExchange v_Mo_layExchange rfl io_226 rfl (Nat.le_of_ble_eq_true rfl) rfl (Nat.le_of_ble_eq_true rfl) ?_
      refine fs_Call.mono (fun v M1 hv => ?_) h
      obtain ⟨r1, rfl, h⟩ := hv
      show fs_A2 g m_Mo_exchange 11 20 [(0, fs_r 226), (1, fs_i x1)] [fs_i r1] M1 K
      refine a_if_ne (tgt := 26) d_Mo_exchange_20 rfl (fun c3 => ?_) (fun c3 => ?_)
      · have h := h.1 c3
        refine a_iload_n (j := 1) d_Mo_exchange_26 rfl rfl ?_
        obtain ⟨hs27_0, hs27_1, hs27_2, hs27_3, hs27_4⟩ := h
        by_cases q27_0 : x1 = 0
        · have h := hs27_0 q27_0
          refine a_tableIn (tgt := 56) d_Mo_exchange_27 (by omega) (by omega) (by rw [q27_0]; rfl) rfl ?_
          refine a_aload_n (j := 0) d_Mo_exchange_56 rfl rfl ?_
          refine b_getfield (v := fs_i (M1 226 61)) d_Mo_exchange_57 fl_Mo_431 io_226 rfl ?_
          exact b_ireturn d_Mo_exchange_60 rfl rfl h
        ·
          by_cases q27_1 : x1 = 1
          · have h := hs27_1 q27_1
            refine a_tableIn (tgt := 61) d_Mo_exchange_27 (by omega) (by omega) (by rw [q27_1]; rfl) rfl ?_
            refine a_aload_n (j := 0) d_Mo_exchange_61 rfl rfl ?_
            refine b_getfield (v := fs_i (M1 226 59)) d_Mo_exchange_62 fl_Mo_434 io_226 rfl ?_
            refine a_bipush d_Mo_exchange_65 (by decide) ?_
            refine a_idiv d_Mo_exchange_67 (by decide) ?_
            exact b_ireturn d_Mo_exchange_68 rfl rfl h
          ·
            by_cases q27_2 : x1 = 2
            · have h := hs27_2 q27_2
              refine a_tableIn (tgt := 69) d_Mo_exchange_27 (by omega) (by omega) (by rw [q27_2]; rfl) rfl ?_
              refine a_aload_n (j := 0) d_Mo_exchange_69 rfl rfl ?_
              refine b_getfield (v := fs_i (M1 226 59)) d_Mo_exchange_70 fl_Mo_434 io_226 rfl ?_
              refine a_bipush d_Mo_exchange_73 (by decide) ?_
              refine a_irem d_Mo_exchange_75 (by decide) ?_
              exact b_ireturn d_Mo_exchange_76 rfl rfl h
            ·
              by_cases q27_3 : x1 = 3
              · have h := hs27_3 q27_3
                refine a_tableIn (tgt := 77) d_Mo_exchange_27 (by omega) (by omega) (by rw [q27_3]; rfl) rfl ?_
                refine a_aload_n (j := 0) d_Mo_exchange_77 rfl rfl ?_
                refine b_getfield (v := fs_i (M1 226 60)) d_Mo_exchange_78 fl_Mo_443 io_226 rfl ?_
                refine a_bipush d_Mo_exchange_81 (by decide) ?_
                refine a_idiv d_Mo_exchange_83 (by decide) ?_
                exact b_ireturn d_Mo_exchange_84 rfl rfl h
              ·
                have h := hs27_4 ⟨q27_0, q27_1, q27_2, q27_3⟩
                refine a_tableOut (tgt := 85) d_Mo_exchange_27 (by omega) rfl ?_
                refine a_aload_n (j := 0) d_Mo_exchange_85 rfl rfl ?_
                refine b_getfield (v := fs_i (M1 226 60)) d_Mo_exchange_86 fl_Mo_443 io_226 rfl ?_
                refine a_bipush d_Mo_exchange_89 (by decide) ?_
                refine a_irem d_Mo_exchange_91 (by decide) ?_
                exact b_ireturn d_Mo_exchange_92 rfl rfl h
      · have h := h.2 c3
        refine a_bipush d_Mo_exchange_23 (by decide) ?_
        exact b_ireturn d_Mo_exchange_25 rfl rfl h
    · have h := h.2 c2
      refine a_iconst d_Mo_exchange_14 (by unfold fs_in32; omega) ?_
      exact b_ireturn d_Mo_exchange_15 rfl rfl h
set_option maxRecDepth 8000 in
set_option maxHeartbeats 4000000 in
theorem E_Mo_layExchange {M : fs_M} {K : fs_K} 
    (h : fs_C2 g m_Mo_gainAsIs 9 [fs_r 226] M (fun v M1 => ∃ r1, v = some (fs_i r1) ∧ fs_A2 g m_Mo_layExchange 10 15 [(0, fs_r 226), (1, fs_i 0)] [] (fs_st (fs_st M1 226 61 r1) 226 59 (-1)) K)) :
    fs_C2 g m_Mo_layExchange 10 [fs_r 226] M K := by
  refine b_enter2 (ls := [(0, fs_r 226)]) (plainFor_of_name pn_Mo) (Nat.le_of_ble_eq_true rfl) rfl ?_
  refine a_aload_n (j := 0) d_Mo_layExchange_0 rfl rfl ?_
  refine a_aload_n (j := 0) d_Mo_layExchange_1 rfl rfl ?_
  refine b_virtual (dc := 9) (ci := 11) (T := fs_T11) (N := 78) [] [fs_r 226] d_Mo_layExchange_2 ml_Mo_428 k_Mo_gainAsIs v_Mo_gainAsIs rfl io_226 rfl (Nat.le_of_ble_eq_true rfl) rfl (Nat.le_of_ble_eq_true rfl) ?_
  refine fs_Call.mono (fun v M1 hv => ?_) h
  obtain ⟨r1, rfl, h⟩ := hv
  show fs_A2 g m_Mo_layExchange 10 5 [(0, fs_r 226)] [fs_i r1, fs_r 226] M1 K
  refine b_putfield (x := r1) d_Mo_layExchange_5 fl_Mo_431 io_226 rfl rfl fs_nar_int ?_
  refine a_aload_n (j := 0) d_Mo_layExchange_8 rfl rfl ?_
  refine a_iconst d_Mo_layExchange_9 (by unfold fs_in32; omega) ?_
  refine b_putfield (x := (-1)) d_Mo_layExchange_10 fl_Mo_434 io_226 rfl rfl fs_nar_int ?_
  refine a_iconst d_Mo_layExchange_13 (by unfold fs_in32; omega) ?_
  refine a_istore_n d_Mo_layExchange_14 rfl (Nat.le_of_ble_eq_true rfl) [1, 0] rfl ?_
  exact h
set_option maxRecDepth 8000 in
set_option maxHeartbeats 4000000 in
theorem L_Mo_layExchange_15 {M : fs_M} {K : fs_K} {x1 : Int} 
    (h : ((27 ≤ x1 → ((M 226 59 = (-1) → K (some (fs_i 0)) M) ∧ (¬ M 226 59 = (-1) → K (some (fs_i 1)) M))) ∧ (¬ 27 ≤ x1 → fs_A2 g m_Mo_layExchange 10 25 [(0, fs_r 226), (1, fs_i x1), (2, fs_i (fs_w32 (x1 + 1)))] [] M K))) :
    fs_A2 g m_Mo_layExchange 10 15 [(0, fs_r 226), (1, fs_i x1)] [] M K := by
  refine a_iload_n (j := 1) d_Mo_layExchange_15 rfl rfl ?_
  refine a_bipush d_Mo_layExchange_16 (by decide) ?_
  refine a_icmp_ge (tgt := 127) d_Mo_layExchange_18 rfl (fun c1 => ?_) (fun c1 => ?_)
  · have h := h.1 c1
    refine a_aload_n (j := 0) d_Mo_layExchange_127 rfl rfl ?_
    refine b_getfield (v := fs_i (M 226 59)) d_Mo_layExchange_128 fl_Mo_434 io_226 rfl ?_
    refine a_iconst d_Mo_layExchange_131 (by unfold fs_in32; omega) ?_
    refine a_icmp_eq (tgt := 139) d_Mo_layExchange_132 rfl (fun c2 => ?_) (fun c2 => ?_)
    · have h := h.1 c2
      refine a_iconst d_Mo_layExchange_139 (by unfold fs_in32; omega) ?_
      exact b_ireturn d_Mo_layExchange_140 rfl (fs_nar01 (Or.inl rfl)) h
    · have h := h.2 c2
      refine a_iconst d_Mo_layExchange_135 (by unfold fs_in32; omega) ?_
      refine a_goto (tgt := 140) d_Mo_layExchange_136 rfl ?_
      exact b_ireturn d_Mo_layExchange_140 rfl (fs_nar01 (Or.inr rfl)) h
  · have h := h.2 c1
    refine a_iload_n (j := 1) d_Mo_layExchange_21 rfl rfl ?_
    refine a_iconst d_Mo_layExchange_22 (by unfold fs_in32; omega) ?_
    refine a_iadd d_Mo_layExchange_23 ?_
    refine a_istore_n d_Mo_layExchange_24 rfl (Nat.le_of_ble_eq_true rfl) [1, 2, 0] rfl ?_
    exact h
set_option maxRecDepth 8000 in
set_option maxHeartbeats 4000000 in
theorem L_Mo_layExchange_25 {M : fs_M} {K : fs_K} {x1 x2 : Int} 
    (h : ((27 ≤ x2 → fs_A2 g m_Mo_layExchange 10 15 [(0, fs_r 226), (1, fs_i (fs_w32 (x1 + 1)))] [] M K) ∧ (¬ 27 ≤ x2 → fs_C2 g m_Mo_isInRow 1 [fs_r 226, fs_i x1] M (fun v M2 => ∃ r2, v = some (fs_i r2) ∧ ((r2 = 0 → fs_A2 g m_Mo_layExchange 10 15 [(0, fs_r 226), (1, fs_i (fs_w32 (x1 + 1)))] [] M2 K) ∧ (¬ r2 = 0 → fs_C2 g m_Mo_isInRow 1 [fs_r 226, fs_i x2] M2 (fun v M3 => ∃ r3, v = some (fs_i r3) ∧ ((r3 = 0 → fs_A2 g m_Mo_layExchange 10 25 [(0, fs_r 226), (1, fs_i x1), (2, fs_i (fs_w32 (x2 + 1)))] [] M3 K) ∧ (¬ r3 = 0 → (0 ≤ x1 ∧ x1 < 27 ∧ (0 ≤ x2 ∧ ((¬ M3 251 x1 = M3 251 x2 → fs_C2 g m_Mo_exchanges 1 [fs_r 226, fs_i x1, fs_i x2] M3 (fun v M4 => v = none ∧ fs_C2 g m_Mo_walks 8 [fs_r 226, fs_i 240] M4 (fun v M5 => v = none ∧ fs_C2 g m_Mo_gains 2 [fs_r 226] M5 (fun v M6 => ∃ r6, v = some (fs_i r6) ∧ fs_C2 g m_Mo_exchanges 1 [fs_r 226, fs_i x1, fs_i x2] M6 (fun v M7 => v = none ∧ ((M7 226 61 < r6 → fs_A2 g m_Mo_layExchange 10 25 [(0, fs_r 226), (1, fs_i x1), (2, fs_i (fs_w32 (x2 + 1)))] [] (fs_st (fs_st (fs_st M7 226 61 r6) 226 59 x1) 226 60 x2) K) ∧ (¬ M7 226 61 < r6 → fs_A2 g m_Mo_layExchange 10 25 [(0, fs_r 226), (1, fs_i x1), (2, fs_i (fs_w32 (x2 + 1)))] [] M7 K))))))) ∧ (M3 251 x1 = M3 251 x2 → fs_A2 g m_Mo_layExchange 10 25 [(0, fs_r 226), (1, fs_i x1), (2, fs_i (fs_w32 (x2 + 1)))] [] M3 K))))))))))))) :
    fs_A2 g m_Mo_layExchange 10 25 [(0, fs_r 226), (1, fs_i x1), (2, fs_i x2)] [] M K := by
  refine a_iload_n (j := 2) d_Mo_layExchange_25 rfl rfl ?_
  refine a_bipush d_Mo_layExchange_26 (by decide) ?_
  refine a_icmp_ge (tgt := 121) d_Mo_layExchange_28 rfl (fun c3 => ?_) (fun c3 => ?_)
  · have h := h.1 c3
    refine a_iinc (j := 1) d_Mo_layExchange_121 rfl (Nat.le_of_ble_eq_true rfl) [1, 0, 2] rfl ?_
    refine a_goto (tgt := 15) d_Mo_layExchange_124 rfl ?_
    refine a_sub [0, 1] rfl ?_
    exact h
  · have h := h.2 c3
    refine a_aload_n (j := 0) d_Mo_layExchange_31 rfl rfl ?_
    refine a_iload_n (j := 1) d_Mo_layExchange_32 rfl rfl ?_
    refine b_virtual (dc := 1) (ci := 11) (T := fs_T11) (N := 78) [fs_i x1] [] d_Mo_layExchange_33 ml_Mo_437 k_Mo_isInRow v_Mo_isInRow rfl io_226 rfl (Nat.le_of_ble_eq_true rfl) rfl (Nat.le_of_ble_eq_true rfl) ?_
    refine fs_Call.mono (fun v M2 hv => ?_) h
    obtain ⟨r2, rfl, h⟩ := hv
    show fs_A2 g m_Mo_layExchange 10 36 [(0, fs_r 226), (1, fs_i x1), (2, fs_i x2)] [fs_i r2] M2 K
    refine a_if_eq (tgt := 121) d_Mo_layExchange_36 rfl (fun c4 => ?_) (fun c4 => ?_)
    · have h := h.1 c4
      refine a_iinc (j := 1) d_Mo_layExchange_121 rfl (Nat.le_of_ble_eq_true rfl) [1, 0, 2] rfl ?_
      refine a_goto (tgt := 15) d_Mo_layExchange_124 rfl ?_
      refine a_sub [0, 1] rfl ?_
      exact h
    · have h := h.2 c4
      refine a_aload_n (j := 0) d_Mo_layExchange_39 rfl rfl ?_
      refine a_iload_n (j := 2) d_Mo_layExchange_40 rfl rfl ?_
      refine b_virtual (dc := 1) (ci := 11) (T := fs_T11) (N := 78) [fs_i x2] [] d_Mo_layExchange_41 ml_Mo_437 k_Mo_isInRow v_Mo_isInRow rfl io_226 rfl (Nat.le_of_ble_eq_true rfl) rfl (Nat.le_of_ble_eq_true rfl) ?_
      refine fs_Call.mono (fun v M3 hv => ?_) h
      obtain ⟨r3, rfl, h⟩ := hv
      show fs_A2 g m_Mo_layExchange 10 44 [(0, fs_r 226), (1, fs_i x1), (2, fs_i x2)] [fs_i r3] M3 K
      refine a_if_eq (tgt := 115) d_Mo_layExchange_44 rfl (fun c5 => ?_) (fun c5 => ?_)
      · have h := h.1 c5
        refine a_iinc (j := 2) d_Mo_layExchange_115 rfl (Nat.le_of_ble_eq_true rfl) [1, 2, 0] rfl ?_
        refine a_goto (tgt := 25) d_Mo_layExchange_118 rfl ?_
        exact h
      · have h := h.2 c5
        refine a_aload_n (j := 0) d_Mo_layExchange_47 rfl rfl ?_
        refine b_getptr (q := 251) d_Mo_layExchange_48 fl_Mo_97 io_226 rfl rfl rfl ?_
        refine a_iload_n (j := 1) d_Mo_layExchange_51 rfl rfl ?_
        obtain ⟨o6, o7, h⟩ := h
        refine b_iaload (v := M3 251 x1) d_Mo_layExchange_52 ia_251 o6 o7 rfl ?_
        refine a_aload_n (j := 0) d_Mo_layExchange_53 rfl rfl ?_
        refine b_getptr (q := 251) d_Mo_layExchange_54 fl_Mo_97 io_226 rfl rfl rfl ?_
        refine a_iload_n (j := 2) d_Mo_layExchange_57 rfl rfl ?_
        obtain ⟨o8, h⟩ := h
        refine b_iaload (v := M3 251 x2) d_Mo_layExchange_58 ia_251 o8 (by omega : x2 < 27) rfl ?_
        refine a_icmp_ne (tgt := 65) d_Mo_layExchange_59 rfl (fun c9 => ?_) (fun c9 => ?_)
        · have h := h.1 c9
          refine a_aload_n (j := 0) d_Mo_layExchange_65 rfl rfl ?_
          refine a_iload_n (j := 1) d_Mo_layExchange_66 rfl rfl ?_
          refine a_iload_n (j := 2) d_Mo_layExchange_67 rfl rfl ?_
          refine b_virtual (dc := 1) (ci := 11) (T := fs_T11) (N := 78) [fs_i x1, fs_i x2] [] d_Mo_layExchange_68 ml_Mo_440 k_Mo_exchanges v_Mo_exchanges rfl io_226 rfl (Nat.le_of_ble_eq_true rfl) rfl (Nat.le_of_ble_eq_true rfl) ?_
          refine fs_Call.mono (fun v M4 hv => ?_) h
          obtain ⟨rfl, h⟩ := hv
          show fs_A2 g m_Mo_layExchange 10 71 [(0, fs_r 226), (1, fs_i x1), (2, fs_i x2)] [] M4 K
          refine a_aload_n (j := 0) d_Mo_layExchange_71 rfl rfl ?_
          refine a_sipush d_Mo_layExchange_72 (by decide) ?_
          refine b_virtual (dc := 8) (ci := 11) (T := fs_T11) (N := 78) [fs_i 240] [] d_Mo_layExchange_75 ml_Mo_409 k_Mo_walks v_Mo_walks rfl io_226 rfl (Nat.le_of_ble_eq_true rfl) rfl (Nat.le_of_ble_eq_true rfl) ?_
          refine fs_Call.mono (fun v M5 hv => ?_) h
          obtain ⟨rfl, h⟩ := hv
          show fs_A2 g m_Mo_layExchange 10 78 [(0, fs_r 226), (1, fs_i x1), (2, fs_i x2)] [] M5 K
          refine a_aload_n (j := 0) d_Mo_layExchange_78 rfl rfl ?_
          refine b_virtual (dc := 2) (ci := 11) (T := fs_T11) (N := 78) [] [] d_Mo_layExchange_79 ml_Mo_412 k_Mo_gains v_Mo_gains rfl io_226 rfl (Nat.le_of_ble_eq_true rfl) rfl (Nat.le_of_ble_eq_true rfl) ?_
          refine fs_Call.mono (fun v M6 hv => ?_) h
          obtain ⟨r6, rfl, h⟩ := hv
          show fs_A2 g m_Mo_layExchange 10 82 [(0, fs_r 226), (1, fs_i x1), (2, fs_i x2)] [fs_i r6] M6 K
          refine a_istore_n d_Mo_layExchange_82 rfl (Nat.le_of_ble_eq_true rfl) [1, 2, 3, 0] rfl ?_
          refine a_aload_n (j := 0) d_Mo_layExchange_83 rfl rfl ?_
          refine a_iload_n (j := 1) d_Mo_layExchange_84 rfl rfl ?_
          refine a_iload_n (j := 2) d_Mo_layExchange_85 rfl rfl ?_
          refine b_virtual (dc := 1) (ci := 11) (T := fs_T11) (N := 78) [fs_i x1, fs_i x2] [] d_Mo_layExchange_86 ml_Mo_440 k_Mo_exchanges v_Mo_exchanges rfl io_226 rfl (Nat.le_of_ble_eq_true rfl) rfl (Nat.le_of_ble_eq_true rfl) ?_
          refine fs_Call.mono (fun v M7 hv => ?_) h
          obtain ⟨rfl, h⟩ := hv
          show fs_A2 g m_Mo_layExchange 10 89 [(0, fs_r 226), (1, fs_i x1), (2, fs_i x2), (3, fs_i r6)] [] M7 K
          refine a_iload_n (j := 3) d_Mo_layExchange_89 rfl rfl ?_
          refine a_aload_n (j := 0) d_Mo_layExchange_90 rfl rfl ?_
          refine b_getfield (v := fs_i (M7 226 61)) d_Mo_layExchange_91 fl_Mo_431 io_226 rfl ?_
          refine a_icmp_gt (tgt := 100) d_Mo_layExchange_94 rfl (fun c10 => ?_) (fun c10 => ?_)
          · have h := h.1 c10
            refine a_aload_n (j := 0) d_Mo_layExchange_100 rfl rfl ?_
            refine a_iload_n (j := 3) d_Mo_layExchange_101 rfl rfl ?_
            refine b_putfield (x := r6) d_Mo_layExchange_102 fl_Mo_431 io_226 rfl rfl fs_nar_int ?_
            refine a_aload_n (j := 0) d_Mo_layExchange_105 rfl rfl ?_
            refine a_iload_n (j := 1) d_Mo_layExchange_106 rfl rfl ?_
            refine b_putfield (x := x1) d_Mo_layExchange_107 fl_Mo_434 io_226 rfl rfl fs_nar_int ?_
            refine a_aload_n (j := 0) d_Mo_layExchange_110 rfl rfl ?_
            refine a_iload_n (j := 2) d_Mo_layExchange_111 rfl rfl ?_
            refine b_putfield (x := x2) d_Mo_layExchange_112 fl_Mo_443 io_226 rfl rfl fs_nar_int ?_
            refine a_iinc (j := 2) d_Mo_layExchange_115 rfl (Nat.le_of_ble_eq_true rfl) [1, 2, 0, 3] rfl ?_
            refine a_goto (tgt := 25) d_Mo_layExchange_118 rfl ?_
            refine a_sub [0, 1, 2] rfl ?_
            exact h
          · have h := h.2 c10
            refine a_goto (tgt := 115) d_Mo_layExchange_97 rfl ?_
            refine a_iinc (j := 2) d_Mo_layExchange_115 rfl (Nat.le_of_ble_eq_true rfl) [1, 2, 0, 3] rfl ?_
            refine a_goto (tgt := 25) d_Mo_layExchange_118 rfl ?_
            refine a_sub [0, 1, 2] rfl ?_
            exact h
        · have h := h.2 c9
          refine a_goto (tgt := 115) d_Mo_layExchange_62 rfl ?_
          refine a_iinc (j := 2) d_Mo_layExchange_115 rfl (Nat.le_of_ble_eq_true rfl) [1, 2, 0] rfl ?_
          refine a_goto (tgt := 25) d_Mo_layExchange_118 rfl ?_
          exact h
set_option maxRecDepth 8000 in
set_option maxHeartbeats 4000000 in
theorem E_Mo_isInRow {M : fs_M} {K : fs_K} {x1 : Int} 
    (h : (0 ≤ fs_div x1 9 ∧ fs_div x1 9 < 66 ∧ ((M 242 (fs_div x1 9) ≤ fs_rem x1 9 → K (some (fs_i 0)) M) ∧ (¬ M 242 (fs_div x1 9) ≤ fs_rem x1 9 → K (some (fs_i 1)) M)))) :
    fs_C2 g m_Mo_isInRow 1 [fs_r 226, fs_i x1] M K := by
  refine b_enter2 (ls := [(0, fs_r 226), (1, fs_i x1)]) (plainFor_of_name pn_Mo) (Nat.le_of_ble_eq_true rfl) rfl ?_
  refine a_iload_n (j := 1) d_Mo_isInRow_0 rfl rfl ?_
  refine a_bipush d_Mo_isInRow_1 (by decide) ?_
  refine a_irem d_Mo_isInRow_3 (by decide) ?_
  refine a_aload_n (j := 0) d_Mo_isInRow_4 rfl rfl ?_
  refine b_getptr (q := 242) d_Mo_isInRow_5 fl_Mo_60 io_226 rfl rfl rfl ?_
  refine a_iload_n (j := 1) d_Mo_isInRow_8 rfl rfl ?_
  refine a_bipush d_Mo_isInRow_9 (by decide) ?_
  refine a_idiv d_Mo_isInRow_11 (by decide) ?_
  obtain ⟨o1, o2, h⟩ := h
  refine b_iaload (v := M 242 (fs_div x1 9)) d_Mo_isInRow_12 ia_242 o1 o2 rfl ?_
  refine a_icmp_ge (tgt := 20) d_Mo_isInRow_13 rfl (fun c3 => ?_) (fun c3 => ?_)
  · have h := h.1 c3
    refine a_iconst d_Mo_isInRow_20 (by unfold fs_in32; omega) ?_
    exact b_ireturn d_Mo_isInRow_21 rfl (fs_nar01 (Or.inl rfl)) h
  · have h := h.2 c3
    refine a_iconst d_Mo_isInRow_16 (by unfold fs_in32; omega) ?_
    refine a_goto (tgt := 21) d_Mo_isInRow_17 rfl ?_
    exact b_ireturn d_Mo_isInRow_21 rfl (fs_nar01 (Or.inr rfl)) h
set_option maxRecDepth 8000 in
set_option maxHeartbeats 4000000 in
theorem E_Mo_exchanges {M : fs_M} {K : fs_K} {x1 x2 : Int} 
    (h : (0 ≤ x1 ∧ x1 < 27 ∧ (0 ≤ x2 ∧ x2 < 27 ∧ K none (fs_st (fs_st M 251 x1 (M 251 x2)) 251 x2 (M 251 x1))))) :
    fs_C2 g m_Mo_exchanges 1 [fs_r 226, fs_i x1, fs_i x2] M K := by
  refine b_enter2 (ls := [(0, fs_r 226), (1, fs_i x1), (2, fs_i x2)]) (plainFor_of_name pn_Mo) (Nat.le_of_ble_eq_true rfl) rfl ?_
  refine a_aload_n (j := 0) d_Mo_exchanges_0 rfl rfl ?_
  refine b_getptr (q := 251) d_Mo_exchanges_1 fl_Mo_97 io_226 rfl rfl rfl ?_
  refine a_iload_n (j := 1) d_Mo_exchanges_4 rfl rfl ?_
  obtain ⟨o1, o2, h⟩ := h
  refine b_iaload (v := M 251 x1) d_Mo_exchanges_5 ia_251 o1 o2 rfl ?_
  refine a_istore_n d_Mo_exchanges_6 rfl (Nat.le_of_ble_eq_true rfl) [1, 2, 3, 0] rfl ?_
  refine a_aload_n (j := 0) d_Mo_exchanges_7 rfl rfl ?_
  refine b_getptr (q := 251) d_Mo_exchanges_8 fl_Mo_97 io_226 rfl rfl rfl ?_
  refine a_iload_n (j := 1) d_Mo_exchanges_11 rfl rfl ?_
  refine a_aload_n (j := 0) d_Mo_exchanges_12 rfl rfl ?_
  refine b_getptr (q := 251) d_Mo_exchanges_13 fl_Mo_97 io_226 rfl rfl rfl ?_
  refine a_iload_n (j := 2) d_Mo_exchanges_16 rfl rfl ?_
  obtain ⟨o3, o4, h⟩ := h
  refine b_iaload (v := M 251 x2) d_Mo_exchanges_17 ia_251 o3 o4 rfl ?_
  refine b_iastore d_Mo_exchanges_18 ia_251 o1 o2 ?_
  refine a_aload_n (j := 0) d_Mo_exchanges_19 rfl rfl ?_
  refine b_getptr (q := 251) d_Mo_exchanges_20 fl_Mo_97 io_226 rfl rfl rfl ?_
  refine a_iload_n (j := 2) d_Mo_exchanges_23 rfl rfl ?_
  refine a_iload_n (j := 3) d_Mo_exchanges_24 rfl rfl ?_
  refine b_iastore d_Mo_exchanges_25 ia_251 o3 o4 ?_
  exact b_return d_Mo_exchanges_26 rfl h
set_option maxRecDepth 8000 in
set_option maxHeartbeats 4000000 in
theorem E_Mo_climb {M : fs_M} {K : fs_K} 
    (h : fs_A2 g m_Mo_climb 11 7 [(0, fs_r 226), (1, fs_i 0)] [] (fs_st M 226 0 0) K) :
    fs_C2 g m_Mo_climb 11 [fs_r 226] M K := by
  refine b_enter2 (ls := [(0, fs_r 226)]) (plainFor_of_name pn_Mo) (Nat.le_of_ble_eq_true rfl) rfl ?_
  refine a_aload_n (j := 0) d_Mo_climb_0 rfl rfl ?_
  refine a_iconst d_Mo_climb_1 (by unfold fs_in32; omega) ?_
  refine b_putfield (x := 0) d_Mo_climb_2 fl_Mo_160 io_226 rfl rfl fs_nar_int ?_
  refine a_iconst d_Mo_climb_5 (by unfold fs_in32; omega) ?_
  refine a_istore_n d_Mo_climb_6 rfl (Nat.le_of_ble_eq_true rfl) [1, 0] rfl ?_
  exact h
set_option maxRecDepth 8000 in
set_option maxHeartbeats 4000000 in
theorem L_Mo_climb_7 {M : fs_M} {K : fs_K} {x1 : Int} 
    (h : fs_C2 g m_Mo_layExchange 10 [fs_r 226] M (fun v M1 => ∃ r1, v = some (fs_i r1) ∧ ((r1 = 0 → K (some (fs_i x1)) M1) ∧ (¬ r1 = 0 → ((¬ x1 = 0 → fs_A2 g m_Mo_climb 11 22 [(0, fs_r 226), (1, fs_i x1)] [] M1 K) ∧ (x1 = 0 → fs_C2 g m_Mo_keepNow 2 [fs_r 226] M1 (fun v M2 => v = none ∧ fs_A2 g m_Mo_climb 11 22 [(0, fs_r 226), (1, fs_i x1)] [] M2 K))))))) :
    fs_A2 g m_Mo_climb 11 7 [(0, fs_r 226), (1, fs_i x1)] [] M K := by
  refine a_aload_n (j := 0) d_Mo_climb_7 rfl rfl ?_
  refine b_virtual (dc := 10) (ci := 11) (T := fs_T11) (N := 78) [] [] d_Mo_climb_8 ml_Mo_446 k_Mo_layExchange v_Mo_layExchange rfl io_226 rfl (Nat.le_of_ble_eq_true rfl) rfl (Nat.le_of_ble_eq_true rfl) ?_
  refine fs_Call.mono (fun v M1 hv => ?_) h
  obtain ⟨r1, rfl, h⟩ := hv
  show fs_A2 g m_Mo_climb 11 11 [(0, fs_r 226), (1, fs_i x1)] [fs_i r1] M1 K
  refine a_if_eq (tgt := 66) d_Mo_climb_11 rfl (fun c1 => ?_) (fun c1 => ?_)
  · have h := h.1 c1
    refine a_iload_n (j := 1) d_Mo_climb_66 rfl rfl ?_
    exact b_ireturn d_Mo_climb_67 rfl rfl h
  · have h := h.2 c1
    refine a_iload_n (j := 1) d_Mo_climb_14 rfl rfl ?_
    refine a_if_ne (tgt := 22) d_Mo_climb_15 rfl (fun c2 => ?_) (fun c2 => ?_)
    · have h := h.1 c2
      exact h
    · have h := h.2 c2
      refine a_aload_n (j := 0) d_Mo_climb_18 rfl rfl ?_
      refine b_virtual (dc := 2) (ci := 11) (T := fs_T11) (N := 78) [] [] d_Mo_climb_19 ml_Mo_425 k_Mo_keepNow v_Mo_keepNow rfl io_226 rfl (Nat.le_of_ble_eq_true rfl) rfl (Nat.le_of_ble_eq_true rfl) ?_
      refine fs_Call.mono (fun v M2 hv => ?_) h
      obtain ⟨rfl, h⟩ := hv
      show fs_A2 g m_Mo_climb 11 22 [(0, fs_r 226), (1, fs_i x1)] [] M2 K
      exact h
set_option maxRecDepth 8000 in
set_option maxHeartbeats 4000000 in
theorem L_Mo_climb_22 {M : fs_M} {K : fs_K} {x1 : Int} 
    (h : (0 ≤ M 226 59 ∧ M 226 59 < 594 ∧ (0 ≤ M 226 60 ∧ M 226 60 < 594 ∧ fs_A2 g m_Mo_climb 11 7 [(0, fs_r 226), (1, fs_i (fs_w32 (x1 + 1)))] [] (fs_st (fs_st M 241 (M 226 59) (M 241 (M 226 60))) 241 (M 226 60) (M 241 (M 226 59))) K))) :
    fs_A2 g m_Mo_climb 11 22 [(0, fs_r 226), (1, fs_i x1)] [] M K := by
  refine a_aload_n (j := 0) d_Mo_climb_22 rfl rfl ?_
  refine b_getptr (q := 241) d_Mo_climb_23 fl_Mo_57 io_226 rfl rfl rfl ?_
  refine a_aload_n (j := 0) d_Mo_climb_26 rfl rfl ?_
  refine b_getfield (v := fs_i (M 226 59)) d_Mo_climb_27 fl_Mo_434 io_226 rfl ?_
  obtain ⟨o3, o4, h⟩ := h
  refine b_iaload (v := M 241 (M 226 59)) d_Mo_climb_30 ia_241 o3 o4 rfl ?_
  refine a_istore_n d_Mo_climb_31 rfl (Nat.le_of_ble_eq_true rfl) [1, 2, 0] rfl ?_
  refine a_aload_n (j := 0) d_Mo_climb_32 rfl rfl ?_
  refine b_getptr (q := 241) d_Mo_climb_33 fl_Mo_57 io_226 rfl rfl rfl ?_
  refine a_aload_n (j := 0) d_Mo_climb_36 rfl rfl ?_
  refine b_getfield (v := fs_i (M 226 59)) d_Mo_climb_37 fl_Mo_434 io_226 rfl ?_
  refine a_aload_n (j := 0) d_Mo_climb_40 rfl rfl ?_
  refine b_getptr (q := 241) d_Mo_climb_41 fl_Mo_57 io_226 rfl rfl rfl ?_
  refine a_aload_n (j := 0) d_Mo_climb_44 rfl rfl ?_
  refine b_getfield (v := fs_i (M 226 60)) d_Mo_climb_45 fl_Mo_443 io_226 rfl ?_
  obtain ⟨o5, o6, h⟩ := h
  refine b_iaload (v := M 241 (M 226 60)) d_Mo_climb_48 ia_241 o5 o6 rfl ?_
  refine b_iastore d_Mo_climb_49 ia_241 o3 o4 ?_
  refine a_aload_n (j := 0) d_Mo_climb_50 rfl rfl ?_
  refine b_getptr (q := 241) d_Mo_climb_51 fl_Mo_57 io_226 rfl rfl rfl ?_
  refine a_aload_n (j := 0) d_Mo_climb_54 rfl rfl ?_
  refine b_getfield (v := fs_i (M 226 60)) d_Mo_climb_55 fl_Mo_443 io_226 rfl ?_
  refine a_iload_n (j := 2) d_Mo_climb_58 rfl rfl ?_
  refine b_iastore d_Mo_climb_59 ia_241 o5 o6 ?_
  refine a_iinc (j := 1) d_Mo_climb_60 rfl (Nat.le_of_ble_eq_true rfl) [1, 0, 2] rfl ?_
  refine a_goto (tgt := 7) d_Mo_climb_63 rfl ?_
  refine a_sub [0, 1] rfl ?_
  exact h
set_option maxRecDepth 8000 in
set_option maxHeartbeats 4000000 in
theorem E_Mo_night {M : fs_M} {K : fs_K} 
    (h : fs_C2 g m_Mo_passes 8 [fs_r 226] (fs_st M 226 0 0) (fun v M1 => v = none ∧ fs_A2 g m_Mo_night 9 11 [(0, fs_r 226), (1, fs_i 0)] [] M1 K)) :
    fs_C2 g m_Mo_night 9 [fs_r 226] M K := by
  refine b_enter2 (ls := [(0, fs_r 226)]) (plainFor_of_name pn_Mo) (Nat.le_of_ble_eq_true rfl) rfl ?_
  refine a_aload_n (j := 0) d_Mo_night_0 rfl rfl ?_
  refine a_iconst d_Mo_night_1 (by unfold fs_in32; omega) ?_
  refine b_putfield (x := 0) d_Mo_night_2 fl_Mo_160 io_226 rfl rfl fs_nar_int ?_
  refine a_aload_n (j := 0) d_Mo_night_5 rfl rfl ?_
  refine b_virtual (dc := 8) (ci := 11) (T := fs_T11) (N := 78) [] [] d_Mo_night_6 ml_Mo_449 k_Mo_passes v_Mo_passes rfl io_226 rfl (Nat.le_of_ble_eq_true rfl) rfl (Nat.le_of_ble_eq_true rfl) ?_
  refine fs_Call.mono (fun v M1 hv => ?_) h
  obtain ⟨rfl, h⟩ := hv
  show fs_A2 g m_Mo_night 9 9 [(0, fs_r 226)] [] M1 K
  refine a_iconst d_Mo_night_9 (by unfold fs_in32; omega) ?_
  refine a_istore_n d_Mo_night_10 rfl (Nat.le_of_ble_eq_true rfl) [1, 0] rfl ?_
  exact h
set_option maxRecDepth 8000 in
set_option maxHeartbeats 4000000 in
theorem L_Mo_night_11 {M : fs_M} {K : fs_K} {x1 : Int} 
    (h : ((6 ≤ x1 → fs_C2 g m_Mo_gains 2 [fs_r 226] (fs_st M 246 0 (fs_w32 ((M 246 0) + 1))) (fun v M2 => ∃ r2, v = some (fs_i r2) ∧ K (some (fs_i r2)) M2)) ∧ (¬ 6 ≤ x1 → (0 ≤ x1 ∧ fs_A2 g m_Mo_night 9 11 [(0, fs_r 226), (1, fs_i (fs_w32 (x1 + 1)))] [] (fs_st (fs_st M 247 x1 (M 261 x1)) 248 x1 (M 262 x1)) K)))) :
    fs_A2 g m_Mo_night 9 11 [(0, fs_r 226), (1, fs_i x1)] [] M K := by
  refine a_iload_n (j := 1) d_Mo_night_11 rfl rfl ?_
  refine a_bipush d_Mo_night_12 (by decide) ?_
  refine a_icmp_ge (tgt := 47) d_Mo_night_14 rfl (fun c1 => ?_) (fun c1 => ?_)
  · have h := h.1 c1
    refine a_aload_n (j := 0) d_Mo_night_47 rfl rfl ?_
    refine b_getptr (q := 246) d_Mo_night_48 fl_Mo_72 io_226 rfl rfl rfl ?_
    refine a_iconst d_Mo_night_51 (by unfold fs_in32; omega) ?_
    refine a_dup2 d_Mo_night_52 rfl rfl ?_
    refine b_iaload (v := M 246 0) d_Mo_night_53 ia_246 (by decide) (by decide) rfl ?_
    refine a_iconst d_Mo_night_54 (by unfold fs_in32; omega) ?_
    refine a_iadd d_Mo_night_55 ?_
    refine b_iastore d_Mo_night_56 ia_246 (by decide) (by decide) ?_
    refine a_aload_n (j := 0) d_Mo_night_57 rfl rfl ?_
    refine b_virtual (dc := 2) (ci := 11) (T := fs_T11) (N := 78) [] [] d_Mo_night_58 ml_Mo_412 k_Mo_gains v_Mo_gains rfl io_226 rfl (Nat.le_of_ble_eq_true rfl) rfl (Nat.le_of_ble_eq_true rfl) ?_
    refine fs_Call.mono (fun v M2 hv => ?_) h
    obtain ⟨r2, rfl, h⟩ := hv
    show fs_A2 g m_Mo_night 9 61 [(0, fs_r 226), (1, fs_i x1)] [fs_i r2] M2 K
    exact b_ireturn d_Mo_night_61 rfl rfl h
  · have h := h.2 c1
    refine a_aload_n (j := 0) d_Mo_night_17 rfl rfl ?_
    refine b_getptr (q := 247) d_Mo_night_18 fl_Mo_75 io_226 rfl rfl rfl ?_
    refine a_iload_n (j := 1) d_Mo_night_21 rfl rfl ?_
    refine a_aload_n (j := 0) d_Mo_night_22 rfl rfl ?_
    refine b_getptr (q := 261) d_Mo_night_23 fl_Mo_127 io_226 rfl rfl rfl ?_
    refine a_iload_n (j := 1) d_Mo_night_26 rfl rfl ?_
    obtain ⟨o2, h⟩ := h
    refine b_iaload (v := M 261 x1) d_Mo_night_27 ia_261 o2 (by omega : x1 < 6) rfl ?_
    refine b_iastore d_Mo_night_28 ia_247 o2 (by have q := (by omega : x1 < 6); omega) ?_
    refine a_aload_n (j := 0) d_Mo_night_29 rfl rfl ?_
    refine b_getptr (q := 248) d_Mo_night_30 fl_Mo_78 io_226 rfl rfl rfl ?_
    refine a_iload_n (j := 1) d_Mo_night_33 rfl rfl ?_
    refine a_aload_n (j := 0) d_Mo_night_34 rfl rfl ?_
    refine b_getptr (q := 262) d_Mo_night_35 fl_Mo_130 io_226 rfl rfl rfl ?_
    refine a_iload_n (j := 1) d_Mo_night_38 rfl rfl ?_
    refine b_iaload (v := M 262 x1) d_Mo_night_39 ia_262 o2 (by omega : x1 < 6) rfl ?_
    refine b_iastore d_Mo_night_40 ia_248 o2 (by have q := (by omega : x1 < 6); omega) ?_
    refine a_iinc (j := 1) d_Mo_night_41 rfl (Nat.le_of_ble_eq_true rfl) [1, 0] rfl ?_
    refine a_goto (tgt := 11) d_Mo_night_44 rfl ?_
    exact h
set_option maxRecDepth 8000 in
set_option maxHeartbeats 4000000 in
theorem E_Mo_passes {M : fs_M} {K : fs_K} 
    (h : fs_C2 g m_Mo_asIs 2 [fs_r 226] M (fun v M1 => v = none ∧ fs_C2 g m_Mo_starts 7 [fs_r 226] M1 (fun v M2 => v = none ∧ fs_A2 g m_Mo_passes 8 10 [(0, fs_r 226), (1, fs_i 1)] [] M2 K))) :
    fs_C2 g m_Mo_passes 8 [fs_r 226] M K := by
  refine b_enter2 (ls := [(0, fs_r 226)]) (plainFor_of_name pn_Mo) (Nat.le_of_ble_eq_true rfl) rfl ?_
  refine a_aload_n (j := 0) d_Mo_passes_0 rfl rfl ?_
  refine b_virtual (dc := 2) (ci := 11) (T := fs_T11) (N := 78) [] [] d_Mo_passes_1 ml_Mo_406 k_Mo_asIs v_Mo_asIs rfl io_226 rfl (Nat.le_of_ble_eq_true rfl) rfl (Nat.le_of_ble_eq_true rfl) ?_
  refine fs_Call.mono (fun v M1 hv => ?_) h
  obtain ⟨rfl, h⟩ := hv
  show fs_A2 g m_Mo_passes 8 4 [(0, fs_r 226)] [] M1 K
  refine a_aload_n (j := 0) d_Mo_passes_4 rfl rfl ?_
  refine b_virtual (dc := 7) (ci := 11) (T := fs_T11) (N := 78) [] [] d_Mo_passes_5 ml_Mo_394 k_Mo_starts v_Mo_starts rfl io_226 rfl (Nat.le_of_ble_eq_true rfl) rfl (Nat.le_of_ble_eq_true rfl) ?_
  refine fs_Call.mono (fun v M2 hv => ?_) h
  obtain ⟨rfl, h⟩ := hv
  show fs_A2 g m_Mo_passes 8 8 [(0, fs_r 226)] [] M2 K
  refine a_iconst d_Mo_passes_8 (by unfold fs_in32; omega) ?_
  refine a_istore_n d_Mo_passes_9 rfl (Nat.le_of_ble_eq_true rfl) [1, 0] rfl ?_
  exact h
set_option maxRecDepth 8000 in
set_option maxHeartbeats 4000000 in
theorem L_Mo_passes_10 {M : fs_M} {K : fs_K} {x1 : Int} 
    (h : ((240 < x1 → K none M) ∧ (¬ 240 < x1 → fs_C2 g m_Mo_next 1 [fs_r 226] M (fun v M3 => ∃ r3, v = some (fs_i r3) ∧ fs_A2 g m_Mo_passes 8 22 [(0, fs_r 226), (1, fs_i x1), (2, fs_i r3)] [] M3 K)))) :
    fs_A2 g m_Mo_passes 8 10 [(0, fs_r 226), (1, fs_i x1)] [] M K := by
  refine a_iload_n (j := 1) d_Mo_passes_10 rfl rfl ?_
  refine a_sipush d_Mo_passes_11 (by decide) ?_
  refine a_icmp_gt (tgt := 119) d_Mo_passes_14 rfl (fun c1 => ?_) (fun c1 => ?_)
  · have h := h.1 c1
    exact b_return d_Mo_passes_119 rfl h
  · have h := h.2 c1
    refine a_aload_n (j := 0) d_Mo_passes_17 rfl rfl ?_
    refine b_virtual (dc := 1) (ci := 11) (T := fs_T11) (N := 78) [] [] d_Mo_passes_18 ml_Mo_397 k_Mo_next v_Mo_next rfl io_226 rfl (Nat.le_of_ble_eq_true rfl) rfl (Nat.le_of_ble_eq_true rfl) ?_
    refine fs_Call.mono (fun v M3 hv => ?_) h
    obtain ⟨r3, rfl, h⟩ := hv
    show fs_A2 g m_Mo_passes 8 21 [(0, fs_r 226), (1, fs_i x1)] [fs_i r3] M3 K
    refine a_istore_n d_Mo_passes_21 rfl (Nat.le_of_ble_eq_true rfl) [1, 2, 0] rfl ?_
    exact h
set_option maxRecDepth 8000 in
set_option maxHeartbeats 4000000 in
theorem L_Mo_passes_22 {M : fs_M} {K : fs_K} {x1 x2 : Int} 
    (h : (0 ≤ x2 ∧ x2 < 3 ∧ ((x1 < M 257 x2 → fs_A2 g m_Mo_passes 8 47 [(0, fs_r 226), (1, fs_i x1), (2, fs_i 0)] [] M K) ∧ (¬ x1 < M 257 x2 → fs_C2 g m_Mo_arrives 7 [fs_r 226, fs_i x2] M (fun v M4 => v = none ∧ fs_C2 g m_Mo_next 1 [fs_r 226] M4 (fun v M5 => ∃ r5, v = some (fs_i r5) ∧ fs_A2 g m_Mo_passes 8 22 [(0, fs_r 226), (1, fs_i x1), (2, fs_i r5)] [] M5 K)))))) :
    fs_A2 g m_Mo_passes 8 22 [(0, fs_r 226), (1, fs_i x1), (2, fs_i x2)] [] M K := by
  refine a_aload_n (j := 0) d_Mo_passes_22 rfl rfl ?_
  refine b_getptr (q := 257) d_Mo_passes_23 fl_Mo_115 io_226 rfl rfl rfl ?_
  refine a_iload_n (j := 2) d_Mo_passes_26 rfl rfl ?_
  obtain ⟨o2, o3, h⟩ := h
  refine b_iaload (v := M 257 x2) d_Mo_passes_27 ia_257 o2 o3 rfl ?_
  refine a_iload_n (j := 1) d_Mo_passes_28 rfl rfl ?_
  refine a_icmp_gt (tgt := 45) d_Mo_passes_29 rfl (fun c4 => ?_) (fun c4 => ?_)
  · have h := h.1 c4
    refine a_iconst d_Mo_passes_45 (by unfold fs_in32; omega) ?_
    refine a_istore_n d_Mo_passes_46 rfl (Nat.le_of_ble_eq_true rfl) [1, 2, 0] rfl ?_
    exact h
  · have h := h.2 c4
    refine a_aload_n (j := 0) d_Mo_passes_32 rfl rfl ?_
    refine a_iload_n (j := 2) d_Mo_passes_33 rfl rfl ?_
    refine b_virtual (dc := 7) (ci := 11) (T := fs_T11) (N := 78) [fs_i x2] [] d_Mo_passes_34 ml_Mo_400 k_Mo_arrives v_Mo_arrives rfl io_226 rfl (Nat.le_of_ble_eq_true rfl) rfl (Nat.le_of_ble_eq_true rfl) ?_
    refine fs_Call.mono (fun v M4 hv => ?_) h
    obtain ⟨rfl, h⟩ := hv
    show fs_A2 g m_Mo_passes 8 37 [(0, fs_r 226), (1, fs_i x1), (2, fs_i x2)] [] M4 K
    refine a_aload_n (j := 0) d_Mo_passes_37 rfl rfl ?_
    refine b_virtual (dc := 1) (ci := 11) (T := fs_T11) (N := 78) [] [] d_Mo_passes_38 ml_Mo_397 k_Mo_next v_Mo_next rfl io_226 rfl (Nat.le_of_ble_eq_true rfl) rfl (Nat.le_of_ble_eq_true rfl) ?_
    refine fs_Call.mono (fun v M5 hv => ?_) h
    obtain ⟨r5, rfl, h⟩ := hv
    show fs_A2 g m_Mo_passes 8 41 [(0, fs_r 226), (1, fs_i x1), (2, fs_i x2)] [fs_i r5] M5 K
    refine a_istore_n d_Mo_passes_41 rfl (Nat.le_of_ble_eq_true rfl) [1, 2, 0] rfl ?_
    refine a_goto (tgt := 22) d_Mo_passes_42 rfl ?_
    exact h
set_option maxRecDepth 8000 in
set_option maxHeartbeats 4000000 in
theorem L_Mo_passes_47 {M : fs_M} {K : fs_K} {x1 x2 : Int} 
    (h : ((M 228 0 ≤ x2 → fs_A2 g m_Mo_passes 8 10 [(0, fs_r 226), (1, fs_i (fs_w32 (x1 + 1)))] [] M K) ∧ (¬ M 228 0 ≤ x2 → (0 ≤ x2 ∧ x2 < 6 ∧ ((M 261 x2 = (-1) → fs_C2 g m_Mo_catOf 5 [fs_r 226, fs_i x2, fs_i x1] M (fun v M6 => ∃ r6, v = some (fs_i r6) ∧ ((r6 = 0 → fs_A2 g m_Mo_passes 8 47 [(0, fs_r 226), (1, fs_i x1), (2, fs_i (fs_w32 (x2 + 1)))] [] M6 K) ∧ (¬ r6 = 0 → fs_C2 g m_Mo_draw 1 [fs_r 226] M6 (fun v M7 => ∃ r7, v = some (fs_i r7) ∧ ((r7 < r6 → fs_A2 g m_Mo_passes 8 47 [(0, fs_r 226), (1, fs_i x1), (2, fs_i (fs_w32 (x2 + 1)))] [] (fs_st (fs_st M7 261 x2 (-3)) 262 x2 x1) K) ∧ (¬ r7 < r6 → fs_A2 g m_Mo_passes 8 47 [(0, fs_r 226), (1, fs_i x1), (2, fs_i (fs_w32 (x2 + 1)))] [] M7 K))))))) ∧ (¬ M 261 x2 = (-1) → fs_A2 g m_Mo_passes 8 47 [(0, fs_r 226), (1, fs_i x1), (2, fs_i (fs_w32 (x2 + 1)))] [] M K)))))) :
    fs_A2 g m_Mo_passes 8 47 [(0, fs_r 226), (1, fs_i x1), (2, fs_i x2)] [] M K := by
  refine a_iload_n (j := 2) d_Mo_passes_47 rfl rfl ?_
  refine a_aload_n (j := 0) d_Mo_passes_48 rfl rfl ?_
  refine b_getptr (q := 228) d_Mo_passes_49 fl_Mo_13 io_226 rfl rfl rfl ?_
  refine a_iconst d_Mo_passes_52 (by unfold fs_in32; omega) ?_
  refine b_iaload (v := M 228 0) d_Mo_passes_53 ia_228 (by decide) (by decide) rfl ?_
  refine a_icmp_ge (tgt := 113) d_Mo_passes_54 rfl (fun c5 => ?_) (fun c5 => ?_)
  · have h := h.1 c5
    refine a_iinc (j := 1) d_Mo_passes_113 rfl (Nat.le_of_ble_eq_true rfl) [1, 0, 2] rfl ?_
    refine a_goto (tgt := 10) d_Mo_passes_116 rfl ?_
    refine a_sub [0, 1] rfl ?_
    exact h
  · have h := h.2 c5
    refine a_aload_n (j := 0) d_Mo_passes_57 rfl rfl ?_
    refine b_getptr (q := 261) d_Mo_passes_58 fl_Mo_127 io_226 rfl rfl rfl ?_
    refine a_iload_n (j := 2) d_Mo_passes_61 rfl rfl ?_
    obtain ⟨o6, o7, h⟩ := h
    refine b_iaload (v := M 261 x2) d_Mo_passes_62 ia_261 o6 o7 rfl ?_
    refine a_iconst d_Mo_passes_63 (by unfold fs_in32; omega) ?_
    refine a_icmp_eq (tgt := 70) d_Mo_passes_64 rfl (fun c8 => ?_) (fun c8 => ?_)
    · have h := h.1 c8
      refine a_aload_n (j := 0) d_Mo_passes_70 rfl rfl ?_
      refine a_iload_n (j := 2) d_Mo_passes_71 rfl rfl ?_
      refine a_iload_n (j := 1) d_Mo_passes_72 rfl rfl ?_
      refine b_virtual (dc := 5) (ci := 11) (T := fs_T11) (N := 78) [fs_i x2, fs_i x1] [] d_Mo_passes_73 ml_Mo_377 k_Mo_catOf v_Mo_catOf rfl io_226 rfl (Nat.le_of_ble_eq_true rfl) rfl (Nat.le_of_ble_eq_true rfl) ?_
      refine fs_Call.mono (fun v M6 hv => ?_) h
      obtain ⟨r6, rfl, h⟩ := hv
      show fs_A2 g m_Mo_passes 8 76 [(0, fs_r 226), (1, fs_i x1), (2, fs_i x2)] [fs_i r6] M6 K
      refine a_istore_n d_Mo_passes_76 rfl (Nat.le_of_ble_eq_true rfl) [1, 2, 3, 0] rfl ?_
      refine a_iload_n (j := 3) d_Mo_passes_77 rfl rfl ?_
      refine a_if_eq (tgt := 107) d_Mo_passes_78 rfl (fun c9 => ?_) (fun c9 => ?_)
      · have h := h.1 c9
        refine a_iinc (j := 2) d_Mo_passes_107 rfl (Nat.le_of_ble_eq_true rfl) [1, 2, 0, 3] rfl ?_
        refine a_goto (tgt := 47) d_Mo_passes_110 rfl ?_
        refine a_sub [0, 1, 2] rfl ?_
        exact h
      · have h := h.2 c9
        refine a_aload_n (j := 0) d_Mo_passes_81 rfl rfl ?_
        refine b_virtual (dc := 1) (ci := 11) (T := fs_T11) (N := 78) [] [] d_Mo_passes_82 ml_Mo_419 k_Mo_draw v_Mo_draw rfl io_226 rfl (Nat.le_of_ble_eq_true rfl) rfl (Nat.le_of_ble_eq_true rfl) ?_
        refine fs_Call.mono (fun v M7 hv => ?_) h
        obtain ⟨r7, rfl, h⟩ := hv
        show fs_A2 g m_Mo_passes 8 85 [(0, fs_r 226), (1, fs_i x1), (2, fs_i x2), (3, fs_i r6)] [fs_i r7] M7 K
        refine a_iload_n (j := 3) d_Mo_passes_85 rfl rfl ?_
        refine a_icmp_lt (tgt := 92) d_Mo_passes_86 rfl (fun c10 => ?_) (fun c10 => ?_)
        · have h := h.1 c10
          refine a_aload_n (j := 0) d_Mo_passes_92 rfl rfl ?_
          refine b_getptr (q := 261) d_Mo_passes_93 fl_Mo_127 io_226 rfl rfl rfl ?_
          refine a_iload_n (j := 2) d_Mo_passes_96 rfl rfl ?_
          refine a_bipush d_Mo_passes_97 (by decide) ?_
          refine b_iastore d_Mo_passes_99 ia_261 o6 o7 ?_
          refine a_aload_n (j := 0) d_Mo_passes_100 rfl rfl ?_
          refine b_getptr (q := 262) d_Mo_passes_101 fl_Mo_130 io_226 rfl rfl rfl ?_
          refine a_iload_n (j := 2) d_Mo_passes_104 rfl rfl ?_
          refine a_iload_n (j := 1) d_Mo_passes_105 rfl rfl ?_
          refine b_iastore d_Mo_passes_106 ia_262 o6 o7 ?_
          refine a_iinc (j := 2) d_Mo_passes_107 rfl (Nat.le_of_ble_eq_true rfl) [1, 2, 0, 3] rfl ?_
          refine a_goto (tgt := 47) d_Mo_passes_110 rfl ?_
          refine a_sub [0, 1, 2] rfl ?_
          exact h
        · have h := h.2 c10
          refine a_goto (tgt := 107) d_Mo_passes_89 rfl ?_
          refine a_iinc (j := 2) d_Mo_passes_107 rfl (Nat.le_of_ble_eq_true rfl) [1, 2, 0, 3] rfl ?_
          refine a_goto (tgt := 47) d_Mo_passes_110 rfl ?_
          refine a_sub [0, 1, 2] rfl ?_
          exact h
    · have h := h.2 c8
      refine a_goto (tgt := 107) d_Mo_passes_67 rfl ?_
      refine a_iinc (j := 2) d_Mo_passes_107 rfl (Nat.le_of_ble_eq_true rfl) [1, 2, 0] rfl ?_
      refine a_goto (tgt := 47) d_Mo_passes_110 rfl ?_
      exact h
set_option maxRecDepth 8000 in
set_option maxHeartbeats 4000000 in
theorem E_Mo_draw {M : fs_M} {K : fs_K} 
    (h : K (some (fs_i (fs_rem (fs_shr (fs_and (fs_w32 ((fs_w32 ((M 245 0) * 1103515245)) + 12345)) 2147483647) 16) 1000))) (fs_st M 245 0 (fs_and (fs_w32 ((fs_w32 ((M 245 0) * 1103515245)) + 12345)) 2147483647))) :
    fs_C2 g m_Mo_draw 1 [fs_r 226] M K := by
  refine b_enter2 (ls := [(0, fs_r 226)]) (plainFor_of_name pn_Mo) (Nat.le_of_ble_eq_true rfl) rfl ?_
  refine a_aload_n (j := 0) d_Mo_draw_0 rfl rfl ?_
  refine b_getptr (q := 245) d_Mo_draw_1 fl_Mo_69 io_226 rfl rfl rfl ?_
  refine a_iconst d_Mo_draw_4 (by unfold fs_in32; omega) ?_
  refine a_aload_n (j := 0) d_Mo_draw_5 rfl rfl ?_
  refine b_getptr (q := 245) d_Mo_draw_6 fl_Mo_69 io_226 rfl rfl rfl ?_
  refine a_iconst d_Mo_draw_9 (by unfold fs_in32; omega) ?_
  refine b_iaload (v := M 245 0) d_Mo_draw_10 ia_245 (by decide) (by decide) rfl ?_
  refine a_ldcw d_Mo_draw_11 cn_Mo_415 (by unfold fs_in32; omega) ?_
  refine a_imul d_Mo_draw_14 ?_
  refine a_sipush d_Mo_draw_15 (by decide) ?_
  refine a_iadd d_Mo_draw_18 ?_
  refine a_ldcw d_Mo_draw_19 cn_Mo_418 (by unfold fs_in32; omega) ?_
  refine a_iand d_Mo_draw_22 ?_
  refine b_iastore d_Mo_draw_23 ia_245 (by decide) (by decide) ?_
  refine a_aload_n (j := 0) d_Mo_draw_24 rfl rfl ?_
  refine b_getptr (q := 245) d_Mo_draw_25 fl_Mo_69 io_226 rfl rfl rfl ?_
  refine a_iconst d_Mo_draw_28 (by unfold fs_in32; omega) ?_
  refine b_iaload (v := fs_and (fs_w32 ((fs_w32 ((M 245 0) * 1103515245)) + 12345)) 2147483647) d_Mo_draw_29 ia_245 (by decide) (by decide) rfl ?_
  refine a_bipush d_Mo_draw_30 (by decide) ?_
  refine a_ishr d_Mo_draw_32 ?_
  refine a_sipush d_Mo_draw_33 (by decide) ?_
  refine a_irem d_Mo_draw_36 (by decide) ?_
  exact b_ireturn d_Mo_draw_37 rfl rfl h
set_option maxRecDepth 8000 in
set_option maxHeartbeats 4000000 in
theorem E_Mo_was {M : fs_M} {K : fs_K} {x1 x2 : Int} 
    (h : fs_C2 g m_Mo_isHouse 1 [fs_r 226, fs_i x1] (fs_st M 226 0 0) (fun v M1 => ∃ r1, v = some (fs_i r1) ∧ ((r1 = 0 → K (some (fs_i (-1))) M1) ∧ (¬ r1 = 0 → ((x2 < 0 → K (some (fs_i (-1))) M1) ∧ (¬ x2 < 0 → ((x2 ≤ 1 → ((¬ M1 246 0 = 0 → ((¬ x2 = 0 → (0 ≤ x1 ∧ x1 < 12 ∧ K (some (fs_i (M1 248 x1))) M1)) ∧ (x2 = 0 → (0 ≤ x1 ∧ x1 < 12 ∧ K (some (fs_i (M1 247 x1))) M1)))) ∧ (M1 246 0 = 0 → K (some (fs_i (-4))) M1))) ∧ (¬ x2 ≤ 1 → K (some (fs_i (-1))) M1)))))))) :
    fs_C2 g m_Mo_was 2 [fs_r 226, fs_i x1, fs_i x2] M K := by
  refine b_enter2 (ls := [(0, fs_r 226), (1, fs_i x1), (2, fs_i x2)]) (plainFor_of_name pn_Mo) (Nat.le_of_ble_eq_true rfl) rfl ?_
  refine a_aload_n (j := 0) d_Mo_was_0 rfl rfl ?_
  refine a_iconst d_Mo_was_1 (by unfold fs_in32; omega) ?_
  refine b_putfield (x := 0) d_Mo_was_2 fl_Mo_160 io_226 rfl rfl fs_nar_int ?_
  refine a_aload_n (j := 0) d_Mo_was_5 rfl rfl ?_
  refine a_iload_n (j := 1) d_Mo_was_6 rfl rfl ?_
  refine b_virtual (dc := 1) (ci := 11) (T := fs_T11) (N := 78) [fs_i x1] [] d_Mo_was_7 ml_Mo_314 k_Mo_isHouse v_Mo_isHouse rfl io_226 rfl (Nat.le_of_ble_eq_true rfl) rfl (Nat.le_of_ble_eq_true rfl) ?_
  refine fs_Call.mono (fun v M1 hv => ?_) h
  obtain ⟨r1, rfl, h⟩ := hv
  show fs_A2 g m_Mo_was 2 10 [(0, fs_r 226), (1, fs_i x1), (2, fs_i x2)] [fs_i r1] M1 K
  refine a_if_eq (tgt := 22) d_Mo_was_10 rfl (fun c1 => ?_) (fun c1 => ?_)
  · have h := h.1 c1
    refine a_iconst d_Mo_was_22 (by unfold fs_in32; omega) ?_
    exact b_ireturn d_Mo_was_23 rfl rfl h
  · have h := h.2 c1
    refine a_iload_n (j := 2) d_Mo_was_13 rfl rfl ?_
    refine a_if_lt (tgt := 22) d_Mo_was_14 rfl (fun c2 => ?_) (fun c2 => ?_)
    · have h := h.1 c2
      refine a_iconst d_Mo_was_22 (by unfold fs_in32; omega) ?_
      exact b_ireturn d_Mo_was_23 rfl rfl h
    · have h := h.2 c2
      refine a_iload_n (j := 2) d_Mo_was_17 rfl rfl ?_
      refine a_iconst d_Mo_was_18 (by unfold fs_in32; omega) ?_
      refine a_icmp_le (tgt := 24) d_Mo_was_19 rfl (fun c3 => ?_) (fun c3 => ?_)
      · have h := h.1 c3
        refine a_aload_n (j := 0) d_Mo_was_24 rfl rfl ?_
        refine b_getptr (q := 246) d_Mo_was_25 fl_Mo_72 io_226 rfl rfl rfl ?_
        refine a_iconst d_Mo_was_28 (by unfold fs_in32; omega) ?_
        refine b_iaload (v := M1 246 0) d_Mo_was_29 ia_246 (by decide) (by decide) rfl ?_
        refine a_if_ne (tgt := 36) d_Mo_was_30 rfl (fun c4 => ?_) (fun c4 => ?_)
        · have h := h.1 c4
          refine a_iload_n (j := 2) d_Mo_was_36 rfl rfl ?_
          refine a_if_ne (tgt := 49) d_Mo_was_37 rfl (fun c5 => ?_) (fun c5 => ?_)
          · have h := h.1 c5
            refine a_aload_n (j := 0) d_Mo_was_49 rfl rfl ?_
            refine b_getptr (q := 248) d_Mo_was_50 fl_Mo_78 io_226 rfl rfl rfl ?_
            refine a_iload_n (j := 1) d_Mo_was_53 rfl rfl ?_
            obtain ⟨o6, o7, h⟩ := h
            refine b_iaload (v := M1 248 x1) d_Mo_was_54 ia_248 o6 o7 rfl ?_
            exact b_ireturn d_Mo_was_55 rfl rfl h
          · have h := h.2 c5
            refine a_aload_n (j := 0) d_Mo_was_40 rfl rfl ?_
            refine b_getptr (q := 247) d_Mo_was_41 fl_Mo_75 io_226 rfl rfl rfl ?_
            refine a_iload_n (j := 1) d_Mo_was_44 rfl rfl ?_
            obtain ⟨o8, o9, h⟩ := h
            refine b_iaload (v := M1 247 x1) d_Mo_was_45 ia_247 o8 o9 rfl ?_
            refine a_goto (tgt := 55) d_Mo_was_46 rfl ?_
            exact b_ireturn d_Mo_was_55 rfl rfl h
        · have h := h.2 c4
          refine a_bipush d_Mo_was_33 (by decide) ?_
          exact b_ireturn d_Mo_was_35 rfl rfl h
      · have h := h.2 c3
        refine a_iconst d_Mo_was_22 (by unfold fs_in32; omega) ?_
        exact b_ireturn d_Mo_was_23 rfl rfl h
end WALK
