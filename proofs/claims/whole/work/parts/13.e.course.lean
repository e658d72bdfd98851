-- ===== printed by program (wip/whole/gen12.py): what must hold at a method's entry, at its labels =====
section WALK
variable {g : fs_G}
set_option maxRecDepth 8000 in
set_option maxHeartbeats 4000000 in
theorem E_Course_run {M : fs_M} {K : fs_K} {x1 x2 : Int} (h1 : fs_isO 6 x1) 
    (h : fs_C2 g m_Course_begin 6 [fs_r 43, fs_r x1, fs_i x2] M (fun v M1 => v = none ∧ fs_C2 g m_Course_comeUntil 6 [fs_r 43, fs_i 240] M1 (fun v M2 => v = none ∧ K none M2))) :
    fs_C2 g m_Course_run 7 [fs_r 43, fs_r x1, fs_i x2] M K := by
  refine b_enter2 (ls := [(0, fs_r 43), (1, fs_r x1), (2, fs_i x2)]) (plainFor_of_name pn_Course) (Nat.le_of_ble_eq_true rfl) rfl ?_
  refine a_aload_n (j := 0) d_Course_run_0 rfl rfl ?_
  refine a_aload_n (j := 1) d_Course_run_1 rfl rfl ?_
  refine a_iload_n (j := 2) d_Course_run_2 rfl rfl ?_
  refine b_virtual (dc := 6) (ci := 1) (T := fs_T1) (N := 8) [fs_r x1, fs_i x2] [] d_Course_run_3 ml_Course_45 k_Course_begin v_Course_begin rfl io_43 rfl (Nat.le_of_ble_eq_true rfl) rfl (Nat.le_of_ble_eq_true rfl) ?_
  refine fs_Call.mono (fun v M1 hv => ?_) h
  obtain ⟨rfl, h⟩ := hv
  show fs_A2 g m_Course_run 7 6 [(0, fs_r 43), (1, fs_r x1), (2, fs_i x2)] [] M1 K
  refine a_aload_n (j := 0) d_Course_run_6 rfl rfl ?_
  refine a_sipush d_Course_run_7 (by decide) ?_
  refine b_virtual (dc := 6) (ci := 1) (T := fs_T1) (N := 8) [fs_i 240] [] d_Course_run_10 ml_Course_49 k_Course_comeUntil v_Course_comeUntil rfl io_43 rfl (Nat.le_of_ble_eq_true rfl) rfl (Nat.le_of_ble_eq_true rfl) ?_
  refine fs_Call.mono (fun v M2 hv => ?_) h
  obtain ⟨rfl, h⟩ := hv
  show fs_A2 g m_Course_run 7 13 [(0, fs_r 43), (1, fs_r x1), (2, fs_i x2)] [] M2 K
  exact b_return d_Course_run_13 rfl h
set_option maxRecDepth 8000 in
set_option maxHeartbeats 4000000 in
theorem E_Course_begin {M : fs_M} {K : fs_K} {x1 x2 : Int} (h1 : fs_isO 6 x1) 
    (h : fs_A2 g m_Course_begin 6 17 [(0, fs_r 43), (1, fs_r x1), (3, fs_i 0)] [] (fs_st (fs_st (fs_st M 43 1 x1) 43 2 x2) 43 7 0) K) :
    fs_C2 g m_Course_begin 6 [fs_r 43, fs_r x1, fs_i x2] M K := by
  refine b_enter2 (ls := [(0, fs_r 43), (1, fs_r x1), (2, fs_i x2)]) (plainFor_of_name pn_Course) (Nat.le_of_ble_eq_true rfl) rfl ?_
  refine a_aload_n (j := 0) d_Course_begin_0 rfl rfl ?_
  refine a_aload_n (j := 1) d_Course_begin_1 rfl rfl ?_
  refine b_putfield (x := x1) d_Course_begin_2 fl_Course_40 io_43 rfl rfl fs_nar_obj ?_
  refine a_aload_n (j := 0) d_Course_begin_5 rfl rfl ?_
  refine a_iload_n (j := 2) d_Course_begin_6 rfl rfl ?_
  refine b_putfield (x := x2) d_Course_begin_7 fl_Course_9 io_43 rfl rfl fs_nar_int ?_
  refine a_aload_n (j := 0) d_Course_begin_10 rfl rfl ?_
  refine a_iconst d_Course_begin_11 (by unfold fs_in32; omega) ?_
  refine b_putfield (x := 0) d_Course_begin_12 fl_Course_33 io_43 rfl rfl fs_nar_int ?_
  refine a_iconst d_Course_begin_15 (by unfold fs_in32; omega) ?_
  refine a_istore_n d_Course_begin_16 rfl (Nat.le_of_ble_eq_true rfl) [1, 2, 3, 0] rfl ?_
  refine a_sub [0, 1, 3] rfl ?_
  exact h
set_option maxRecDepth 8000 in
set_option maxHeartbeats 4000000 in
theorem L_Course_begin_17 {M : fs_M} {K : fs_K} {x1 x3 : Int} (h1 : fs_isO 6 x1) 
    (h : ((M 1 5 ≤ x3 → fs_A2 g m_Course_begin 6 76 [(0, fs_r 43), (1, fs_r x1), (3, fs_i 0)] [] M K) ∧ (¬ M 1 5 ≤ x3 → fs_C2 g m_Course_isDoneByItself 5 [fs_r 43, fs_i x3] M (fun v M1 => ∃ r1, v = some (fs_i r1) ∧ ((r1 = 0 → fs_A2 g m_Course_begin 6 51 [(0, fs_r 43), (1, fs_r x1), (3, fs_i x3), (4, fs_i r1)] [fs_i (-1), fs_i x3, fs_r 49] M1 K) ∧ (¬ r1 = 0 → fs_A2 g m_Course_begin 6 51 [(0, fs_r 43), (1, fs_r x1), (3, fs_i x3), (4, fs_i r1)] [fs_i (-2), fs_i x3, fs_r 49] M1 K)))))) :
    fs_A2 g m_Course_begin 6 17 [(0, fs_r 43), (1, fs_r x1), (3, fs_i x3)] [] M K := by
  refine a_iload_n (j := 2) d_Course_begin_17 rfl rfl ?_
  refine a_aload_n (j := 0) d_Course_begin_18 rfl rfl ?_
  refine b_getptr (q := 1) d_Course_begin_19 fl_Course_36 io_43 rfl rfl rfl ?_
  refine b_getfield (v := fs_i (M 1 5)) d_Course_begin_22 fl_Course_53 io_1 rfl ?_
  refine a_icmp_ge (tgt := 74) d_Course_begin_25 rfl (fun c1 => ?_) (fun c1 => ?_)
  · have h := h.1 c1
    refine a_iconst d_Course_begin_74 (by unfold fs_in32; omega) ?_
    refine a_istore_n d_Course_begin_75 rfl (Nat.le_of_ble_eq_true rfl) [1, 2, 0] rfl ?_
    exact h
  · have h := h.2 c1
    refine a_aload_n (j := 0) d_Course_begin_28 rfl rfl ?_
    refine a_iload_n (j := 2) d_Course_begin_29 rfl rfl ?_
    refine b_virtual (dc := 5) (ci := 1) (T := fs_T1) (N := 8) [fs_i x3] [] d_Course_begin_30 ml_Course_58 k_Course_isDoneByItself v_Course_isDoneByItself rfl io_43 rfl (Nat.le_of_ble_eq_true rfl) rfl (Nat.le_of_ble_eq_true rfl) ?_
    refine fs_Call.mono (fun v M1 hv => ?_) h
    obtain ⟨r1, rfl, h⟩ := hv
    show fs_A2 g m_Course_begin 6 33 [(0, fs_r 43), (1, fs_r x1), (3, fs_i x3)] [fs_i r1] M1 K
    refine a_istore d_Course_begin_33 (Nat.le_of_ble_eq_true rfl) [1, 2, 3, 0] rfl ?_
    refine a_aload_n (j := 0) d_Course_begin_35 rfl rfl ?_
    refine b_getptr (q := 49) d_Course_begin_36 fl_Course_26 io_43 rfl rfl rfl ?_
    refine a_iload_n (j := 2) d_Course_begin_39 rfl rfl ?_
    refine a_iload (j := 3) d_Course_begin_40 rfl ?_
    refine a_if_eq (tgt := 50) d_Course_begin_42 rfl (fun c2 => ?_) (fun c2 => ?_)
    · have h := h.1 c2
      refine a_iconst d_Course_begin_50 (by unfold fs_in32; omega) ?_
      exact h
    · have h := h.2 c2
      refine a_bipush d_Course_begin_45 (by decide) ?_
      refine a_goto (tgt := 51) d_Course_begin_47 rfl ?_
      exact h
set_option maxRecDepth 8000 in
set_option maxHeartbeats 4000000 in
theorem L_Course_begin_51 {M : fs_M} {K : fs_K} {x1 x3 x4 x101 x102 : Int} (h1 : fs_isO 6 x1) 
    (h : (0 ≤ x101 ∧ x101 < 6 ∧ ((x4 = 0 → (0 ≤ x3 ∧ x3 < 6 ∧ fs_A2 g m_Course_begin 6 17 [(0, fs_r 43), (1, fs_r x1), (3, fs_i (fs_w32 (x3 + 1)))] [] (fs_st (fs_st M 49 x101 x102) 50 x3 (-1)) K)) ∧ (¬ x4 = 0 → (0 ≤ x3 ∧ x3 < 6 ∧ fs_A2 g m_Course_begin 6 17 [(0, fs_r 43), (1, fs_r x1), (3, fs_i (fs_w32 (x3 + 1)))] [] (fs_st (fs_st M 49 x101 x102) 50 x3 1) K))))) :
    fs_A2 g m_Course_begin 6 51 [(0, fs_r 43), (1, fs_r x1), (3, fs_i x3), (4, fs_i x4)] [fs_i x102, fs_i x101, fs_r 49] M K := by
  obtain ⟨o3, o4, h⟩ := h
  refine b_iastore d_Course_begin_51 ia_49 o3 o4 ?_
  refine a_aload_n (j := 0) d_Course_begin_52 rfl rfl ?_
  refine b_getptr (q := 50) d_Course_begin_53 fl_Course_30 io_43 rfl rfl rfl ?_
  refine a_iload_n (j := 2) d_Course_begin_56 rfl rfl ?_
  refine a_iload (j := 3) d_Course_begin_57 rfl ?_
  refine a_if_eq (tgt := 66) d_Course_begin_59 rfl (fun c5 => ?_) (fun c5 => ?_)
  · have h := h.1 c5
    refine a_iconst d_Course_begin_66 (by unfold fs_in32; omega) ?_
    obtain ⟨o6, o7, h⟩ := h
    refine b_iastore d_Course_begin_67 ia_50 o6 o7 ?_
    refine a_iinc (j := 2) d_Course_begin_68 rfl (Nat.le_of_ble_eq_true rfl) [1, 2, 0, 3] rfl ?_
    refine a_goto (tgt := 17) d_Course_begin_71 rfl ?_
    refine a_sub [0, 1, 2] rfl ?_
    exact h
  · have h := h.2 c5
    refine a_iconst d_Course_begin_62 (by unfold fs_in32; omega) ?_
    refine a_goto (tgt := 67) d_Course_begin_63 rfl ?_
    obtain ⟨o8, o9, h⟩ := h
    refine b_iastore d_Course_begin_67 ia_50 o8 o9 ?_
    refine a_iinc (j := 2) d_Course_begin_68 rfl (Nat.le_of_ble_eq_true rfl) [1, 2, 0, 3] rfl ?_
    refine a_goto (tgt := 17) d_Course_begin_71 rfl ?_
    refine a_sub [0, 1, 2] rfl ?_
    exact h
set_option maxRecDepth 8000 in
set_option maxHeartbeats 4000000 in
theorem L_Course_begin_76 {M : fs_M} {K : fs_K} {x1 x3 : Int} (h1 : fs_isO 6 x1) 
    (h : ((M 1 9 ≤ x3 → K none M) ∧ (¬ M 1 9 ≤ x3 → (0 ≤ x3 ∧ x3 < 3 ∧ fs_C2 g m_Goer_begin 1 [fs_r (51 + x3), fs_i (M 7 x3), fs_i (M 8 x3)] M (fun v M2 => v = none ∧ fs_C2 g m_Plan_houseOf 1 [fs_r x1, fs_i x3, fs_i 0] M2 (fun v M3 => ∃ r3, v = some (fs_i r3) ∧ fs_C2 g m_Course_setOut 5 [fs_r 43, fs_r (51 + x3), fs_i r3] M3 (fun v M4 => v = none ∧ fs_A2 g m_Course_begin 6 76 [(0, fs_r 43), (1, fs_r x1), (3, fs_i (fs_w32 (x3 + 1)))] [] M4 K))))))) :
    fs_A2 g m_Course_begin 6 76 [(0, fs_r 43), (1, fs_r x1), (3, fs_i x3)] [] M K := by
  refine a_iload_n (j := 2) d_Course_begin_76 rfl rfl ?_
  refine a_aload_n (j := 0) d_Course_begin_77 rfl rfl ?_
  refine b_getptr (q := 1) d_Course_begin_78 fl_Course_36 io_43 rfl rfl rfl ?_
  refine b_getfield (v := fs_i (M 1 9)) d_Course_begin_81 fl_Course_62 io_1 rfl ?_
  refine a_icmp_ge (tgt := 136) d_Course_begin_84 rfl (fun c10 => ?_) (fun c10 => ?_)
  · have h := h.1 c10
    exact b_return d_Course_begin_136 rfl h
  · have h := h.2 c10
    refine a_aload_n (j := 0) d_Course_begin_87 rfl rfl ?_
    refine b_getptr (q := 44) d_Course_begin_88 fl_Course_17 io_43 rfl rfl rfl ?_
    refine a_iload_n (j := 2) d_Course_begin_91 rfl rfl ?_
    obtain ⟨o11, o12, h⟩ := h
    refine b_aaptr (q := 51 + x3) d_Course_begin_92 ia_44 (by decide) o11 o12 (aq_44 x3) ?_
    refine a_aload_n (j := 0) d_Course_begin_93 rfl rfl ?_
    refine b_getptr (q := 1) d_Course_begin_94 fl_Course_36 io_43 rfl rfl rfl ?_
    refine b_getptr (q := 7) d_Course_begin_97 fl_Course_65 io_1 rfl rfl rfl ?_
    refine a_iload_n (j := 2) d_Course_begin_100 rfl rfl ?_
    refine b_iaload (v := M 7 x3) d_Course_begin_101 ia_7 o11 o12 rfl ?_
    refine a_aload_n (j := 0) d_Course_begin_102 rfl rfl ?_
    refine b_getptr (q := 1) d_Course_begin_103 fl_Course_36 io_43 rfl rfl rfl ?_
    refine b_getptr (q := 8) d_Course_begin_106 fl_Course_68 io_1 rfl rfl rfl ?_
    refine a_iload_n (j := 2) d_Course_begin_109 rfl rfl ?_
    refine b_iaload (v := M 8 x3) d_Course_begin_110 ia_8 o11 o12 rfl ?_
    refine b_virtual (dc := 1) (ci := 2) (T := fs_T2) (N := 7) [fs_i (M 7 x3), fs_i (M 8 x3)] [] d_Course_begin_111 ml_Course_71 k_Goer_begin v_Goer_begin rfl (ae_44 o11 o12) rfl (Nat.le_of_ble_eq_true rfl) rfl (Nat.le_of_ble_eq_true rfl) ?_
    refine fs_Call.mono (fun v M2 hv => ?_) h
    obtain ⟨rfl, h⟩ := hv
    show fs_A2 g m_Course_begin 6 114 [(0, fs_r 43), (1, fs_r x1), (3, fs_i x3)] [] M2 K
    refine a_aload_n (j := 0) d_Course_begin_114 rfl rfl ?_
    refine a_aload_n (j := 0) d_Course_begin_115 rfl rfl ?_
    refine b_getptr (q := 44) d_Course_begin_116 fl_Course_17 io_43 rfl rfl rfl ?_
    refine a_iload_n (j := 2) d_Course_begin_119 rfl rfl ?_
    refine b_aaptr (q := 51 + x3) d_Course_begin_120 ia_44 (by decide) o11 o12 (aq_44 x3) ?_
    refine a_aload_n (j := 1) d_Course_begin_121 rfl rfl ?_
    refine a_iload_n (j := 2) d_Course_begin_122 rfl rfl ?_
    refine a_iconst d_Course_begin_123 (by unfold fs_in32; omega) ?_
    refine b_virtual (dc := 1) (ci := 6) (T := fs_T6) (N := 4) [fs_i x3, fs_i 0] [fs_r (51 + x3), fs_r 43] d_Course_begin_124 ml_Course_74 k_Plan_houseOf v_Plan_houseOf rfl h1 rfl (Nat.le_of_ble_eq_true rfl) rfl (Nat.le_of_ble_eq_true rfl) ?_
    refine fs_Call.mono (fun v M3 hv => ?_) h
    obtain ⟨r3, rfl, h⟩ := hv
    show fs_A2 g m_Course_begin 6 127 [(0, fs_r 43), (1, fs_r x1), (3, fs_i x3)] [fs_i r3, fs_r (51 + x3), fs_r 43] M3 K
    refine b_virtual (dc := 5) (ci := 1) (T := fs_T1) (N := 8) [fs_r (51 + x3), fs_i r3] [] d_Course_begin_127 ml_Course_80 k_Course_setOut v_Course_setOut rfl io_43 rfl (Nat.le_of_ble_eq_true rfl) rfl (Nat.le_of_ble_eq_true rfl) ?_
    refine fs_Call.mono (fun v M4 hv => ?_) h
    obtain ⟨rfl, h⟩ := hv
    show fs_A2 g m_Course_begin 6 130 [(0, fs_r 43), (1, fs_r x1), (3, fs_i x3)] [] M4 K
    refine a_iinc (j := 2) d_Course_begin_130 rfl (Nat.le_of_ble_eq_true rfl) [1, 2, 0] rfl ?_
    refine a_goto (tgt := 76) d_Course_begin_133 rfl ?_
    exact h
set_option maxRecDepth 8000 in
set_option maxHeartbeats 4000000 in
theorem E_Course_isDoneByItself {M : fs_M} {K : fs_K} {x1 : Int} 
    (h : (fs_isO 6 (M 43 1) ∧ fs_C2 g m_Fs_bit 1 [fs_i (M (M 43 1) 3), fs_i x1] M (fun v M1 => ∃ r1, v = some (fs_i r1) ∧ ((¬ r1 = 1 → K (some (fs_i 0)) M1) ∧ (r1 = 1 → ((M1 43 2 = 5 → K (some (fs_i 1)) M1) ∧ (¬ M1 43 2 = 5 → (0 ≤ x1 ∧ x1 < 6 ∧ fs_C2 g m_Laws_allows 4 [fs_r 9, fs_i 1, fs_i 0, fs_i 0, fs_i (M1 4 x1), fs_i 1] M1 (fun v M2 => ∃ r2, v = some (fs_i r2) ∧ ((r2 = 0 → K (some (fs_i 0)) M2) ∧ (¬ r2 = 0 → K (some (fs_i 1)) M2))))))))))) :
    fs_C2 g m_Course_isDoneByItself 5 [fs_r 43, fs_i x1] M K := by
  refine b_enter2 (ls := [(0, fs_r 43), (1, fs_i x1)]) (plainFor_of_name pn_Course) (Nat.le_of_ble_eq_true rfl) rfl ?_
  refine a_aload_n (j := 0) d_Course_isDoneByItself_0 rfl rfl ?_
  refine b_getfield (v := fs_r (M 43 1)) d_Course_isDoneByItself_1 fl_Course_40 io_43 rfl ?_
  obtain ⟨o1, h⟩ := h
  refine b_getfield (v := fs_i (M (M 43 1) 3)) d_Course_isDoneByItself_4 fl_Course_84 o1 rfl ?_
  refine a_iload_n (j := 1) d_Course_isDoneByItself_7 rfl rfl ?_
  refine b_static (dc := 1) [fs_i (M (M 43 1) 3), fs_i x1] [] d_Course_isDoneByItself_8 ml_Course_87 k_Fs_bit s_Fs_bit rfl (Nat.le_of_ble_eq_true rfl) rfl (Nat.le_of_ble_eq_true rfl) ?_
  refine fs_Call.mono (fun v M1 hv => ?_) h
  obtain ⟨r1, rfl, h⟩ := hv
  show fs_A2 g m_Course_isDoneByItself 5 11 [(0, fs_r 43), (1, fs_i x1)] [fs_i r1] M1 K
  refine a_iconst d_Course_isDoneByItself_11 (by unfold fs_in32; omega) ?_
  refine a_icmp_ne (tgt := 53) d_Course_isDoneByItself_12 rfl (fun c2 => ?_) (fun c2 => ?_)
  · have h := h.1 c2
    refine a_iconst d_Course_isDoneByItself_53 (by unfold fs_in32; omega) ?_
    exact b_ireturn d_Course_isDoneByItself_54 rfl (fs_nar01 (Or.inl rfl)) h
  · have h := h.2 c2
    refine a_aload_n (j := 0) d_Course_isDoneByItself_15 rfl rfl ?_
    refine b_getfield (v := fs_i (M1 43 2)) d_Course_isDoneByItself_16 fl_Course_9 io_43 rfl ?_
    refine a_iconst d_Course_isDoneByItself_19 (by unfold fs_in32; omega) ?_
    refine a_icmp_eq (tgt := 49) d_Course_isDoneByItself_20 rfl (fun c3 => ?_) (fun c3 => ?_)
    · have h := h.1 c3
      refine a_iconst d_Course_isDoneByItself_49 (by unfold fs_in32; omega) ?_
      refine a_goto (tgt := 54) d_Course_isDoneByItself_50 rfl ?_
      exact b_ireturn d_Course_isDoneByItself_54 rfl (fs_nar01 (Or.inr rfl)) h
    · have h := h.2 c3
      refine a_aload_n (j := 0) d_Course_isDoneByItself_23 rfl rfl ?_
      refine b_getptr (q := 1) d_Course_isDoneByItself_24 fl_Course_36 io_43 rfl rfl rfl ?_
      refine b_getptr (q := 9) d_Course_isDoneByItself_27 fl_Course_90 io_1 rfl rfl rfl ?_
      refine a_iconst d_Course_isDoneByItself_30 (by unfold fs_in32; omega) ?_
      refine a_iconst d_Course_isDoneByItself_31 (by unfold fs_in32; omega) ?_
      refine a_iconst d_Course_isDoneByItself_32 (by unfold fs_in32; omega) ?_
      refine a_aload_n (j := 0) d_Course_isDoneByItself_33 rfl rfl ?_
      refine b_getptr (q := 1) d_Course_isDoneByItself_34 fl_Course_36 io_43 rfl rfl rfl ?_
      refine b_getptr (q := 4) d_Course_isDoneByItself_37 fl_Course_94 io_1 rfl rfl rfl ?_
      refine a_iload_n (j := 1) d_Course_isDoneByItself_40 rfl rfl ?_
      obtain ⟨o4, o5, h⟩ := h
      refine b_iaload (v := M1 4 x1) d_Course_isDoneByItself_41 ia_4 o4 o5 rfl ?_
      refine a_iconst d_Course_isDoneByItself_42 (by unfold fs_in32; omega) ?_
      refine b_virtual (dc := 4) (ci := 3) (T := fs_T3) (N := 14) [fs_i 1, fs_i 0, fs_i 0, fs_i (M1 4 x1), fs_i 1] [] d_Course_isDoneByItself_43 ml_Course_97 k_Laws_allows v_Laws_allows rfl io_9 rfl (Nat.le_of_ble_eq_true rfl) rfl (Nat.le_of_ble_eq_true rfl) ?_
      refine fs_Call.mono (fun v M2 hv => ?_) h
      obtain ⟨r2, rfl, h⟩ := hv
      show fs_A2 g m_Course_isDoneByItself 5 46 [(0, fs_r 43), (1, fs_i x1)] [fs_i r2] M2 K
      refine a_if_eq (tgt := 53) d_Course_isDoneByItself_46 rfl (fun c6 => ?_) (fun c6 => ?_)
      · have h := h.1 c6
        refine a_iconst d_Course_isDoneByItself_53 (by unfold fs_in32; omega) ?_
        exact b_ireturn d_Course_isDoneByItself_54 rfl (fs_nar01 (Or.inl rfl)) h
      · have h := h.2 c6
        refine a_iconst d_Course_isDoneByItself_49 (by unfold fs_in32; omega) ?_
        refine a_goto (tgt := 54) d_Course_isDoneByItself_50 rfl ?_
        exact b_ireturn d_Course_isDoneByItself_54 rfl (fs_nar01 (Or.inr rfl)) h
set_option maxRecDepth 8000 in
set_option maxHeartbeats 4000000 in
theorem E_Course_setOut {M : fs_M} {K : fs_K} {x1 x2 : Int} (h1 : fs_isO 2 x1) 
    (h : ((¬ x2 = (-1) → ((¬ M 43 2 = 2 → (0 ≤ x2 ∧ x2 < 6 ∧ fs_A2 g m_Course_setOut 5 39 [(0, fs_r 43), (1, fs_r x1), (2, fs_i x2)] [fs_i (fs_w32 ((M 3 x2) - (M x1 0)))] M K)) ∧ (M 43 2 = 2 → fs_A2 g m_Course_setOut 5 39 [(0, fs_r 43), (1, fs_r x1), (2, fs_i x2)] [fs_i 0] M K))) ∧ (x2 = (-1) → K none (fs_st M x1 6 1000)))) :
    fs_C2 g m_Course_setOut 5 [fs_r 43, fs_r x1, fs_i x2] M K := by
  refine b_enter2 (ls := [(0, fs_r 43), (1, fs_r x1), (2, fs_i x2)]) (plainFor_of_name pn_Course) (Nat.le_of_ble_eq_true rfl) rfl ?_
  refine a_iload_n (j := 2) d_Course_setOut_0 rfl rfl ?_
  refine a_iconst d_Course_setOut_1 (by unfold fs_in32; omega) ?_
  refine a_icmp_ne (tgt := 13) d_Course_setOut_2 rfl (fun c1 => ?_) (fun c1 => ?_)
  · have h := h.1 c1
    refine a_aload_n (j := 0) d_Course_setOut_13 rfl rfl ?_
    refine b_getfield (v := fs_i (M 43 2)) d_Course_setOut_14 fl_Course_9 io_43 rfl ?_
    refine a_iconst d_Course_setOut_17 (by unfold fs_in32; omega) ?_
    refine a_icmp_ne (tgt := 25) d_Course_setOut_18 rfl (fun c2 => ?_) (fun c2 => ?_)
    · have h := h.1 c2
      refine a_aload_n (j := 0) d_Course_setOut_25 rfl rfl ?_
      refine b_getptr (q := 1) d_Course_setOut_26 fl_Course_36 io_43 rfl rfl rfl ?_
      refine b_getptr (q := 3) d_Course_setOut_29 fl_Course_106 io_1 rfl rfl rfl ?_
      refine a_iload_n (j := 2) d_Course_setOut_32 rfl rfl ?_
      obtain ⟨o3, o4, h⟩ := h
      refine b_iaload (v := M 3 x2) d_Course_setOut_33 ia_3 o3 o4 rfl ?_
      refine a_aload_n (j := 1) d_Course_setOut_34 rfl rfl ?_
      refine b_getfield (v := fs_i (M x1 0)) d_Course_setOut_35 fl_Course_109 h1 rfl ?_
      refine a_isub d_Course_setOut_38 ?_
      exact h
    · have h := h.2 c2
      refine a_iconst d_Course_setOut_21 (by unfold fs_in32; omega) ?_
      refine a_goto (tgt := 39) d_Course_setOut_22 rfl ?_
      exact h
  · have h := h.2 c1
    refine a_aload_n (j := 1) d_Course_setOut_5 rfl rfl ?_
    refine a_sipush d_Course_setOut_6 (by decide) ?_
    refine b_putfield (x := 1000) d_Course_setOut_9 fl_Course_103 h1 rfl rfl fs_nar_int ?_
    exact b_return d_Course_setOut_12 rfl h
set_option maxRecDepth 8000 in
set_option maxHeartbeats 4000000 in
theorem L_Course_setOut_39 {M : fs_M} {K : fs_K} {x1 x2 x100 : Int} (h1 : fs_isO 2 x1) 
    (h : (0 ≤ x2 ∧ x2 < 6 ∧ fs_C2 g m_Laws_walkTime 4 [fs_r 9, fs_i x100, fs_i (M x1 1), fs_i (M x1 2), fs_i (M x1 3), fs_i (M 4 x2)] M (fun v M1 => ∃ r1, v = some (fs_i r1) ∧ ((fs_w32 ((M1 x1 1) + r1) ≤ 240 → K none (fs_st M1 x1 6 (fs_w32 ((M1 x1 1) + r1)))) ∧ (¬ fs_w32 ((M1 x1 1) + r1) ≤ 240 → K none (fs_st M1 x1 6 1000)))))) :
    fs_A2 g m_Course_setOut 5 39 [(0, fs_r 43), (1, fs_r x1), (2, fs_i x2)] [fs_i x100] M K := by
  refine a_istore_n d_Course_setOut_39 rfl (Nat.le_of_ble_eq_true rfl) [1, 2, 3, 0] rfl ?_
  refine a_aload_n (j := 0) d_Course_setOut_40 rfl rfl ?_
  refine b_getptr (q := 1) d_Course_setOut_41 fl_Course_36 io_43 rfl rfl rfl ?_
  refine b_getptr (q := 9) d_Course_setOut_44 fl_Course_90 io_1 rfl rfl rfl ?_
  refine a_iload_n (j := 3) d_Course_setOut_47 rfl rfl ?_
  refine a_aload_n (j := 1) d_Course_setOut_48 rfl rfl ?_
  refine b_getfield (v := fs_i (M x1 1)) d_Course_setOut_49 fl_Course_112 h1 rfl ?_
  refine a_aload_n (j := 1) d_Course_setOut_52 rfl rfl ?_
  refine b_getfield (v := fs_i (M x1 2)) d_Course_setOut_53 fl_Course_115 h1 rfl ?_
  refine a_aload_n (j := 1) d_Course_setOut_56 rfl rfl ?_
  refine b_getfield (v := fs_i (M x1 3)) d_Course_setOut_57 fl_Course_118 h1 rfl ?_
  refine a_aload_n (j := 0) d_Course_setOut_60 rfl rfl ?_
  refine b_getptr (q := 1) d_Course_setOut_61 fl_Course_36 io_43 rfl rfl rfl ?_
  refine b_getptr (q := 4) d_Course_setOut_64 fl_Course_94 io_1 rfl rfl rfl ?_
  refine a_iload_n (j := 2) d_Course_setOut_67 rfl rfl ?_
  obtain ⟨o5, o6, h⟩ := h
  refine b_iaload (v := M 4 x2) d_Course_setOut_68 ia_4 o5 o6 rfl ?_
  refine b_virtual (dc := 4) (ci := 3) (T := fs_T3) (N := 14) [fs_i x100, fs_i (M x1 1), fs_i (M x1 2), fs_i (M x1 3), fs_i (M 4 x2)] [] d_Course_setOut_69 ml_Course_121 k_Laws_walkTime v_Laws_walkTime rfl io_9 rfl (Nat.le_of_ble_eq_true rfl) rfl (Nat.le_of_ble_eq_true rfl) ?_
  refine fs_Call.mono (fun v M1 hv => ?_) h
  obtain ⟨r1, rfl, h⟩ := hv
  show fs_A2 g m_Course_setOut 5 72 [(0, fs_r 43), (1, fs_r x1), (2, fs_i x2), (3, fs_i x100)] [fs_i r1] M1 K
  refine a_istore d_Course_setOut_72 (Nat.le_of_ble_eq_true rfl) [1, 2, 3, 4, 0] rfl ?_
  refine a_aload_n (j := 1) d_Course_setOut_74 rfl rfl ?_
  refine a_aload_n (j := 1) d_Course_setOut_75 rfl rfl ?_
  refine b_getfield (v := fs_i (M1 x1 1)) d_Course_setOut_76 fl_Course_112 h1 rfl ?_
  refine a_iload (j := 4) d_Course_setOut_79 rfl ?_
  refine a_iadd d_Course_setOut_81 ?_
  refine a_sipush d_Course_setOut_82 (by decide) ?_
  refine a_icmp_le (tgt := 94) d_Course_setOut_85 rfl (fun c7 => ?_) (fun c7 => ?_)
  · have h := h.1 c7
    refine a_aload_n (j := 1) d_Course_setOut_94 rfl rfl ?_
    refine b_getfield (v := fs_i (M1 x1 1)) d_Course_setOut_95 fl_Course_112 h1 rfl ?_
    refine a_iload (j := 4) d_Course_setOut_98 rfl ?_
    refine a_iadd d_Course_setOut_100 ?_
    refine b_putfield (x := (fs_w32 ((M1 x1 1) + r1))) d_Course_setOut_101 fl_Course_103 h1 rfl rfl fs_nar_int ?_
    exact b_return d_Course_setOut_104 rfl h
  · have h := h.2 c7
    refine a_sipush d_Course_setOut_88 (by decide) ?_
    refine a_goto (tgt := 101) d_Course_setOut_91 rfl ?_
    refine b_putfield (x := 1000) d_Course_setOut_101 fl_Course_103 h1 rfl rfl fs_nar_int ?_
    exact b_return d_Course_setOut_104 rfl h
set_option maxRecDepth 8000 in
set_option maxHeartbeats 4000000 in
theorem E_Course_comeUntil {M : fs_M} {K : fs_K} {x1 : Int} 
    (h : fs_A2 g m_Course_comeUntil 6 2 [(0, fs_r 43), (1, fs_i x1), (2, fs_i 0)] [] M K) :
    fs_C2 g m_Course_comeUntil 6 [fs_r 43, fs_i x1] M K := by
  refine b_enter2 (ls := [(0, fs_r 43), (1, fs_i x1)]) (plainFor_of_name pn_Course) (Nat.le_of_ble_eq_true rfl) rfl ?_
  refine a_iconst d_Course_comeUntil_0 (by unfold fs_in32; omega) ?_
  refine a_istore_n d_Course_comeUntil_1 rfl (Nat.le_of_ble_eq_true rfl) [1, 2, 0] rfl ?_
  exact h
set_option maxRecDepth 8000 in
set_option maxHeartbeats 4000000 in
theorem L_Course_comeUntil_2 {M : fs_M} {K : fs_K} {x1 x2 : Int} 
    (h : ((27 < x2 → K none M) ∧ (¬ 27 < x2 → fs_C2 g m_Course_firstToCome 1 [fs_r 43] M (fun v M1 => ∃ r1, v = some (fs_i r1) ∧ ((r1 = (-1) → K none M1) ∧ (¬ r1 = (-1) → (0 ≤ r1 ∧ r1 < 3 ∧ ((M1 (51 + r1) 6 ≤ x1 → (fs_isO 6 (M1 43 1) ∧ (0 ≤ M1 (51 + r1) 5 ∧ M1 (51 + r1) 5 < 9 ∧ (0 ≤ M1 ((M1 43 1) + 2 + r1) (M1 (51 + r1) 5) ∧ M1 ((M1 43 1) + 2 + r1) (M1 (51 + r1) 5) < 6 ∧ ((¬ (fs_st M1 (46 + r1) (M1 (51 + r1) 5) (M1 (51 + r1) 6)) 49 (M1 ((M1 43 1) + 2 + r1) (M1 (51 + r1) 5)) = (-1) → fs_A2 g m_Course_comeUntil 6 95 [(0, fs_r 43), (1, fs_i x1), (2, fs_i x2), (3, fs_i r1), (4, fs_r (51 + r1)), (5, fs_i (M1 ((M1 43 1) + 2 + r1) (M1 (51 + r1) 5)))] [fs_i 0, fs_i (M1 ((M1 43 1) + 2 + r1) (M1 (51 + r1) 5)), fs_r (51 + r1), fs_r 43] (fs_st M1 (46 + r1) (M1 (51 + r1) 5) (M1 (51 + r1) 6)) K) ∧ ((fs_st M1 (46 + r1) (M1 (51 + r1) 5) (M1 (51 + r1) 6)) 49 (M1 ((M1 43 1) + 2 + r1) (M1 (51 + r1) 5)) = (-1) → fs_A2 g m_Course_comeUntil 6 95 [(0, fs_r 43), (1, fs_i x1), (2, fs_i x2), (3, fs_i r1), (4, fs_r (51 + r1)), (5, fs_i (M1 ((M1 43 1) + 2 + r1) (M1 (51 + r1) 5)))] [fs_i 1, fs_i (M1 ((M1 43 1) + 2 + r1) (M1 (51 + r1) 5)), fs_r (51 + r1), fs_r 43] (fs_st M1 (46 + r1) (M1 (51 + r1) 5) (M1 (51 + r1) 6)) K)))))) ∧ (¬ M1 (51 + r1) 6 ≤ x1 → K none M1))))))))) :
    fs_A2 g m_Course_comeUntil 6 2 [(0, fs_r 43), (1, fs_i x1), (2, fs_i x2)] [] M K := by
  refine a_iload_n (j := 2) d_Course_comeUntil_2 rfl rfl ?_
  refine a_bipush d_Course_comeUntil_3 (by decide) ?_
  refine a_icmp_gt (tgt := 173) d_Course_comeUntil_5 rfl (fun c1 => ?_) (fun c1 => ?_)
  · have h := h.1 c1
    exact b_return d_Course_comeUntil_173 rfl h
  · have h := h.2 c1
    refine a_aload_n (j := 0) d_Course_comeUntil_8 rfl rfl ?_
    refine b_virtual (dc := 1) (ci := 1) (T := fs_T1) (N := 8) [] [] d_Course_comeUntil_9 ml_Course_125 k_Course_firstToCome v_Course_firstToCome rfl io_43 rfl (Nat.le_of_ble_eq_true rfl) rfl (Nat.le_of_ble_eq_true rfl) ?_
    refine fs_Call.mono (fun v M1 hv => ?_) h
    obtain ⟨r1, rfl, h⟩ := hv
    show fs_A2 g m_Course_comeUntil 6 12 [(0, fs_r 43), (1, fs_i x1), (2, fs_i x2)] [fs_i r1] M1 K
    refine a_istore_n d_Course_comeUntil_12 rfl (Nat.le_of_ble_eq_true rfl) [1, 2, 3, 0] rfl ?_
    refine a_iload_n (j := 3) d_Course_comeUntil_13 rfl rfl ?_
    refine a_iconst d_Course_comeUntil_14 (by unfold fs_in32; omega) ?_
    refine a_icmp_eq (tgt := 31) d_Course_comeUntil_15 rfl (fun c2 => ?_) (fun c2 => ?_)
    · have h := h.1 c2
      exact b_return d_Course_comeUntil_31 rfl h
    · have h := h.2 c2
      refine a_aload_n (j := 0) d_Course_comeUntil_18 rfl rfl ?_
      refine b_getptr (q := 44) d_Course_comeUntil_19 fl_Course_17 io_43 rfl rfl rfl ?_
      refine a_iload_n (j := 3) d_Course_comeUntil_22 rfl rfl ?_
      obtain ⟨o3, o4, h⟩ := h
      refine b_aaptr (q := 51 + r1) d_Course_comeUntil_23 ia_44 (by decide) o3 o4 (aq_44 r1) ?_
      refine b_getfield (v := fs_i (M1 (51 + r1) 6)) d_Course_comeUntil_24 fl_Course_103 (ae_44 o3 o4) rfl ?_
      refine a_iload_n (j := 1) d_Course_comeUntil_27 rfl rfl ?_
      refine a_icmp_le (tgt := 32) d_Course_comeUntil_28 rfl (fun c5 => ?_) (fun c5 => ?_)
      · have h := h.1 c5
        refine a_aload_n (j := 0) d_Course_comeUntil_32 rfl rfl ?_
        refine b_getptr (q := 44) d_Course_comeUntil_33 fl_Course_17 io_43 rfl rfl rfl ?_
        refine a_iload_n (j := 3) d_Course_comeUntil_36 rfl rfl ?_
        refine b_aaptr (q := 51 + r1) d_Course_comeUntil_37 ia_44 (by decide) o3 o4 (aq_44 r1) ?_
        refine a_astore d_Course_comeUntil_38 (Nat.le_of_ble_eq_true rfl) ((ae_44 o3 o4)).1 [1, 2, 3, 4, 0] rfl ?_
        refine a_aload_n (j := 0) d_Course_comeUntil_40 rfl rfl ?_
        refine b_getfield (v := fs_r (M1 43 1)) d_Course_comeUntil_41 fl_Course_40 io_43 rfl ?_
        obtain ⟨o6, h⟩ := h
        refine b_getptr (q := (M1 43 1) + 1) d_Course_comeUntil_44 fl_Course_129 o6 rfl rfl rfl ?_
        refine a_iload_n (j := 3) d_Course_comeUntil_47 rfl rfl ?_
        refine b_aaptr (q := (M1 43 1) + 2 + r1) d_Course_comeUntil_48 (pk_6_1 o6) (by decide) o3 o4 (aq_plan o6 r1) ?_
        refine a_aload (j := 4) d_Course_comeUntil_49 rfl ?_
        refine b_getfield (v := fs_i (M1 (51 + r1) 5)) d_Course_comeUntil_51 fl_Course_132 (ae_44 o3 o4) rfl ?_
        obtain ⟨o7, o8, h⟩ := h
        refine b_iaload (v := M1 ((M1 43 1) + 2 + r1) (M1 (51 + r1) 5)) d_Course_comeUntil_54 (ae_plan o6 o3 o4) o7 o8 rfl ?_
        refine a_istore d_Course_comeUntil_55 (Nat.le_of_ble_eq_true rfl) [1, 2, 3, 4, 5, 0] rfl ?_
        refine a_aload_n (j := 0) d_Course_comeUntil_57 rfl rfl ?_
        refine b_getptr (q := 45) d_Course_comeUntil_58 fl_Course_23 io_43 rfl rfl rfl ?_
        refine a_iload_n (j := 3) d_Course_comeUntil_61 rfl rfl ?_
        refine b_aaptr (q := 46 + r1) d_Course_comeUntil_62 ia_45 (by decide) o3 o4 (aq_45 r1) ?_
        refine a_aload (j := 4) d_Course_comeUntil_63 rfl ?_
        refine b_getfield (v := fs_i (M1 (51 + r1) 5)) d_Course_comeUntil_65 fl_Course_132 (ae_44 o3 o4) rfl ?_
        refine a_aload (j := 4) d_Course_comeUntil_68 rfl ?_
        refine b_getfield (v := fs_i (M1 (51 + r1) 6)) d_Course_comeUntil_70 fl_Course_103 (ae_44 o3 o4) rfl ?_
        refine b_iastore d_Course_comeUntil_73 (ae_45 o3 o4) o7 o8 ?_
        refine a_aload_n (j := 0) d_Course_comeUntil_74 rfl rfl ?_
        refine a_aload (j := 4) d_Course_comeUntil_75 rfl ?_
        refine a_iload (j := 5) d_Course_comeUntil_77 rfl ?_
        refine a_aload_n (j := 0) d_Course_comeUntil_79 rfl rfl ?_
        refine b_getptr (q := 49) d_Course_comeUntil_80 fl_Course_26 io_43 rfl rfl rfl ?_
        refine a_iload (j := 5) d_Course_comeUntil_83 rfl ?_
        obtain ⟨o9, o10, h⟩ := h
        refine b_iaload (v := (fs_st M1 (46 + r1) (M1 (51 + r1) 5) (M1 (51 + r1) 6)) 49 (M1 ((M1 43 1) + 2 + r1) (M1 (51 + r1) 5))) d_Course_comeUntil_85 ia_49 o9 o10 rfl ?_
        refine a_iconst d_Course_comeUntil_86 (by unfold fs_in32; omega) ?_
        refine a_icmp_ne (tgt := 94) d_Course_comeUntil_87 rfl (fun c11 => ?_) (fun c11 => ?_)
        · have h := h.1 c11
          refine a_iconst d_Course_comeUntil_94 (by unfold fs_in32; omega) ?_
          exact h
        · have h := h.2 c11
          refine a_iconst d_Course_comeUntil_90 (by unfold fs_in32; omega) ?_
          refine a_goto (tgt := 95) d_Course_comeUntil_91 rfl ?_
          exact h
      · have h := h.2 c5
        exact b_return d_Course_comeUntil_31 rfl h
set_option maxRecDepth 8000 in
set_option maxHeartbeats 4000000 in
theorem L_Course_comeUntil_95 {M : fs_M} {K : fs_K} {x1 x2 x3 x4 x5 x101 x102 x103 : Int} (h4 : fs_isO 2 x4) (h101 : fs_isO 2 x101) 
    (h : fs_C2 g m_Course_doesIt 5 [fs_r 43, fs_r x101, fs_i x102, fs_i x103] M (fun v M2 => ∃ r2, v = some (fs_i r2) ∧ ((r2 = 0 → fs_A2 g m_Course_comeUntil 6 137 [(0, fs_r 43), (1, fs_i x1), (2, fs_i x2), (3, fs_i x3), (4, fs_r x4)] [] (fs_st M2 43 7 (fs_or (M2 43 7) (fs_shl 1 x5))) K) ∧ (¬ r2 = 0 → (0 ≤ x5 ∧ x5 < 6 ∧ fs_A2 g m_Course_comeUntil 6 137 [(0, fs_r 43), (1, fs_i x1), (2, fs_i x2), (3, fs_i x3), (4, fs_r x4)] [] (fs_st (fs_st M2 49 x5 x3) 50 x5 ((fs_st M2 49 x5 x3) x4 6)) K))))) :
    fs_A2 g m_Course_comeUntil 6 95 [(0, fs_r 43), (1, fs_i x1), (2, fs_i x2), (3, fs_i x3), (4, fs_r x4), (5, fs_i x5)] [fs_i x103, fs_i x102, fs_r x101, fs_r 43] M K := by
  refine b_virtual (dc := 5) (ci := 1) (T := fs_T1) (N := 8) [fs_r x101, fs_i x102, fs_i x103] [] d_Course_comeUntil_95 ml_Course_135 k_Course_doesIt v_Course_doesIt rfl io_43 rfl (Nat.le_of_ble_eq_true rfl) rfl (Nat.le_of_ble_eq_true rfl) ?_
  refine fs_Call.mono (fun v M2 hv => ?_) h
  obtain ⟨r2, rfl, h⟩ := hv
  show fs_A2 g m_Course_comeUntil 6 98 [(0, fs_r 43), (1, fs_i x1), (2, fs_i x2), (3, fs_i x3), (4, fs_r x4), (5, fs_i x5)] [fs_i r2] M2 K
  refine a_if_eq (tgt := 124) d_Course_comeUntil_98 rfl (fun c12 => ?_) (fun c12 => ?_)
  · have h := h.1 c12
    refine a_aload_n (j := 0) d_Course_comeUntil_124 rfl rfl ?_
    refine a_dup d_Course_comeUntil_125 rfl ?_
    refine b_getfield (v := fs_i (M2 43 7)) d_Course_comeUntil_126 fl_Course_33 io_43 rfl ?_
    refine a_iconst d_Course_comeUntil_129 (by unfold fs_in32; omega) ?_
    refine a_iload (j := 5) d_Course_comeUntil_130 rfl ?_
    refine a_ishl d_Course_comeUntil_132 ?_
    refine a_ior d_Course_comeUntil_133 ?_
    refine b_putfield (x := (fs_or (M2 43 7) (fs_shl 1 x5))) d_Course_comeUntil_134 fl_Course_33 io_43 rfl rfl fs_nar_int ?_
    refine a_sub [0, 1, 2, 3, 4] rfl ?_
    exact h
  · have h := h.2 c12
    refine a_aload_n (j := 0) d_Course_comeUntil_101 rfl rfl ?_
    refine b_getptr (q := 49) d_Course_comeUntil_102 fl_Course_26 io_43 rfl rfl rfl ?_
    refine a_iload (j := 5) d_Course_comeUntil_105 rfl ?_
    refine a_iload_n (j := 3) d_Course_comeUntil_107 rfl rfl ?_
    obtain ⟨o13, o14, h⟩ := h
    refine b_iastore d_Course_comeUntil_108 ia_49 o13 o14 ?_
    refine a_aload_n (j := 0) d_Course_comeUntil_109 rfl rfl ?_
    refine b_getptr (q := 50) d_Course_comeUntil_110 fl_Course_30 io_43 rfl rfl rfl ?_
    refine a_iload (j := 5) d_Course_comeUntil_113 rfl ?_
    refine a_aload (j := 4) d_Course_comeUntil_115 rfl ?_
    refine b_getfield (v := fs_i ((fs_st M2 49 x5 x3) x4 6)) d_Course_comeUntil_117 fl_Course_103 h4 rfl ?_
    refine b_iastore d_Course_comeUntil_120 ia_50 o13 o14 ?_
    refine a_goto (tgt := 137) d_Course_comeUntil_121 rfl ?_
    refine a_sub [0, 1, 2, 3, 4] rfl ?_
    exact h
set_option maxRecDepth 8000 in
set_option maxHeartbeats 4000000 in
theorem L_Course_comeUntil_137 {M : fs_M} {K : fs_K} {x1 x2 x3 x4 : Int} (h4 : fs_isO 2 x4) 
    (h : (fs_isO 6 (M 43 1) ∧ fs_C2 g m_Plan_houseOf 1 [fs_r (M 43 1), fs_i x3, fs_i (fs_w32 ((M x4 5) + 1))] (fs_st M x4 5 (fs_w32 ((M x4 5) + 1))) (fun v M3 => ∃ r3, v = some (fs_i r3) ∧ fs_C2 g m_Course_setOut 5 [fs_r 43, fs_r x4, fs_i r3] M3 (fun v M4 => v = none ∧ fs_A2 g m_Course_comeUntil 6 2 [(0, fs_r 43), (1, fs_i x1), (2, fs_i (fs_w32 (x2 + 1)))] [] M4 K)))) :
    fs_A2 g m_Course_comeUntil 6 137 [(0, fs_r 43), (1, fs_i x1), (2, fs_i x2), (3, fs_i x3), (4, fs_r x4)] [] M K := by
  refine a_aload (j := 4) d_Course_comeUntil_137 rfl ?_
  refine a_dup d_Course_comeUntil_139 rfl ?_
  refine b_getfield (v := fs_i (M x4 5)) d_Course_comeUntil_140 fl_Course_132 h4 rfl ?_
  refine a_iconst d_Course_comeUntil_143 (by unfold fs_in32; omega) ?_
  refine a_iadd d_Course_comeUntil_144 ?_
  refine b_putfield (x := (fs_w32 ((M x4 5) + 1))) d_Course_comeUntil_145 fl_Course_132 h4 rfl rfl fs_nar_int ?_
  refine a_aload_n (j := 0) d_Course_comeUntil_148 rfl rfl ?_
  refine a_aload (j := 4) d_Course_comeUntil_149 rfl ?_
  refine a_aload_n (j := 0) d_Course_comeUntil_151 rfl rfl ?_
  refine b_getfield (v := fs_r (M 43 1)) d_Course_comeUntil_152 fl_Course_40 io_43 (congrArg fs_r ((fs_st_k (by decide)).trans (rfl))) ?_
  refine a_iload_n (j := 3) d_Course_comeUntil_155 rfl rfl ?_
  refine a_aload (j := 4) d_Course_comeUntil_156 rfl ?_
  refine b_getfield (v := fs_i (fs_w32 ((M x4 5) + 1))) d_Course_comeUntil_158 fl_Course_132 h4 (congrArg fs_i (fs_st_s)) ?_
  obtain ⟨o15, h⟩ := h
  refine b_virtual (dc := 1) (ci := 6) (T := fs_T6) (N := 4) [fs_i x3, fs_i (fs_w32 ((M x4 5) + 1))] [fs_r x4, fs_r 43] d_Course_comeUntil_161 ml_Course_74 k_Plan_houseOf v_Plan_houseOf rfl o15 rfl (Nat.le_of_ble_eq_true rfl) rfl (Nat.le_of_ble_eq_true rfl) ?_
  refine fs_Call.mono (fun v M3 hv => ?_) h
  obtain ⟨r3, rfl, h⟩ := hv
  show fs_A2 g m_Course_comeUntil 6 164 [(0, fs_r 43), (1, fs_i x1), (2, fs_i x2), (3, fs_i x3), (4, fs_r x4)] [fs_i r3, fs_r x4, fs_r 43] M3 K
  refine b_virtual (dc := 5) (ci := 1) (T := fs_T1) (N := 8) [fs_r x4, fs_i r3] [] d_Course_comeUntil_164 ml_Course_80 k_Course_setOut v_Course_setOut rfl io_43 rfl (Nat.le_of_ble_eq_true rfl) rfl (Nat.le_of_ble_eq_true rfl) ?_
  refine fs_Call.mono (fun v M4 hv => ?_) h
  obtain ⟨rfl, h⟩ := hv
  show fs_A2 g m_Course_comeUntil 6 167 [(0, fs_r 43), (1, fs_i x1), (2, fs_i x2), (3, fs_i x3), (4, fs_r x4)] [] M4 K
  refine a_iinc (j := 2) d_Course_comeUntil_167 rfl (Nat.le_of_ble_eq_true rfl) [1, 2, 0, 3, 4] rfl ?_
  refine a_goto (tgt := 2) d_Course_comeUntil_170 rfl ?_
  refine a_sub [0, 1, 2] rfl ?_
  exact h
set_option maxRecDepth 8000 in
set_option maxHeartbeats 4000000 in
theorem E_Course_firstToCome {M : fs_M} {K : fs_K} 
    (h : fs_A2 g m_Course_firstToCome 1 8 [(0, fs_r 43), (1, fs_i (-1)), (2, fs_i 1000), (3, fs_i 0)] [] M K) :
    fs_C2 g m_Course_firstToCome 1 [fs_r 43] M K := by
  refine b_enter2 (ls := [(0, fs_r 43)]) (plainFor_of_name pn_Course) (Nat.le_of_ble_eq_true rfl) rfl ?_
  refine a_iconst d_Course_firstToCome_0 (by unfold fs_in32; omega) ?_
  refine a_istore_n d_Course_firstToCome_1 rfl (Nat.le_of_ble_eq_true rfl) [1, 0] rfl ?_
  refine a_sipush d_Course_firstToCome_2 (by decide) ?_
  refine a_istore_n d_Course_firstToCome_5 rfl (Nat.le_of_ble_eq_true rfl) [1, 2, 0] rfl ?_
  refine a_iconst d_Course_firstToCome_6 (by unfold fs_in32; omega) ?_
  refine a_istore_n d_Course_firstToCome_7 rfl (Nat.le_of_ble_eq_true rfl) [1, 2, 3, 0] rfl ?_
  exact h
set_option maxRecDepth 8000 in
set_option maxHeartbeats 4000000 in
theorem L_Course_firstToCome_8 {M : fs_M} {K : fs_K} {x1 x2 x3 : Int} 
    (h : ((M 1 9 ≤ x3 → K (some (fs_i x1)) M) ∧ (¬ M 1 9 ≤ x3 → (0 ≤ x3 ∧ x3 < 3 ∧ ((x2 ≤ M (51 + x3) 6 → fs_A2 g m_Course_firstToCome 1 8 [(0, fs_r 43), (1, fs_i x1), (2, fs_i x2), (3, fs_i (fs_w32 (x3 + 1)))] [] M K) ∧ (¬ x2 ≤ M (51 + x3) 6 → fs_A2 g m_Course_firstToCome 1 8 [(0, fs_r 43), (1, fs_i x3), (2, fs_i (M (51 + x3) 6)), (3, fs_i (fs_w32 (x3 + 1)))] [] M K)))))) :
    fs_A2 g m_Course_firstToCome 1 8 [(0, fs_r 43), (1, fs_i x1), (2, fs_i x2), (3, fs_i x3)] [] M K := by
  refine a_iload_n (j := 3) d_Course_firstToCome_8 rfl rfl ?_
  refine a_aload_n (j := 0) d_Course_firstToCome_9 rfl rfl ?_
  refine b_getptr (q := 1) d_Course_firstToCome_10 fl_Course_36 io_43 rfl rfl rfl ?_
  refine b_getfield (v := fs_i (M 1 9)) d_Course_firstToCome_13 fl_Course_62 io_1 rfl ?_
  refine a_icmp_ge (tgt := 50) d_Course_firstToCome_16 rfl (fun c1 => ?_) (fun c1 => ?_)
  · have h := h.1 c1
    refine a_iload_n (j := 1) d_Course_firstToCome_50 rfl rfl ?_
    exact b_ireturn d_Course_firstToCome_51 rfl rfl h
  · have h := h.2 c1
    refine a_aload_n (j := 0) d_Course_firstToCome_19 rfl rfl ?_
    refine b_getptr (q := 44) d_Course_firstToCome_20 fl_Course_17 io_43 rfl rfl rfl ?_
    refine a_iload_n (j := 3) d_Course_firstToCome_23 rfl rfl ?_
    obtain ⟨o2, o3, h⟩ := h
    refine b_aaptr (q := 51 + x3) d_Course_firstToCome_24 ia_44 (by decide) o2 o3 (aq_44 x3) ?_
    refine b_getfield (v := fs_i (M (51 + x3) 6)) d_Course_firstToCome_25 fl_Course_103 (ae_44 o2 o3) rfl ?_
    refine a_iload_n (j := 2) d_Course_firstToCome_28 rfl rfl ?_
    refine a_icmp_ge (tgt := 44) d_Course_firstToCome_29 rfl (fun c4 => ?_) (fun c4 => ?_)
    · have h := h.1 c4
      refine a_iinc (j := 3) d_Course_firstToCome_44 rfl (Nat.le_of_ble_eq_true rfl) [1, 2, 3, 0] rfl ?_
      refine a_goto (tgt := 8) d_Course_firstToCome_47 rfl ?_
      exact h
    · have h := h.2 c4
      refine a_iload_n (j := 3) d_Course_firstToCome_32 rfl rfl ?_
      refine a_istore_n d_Course_firstToCome_33 rfl (Nat.le_of_ble_eq_true rfl) [1, 0, 2, 3] rfl ?_
      refine a_aload_n (j := 0) d_Course_firstToCome_34 rfl rfl ?_
      refine b_getptr (q := 44) d_Course_firstToCome_35 fl_Course_17 io_43 rfl rfl rfl ?_
      refine a_iload_n (j := 3) d_Course_firstToCome_38 rfl rfl ?_
      refine b_aaptr (q := 51 + x3) d_Course_firstToCome_39 ia_44 (by decide) o2 o3 (aq_44 x3) ?_
      refine b_getfield (v := fs_i (M (51 + x3) 6)) d_Course_firstToCome_40 fl_Course_103 (ae_44 o2 o3) rfl ?_
      refine a_istore_n d_Course_firstToCome_43 rfl (Nat.le_of_ble_eq_true rfl) [1, 2, 0, 3] rfl ?_
      refine a_iinc (j := 3) d_Course_firstToCome_44 rfl (Nat.le_of_ble_eq_true rfl) [1, 2, 3, 0] rfl ?_
      refine a_goto (tgt := 8) d_Course_firstToCome_47 rfl ?_
      exact h
set_option maxRecDepth 8000 in
set_option maxHeartbeats 4000000 in
theorem E_Course_doesIt {M : fs_M} {K : fs_K} {x1 x2 x3 : Int} (h1 : fs_isO 2 x1) 
    (h : (0 ≤ x2 ∧ x2 < 6 ∧ ((x3 = 0 → K (some (fs_i 0)) (fs_st (fs_st M x1 0 (M 3 x2)) x1 1 (M x1 6))) ∧ (¬ x3 = 0 → ((M x1 3 = 0 → K (some (fs_i 0)) (fs_st (fs_st M x1 0 (M 3 x2)) x1 1 (M x1 6))) ∧ (¬ M x1 3 = 0 → ((M 43 2 = 5 → fs_A2 g m_Course_doesIt 5 87 [(0, fs_r 43), (1, fs_r x1), (2, fs_i x2), (4, fs_i (M x1 6)), (5, fs_i (M 4 x2)), (6, fs_r 9)] [] (fs_st (fs_st M x1 0 (M 3 x2)) x1 1 (M x1 6)) K) ∧ (¬ M 43 2 = 5 → fs_C2 g m_Laws_allows 4 [fs_r 9, fs_i (M x1 6), fs_i (M x1 2), fs_i (M x1 3), fs_i (M 4 x2), fs_i 0] (fs_st (fs_st M x1 0 (M 3 x2)) x1 1 (M x1 6)) (fun v M1 => ∃ r1, v = some (fs_i r1) ∧ ((¬ r1 = 0 → fs_A2 g m_Course_doesIt 5 87 [(0, fs_r 43), (1, fs_r x1), (2, fs_i x2), (4, fs_i (M x1 6)), (5, fs_i (M 4 x2)), (6, fs_r 9)] [] M1 K) ∧ (r1 = 0 → K (some (fs_i 0)) M1))))))))))) :
    fs_C2 g m_Course_doesIt 5 [fs_r 43, fs_r x1, fs_i x2, fs_i x3] M K := by
  refine b_enter2 (ls := [(0, fs_r 43), (1, fs_r x1), (2, fs_i x2), (3, fs_i x3)]) (plainFor_of_name pn_Course) (Nat.le_of_ble_eq_true rfl) rfl ?_
  refine a_aload_n (j := 1) d_Course_doesIt_0 rfl rfl ?_
  refine b_getfield (v := fs_i (M x1 6)) d_Course_doesIt_1 fl_Course_103 h1 rfl ?_
  refine a_istore d_Course_doesIt_4 (Nat.le_of_ble_eq_true rfl) [1, 2, 3, 4, 0] rfl ?_
  refine a_aload_n (j := 0) d_Course_doesIt_6 rfl rfl ?_
  refine b_getptr (q := 1) d_Course_doesIt_7 fl_Course_36 io_43 rfl rfl rfl ?_
  refine b_getptr (q := 4) d_Course_doesIt_10 fl_Course_94 io_1 rfl rfl rfl ?_
  refine a_iload_n (j := 2) d_Course_doesIt_13 rfl rfl ?_
  obtain ⟨o1, o2, h⟩ := h
  refine b_iaload (v := M 4 x2) d_Course_doesIt_14 ia_4 o1 o2 rfl ?_
  refine a_istore d_Course_doesIt_15 (Nat.le_of_ble_eq_true rfl) [1, 2, 3, 4, 5, 0] rfl ?_
  refine a_aload_n (j := 0) d_Course_doesIt_17 rfl rfl ?_
  refine b_getptr (q := 1) d_Course_doesIt_18 fl_Course_36 io_43 rfl rfl rfl ?_
  refine b_getptr (q := 9) d_Course_doesIt_21 fl_Course_90 io_1 rfl rfl rfl ?_
  refine a_astore d_Course_doesIt_24 (Nat.le_of_ble_eq_true rfl) (by decide) [1, 2, 3, 4, 5, 6, 0] rfl ?_
  refine a_aload_n (j := 1) d_Course_doesIt_26 rfl rfl ?_
  refine a_aload_n (j := 0) d_Course_doesIt_27 rfl rfl ?_
  refine b_getptr (q := 1) d_Course_doesIt_28 fl_Course_36 io_43 rfl rfl rfl ?_
  refine b_getptr (q := 3) d_Course_doesIt_31 fl_Course_106 io_1 rfl rfl rfl ?_
  refine a_iload_n (j := 2) d_Course_doesIt_34 rfl rfl ?_
  refine b_iaload (v := M 3 x2) d_Course_doesIt_35 ia_3 o1 o2 rfl ?_
  refine b_putfield (x := (M 3 x2)) d_Course_doesIt_36 fl_Course_109 h1 rfl rfl fs_nar_int ?_
  refine a_aload_n (j := 1) d_Course_doesIt_39 rfl rfl ?_
  refine a_iload (j := 4) d_Course_doesIt_40 rfl ?_
  refine b_putfield (x := (M x1 6)) d_Course_doesIt_42 fl_Course_112 h1 rfl rfl fs_nar_int ?_
  refine a_iload_n (j := 3) d_Course_doesIt_45 rfl rfl ?_
  refine a_if_eq (tgt := 85) d_Course_doesIt_46 rfl (fun c3 => ?_) (fun c3 => ?_)
  · have h := h.1 c3
    refine a_iconst d_Course_doesIt_85 (by unfold fs_in32; omega) ?_
    exact b_ireturn d_Course_doesIt_86 rfl (fs_nar01 (Or.inl rfl)) h
  · have h := h.2 c3
    refine a_aload_n (j := 1) d_Course_doesIt_49 rfl rfl ?_
    refine b_getfield (v := fs_i (M x1 3)) d_Course_doesIt_50 fl_Course_118 h1 (congrArg fs_i ((fs_st_k (by decide)).trans ((fs_st_k (by decide)).trans (rfl)))) ?_
    refine a_if_eq (tgt := 85) d_Course_doesIt_53 rfl (fun c4 => ?_) (fun c4 => ?_)
    · have h := h.1 c4
      refine a_iconst d_Course_doesIt_85 (by unfold fs_in32; omega) ?_
      exact b_ireturn d_Course_doesIt_86 rfl (fs_nar01 (Or.inl rfl)) h
    · have h := h.2 c4
      refine a_aload_n (j := 0) d_Course_doesIt_56 rfl rfl ?_
      refine b_getfield (v := fs_i (M 43 2)) d_Course_doesIt_57 fl_Course_9 io_43 (congrArg fs_i ((fs_st_k (by decide)).trans ((fs_st_k (by decide)).trans (rfl)))) ?_
      refine a_iconst d_Course_doesIt_60 (by unfold fs_in32; omega) ?_
      refine a_icmp_eq (tgt := 87) d_Course_doesIt_61 rfl (fun c5 => ?_) (fun c5 => ?_)
      · have h := h.1 c5
        refine a_sub [0, 1, 2, 4, 5, 6] rfl ?_
        exact h
      · have h := h.2 c5
        refine a_aload (j := 6) d_Course_doesIt_64 rfl ?_
        refine a_iload (j := 4) d_Course_doesIt_66 rfl ?_
        refine a_aload_n (j := 1) d_Course_doesIt_68 rfl rfl ?_
        refine b_getfield (v := fs_i (M x1 2)) d_Course_doesIt_69 fl_Course_115 h1 (congrArg fs_i ((fs_st_k (by decide)).trans ((fs_st_k (by decide)).trans (rfl)))) ?_
        refine a_aload_n (j := 1) d_Course_doesIt_72 rfl rfl ?_
        refine b_getfield (v := fs_i (M x1 3)) d_Course_doesIt_73 fl_Course_118 h1 (congrArg fs_i ((fs_st_k (by decide)).trans ((fs_st_k (by decide)).trans (rfl)))) ?_
        refine a_iload (j := 5) d_Course_doesIt_76 rfl ?_
        refine a_iconst d_Course_doesIt_78 (by unfold fs_in32; omega) ?_
        refine b_virtual (dc := 4) (ci := 3) (T := fs_T3) (N := 14) [fs_i (M x1 6), fs_i (M x1 2), fs_i (M x1 3), fs_i (M 4 x2), fs_i 0] [] d_Course_doesIt_79 ml_Course_97 k_Laws_allows v_Laws_allows rfl io_9 rfl (Nat.le_of_ble_eq_true rfl) rfl (Nat.le_of_ble_eq_true rfl) ?_
        refine fs_Call.mono (fun v M1 hv => ?_) h
        obtain ⟨r1, rfl, h⟩ := hv
        show fs_A2 g m_Course_doesIt 5 82 [(0, fs_r 43), (1, fs_r x1), (2, fs_i x2), (3, fs_i x3), (4, fs_i (M x1 6)), (5, fs_i (M 4 x2)), (6, fs_r 9)] [fs_i r1] M1 K
        refine a_if_ne (tgt := 87) d_Course_doesIt_82 rfl (fun c6 => ?_) (fun c6 => ?_)
        · have h := h.1 c6
          refine a_sub [0, 1, 2, 4, 5, 6] rfl ?_
          exact h
        · have h := h.2 c6
          refine a_iconst d_Course_doesIt_85 (by unfold fs_in32; omega) ?_
          exact b_ireturn d_Course_doesIt_86 rfl (fs_nar01 (Or.inl rfl)) h
set_option maxRecDepth 8000 in
set_option maxHeartbeats 4000000 in
theorem L_Course_doesIt_87 {M : fs_M} {K : fs_K} {x1 x2 x4 x5 : Int} (h1 : fs_isO 2 x1) 
    (h : (fs_isO 6 (M 43 1) ∧ fs_C2 g m_Fs_bit 1 [fs_i (M (M 43 1) 2), fs_i x2] M (fun v M2 => ∃ r2, v = some (fs_i r2) ∧ ((¬ r2 = 0 → fs_A2 g m_Course_doesIt 5 135 [(0, fs_r 43), (1, fs_r x1)] [] M2 K) ∧ (r2 = 0 → fs_C2 g m_Laws_stayTime 4 [fs_r 9, fs_i x4, fs_i (M2 x1 2), fs_i (M2 x1 3), fs_i x5] M2 (fun v M3 => ∃ r3, v = some (fs_i r3) ∧ fs_A2 g m_Course_doesIt 5 135 [(0, fs_r 43), (1, fs_r x1)] [] (fs_st (fs_st M3 x1 1 (fs_w32 (x4 + r3))) x1 2 (fs_w32 ((M3 x1 2) + 1))) K)))))) :
    fs_A2 g m_Course_doesIt 5 87 [(0, fs_r 43), (1, fs_r x1), (2, fs_i x2), (4, fs_i x4), (5, fs_i x5), (6, fs_r 9)] [] M K := by
  refine a_aload_n (j := 0) d_Course_doesIt_87 rfl rfl ?_
  refine b_getfield (v := fs_r (M 43 1)) d_Course_doesIt_88 fl_Course_40 io_43 rfl ?_
  obtain ⟨o7, h⟩ := h
  refine b_getfield (v := fs_i (M (M 43 1) 2)) d_Course_doesIt_91 fl_Course_139 o7 rfl ?_
  refine a_iload_n (j := 2) d_Course_doesIt_94 rfl rfl ?_
  refine b_static (dc := 1) [fs_i (M (M 43 1) 2), fs_i x2] [] d_Course_doesIt_95 ml_Course_87 k_Fs_bit s_Fs_bit rfl (Nat.le_of_ble_eq_true rfl) rfl (Nat.le_of_ble_eq_true rfl) ?_
  refine fs_Call.mono (fun v M2 hv => ?_) h
  obtain ⟨r2, rfl, h⟩ := hv
  show fs_A2 g m_Course_doesIt 5 98 [(0, fs_r 43), (1, fs_r x1), (2, fs_i x2), (4, fs_i x4), (5, fs_i x5), (6, fs_r 9)] [fs_i r2] M2 K
  refine a_if_ne (tgt := 135) d_Course_doesIt_98 rfl (fun c8 => ?_) (fun c8 => ?_)
  · have h := h.1 c8
    refine a_sub [0, 1] rfl ?_
    exact h
  · have h := h.2 c8
    refine a_aload_n (j := 1) d_Course_doesIt_101 rfl rfl ?_
    refine a_iload (j := 3) d_Course_doesIt_102 rfl ?_
    refine a_aload (j := 5) d_Course_doesIt_104 rfl ?_
    refine a_iload (j := 3) d_Course_doesIt_106 rfl ?_
    refine a_aload_n (j := 1) d_Course_doesIt_108 rfl rfl ?_
    refine b_getfield (v := fs_i (M2 x1 2)) d_Course_doesIt_109 fl_Course_115 h1 rfl ?_
    refine a_aload_n (j := 1) d_Course_doesIt_112 rfl rfl ?_
    refine b_getfield (v := fs_i (M2 x1 3)) d_Course_doesIt_113 fl_Course_118 h1 rfl ?_
    refine a_iload (j := 4) d_Course_doesIt_116 rfl ?_
    refine b_virtual (dc := 4) (ci := 3) (T := fs_T3) (N := 14) [fs_i x4, fs_i (M2 x1 2), fs_i (M2 x1 3), fs_i x5] [fs_i x4, fs_r x1] d_Course_doesIt_118 ml_Course_142 k_Laws_stayTime v_Laws_stayTime rfl io_9 rfl (Nat.le_of_ble_eq_true rfl) rfl (Nat.le_of_ble_eq_true rfl) ?_
    refine fs_Call.mono (fun v M3 hv => ?_) h
    obtain ⟨r3, rfl, h⟩ := hv
    show fs_A2 g m_Course_doesIt 5 121 [(0, fs_r 43), (1, fs_r x1), (2, fs_i x2), (4, fs_i x4), (5, fs_i x5), (6, fs_r 9)] [fs_i r3, fs_i x4, fs_r x1] M3 K
    refine a_iadd d_Course_doesIt_121 ?_
    refine b_putfield (x := (fs_w32 (x4 + r3))) d_Course_doesIt_122 fl_Course_112 h1 rfl rfl fs_nar_int ?_
    refine a_aload_n (j := 1) d_Course_doesIt_125 rfl rfl ?_
    refine a_dup d_Course_doesIt_126 rfl ?_
    refine b_getfield (v := fs_i (M3 x1 2)) d_Course_doesIt_127 fl_Course_115 h1 (congrArg fs_i ((fs_st_k (by decide)).trans (rfl))) ?_
    refine a_iconst d_Course_doesIt_130 (by unfold fs_in32; omega) ?_
    refine a_iadd d_Course_doesIt_131 ?_
    refine b_putfield (x := (fs_w32 ((M3 x1 2) + 1))) d_Course_doesIt_132 fl_Course_115 h1 rfl rfl fs_nar_int ?_
    refine a_sub [0, 1] rfl ?_
    exact h
set_option maxRecDepth 8000 in
set_option maxHeartbeats 4000000 in
theorem L_Course_doesIt_135 {M : fs_M} {K : fs_K} {x1 : Int} (h1 : fs_isO 2 x1) 
    (h : ((M 43 2 = 1 → fs_A2 g m_Course_doesIt 5 153 [(1, fs_r x1)] [] M K) ∧ (¬ M 43 2 = 1 → fs_A2 g m_Course_doesIt 5 153 [(1, fs_r x1)] [] (fs_st M x1 3 (fs_w32 ((M x1 3) - 1))) K))) :
    fs_A2 g m_Course_doesIt 5 135 [(0, fs_r 43), (1, fs_r x1)] [] M K := by
  refine a_aload_n (j := 0) d_Course_doesIt_135 rfl rfl ?_
  refine b_getfield (v := fs_i (M 43 2)) d_Course_doesIt_136 fl_Course_9 io_43 rfl ?_
  refine a_iconst d_Course_doesIt_139 (by unfold fs_in32; omega) ?_
  refine a_icmp_eq (tgt := 153) d_Course_doesIt_140 rfl (fun c9 => ?_) (fun c9 => ?_)
  · have h := h.1 c9
    refine a_sub [1] rfl ?_
    exact h
  · have h := h.2 c9
    refine a_aload_n (j := 1) d_Course_doesIt_143 rfl rfl ?_
    refine a_dup d_Course_doesIt_144 rfl ?_
    refine b_getfield (v := fs_i (M x1 3)) d_Course_doesIt_145 fl_Course_118 h1 rfl ?_
    refine a_iconst d_Course_doesIt_148 (by unfold fs_in32; omega) ?_
    refine a_isub d_Course_doesIt_149 ?_
    refine b_putfield (x := (fs_w32 ((M x1 3) - 1))) d_Course_doesIt_150 fl_Course_118 h1 rfl rfl fs_nar_int ?_
    refine a_sub [1] rfl ?_
    exact h
set_option maxRecDepth 8000 in
set_option maxHeartbeats 4000000 in
theorem L_Course_doesIt_153 {M : fs_M} {K : fs_K} {x1 : Int} (h1 : fs_isO 2 x1) 
    (h : K (some (fs_i 1)) (fs_st M x1 4 (fs_w32 ((M x1 4) + 1)))) :
    fs_A2 g m_Course_doesIt 5 153 [(1, fs_r x1)] [] M K := by
  refine a_aload_n (j := 0) d_Course_doesIt_153 rfl rfl ?_
  refine a_dup d_Course_doesIt_154 rfl ?_
  refine b_getfield (v := fs_i (M x1 4)) d_Course_doesIt_155 fl_Course_146 h1 rfl ?_
  refine a_iconst d_Course_doesIt_158 (by unfold fs_in32; omega) ?_
  refine a_iadd d_Course_doesIt_159 ?_
  refine b_putfield (x := (fs_w32 ((M x1 4) + 1))) d_Course_doesIt_160 fl_Course_146 h1 rfl rfl fs_nar_int ?_
  refine a_iconst d_Course_doesIt_163 (by unfold fs_in32; omega) ?_
  exact b_ireturn d_Course_doesIt_164 rfl (fs_nar01 (Or.inr rfl)) h
set_option maxRecDepth 8000 in
set_option maxHeartbeats 4000000 in
theorem E_Course_gained {M : fs_M} {K : fs_K} {x1 : Int} 
    (h : fs_A2 g m_Course_gained 3 4 [(0, fs_r 43), (1, fs_i x1), (2, fs_i 0), (3, fs_i 0)] [] M K) :
    fs_C2 g m_Course_gained 3 [fs_r 43, fs_i x1] M K := by
  refine b_enter2 (ls := [(0, fs_r 43), (1, fs_i x1)]) (plainFor_of_name pn_Course) (Nat.le_of_ble_eq_true rfl) rfl ?_
  refine a_iconst d_Course_gained_0 (by unfold fs_in32; omega) ?_
  refine a_istore_n d_Course_gained_1 rfl (Nat.le_of_ble_eq_true rfl) [1, 2, 0] rfl ?_
  refine a_iconst d_Course_gained_2 (by unfold fs_in32; omega) ?_
  refine a_istore_n d_Course_gained_3 rfl (Nat.le_of_ble_eq_true rfl) [1, 2, 3, 0] rfl ?_
  exact h
set_option maxRecDepth 8000 in
set_option maxHeartbeats 4000000 in
theorem L_Course_gained_4 {M : fs_M} {K : fs_K} {x1 x2 x3 : Int} 
    (h : ((M 1 5 ≤ x3 → K (some (fs_i x2)) M) ∧ (¬ M 1 5 ≤ x3 → fs_C2 g m_Course_isInTime 2 [fs_r 43, fs_i x3] M (fun v M1 => ∃ r1, v = some (fs_i r1) ∧ ((r1 = 0 → fs_A2 g m_Course_gained 3 4 [(0, fs_r 43), (1, fs_i x1), (2, fs_i x2), (3, fs_i (fs_w32 (x3 + 1)))] [] M1 K) ∧ (¬ r1 = 0 → (0 ≤ x3 ∧ x3 < 6 ∧ ((M1 49 x3 < 0 → fs_A2 g m_Course_gained 3 46 [(0, fs_r 43), (1, fs_i x1), (2, fs_i x2), (3, fs_i x3)] [fs_i 0] M1 K) ∧ (¬ M1 49 x3 < 0 → fs_C2 g m_Fs_bit 1 [fs_i x1, fs_i x3] M1 (fun v M2 => ∃ r2, v = some (fs_i r2) ∧ ((¬ r2 = 1 → fs_A2 g m_Course_gained 3 46 [(0, fs_r 43), (1, fs_i x1), (2, fs_i x2), (3, fs_i x3)] [fs_i 0] M2 K) ∧ (r2 = 1 → fs_A2 g m_Course_gained 3 46 [(0, fs_r 43), (1, fs_i x1), (2, fs_i x2), (3, fs_i x3)] [fs_i 1] M2 K)))))))))))) :
    fs_A2 g m_Course_gained 3 4 [(0, fs_r 43), (1, fs_i x1), (2, fs_i x2), (3, fs_i x3)] [] M K := by
  refine a_iload_n (j := 3) d_Course_gained_4 rfl rfl ?_
  refine a_aload_n (j := 0) d_Course_gained_5 rfl rfl ?_
  refine b_getptr (q := 1) d_Course_gained_6 fl_Course_36 io_43 rfl rfl rfl ?_
  refine b_getfield (v := fs_i (M 1 5)) d_Course_gained_9 fl_Course_53 io_1 rfl ?_
  refine a_icmp_ge (tgt := 85) d_Course_gained_12 rfl (fun c1 => ?_) (fun c1 => ?_)
  · have h := h.1 c1
    refine a_iload_n (j := 2) d_Course_gained_85 rfl rfl ?_
    exact b_ireturn d_Course_gained_86 rfl rfl h
  · have h := h.2 c1
    refine a_aload_n (j := 0) d_Course_gained_15 rfl rfl ?_
    refine a_iload_n (j := 3) d_Course_gained_16 rfl rfl ?_
    refine b_virtual (dc := 2) (ci := 1) (T := fs_T1) (N := 8) [fs_i x3] [] d_Course_gained_17 ml_Course_155 k_Course_isInTime v_Course_isInTime rfl io_43 rfl (Nat.le_of_ble_eq_true rfl) rfl (Nat.le_of_ble_eq_true rfl) ?_
    refine fs_Call.mono (fun v M1 hv => ?_) h
    obtain ⟨r1, rfl, h⟩ := hv
    show fs_A2 g m_Course_gained 3 20 [(0, fs_r 43), (1, fs_i x1), (2, fs_i x2), (3, fs_i x3)] [fs_i r1] M1 K
    refine a_if_eq (tgt := 79) d_Course_gained_20 rfl (fun c2 => ?_) (fun c2 => ?_)
    · have h := h.1 c2
      refine a_iinc (j := 3) d_Course_gained_79 rfl (Nat.le_of_ble_eq_true rfl) [1, 2, 3, 0] rfl ?_
      refine a_goto (tgt := 4) d_Course_gained_82 rfl ?_
      exact h
    · have h := h.2 c2
      refine a_aload_n (j := 0) d_Course_gained_23 rfl rfl ?_
      refine b_getptr (q := 49) d_Course_gained_24 fl_Course_26 io_43 rfl rfl rfl ?_
      refine a_iload_n (j := 3) d_Course_gained_27 rfl rfl ?_
      obtain ⟨o3, o4, h⟩ := h
      refine b_iaload (v := M1 49 x3) d_Course_gained_28 ia_49 o3 o4 rfl ?_
      refine a_if_lt (tgt := 45) d_Course_gained_29 rfl (fun c5 => ?_) (fun c5 => ?_)
      · have h := h.1 c5
        refine a_iconst d_Course_gained_45 (by unfold fs_in32; omega) ?_
        exact h
      · have h := h.2 c5
        refine a_iload_n (j := 1) d_Course_gained_32 rfl rfl ?_
        refine a_iload_n (j := 3) d_Course_gained_33 rfl rfl ?_
        refine b_static (dc := 1) [fs_i x1, fs_i x3] [] d_Course_gained_34 ml_Course_87 k_Fs_bit s_Fs_bit rfl (Nat.le_of_ble_eq_true rfl) rfl (Nat.le_of_ble_eq_true rfl) ?_
        refine fs_Call.mono (fun v M2 hv => ?_) h
        obtain ⟨r2, rfl, h⟩ := hv
        show fs_A2 g m_Course_gained 3 37 [(0, fs_r 43), (1, fs_i x1), (2, fs_i x2), (3, fs_i x3)] [fs_i r2] M2 K
        refine a_iconst d_Course_gained_37 (by unfold fs_in32; omega) ?_
        refine a_icmp_ne (tgt := 45) d_Course_gained_38 rfl (fun c6 => ?_) (fun c6 => ?_)
        · have h := h.1 c6
          refine a_iconst d_Course_gained_45 (by unfold fs_in32; omega) ?_
          exact h
        · have h := h.2 c6
          refine a_iconst d_Course_gained_41 (by unfold fs_in32; omega) ?_
          refine a_goto (tgt := 46) d_Course_gained_42 rfl ?_
          exact h
set_option maxRecDepth 8000 in
set_option maxHeartbeats 4000000 in
theorem L_Course_gained_46 {M : fs_M} {K : fs_K} {x1 x2 x3 x100 : Int} 
    (h : ((x100 = 0 → (0 ≤ x3 ∧ x3 < 6 ∧ fs_A2 g m_Course_gained 3 4 [(0, fs_r 43), (1, fs_i x1), (2, fs_i (fs_w32 (x2 + (M 4 x3)))), (3, fs_i (fs_w32 (x3 + 1)))] [] M K)) ∧ (¬ x100 = 0 → (0 ≤ x3 ∧ x3 < 6 ∧ fs_A2 g m_Course_gained 3 4 [(0, fs_r 43), (1, fs_i x1), (2, fs_i (fs_w32 (x2 + (fs_div (M 4 x3) 2)))), (3, fs_i (fs_w32 (x3 + 1)))] [] M K)))) :
    fs_A2 g m_Course_gained 3 46 [(0, fs_r 43), (1, fs_i x1), (2, fs_i x2), (3, fs_i x3)] [fs_i x100] M K := by
  refine a_istore d_Course_gained_46 (Nat.le_of_ble_eq_true rfl) [1, 2, 3, 4, 0] rfl ?_
  refine a_iload_n (j := 2) d_Course_gained_48 rfl rfl ?_
  refine a_iload (j := 4) d_Course_gained_49 rfl ?_
  refine a_if_eq (tgt := 68) d_Course_gained_51 rfl (fun c7 => ?_) (fun c7 => ?_)
  · have h := h.1 c7
    refine a_aload_n (j := 0) d_Course_gained_68 rfl rfl ?_
    refine b_getptr (q := 1) d_Course_gained_69 fl_Course_36 io_43 rfl rfl rfl ?_
    refine b_getptr (q := 4) d_Course_gained_72 fl_Course_94 io_1 rfl rfl rfl ?_
    refine a_iload_n (j := 3) d_Course_gained_75 rfl rfl ?_
    obtain ⟨o8, o9, h⟩ := h
    refine b_iaload (v := M 4 x3) d_Course_gained_76 ia_4 o8 o9 rfl ?_
    refine a_iadd d_Course_gained_77 ?_
    refine a_istore_n d_Course_gained_78 rfl (Nat.le_of_ble_eq_true rfl) [1, 2, 0, 3, 4] rfl ?_
    refine a_iinc (j := 3) d_Course_gained_79 rfl (Nat.le_of_ble_eq_true rfl) [1, 2, 3, 0, 4] rfl ?_
    refine a_goto (tgt := 4) d_Course_gained_82 rfl ?_
    refine a_sub [0, 1, 2, 3] rfl ?_
    exact h
  · have h := h.2 c7
    refine a_aload_n (j := 0) d_Course_gained_54 rfl rfl ?_
    refine b_getptr (q := 1) d_Course_gained_55 fl_Course_36 io_43 rfl rfl rfl ?_
    refine b_getptr (q := 4) d_Course_gained_58 fl_Course_94 io_1 rfl rfl rfl ?_
    refine a_iload_n (j := 3) d_Course_gained_61 rfl rfl ?_
    obtain ⟨o10, o11, h⟩ := h
    refine b_iaload (v := M 4 x3) d_Course_gained_62 ia_4 o10 o11 rfl ?_
    refine a_iconst d_Course_gained_63 (by unfold fs_in32; omega) ?_
    refine a_idiv d_Course_gained_64 (by decide) ?_
    refine a_goto (tgt := 77) d_Course_gained_65 rfl ?_
    refine a_iadd d_Course_gained_77 ?_
    refine a_istore_n d_Course_gained_78 rfl (Nat.le_of_ble_eq_true rfl) [1, 2, 0, 3, 4] rfl ?_
    refine a_iinc (j := 3) d_Course_gained_79 rfl (Nat.le_of_ble_eq_true rfl) [1, 2, 3, 0, 4] rfl ?_
    refine a_goto (tgt := 4) d_Course_gained_82 rfl ?_
    refine a_sub [0, 1, 2, 3] rfl ?_
    exact h
set_option maxRecDepth 8000 in
set_option maxHeartbeats 4000000 in
theorem E_Course_isInTime {M : fs_M} {K : fs_K} {x1 : Int} 
    (h : fs_C2 g m_Course_isDone 1 [fs_r 43, fs_i x1] M (fun v M1 => ∃ r1, v = some (fs_i r1) ∧ ((r1 = 0 → K (some (fs_i 0)) M1) ∧ (¬ r1 = 0 → (0 ≤ x1 ∧ x1 < 6 ∧ ((M1 5 x1 < M1 50 x1 → K (some (fs_i 0)) M1) ∧ (¬ M1 5 x1 < M1 50 x1 → K (some (fs_i 1)) M1))))))) :
    fs_C2 g m_Course_isInTime 2 [fs_r 43, fs_i x1] M K := by
  refine b_enter2 (ls := [(0, fs_r 43), (1, fs_i x1)]) (plainFor_of_name pn_Course) (Nat.le_of_ble_eq_true rfl) rfl ?_
  refine a_aload_n (j := 0) d_Course_isInTime_0 rfl rfl ?_
  refine a_iload_n (j := 1) d_Course_isInTime_1 rfl rfl ?_
  refine b_virtual (dc := 1) (ci := 1) (T := fs_T1) (N := 8) [fs_i x1] [] d_Course_isInTime_2 ml_Course_149 k_Course_isDone v_Course_isDone rfl io_43 rfl (Nat.le_of_ble_eq_true rfl) rfl (Nat.le_of_ble_eq_true rfl) ?_
  refine fs_Call.mono (fun v M1 hv => ?_) h
  obtain ⟨r1, rfl, h⟩ := hv
  show fs_A2 g m_Course_isInTime 2 5 [(0, fs_r 43), (1, fs_i x1)] [fs_i r1] M1 K
  refine a_if_eq (tgt := 30) d_Course_isInTime_5 rfl (fun c1 => ?_) (fun c1 => ?_)
  · have h := h.1 c1
    refine a_iconst d_Course_isInTime_30 (by unfold fs_in32; omega) ?_
    exact b_ireturn d_Course_isInTime_31 rfl (fs_nar01 (Or.inl rfl)) h
  · have h := h.2 c1
    refine a_aload_n (j := 0) d_Course_isInTime_8 rfl rfl ?_
    refine b_getptr (q := 50) d_Course_isInTime_9 fl_Course_30 io_43 rfl rfl rfl ?_
    refine a_iload_n (j := 1) d_Course_isInTime_12 rfl rfl ?_
    obtain ⟨o2, o3, h⟩ := h
    refine b_iaload (v := M1 50 x1) d_Course_isInTime_13 ia_50 o2 o3 rfl ?_
    refine a_aload_n (j := 0) d_Course_isInTime_14 rfl rfl ?_
    refine b_getptr (q := 1) d_Course_isInTime_15 fl_Course_36 io_43 rfl rfl rfl ?_
    refine b_getptr (q := 5) d_Course_isInTime_18 fl_Course_152 io_1 rfl rfl rfl ?_
    refine a_iload_n (j := 1) d_Course_isInTime_21 rfl rfl ?_
    refine b_iaload (v := M1 5 x1) d_Course_isInTime_22 ia_5 o2 o3 rfl ?_
    refine a_icmp_gt (tgt := 30) d_Course_isInTime_23 rfl (fun c4 => ?_) (fun c4 => ?_)
    · have h := h.1 c4
      refine a_iconst d_Course_isInTime_30 (by unfold fs_in32; omega) ?_
      exact b_ireturn d_Course_isInTime_31 rfl (fs_nar01 (Or.inl rfl)) h
    · have h := h.2 c4
      refine a_iconst d_Course_isInTime_26 (by unfold fs_in32; omega) ?_
      refine a_goto (tgt := 31) d_Course_isInTime_27 rfl ?_
      exact b_ireturn d_Course_isInTime_31 rfl (fs_nar01 (Or.inr rfl)) h
set_option maxRecDepth 8000 in
set_option maxHeartbeats 4000000 in
theorem E_Course_isDone {M : fs_M} {K : fs_K} {x1 : Int} 
    (h : (0 ≤ x1 ∧ x1 < 6 ∧ ((0 ≤ M 49 x1 → K (some (fs_i 1)) M) ∧ (¬ 0 ≤ M 49 x1 → ((¬ M 49 x1 = (-2) → K (some (fs_i 0)) M) ∧ (M 49 x1 = (-2) → K (some (fs_i 1)) M)))))) :
    fs_C2 g m_Course_isDone 1 [fs_r 43, fs_i x1] M K := by
  refine b_enter2 (ls := [(0, fs_r 43), (1, fs_i x1)]) (plainFor_of_name pn_Course) (Nat.le_of_ble_eq_true rfl) rfl ?_
  refine a_aload_n (j := 0) d_Course_isDone_0 rfl rfl ?_
  refine b_getptr (q := 49) d_Course_isDone_1 fl_Course_26 io_43 rfl rfl rfl ?_
  refine a_iload_n (j := 1) d_Course_isDone_4 rfl rfl ?_
  obtain ⟨o1, o2, h⟩ := h
  refine b_iaload (v := M 49 x1) d_Course_isDone_5 ia_49 o1 o2 rfl ?_
  refine a_if_ge (tgt := 20) d_Course_isDone_6 rfl (fun c3 => ?_) (fun c3 => ?_)
  · have h := h.1 c3
    refine a_iconst d_Course_isDone_20 (by unfold fs_in32; omega) ?_
    refine a_goto (tgt := 25) d_Course_isDone_21 rfl ?_
    exact b_ireturn d_Course_isDone_25 rfl (fs_nar01 (Or.inr rfl)) h
  · have h := h.2 c3
    refine a_aload_n (j := 0) d_Course_isDone_9 rfl rfl ?_
    refine b_getptr (q := 49) d_Course_isDone_10 fl_Course_26 io_43 rfl rfl rfl ?_
    refine a_iload_n (j := 1) d_Course_isDone_13 rfl rfl ?_
    refine b_iaload (v := M 49 x1) d_Course_isDone_14 ia_49 o1 o2 rfl ?_
    refine a_bipush d_Course_isDone_15 (by decide) ?_
    refine a_icmp_ne (tgt := 24) d_Course_isDone_17 rfl (fun c4 => ?_) (fun c4 => ?_)
    · have h := h.1 c4
      refine a_iconst d_Course_isDone_24 (by unfold fs_in32; omega) ?_
      exact b_ireturn d_Course_isDone_25 rfl (fs_nar01 (Or.inl rfl)) h
    · have h := h.2 c4
      refine a_iconst d_Course_isDone_20 (by unfold fs_in32; omega) ?_
      refine a_goto (tgt := 25) d_Course_isDone_21 rfl ?_
      exact b_ireturn d_Course_isDone_25 rfl (fs_nar01 (Or.inr rfl)) h
end WALK
