-- ===== printed by program (wip/whole/gen12.py): what must hold at a method's entry, at its labels =====
section WALK
variable {g : fs_G}
set_option maxRecDepth 8000 in
set_option maxHeartbeats 4000000 in
theorem E_Fs_feed {M : fs_M} {K : fs_K} {x1 x2 x3 x4 x5 : Int} 
    (h : ((fs_w32 ((M 29 1) + 20) ≤ 600 → fs_C2 g m_Reader_put 1 [fs_r 29, fs_i x1] M (fun v M1 => v = none ∧ fs_C2 g m_Reader_put 1 [fs_r 29, fs_i x2] M1 (fun v M2 => v = none ∧ fs_C2 g m_Reader_put 1 [fs_r 29, fs_i x3] M2 (fun v M3 => v = none ∧ fs_C2 g m_Reader_put 1 [fs_r 29, fs_i x4] M3 (fun v M4 => v = none ∧ fs_C2 g m_Reader_put 1 [fs_r 29, fs_i x5] M4 (fun v M5 => v = none ∧ K (some (fs_i (M5 29 1))) M5)))))) ∧ (¬ fs_w32 ((M 29 1) + 20) ≤ 600 → K (some (fs_i (-1))) M))) :
    fs_C2 g m_Fs_feed 2 [fs_r 0, fs_i x1, fs_i x2, fs_i x3, fs_i x4, fs_i x5] M K := by
  refine b_enter2 (ls := [(0, fs_r 0), (1, fs_i x1), (2, fs_i x2), (3, fs_i x3), (4, fs_i x4), (5, fs_i x5)]) (plainFor_of_name pn_Fs) (Nat.le_of_ble_eq_true rfl) rfl ?_
  refine a_aload_n (j := 0) d_Fs_feed_0 rfl rfl ?_
  refine b_getptr (q := 29) d_Fs_feed_1 fl_Fs_24 io_0 rfl rfl rfl ?_
  refine b_getfield (v := fs_i (M 29 1)) d_Fs_feed_4 fl_Fs_100 io_29 rfl ?_
  refine a_bipush d_Fs_feed_7 (by decide) ?_
  refine a_iadd d_Fs_feed_9 ?_
  refine a_sipush d_Fs_feed_10 (by decide) ?_
  refine a_icmp_le (tgt := 18) d_Fs_feed_13 rfl (fun c1 => ?_) (fun c1 => ?_)
  · have h := h.1 c1
    refine a_aload_n (j := 0) d_Fs_feed_18 rfl rfl ?_
    refine b_getptr (q := 29) d_Fs_feed_19 fl_Fs_24 io_0 rfl rfl rfl ?_
    refine a_iload_n (j := 1) d_Fs_feed_22 rfl rfl ?_
    refine b_virtual (dc := 1) (ci := 7) (T := fs_T7) (N := 12) [fs_i x1] [] d_Fs_feed_23 ml_Fs_103 k_Reader_put v_Reader_put rfl io_29 rfl (Nat.le_of_ble_eq_true rfl) rfl (Nat.le_of_ble_eq_true rfl) ?_
    refine fs_Call.mono (fun v M1 hv => ?_) h
    obtain ⟨rfl, h⟩ := hv
    show fs_A2 g m_Fs_feed 2 26 [(0, fs_r 0), (1, fs_i x1), (2, fs_i x2), (3, fs_i x3), (4, fs_i x4), (5, fs_i x5)] [] M1 K
    refine a_aload_n (j := 0) d_Fs_feed_26 rfl rfl ?_
    refine b_getptr (q := 29) d_Fs_feed_27 fl_Fs_24 io_0 rfl rfl rfl ?_
    refine a_iload_n (j := 2) d_Fs_feed_30 rfl rfl ?_
    refine b_virtual (dc := 1) (ci := 7) (T := fs_T7) (N := 12) [fs_i x2] [] d_Fs_feed_31 ml_Fs_103 k_Reader_put v_Reader_put rfl io_29 rfl (Nat.le_of_ble_eq_true rfl) rfl (Nat.le_of_ble_eq_true rfl) ?_
    refine fs_Call.mono (fun v M2 hv => ?_) h
    obtain ⟨rfl, h⟩ := hv
    show fs_A2 g m_Fs_feed 2 34 [(0, fs_r 0), (1, fs_i x1), (2, fs_i x2), (3, fs_i x3), (4, fs_i x4), (5, fs_i x5)] [] M2 K
    refine a_aload_n (j := 0) d_Fs_feed_34 rfl rfl ?_
    refine b_getptr (q := 29) d_Fs_feed_35 fl_Fs_24 io_0 rfl rfl rfl ?_
    refine a_iload_n (j := 3) d_Fs_feed_38 rfl rfl ?_
    refine b_virtual (dc := 1) (ci := 7) (T := fs_T7) (N := 12) [fs_i x3] [] d_Fs_feed_39 ml_Fs_103 k_Reader_put v_Reader_put rfl io_29 rfl (Nat.le_of_ble_eq_true rfl) rfl (Nat.le_of_ble_eq_true rfl) ?_
    refine fs_Call.mono (fun v M3 hv => ?_) h
    obtain ⟨rfl, h⟩ := hv
    show fs_A2 g m_Fs_feed 2 42 [(0, fs_r 0), (1, fs_i x1), (2, fs_i x2), (3, fs_i x3), (4, fs_i x4), (5, fs_i x5)] [] M3 K
    refine a_aload_n (j := 0) d_Fs_feed_42 rfl rfl ?_
    refine b_getptr (q := 29) d_Fs_feed_43 fl_Fs_24 io_0 rfl rfl rfl ?_
    refine a_iload (j := 4) d_Fs_feed_46 rfl ?_
    refine b_virtual (dc := 1) (ci := 7) (T := fs_T7) (N := 12) [fs_i x4] [] d_Fs_feed_48 ml_Fs_103 k_Reader_put v_Reader_put rfl io_29 rfl (Nat.le_of_ble_eq_true rfl) rfl (Nat.le_of_ble_eq_true rfl) ?_
    refine fs_Call.mono (fun v M4 hv => ?_) h
    obtain ⟨rfl, h⟩ := hv
    show fs_A2 g m_Fs_feed 2 51 [(0, fs_r 0), (1, fs_i x1), (2, fs_i x2), (3, fs_i x3), (4, fs_i x4), (5, fs_i x5)] [] M4 K
    refine a_aload_n (j := 0) d_Fs_feed_51 rfl rfl ?_
    refine b_getptr (q := 29) d_Fs_feed_52 fl_Fs_24 io_0 rfl rfl rfl ?_
    refine a_iload (j := 5) d_Fs_feed_55 rfl ?_
    refine b_virtual (dc := 1) (ci := 7) (T := fs_T7) (N := 12) [fs_i x5] [] d_Fs_feed_57 ml_Fs_103 k_Reader_put v_Reader_put rfl io_29 rfl (Nat.le_of_ble_eq_true rfl) rfl (Nat.le_of_ble_eq_true rfl) ?_
    refine fs_Call.mono (fun v M5 hv => ?_) h
    obtain ⟨rfl, h⟩ := hv
    show fs_A2 g m_Fs_feed 2 60 [(0, fs_r 0), (1, fs_i x1), (2, fs_i x2), (3, fs_i x3), (4, fs_i x4), (5, fs_i x5)] [] M5 K
    refine a_aload_n (j := 0) d_Fs_feed_60 rfl rfl ?_
    refine b_getptr (q := 29) d_Fs_feed_61 fl_Fs_24 io_0 rfl rfl rfl ?_
    refine b_getfield (v := fs_i (M5 29 1)) d_Fs_feed_64 fl_Fs_100 io_29 rfl ?_
    exact b_ireturn d_Fs_feed_67 rfl rfl h
  · have h := h.2 c1
    refine a_iconst d_Fs_feed_16 (by unfold fs_in32; omega) ?_
    exact b_ireturn d_Fs_feed_17 rfl rfl h
set_option maxRecDepth 8000 in
set_option maxHeartbeats 4000000 in
theorem E_Fs_text {M : fs_M} {K : fs_K} {x1 : Int} 
    (h : ((x1 < 0 → K (some (fs_i (-2))) M) ∧ (¬ x1 < 0 → ((x1 ≤ M 29 1 → fs_C2 g m_Reader_read 156 [fs_r 29, fs_i x1] M (fun v M1 => ∃ r1, v = some (fs_i r1) ∧ ((¬ r1 = (-1) → fs_C2 g m_Script_copyFrom 2 [fs_r 1, fs_r 15] M1 (fun v M2 => v = none ∧ fs_C2 g m_Plan_clear 1 [fs_r 31] M2 (fun v M3 => v = none ∧ fs_C2 g m_Night_clear 1 [fs_r 54, fs_i (M3 1 10)] M3 (fun v M4 => v = none ∧ fs_C2 g m_Tracks_clear 1 [fs_r 90] M4 (fun v M5 => v = none ∧ fs_C2 g m_Past_clear 1 [fs_r 95] M5 (fun v M6 => v = none ∧ K (some (fs_i r1)) (fs_st (fs_st M6 0 13 0) 60 5 0))))))) ∧ (r1 = (-1) → K (some (fs_i (-1))) M1)))) ∧ (¬ x1 ≤ M 29 1 → K (some (fs_i (-2))) M))))) :
    fs_C2 g m_Fs_text 157 [fs_r 0, fs_i x1] M K := by
  refine b_enter2 (ls := [(0, fs_r 0), (1, fs_i x1)]) (plainFor_of_name pn_Fs) (Nat.le_of_ble_eq_true rfl) rfl ?_
  refine a_iload_n (j := 1) d_Fs_text_0 rfl rfl ?_
  refine a_if_lt (tgt := 15) d_Fs_text_1 rfl (fun c1 => ?_) (fun c1 => ?_)
  · have h := h.1 c1
    refine a_bipush d_Fs_text_15 (by decide) ?_
    exact b_ireturn d_Fs_text_17 rfl rfl h
  · have h := h.2 c1
    refine a_iload_n (j := 1) d_Fs_text_4 rfl rfl ?_
    refine a_aload_n (j := 0) d_Fs_text_5 rfl rfl ?_
    refine b_getptr (q := 29) d_Fs_text_6 fl_Fs_24 io_0 rfl rfl rfl ?_
    refine b_getfield (v := fs_i (M 29 1)) d_Fs_text_9 fl_Fs_100 io_29 rfl ?_
    refine a_icmp_le (tgt := 18) d_Fs_text_12 rfl (fun c2 => ?_) (fun c2 => ?_)
    · have h := h.1 c2
      refine a_aload_n (j := 0) d_Fs_text_18 rfl rfl ?_
      refine b_getptr (q := 29) d_Fs_text_19 fl_Fs_24 io_0 rfl rfl rfl ?_
      refine a_iload_n (j := 1) d_Fs_text_22 rfl rfl ?_
      refine b_virtual (dc := 156) (ci := 7) (T := fs_T7) (N := 12) [fs_i x1] [] d_Fs_text_23 ml_Fs_107 k_Reader_read v_Reader_read rfl io_29 rfl (Nat.le_of_ble_eq_true rfl) rfl (Nat.le_of_ble_eq_true rfl) ?_
      refine fs_Call.mono (fun v M1 hv => ?_) h
      obtain ⟨r1, rfl, h⟩ := hv
      show fs_A2 g m_Fs_text 157 26 [(0, fs_r 0), (1, fs_i x1)] [fs_i r1] M1 K
      refine a_istore_n d_Fs_text_26 rfl (Nat.le_of_ble_eq_true rfl) [1, 2, 0] rfl ?_
      refine a_iload_n (j := 2) d_Fs_text_27 rfl rfl ?_
      refine a_iconst d_Fs_text_28 (by unfold fs_in32; omega) ?_
      refine a_icmp_ne (tgt := 34) d_Fs_text_29 rfl (fun c3 => ?_) (fun c3 => ?_)
      · have h := h.1 c3
        refine a_aload_n (j := 0) d_Fs_text_34 rfl rfl ?_
        refine b_getptr (q := 1) d_Fs_text_35 fl_Fs_12 io_0 rfl rfl rfl ?_
        refine a_aload_n (j := 0) d_Fs_text_38 rfl rfl ?_
        refine b_getptr (q := 15) d_Fs_text_39 fl_Fs_16 io_0 rfl rfl rfl ?_
        refine b_virtual (dc := 2) (ci := 8) (T := fs_T8) (N := 13) [fs_r 15] [] d_Fs_text_42 ml_Fs_111 k_Script_copyFrom v_Script_copyFrom rfl io_1 rfl (Nat.le_of_ble_eq_true rfl) rfl (Nat.le_of_ble_eq_true rfl) ?_
        refine fs_Call.mono (fun v M2 hv => ?_) h
        obtain ⟨rfl, h⟩ := hv
        show fs_A2 g m_Fs_text 157 45 [(0, fs_r 0), (1, fs_i x1), (2, fs_i r1)] [] M2 K
        refine a_aload_n (j := 0) d_Fs_text_45 rfl rfl ?_
        refine b_getptr (q := 31) d_Fs_text_46 fl_Fs_31 io_0 rfl rfl rfl ?_
        refine b_virtual (dc := 1) (ci := 6) (T := fs_T6) (N := 4) [] [] d_Fs_text_49 ml_Fs_114 k_Plan_clear v_Plan_clear rfl io_31 rfl (Nat.le_of_ble_eq_true rfl) rfl (Nat.le_of_ble_eq_true rfl) ?_
        refine fs_Call.mono (fun v M3 hv => ?_) h
        obtain ⟨rfl, h⟩ := hv
        show fs_A2 g m_Fs_text 157 52 [(0, fs_r 0), (1, fs_i x1), (2, fs_i r1)] [] M3 K
        refine a_aload_n (j := 0) d_Fs_text_52 rfl rfl ?_
        refine b_getptr (q := 54) d_Fs_text_53 fl_Fs_50 io_0 rfl rfl rfl ?_
        refine a_aload_n (j := 0) d_Fs_text_56 rfl rfl ?_
        refine b_getptr (q := 1) d_Fs_text_57 fl_Fs_12 io_0 rfl rfl rfl ?_
        refine b_getfield (v := fs_i (M3 1 10)) d_Fs_text_60 fl_Fs_117 io_1 rfl ?_
        refine b_virtual (dc := 1) (ci := 4) (T := fs_T4) (N := 4) [fs_i (M3 1 10)] [] d_Fs_text_63 ml_Fs_120 k_Night_clear v_Night_clear rfl io_54 rfl (Nat.le_of_ble_eq_true rfl) rfl (Nat.le_of_ble_eq_true rfl) ?_
        refine fs_Call.mono (fun v M4 hv => ?_) h
        obtain ⟨rfl, h⟩ := hv
        show fs_A2 g m_Fs_text 157 66 [(0, fs_r 0), (1, fs_i x1), (2, fs_i r1)] [] M4 K
        refine a_aload_n (j := 0) d_Fs_text_66 rfl rfl ?_
        refine b_getptr (q := 90) d_Fs_text_67 fl_Fs_69 io_0 rfl rfl rfl ?_
        refine b_virtual (dc := 1) (ci := 9) (T := fs_T9) (N := 6) [] [] d_Fs_text_70 ml_Fs_122 k_Tracks_clear v_Tracks_clear rfl io_90 rfl (Nat.le_of_ble_eq_true rfl) rfl (Nat.le_of_ble_eq_true rfl) ?_
        refine fs_Call.mono (fun v M5 hv => ?_) h
        obtain ⟨rfl, h⟩ := hv
        show fs_A2 g m_Fs_text 157 73 [(0, fs_r 0), (1, fs_i x1), (2, fs_i r1)] [] M5 K
        refine a_aload_n (j := 0) d_Fs_text_73 rfl rfl ?_
        refine b_getptr (q := 95) d_Fs_text_74 fl_Fs_76 io_0 rfl rfl rfl ?_
        refine b_virtual (dc := 1) (ci := 5) (T := fs_T5) (N := 3) [] [] d_Fs_text_77 ml_Fs_123 k_Past_clear v_Past_clear rfl io_95 rfl (Nat.le_of_ble_eq_true rfl) rfl (Nat.le_of_ble_eq_true rfl) ?_
        refine fs_Call.mono (fun v M6 hv => ?_) h
        obtain ⟨rfl, h⟩ := hv
        show fs_A2 g m_Fs_text 157 80 [(0, fs_r 0), (1, fs_i x1), (2, fs_i r1)] [] M6 K
        refine a_aload_n (j := 0) d_Fs_text_80 rfl rfl ?_
        refine a_iconst d_Fs_text_81 (by unfold fs_in32; omega) ?_
        refine b_putfield (x := 0) d_Fs_text_82 fl_Fs_86 io_0 rfl rfl (fs_nar_bool (Or.inl rfl)) ?_
        refine a_aload_n (j := 0) d_Fs_text_85 rfl rfl ?_
        refine b_getptr (q := 60) d_Fs_text_86 fl_Fs_62 io_0 rfl rfl rfl ?_
        refine a_iconst d_Fs_text_89 (by unfold fs_in32; omega) ?_
        refine b_putfield (x := 0) d_Fs_text_90 fl_Fs_124 io_60 rfl rfl (fs_nar_bool (Or.inl rfl)) ?_
        refine a_iload_n (j := 2) d_Fs_text_93 rfl rfl ?_
        exact b_ireturn d_Fs_text_94 rfl rfl h
      · have h := h.2 c3
        refine a_iconst d_Fs_text_32 (by unfold fs_in32; omega) ?_
        exact b_ireturn d_Fs_text_33 rfl rfl h
    · have h := h.2 c2
      refine a_bipush d_Fs_text_15 (by decide) ?_
      exact b_ireturn d_Fs_text_17 rfl rfl h
set_option maxRecDepth 8000 in
set_option maxHeartbeats 4000000 in
theorem E_Fs_indexOf {M : fs_M} {K : fs_K} {x0 x1 x2 : Int} {n0 : Nat} (h0 : fs_isA 0 n0 x0) 
    (h : fs_A2 g m_Fs_indexOf 1 2 [(0, fs_r x0), (1, fs_i x1), (2, fs_i x2), (3, fs_i 0)] [] M K) :
    fs_C2 g m_Fs_indexOf 1 [fs_r x0, fs_i x1, fs_i x2] M K := by
  refine b_enter2 (ls := [(0, fs_r x0), (1, fs_i x1), (2, fs_i x2)]) (plainFor_of_name pn_Fs) (Nat.le_of_ble_eq_true rfl) rfl ?_
  refine a_iconst d_Fs_indexOf_0 (by unfold fs_in32; omega) ?_
  refine a_istore_n d_Fs_indexOf_1 rfl (Nat.le_of_ble_eq_true rfl) [1, 2, 3, 0] rfl ?_
  exact h
set_option maxRecDepth 8000 in
set_option maxHeartbeats 4000000 in
theorem L_Fs_indexOf_2 {M : fs_M} {K : fs_K} {x0 x1 x2 x3 : Int} {n0 : Nat} (h0 : fs_isA 0 n0 x0) 
    (h : ((x1 ≤ x3 → K (some (fs_i (-1))) M) ∧ (¬ x1 ≤ x3 → (0 ≤ x3 ∧ x3 < n0 ∧ ((¬ M x0 x3 = x2 → fs_A2 g m_Fs_indexOf 1 2 [(0, fs_r x0), (1, fs_i x1), (2, fs_i x2), (3, fs_i (fs_w32 (x3 + 1)))] [] M K) ∧ (M x0 x3 = x2 → K (some (fs_i x3)) M)))))) :
    fs_A2 g m_Fs_indexOf 1 2 [(0, fs_r x0), (1, fs_i x1), (2, fs_i x2), (3, fs_i x3)] [] M K := by
  refine a_iload_n (j := 3) d_Fs_indexOf_2 rfl rfl ?_
  refine a_iload_n (j := 1) d_Fs_indexOf_3 rfl rfl ?_
  refine a_icmp_ge (tgt := 22) d_Fs_indexOf_4 rfl (fun c1 => ?_) (fun c1 => ?_)
  · have h := h.1 c1
    refine a_iconst d_Fs_indexOf_22 (by unfold fs_in32; omega) ?_
    exact b_ireturn d_Fs_indexOf_23 rfl rfl h
  · have h := h.2 c1
    refine a_aload_n (j := 0) d_Fs_indexOf_7 rfl rfl ?_
    refine a_iload_n (j := 3) d_Fs_indexOf_8 rfl rfl ?_
    obtain ⟨o2, o3, h⟩ := h
    refine b_iaload (v := M x0 x3) d_Fs_indexOf_9 h0 o2 o3 rfl ?_
    refine a_iload_n (j := 2) d_Fs_indexOf_10 rfl rfl ?_
    refine a_icmp_ne (tgt := 16) d_Fs_indexOf_11 rfl (fun c4 => ?_) (fun c4 => ?_)
    · have h := h.1 c4
      refine a_iinc (j := 3) d_Fs_indexOf_16 rfl (Nat.le_of_ble_eq_true rfl) [1, 2, 3, 0] rfl ?_
      refine a_goto (tgt := 2) d_Fs_indexOf_19 rfl ?_
      exact h
    · have h := h.2 c4
      refine a_iload_n (j := 3) d_Fs_indexOf_14 rfl rfl ?_
      exact b_ireturn d_Fs_indexOf_15 rfl rfl h
set_option maxRecDepth 8000 in
set_option maxHeartbeats 4000000 in
theorem E_Fs_fault {M : fs_M} {K : fs_K} {x1 : Int} 
    (h : ((¬ x1 = 0 → ((¬ x1 = 1 → K (some (fs_i (-1))) M) ∧ (x1 = 1 → K (some (fs_i (M 29 3))) M))) ∧ (x1 = 0 → K (some (fs_i (M 29 2))) M))) :
    fs_C2 g m_Fs_fault 1 [fs_r 0, fs_i x1] M K := by
  refine b_enter2 (ls := [(0, fs_r 0), (1, fs_i x1)]) (plainFor_of_name pn_Fs) (Nat.le_of_ble_eq_true rfl) rfl ?_
  refine a_iload_n (j := 1) d_Fs_fault_0 rfl rfl ?_
  refine a_if_ne (tgt := 12) d_Fs_fault_1 rfl (fun c1 => ?_) (fun c1 => ?_)
  · have h := h.1 c1
    refine a_iload_n (j := 1) d_Fs_fault_12 rfl rfl ?_
    refine a_iconst d_Fs_fault_13 (by unfold fs_in32; omega) ?_
    refine a_icmp_ne (tgt := 27) d_Fs_fault_14 rfl (fun c2 => ?_) (fun c2 => ?_)
    · have h := h.1 c2
      refine a_iconst d_Fs_fault_27 (by unfold fs_in32; omega) ?_
      exact b_ireturn d_Fs_fault_28 rfl rfl h
    · have h := h.2 c2
      refine a_aload_n (j := 0) d_Fs_fault_17 rfl rfl ?_
      refine b_getptr (q := 29) d_Fs_fault_18 fl_Fs_24 io_0 rfl rfl rfl ?_
      refine b_getfield (v := fs_i (M 29 3)) d_Fs_fault_21 fl_Fs_130 io_29 rfl ?_
      refine a_goto (tgt := 28) d_Fs_fault_24 rfl ?_
      exact b_ireturn d_Fs_fault_28 rfl rfl h
  · have h := h.2 c1
    refine a_aload_n (j := 0) d_Fs_fault_4 rfl rfl ?_
    refine b_getptr (q := 29) d_Fs_fault_5 fl_Fs_24 io_0 rfl rfl rfl ?_
    refine b_getfield (v := fs_i (M 29 2)) d_Fs_fault_8 fl_Fs_127 io_29 rfl ?_
    exact b_ireturn d_Fs_fault_11 rfl rfl h
set_option maxRecDepth 8000 in
set_option maxHeartbeats 4000000 in
theorem E_Fs_named {M : fs_M} {K : fs_K} {x1 x2 : Int} 
    (h : ((¬ x1 = 0 → ((¬ x1 = 1 → K (some (fs_i (-1))) M) ∧ (x1 = 1 → fs_C2 g m_Fs_indexOf 1 [fs_r 6, fs_i (M 1 9), fs_i x2] M (fun v M1 => ∃ r1, v = some (fs_i r1) ∧ K (some (fs_i r1)) M1)))) ∧ (x1 = 0 → fs_C2 g m_Fs_indexOf 1 [fs_r 2, fs_i (M 1 5), fs_i x2] M (fun v M2 => ∃ r2, v = some (fs_i r2) ∧ K (some (fs_i r2)) M2)))) :
    fs_C2 g m_Fs_named 2 [fs_r 0, fs_i x1, fs_i x2] M K := by
  refine b_enter2 (ls := [(0, fs_r 0), (1, fs_i x1), (2, fs_i x2)]) (plainFor_of_name pn_Fs) (Nat.le_of_ble_eq_true rfl) rfl ?_
  refine a_iload_n (j := 1) d_Fs_named_0 rfl rfl ?_
  refine a_if_ne (tgt := 23) d_Fs_named_1 rfl (fun c1 => ?_) (fun c1 => ?_)
  · have h := h.1 c1
    refine a_iload_n (j := 1) d_Fs_named_23 rfl rfl ?_
    refine a_iconst d_Fs_named_24 (by unfold fs_in32; omega) ?_
    refine a_icmp_ne (tgt := 49) d_Fs_named_25 rfl (fun c2 => ?_) (fun c2 => ?_)
    · have h := h.1 c2
      refine a_iconst d_Fs_named_49 (by unfold fs_in32; omega) ?_
      exact b_ireturn d_Fs_named_50 rfl rfl h
    · have h := h.2 c2
      refine a_aload_n (j := 0) d_Fs_named_28 rfl rfl ?_
      refine b_getptr (q := 1) d_Fs_named_29 fl_Fs_12 io_0 rfl rfl rfl ?_
      refine b_getptr (q := 6) d_Fs_named_32 fl_Fs_144 io_1 rfl rfl rfl ?_
      refine a_aload_n (j := 0) d_Fs_named_35 rfl rfl ?_
      refine b_getptr (q := 1) d_Fs_named_36 fl_Fs_12 io_0 rfl rfl rfl ?_
      refine b_getfield (v := fs_i (M 1 9)) d_Fs_named_39 fl_Fs_147 io_1 rfl ?_
      refine a_iload_n (j := 2) d_Fs_named_42 rfl rfl ?_
      refine b_static (dc := 1) [fs_r 6, fs_i (M 1 9), fs_i x2] [] d_Fs_named_43 ml_Fs_140 k_Fs_indexOf s_Fs_indexOf rfl (Nat.le_of_ble_eq_true rfl) rfl (Nat.le_of_ble_eq_true rfl) ?_
      refine fs_Call.mono (fun v M1 hv => ?_) h
      obtain ⟨r1, rfl, h⟩ := hv
      show fs_A2 g m_Fs_named 2 46 [(0, fs_r 0), (1, fs_i x1), (2, fs_i x2)] [fs_i r1] M1 K
      refine a_goto (tgt := 50) d_Fs_named_46 rfl ?_
      exact b_ireturn d_Fs_named_50 rfl rfl h
  · have h := h.2 c1
    refine a_aload_n (j := 0) d_Fs_named_4 rfl rfl ?_
    refine b_getptr (q := 1) d_Fs_named_5 fl_Fs_12 io_0 rfl rfl rfl ?_
    refine b_getptr (q := 2) d_Fs_named_8 fl_Fs_133 io_1 rfl rfl rfl ?_
    refine a_aload_n (j := 0) d_Fs_named_11 rfl rfl ?_
    refine b_getptr (q := 1) d_Fs_named_12 fl_Fs_12 io_0 rfl rfl rfl ?_
    refine b_getfield (v := fs_i (M 1 5)) d_Fs_named_15 fl_Fs_137 io_1 rfl ?_
    refine a_iload_n (j := 2) d_Fs_named_18 rfl rfl ?_
    refine b_static (dc := 1) [fs_r 2, fs_i (M 1 5), fs_i x2] [] d_Fs_named_19 ml_Fs_140 k_Fs_indexOf s_Fs_indexOf rfl (Nat.le_of_ble_eq_true rfl) rfl (Nat.le_of_ble_eq_true rfl) ?_
    refine fs_Call.mono (fun v M2 hv => ?_) h
    obtain ⟨r2, rfl, h⟩ := hv
    show fs_A2 g m_Fs_named 2 22 [(0, fs_r 0), (1, fs_i x1), (2, fs_i x2)] [fs_i r2] M2 K
    exact b_ireturn d_Fs_named_22 rfl rfl h
set_option maxRecDepth 8000 in
set_option maxHeartbeats 4000000 in
theorem E_Fs_dark {M : fs_M} {K : fs_K} {x1 x2 : Int} 
    (h : fs_C2 g m_Script_hasDark 1 [fs_r 1, fs_i x1] M (fun v M1 => ∃ r1, v = some (fs_i r1) ∧ ((r1 = 0 → K (some (fs_i (-1))) M1) ∧ (¬ r1 = 0 → ((0 ≤ x2 → ((x2 = 0 → (0 ≤ x1 ∧ x1 < 3 ∧ K (some (fs_i (M1 7 x1))) M1)) ∧ (x2 = 1 → (0 ≤ x1 ∧ x1 < 3 ∧ K (some (fs_i (M1 8 x1))) M1)) ∧ (x2 = 2 → (0 ≤ x1 ∧ x1 < 3 ∧ K (some (fs_i (M1 36 x1))) M1)) ∧ (¬ x2 = 0 ∧ ¬ x2 = 1 ∧ ¬ x2 = 2 → (0 ≤ x1 ∧ x1 < 3 ∧ ((M1 36 x1 ≤ fs_w32 (x2 - 3) → K (some (fs_i (-1))) M1) ∧ (¬ M1 36 x1 ≤ fs_w32 (x2 - 3) → (0 ≤ fs_w32 (x2 - 3) ∧ fs_w32 (x2 - 3) < 9 ∧ K (some (fs_i (M1 (33 + x1) (fs_w32 (x2 - 3))))) M1))))))) ∧ (¬ 0 ≤ x2 → K (some (fs_i (-1))) M1)))))) :
    fs_C2 g m_Fs_dark 2 [fs_r 0, fs_i x1, fs_i x2] M K := by
  refine b_enter2 (ls := [(0, fs_r 0), (1, fs_i x1), (2, fs_i x2)]) (plainFor_of_name pn_Fs) (Nat.le_of_ble_eq_true rfl) rfl ?_
  refine a_aload_n (j := 0) d_Fs_dark_0 rfl rfl ?_
  refine b_getptr (q := 1) d_Fs_dark_1 fl_Fs_12 io_0 rfl rfl rfl ?_
  refine a_iload_n (j := 1) d_Fs_dark_4 rfl rfl ?_
  refine b_virtual (dc := 1) (ci := 8) (T := fs_T8) (N := 13) [fs_i x1] [] d_Fs_dark_5 ml_Fs_188 k_Script_hasDark v_Script_hasDark rfl io_1 rfl (Nat.le_of_ble_eq_true rfl) rfl (Nat.le_of_ble_eq_true rfl) ?_
  refine fs_Call.mono (fun v M1 hv => ?_) h
  obtain ⟨r1, rfl, h⟩ := hv
  show fs_A2 g m_Fs_dark 2 8 [(0, fs_r 0), (1, fs_i x1), (2, fs_i x2)] [fs_i r1] M1 K
  refine a_if_eq (tgt := 15) d_Fs_dark_8 rfl (fun c1 => ?_) (fun c1 => ?_)
  · have h := h.1 c1
    refine a_iconst d_Fs_dark_15 (by unfold fs_in32; omega) ?_
    exact b_ireturn d_Fs_dark_16 rfl rfl h
  · have h := h.2 c1
    refine a_iload_n (j := 2) d_Fs_dark_11 rfl rfl ?_
    refine a_if_ge (tgt := 17) d_Fs_dark_12 rfl (fun c2 => ?_) (fun c2 => ?_)
    · have h := h.1 c2
      refine a_iload_n (j := 2) d_Fs_dark_17 rfl rfl ?_
      obtain ⟨hs18_0, hs18_1, hs18_2, hs18_3⟩ := h
      by_cases q18_0 : x2 = 0
      · have h := hs18_0 q18_0
        refine a_tableIn (tgt := 44) d_Fs_dark_18 (by omega) (by omega) (by rw [q18_0]; rfl) rfl ?_
        refine a_aload_n (j := 0) d_Fs_dark_44 rfl rfl ?_
        refine b_getptr (q := 1) d_Fs_dark_45 fl_Fs_12 io_0 rfl rfl rfl ?_
        refine b_getptr (q := 7) d_Fs_dark_48 fl_Fs_191 io_1 rfl rfl rfl ?_
        refine a_iload_n (j := 1) d_Fs_dark_51 rfl rfl ?_
        obtain ⟨o3, o4, h⟩ := h
        refine b_iaload (v := M1 7 x1) d_Fs_dark_52 ia_7 o3 o4 rfl ?_
        exact b_ireturn d_Fs_dark_53 rfl rfl h
      ·
        by_cases q18_1 : x2 = 1
        · have h := hs18_1 q18_1
          refine a_tableIn (tgt := 54) d_Fs_dark_18 (by omega) (by omega) (by rw [q18_1]; rfl) rfl ?_
          refine a_aload_n (j := 0) d_Fs_dark_54 rfl rfl ?_
          refine b_getptr (q := 1) d_Fs_dark_55 fl_Fs_12 io_0 rfl rfl rfl ?_
          refine b_getptr (q := 8) d_Fs_dark_58 fl_Fs_194 io_1 rfl rfl rfl ?_
          refine a_iload_n (j := 1) d_Fs_dark_61 rfl rfl ?_
          obtain ⟨o5, o6, h⟩ := h
          refine b_iaload (v := M1 8 x1) d_Fs_dark_62 ia_8 o5 o6 rfl ?_
          exact b_ireturn d_Fs_dark_63 rfl rfl h
        ·
          by_cases q18_2 : x2 = 2
          · have h := hs18_2 q18_2
            refine a_tableIn (tgt := 64) d_Fs_dark_18 (by omega) (by omega) (by rw [q18_2]; rfl) rfl ?_
            refine a_aload_n (j := 0) d_Fs_dark_64 rfl rfl ?_
            refine b_getptr (q := 31) d_Fs_dark_65 fl_Fs_31 io_0 rfl rfl rfl ?_
            refine b_getptr (q := 36) d_Fs_dark_68 fl_Fs_197 io_31 rfl rfl rfl ?_
            refine a_iload_n (j := 1) d_Fs_dark_71 rfl rfl ?_
            obtain ⟨o7, o8, h⟩ := h
            refine b_iaload (v := M1 36 x1) d_Fs_dark_72 ia_36 o7 o8 rfl ?_
            exact b_ireturn d_Fs_dark_73 rfl rfl h
          ·
            have h := hs18_3 ⟨q18_0, q18_1, q18_2⟩
            refine a_tableOut (tgt := 74) d_Fs_dark_18 (by omega) rfl ?_
            refine a_iload_n (j := 2) d_Fs_dark_74 rfl rfl ?_
            refine a_iconst d_Fs_dark_75 (by unfold fs_in32; omega) ?_
            refine a_isub d_Fs_dark_76 ?_
            refine a_aload_n (j := 0) d_Fs_dark_77 rfl rfl ?_
            refine b_getptr (q := 31) d_Fs_dark_78 fl_Fs_31 io_0 rfl rfl rfl ?_
            refine b_getptr (q := 36) d_Fs_dark_81 fl_Fs_197 io_31 rfl rfl rfl ?_
            refine a_iload_n (j := 1) d_Fs_dark_84 rfl rfl ?_
            obtain ⟨o9, o10, h⟩ := h
            refine b_iaload (v := M1 36 x1) d_Fs_dark_85 ia_36 o9 o10 rfl ?_
            refine a_icmp_ge (tgt := 105) d_Fs_dark_86 rfl (fun c11 => ?_) (fun c11 => ?_)
            · have h := h.1 c11
              refine a_iconst d_Fs_dark_105 (by unfold fs_in32; omega) ?_
              exact b_ireturn d_Fs_dark_106 rfl rfl h
            · have h := h.2 c11
              refine a_aload_n (j := 0) d_Fs_dark_89 rfl rfl ?_
              refine b_getptr (q := 31) d_Fs_dark_90 fl_Fs_31 io_0 rfl rfl rfl ?_
              refine b_getptr (q := 32) d_Fs_dark_93 fl_Fs_200 io_31 rfl rfl rfl ?_
              refine a_iload_n (j := 1) d_Fs_dark_96 rfl rfl ?_
              refine b_aaptr (q := 33 + x1) d_Fs_dark_97 ia_32 (by decide) o9 o10 (aq_32 x1) ?_
              refine a_iload_n (j := 2) d_Fs_dark_98 rfl rfl ?_
              refine a_iconst d_Fs_dark_99 (by unfold fs_in32; omega) ?_
              refine a_isub d_Fs_dark_100 ?_
              obtain ⟨o12, o13, h⟩ := h
              refine b_iaload (v := M1 (33 + x1) (fs_w32 (x2 - 3))) d_Fs_dark_101 (ae_32 o9 o10) o12 o13 rfl ?_
              refine a_goto (tgt := 106) d_Fs_dark_102 rfl ?_
              exact b_ireturn d_Fs_dark_106 rfl rfl h
    · have h := h.2 c2
      refine a_iconst d_Fs_dark_15 (by unfold fs_in32; omega) ?_
      exact b_ireturn d_Fs_dark_16 rfl rfl h
set_option maxRecDepth 8000 in
set_option maxHeartbeats 4000000 in
theorem E_Fs_walk {M : fs_M} {K : fs_K} {x1 x2 x3 x4 x5 : Int} 
    (h : ((x2 = (-1) → fs_A2 g m_Fs_walk 5 21 [(0, fs_r 0), (1, fs_i x1), (2, fs_i x2), (3, fs_i x3), (4, fs_i x4), (5, fs_i x5)] [fs_i 1] M K) ∧ (¬ x2 = (-1) → fs_C2 g m_Script_hasHouse 1 [fs_r 1, fs_i x2] M (fun v M1 => ∃ r1, v = some (fs_i r1) ∧ ((r1 = 0 → fs_A2 g m_Fs_walk 5 21 [(0, fs_r 0), (1, fs_i x1), (2, fs_i x2), (3, fs_i x3), (4, fs_i x4), (5, fs_i x5)] [fs_i 0] M1 K) ∧ (¬ r1 = 0 → fs_A2 g m_Fs_walk 5 21 [(0, fs_r 0), (1, fs_i x1), (2, fs_i x2), (3, fs_i x3), (4, fs_i x4), (5, fs_i x5)] [fs_i 1] M1 K)))))) :
    fs_C2 g m_Fs_walk 5 [fs_r 0, fs_i x1, fs_i x2, fs_i x3, fs_i x4, fs_i x5] M K := by
  refine b_enter2 (ls := [(0, fs_r 0), (1, fs_i x1), (2, fs_i x2), (3, fs_i x3), (4, fs_i x4), (5, fs_i x5)]) (plainFor_of_name pn_Fs) (Nat.le_of_ble_eq_true rfl) rfl ?_
  refine a_iload_n (j := 2) d_Fs_walk_0 rfl rfl ?_
  refine a_iconst d_Fs_walk_1 (by unfold fs_in32; omega) ?_
  refine a_icmp_eq (tgt := 16) d_Fs_walk_2 rfl (fun c1 => ?_) (fun c1 => ?_)
  · have h := h.1 c1
    refine a_iconst d_Fs_walk_16 (by unfold fs_in32; omega) ?_
    refine a_goto (tgt := 21) d_Fs_walk_17 rfl ?_
    exact h
  · have h := h.2 c1
    refine a_aload_n (j := 0) d_Fs_walk_5 rfl rfl ?_
    refine b_getptr (q := 1) d_Fs_walk_6 fl_Fs_12 io_0 rfl rfl rfl ?_
    refine a_iload_n (j := 2) d_Fs_walk_9 rfl rfl ?_
    refine b_virtual (dc := 1) (ci := 8) (T := fs_T8) (N := 13) [fs_i x2] [] d_Fs_walk_10 ml_Fs_150 k_Script_hasHouse v_Script_hasHouse rfl io_1 rfl (Nat.le_of_ble_eq_true rfl) rfl (Nat.le_of_ble_eq_true rfl) ?_
    refine fs_Call.mono (fun v M1 hv => ?_) h
    obtain ⟨r1, rfl, h⟩ := hv
    show fs_A2 g m_Fs_walk 5 13 [(0, fs_r 0), (1, fs_i x1), (2, fs_i x2), (3, fs_i x3), (4, fs_i x4), (5, fs_i x5)] [fs_i r1] M1 K
    refine a_if_eq (tgt := 20) d_Fs_walk_13 rfl (fun c2 => ?_) (fun c2 => ?_)
    · have h := h.1 c2
      refine a_iconst d_Fs_walk_20 (by unfold fs_in32; omega) ?_
      exact h
    · have h := h.2 c2
      refine a_iconst d_Fs_walk_16 (by unfold fs_in32; omega) ?_
      refine a_goto (tgt := 21) d_Fs_walk_17 rfl ?_
      exact h
set_option maxRecDepth 8000 in
set_option maxHeartbeats 4000000 in
theorem L_Fs_walk_21 {M : fs_M} {K : fs_K} {x1 x2 x3 x4 x5 x100 : Int} 
    (h : fs_C2 g m_Script_hasDark 1 [fs_r 1, fs_i x1] M (fun v M2 => ∃ r2, v = some (fs_i r2) ∧ ((r2 = 0 → K (some (fs_i (-1))) M2) ∧ (¬ r2 = 0 → ((x100 = 0 → K (some (fs_i (-1))) M2) ∧ (¬ x100 = 0 → fs_C2 g m_Script_hasHouse 1 [fs_r 1, fs_i x3] M2 (fun v M3 => ∃ r3, v = some (fs_i r3) ∧ ((r3 = 0 → K (some (fs_i (-1))) M3) ∧ (¬ r3 = 0 → fs_C2 g m_Fs_isMinute 1 [fs_i x4] M3 (fun v M4 => ∃ r4, v = some (fs_i r4) ∧ ((r4 = 0 → K (some (fs_i (-1))) M4) ∧ (¬ r4 = 0 → fs_C2 g m_Fs_isGlasses 1 [fs_i x5] M4 (fun v M5 => ∃ r5, v = some (fs_i r5) ∧ ((¬ r5 = 0 → ((¬ x2 = (-1) → (0 ≤ x2 ∧ x2 < 6 ∧ fs_A2 g m_Fs_walk 5 94 [(0, fs_r 0), (1, fs_i x1), (3, fs_i x3), (4, fs_i x4), (5, fs_i x5)] [fs_i (M5 3 x2)] M5 K)) ∧ (x2 = (-1) → (0 ≤ x1 ∧ x1 < 3 ∧ fs_A2 g m_Fs_walk 5 94 [(0, fs_r 0), (1, fs_i x1), (3, fs_i x3), (4, fs_i x4), (5, fs_i x5)] [fs_i (M5 7 x1)] M5 K)))) ∧ (r5 = 0 → K (some (fs_i (-1))) M5))))))))))))))) :
    fs_A2 g m_Fs_walk 5 21 [(0, fs_r 0), (1, fs_i x1), (2, fs_i x2), (3, fs_i x3), (4, fs_i x4), (5, fs_i x5)] [fs_i x100] M K := by
  refine a_istore d_Fs_walk_21 (Nat.le_of_ble_eq_true rfl) [1, 2, 3, 4, 5, 6, 0] rfl ?_
  refine a_aload_n (j := 0) d_Fs_walk_23 rfl rfl ?_
  refine b_getptr (q := 1) d_Fs_walk_24 fl_Fs_12 io_0 rfl rfl rfl ?_
  refine a_iload_n (j := 1) d_Fs_walk_27 rfl rfl ?_
  refine b_virtual (dc := 1) (ci := 8) (T := fs_T8) (N := 13) [fs_i x1] [] d_Fs_walk_28 ml_Fs_188 k_Script_hasDark v_Script_hasDark rfl io_1 rfl (Nat.le_of_ble_eq_true rfl) rfl (Nat.le_of_ble_eq_true rfl) ?_
  refine fs_Call.mono (fun v M2 hv => ?_) h
  obtain ⟨r2, rfl, h⟩ := hv
  show fs_A2 g m_Fs_walk 5 31 [(0, fs_r 0), (1, fs_i x1), (2, fs_i x2), (3, fs_i x3), (4, fs_i x4), (5, fs_i x5), (6, fs_i x100)] [fs_i r2] M2 K
  refine a_if_eq (tgt := 66) d_Fs_walk_31 rfl (fun c3 => ?_) (fun c3 => ?_)
  · have h := h.1 c3
    refine a_iconst d_Fs_walk_66 (by unfold fs_in32; omega) ?_
    exact b_ireturn d_Fs_walk_67 rfl rfl h
  · have h := h.2 c3
    refine a_iload (j := 6) d_Fs_walk_34 rfl ?_
    refine a_if_eq (tgt := 66) d_Fs_walk_36 rfl (fun c4 => ?_) (fun c4 => ?_)
    · have h := h.1 c4
      refine a_iconst d_Fs_walk_66 (by unfold fs_in32; omega) ?_
      exact b_ireturn d_Fs_walk_67 rfl rfl h
    · have h := h.2 c4
      refine a_aload_n (j := 0) d_Fs_walk_39 rfl rfl ?_
      refine b_getptr (q := 1) d_Fs_walk_40 fl_Fs_12 io_0 rfl rfl rfl ?_
      refine a_iload_n (j := 3) d_Fs_walk_43 rfl rfl ?_
      refine b_virtual (dc := 1) (ci := 8) (T := fs_T8) (N := 13) [fs_i x3] [] d_Fs_walk_44 ml_Fs_150 k_Script_hasHouse v_Script_hasHouse rfl io_1 rfl (Nat.le_of_ble_eq_true rfl) rfl (Nat.le_of_ble_eq_true rfl) ?_
      refine fs_Call.mono (fun v M3 hv => ?_) h
      obtain ⟨r3, rfl, h⟩ := hv
      show fs_A2 g m_Fs_walk 5 47 [(0, fs_r 0), (1, fs_i x1), (2, fs_i x2), (3, fs_i x3), (4, fs_i x4), (5, fs_i x5), (6, fs_i x100)] [fs_i r3] M3 K
      refine a_if_eq (tgt := 66) d_Fs_walk_47 rfl (fun c5 => ?_) (fun c5 => ?_)
      · have h := h.1 c5
        refine a_iconst d_Fs_walk_66 (by unfold fs_in32; omega) ?_
        exact b_ireturn d_Fs_walk_67 rfl rfl h
      · have h := h.2 c5
        refine a_iload (j := 4) d_Fs_walk_50 rfl ?_
        refine b_static (dc := 1) [fs_i x4] [] d_Fs_walk_52 ml_Fs_204 k_Fs_isMinute s_Fs_isMinute rfl (Nat.le_of_ble_eq_true rfl) rfl (Nat.le_of_ble_eq_true rfl) ?_
        refine fs_Call.mono (fun v M4 hv => ?_) h
        obtain ⟨r4, rfl, h⟩ := hv
        show fs_A2 g m_Fs_walk 5 55 [(0, fs_r 0), (1, fs_i x1), (2, fs_i x2), (3, fs_i x3), (4, fs_i x4), (5, fs_i x5), (6, fs_i x100)] [fs_i r4] M4 K
        refine a_if_eq (tgt := 66) d_Fs_walk_55 rfl (fun c6 => ?_) (fun c6 => ?_)
        · have h := h.1 c6
          refine a_iconst d_Fs_walk_66 (by unfold fs_in32; omega) ?_
          exact b_ireturn d_Fs_walk_67 rfl rfl h
        · have h := h.2 c6
          refine a_iload (j := 5) d_Fs_walk_58 rfl ?_
          refine b_static (dc := 1) [fs_i x5] [] d_Fs_walk_60 ml_Fs_207 k_Fs_isGlasses s_Fs_isGlasses rfl (Nat.le_of_ble_eq_true rfl) rfl (Nat.le_of_ble_eq_true rfl) ?_
          refine fs_Call.mono (fun v M5 hv => ?_) h
          obtain ⟨r5, rfl, h⟩ := hv
          show fs_A2 g m_Fs_walk 5 63 [(0, fs_r 0), (1, fs_i x1), (2, fs_i x2), (3, fs_i x3), (4, fs_i x4), (5, fs_i x5), (6, fs_i x100)] [fs_i r5] M5 K
          refine a_if_ne (tgt := 68) d_Fs_walk_63 rfl (fun c7 => ?_) (fun c7 => ?_)
          · have h := h.1 c7
            refine a_iload_n (j := 2) d_Fs_walk_68 rfl rfl ?_
            refine a_iconst d_Fs_walk_69 (by unfold fs_in32; omega) ?_
            refine a_icmp_ne (tgt := 85) d_Fs_walk_70 rfl (fun c8 => ?_) (fun c8 => ?_)
            · have h := h.1 c8
              refine a_aload_n (j := 0) d_Fs_walk_85 rfl rfl ?_
              refine b_getptr (q := 1) d_Fs_walk_86 fl_Fs_12 io_0 rfl rfl rfl ?_
              refine b_getptr (q := 3) d_Fs_walk_89 fl_Fs_161 io_1 rfl rfl rfl ?_
              refine a_iload_n (j := 2) d_Fs_walk_92 rfl rfl ?_
              obtain ⟨o9, o10, h⟩ := h
              refine b_iaload (v := M5 3 x2) d_Fs_walk_93 ia_3 o9 o10 rfl ?_
              refine a_sub [0, 1, 3, 4, 5] rfl ?_
              exact h
            · have h := h.2 c8
              refine a_aload_n (j := 0) d_Fs_walk_73 rfl rfl ?_
              refine b_getptr (q := 1) d_Fs_walk_74 fl_Fs_12 io_0 rfl rfl rfl ?_
              refine b_getptr (q := 7) d_Fs_walk_77 fl_Fs_191 io_1 rfl rfl rfl ?_
              refine a_iload_n (j := 1) d_Fs_walk_80 rfl rfl ?_
              obtain ⟨o11, o12, h⟩ := h
              refine b_iaload (v := M5 7 x1) d_Fs_walk_81 ia_7 o11 o12 rfl ?_
              refine a_goto (tgt := 94) d_Fs_walk_82 rfl ?_
              refine a_sub [0, 1, 3, 4, 5] rfl ?_
              exact h
          · have h := h.2 c7
            refine a_iconst d_Fs_walk_66 (by unfold fs_in32; omega) ?_
            exact b_ireturn d_Fs_walk_67 rfl rfl h
set_option maxRecDepth 8000 in
set_option maxHeartbeats 4000000 in
theorem L_Fs_walk_94 {M : fs_M} {K : fs_K} {x1 x3 x4 x5 x100 : Int} 
    (h : (0 ≤ x3 ∧ x3 < 6 ∧ (0 ≤ x1 ∧ x1 < 3 ∧ fs_C2 g m_Laws_walkTime 4 [fs_r 9, fs_i (fs_w32 ((M 3 x3) - x100)), fs_i x4, fs_i x5, fs_i (M 8 x1), fs_i (M 4 x3)] M (fun v M6 => ∃ r6, v = some (fs_i r6) ∧ K (some (fs_i r6)) M6)))) :
    fs_A2 g m_Fs_walk 5 94 [(0, fs_r 0), (1, fs_i x1), (3, fs_i x3), (4, fs_i x4), (5, fs_i x5)] [fs_i x100] M K := by
  refine a_istore d_Fs_walk_94 (Nat.le_of_ble_eq_true rfl) [1, 2, 3, 4, 5, 0] rfl ?_
  refine a_aload_n (j := 0) d_Fs_walk_96 rfl rfl ?_
  refine b_getptr (q := 1) d_Fs_walk_97 fl_Fs_12 io_0 rfl rfl rfl ?_
  refine b_getptr (q := 3) d_Fs_walk_100 fl_Fs_161 io_1 rfl rfl rfl ?_
  refine a_iload_n (j := 2) d_Fs_walk_103 rfl rfl ?_
  obtain ⟨o13, o14, h⟩ := h
  refine b_iaload (v := M 3 x3) d_Fs_walk_104 ia_3 o13 o14 rfl ?_
  refine a_istore d_Fs_walk_105 (Nat.le_of_ble_eq_true rfl) [1, 2, 3, 4, 5, 6, 0] rfl ?_
  refine a_aload_n (j := 0) d_Fs_walk_107 rfl rfl ?_
  refine b_getptr (q := 1) d_Fs_walk_108 fl_Fs_12 io_0 rfl rfl rfl ?_
  refine b_getptr (q := 9) d_Fs_walk_111 fl_Fs_210 io_1 rfl rfl rfl ?_
  refine a_iload (j := 6) d_Fs_walk_114 rfl ?_
  refine a_iload (j := 5) d_Fs_walk_116 rfl ?_
  refine a_isub d_Fs_walk_118 ?_
  refine a_iload (j := 3) d_Fs_walk_119 rfl ?_
  refine a_iload (j := 4) d_Fs_walk_121 rfl ?_
  refine a_aload_n (j := 0) d_Fs_walk_123 rfl rfl ?_
  refine b_getptr (q := 1) d_Fs_walk_124 fl_Fs_12 io_0 rfl rfl rfl ?_
  refine b_getptr (q := 8) d_Fs_walk_127 fl_Fs_194 io_1 rfl rfl rfl ?_
  refine a_iload_n (j := 1) d_Fs_walk_130 rfl rfl ?_
  obtain ⟨o15, o16, h⟩ := h
  refine b_iaload (v := M 8 x1) d_Fs_walk_131 ia_8 o15 o16 rfl ?_
  refine a_aload_n (j := 0) d_Fs_walk_132 rfl rfl ?_
  refine b_getptr (q := 1) d_Fs_walk_133 fl_Fs_12 io_0 rfl rfl rfl ?_
  refine b_getptr (q := 4) d_Fs_walk_136 fl_Fs_164 io_1 rfl rfl rfl ?_
  refine a_iload_n (j := 2) d_Fs_walk_139 rfl rfl ?_
  refine b_iaload (v := M 4 x3) d_Fs_walk_140 ia_4 o13 o14 rfl ?_
  refine b_virtual (dc := 4) (ci := 3) (T := fs_T3) (N := 14) [fs_i (fs_w32 ((M 3 x3) - x100)), fs_i x4, fs_i x5, fs_i (M 8 x1), fs_i (M 4 x3)] [] d_Fs_walk_141 ml_Fs_214 k_Laws_walkTime v_Laws_walkTime rfl io_9 rfl (Nat.le_of_ble_eq_true rfl) rfl (Nat.le_of_ble_eq_true rfl) ?_
  refine fs_Call.mono (fun v M6 hv => ?_) h
  obtain ⟨r6, rfl, h⟩ := hv
  show fs_A2 g m_Fs_walk 5 144 [(0, fs_r 0), (1, fs_i x1), (3, fs_i x3), (4, fs_i x4), (5, fs_i x5), (7, fs_i x100), (8, fs_i (M 3 x3))] [fs_i r6] M6 K
  exact b_ireturn d_Fs_walk_144 rfl rfl h
set_option maxRecDepth 8000 in
set_option maxHeartbeats 4000000 in
theorem E_Fs_isMinute {M : fs_M} {K : fs_K} {x0 : Int} 
    (h : ((x0 < 1 → K (some (fs_i 0)) M) ∧ (¬ x0 < 1 → ((240 < x0 → K (some (fs_i 0)) M) ∧ (¬ 240 < x0 → K (some (fs_i 1)) M))))) :
    fs_C2 g m_Fs_isMinute 1 [fs_i x0] M K := by
  refine b_enter2 (ls := [(0, fs_i x0)]) (plainFor_of_name pn_Fs) (Nat.le_of_ble_eq_true rfl) rfl ?_
  refine a_iload_n (j := 0) d_Fs_isMinute_0 rfl rfl ?_
  refine a_iconst d_Fs_isMinute_1 (by unfold fs_in32; omega) ?_
  refine a_icmp_lt (tgt := 16) d_Fs_isMinute_2 rfl (fun c1 => ?_) (fun c1 => ?_)
  · have h := h.1 c1
    refine a_iconst d_Fs_isMinute_16 (by unfold fs_in32; omega) ?_
    exact b_ireturn d_Fs_isMinute_17 rfl (fs_nar01 (Or.inl rfl)) h
  · have h := h.2 c1
    refine a_iload_n (j := 0) d_Fs_isMinute_5 rfl rfl ?_
    refine a_sipush d_Fs_isMinute_6 (by decide) ?_
    refine a_icmp_gt (tgt := 16) d_Fs_isMinute_9 rfl (fun c2 => ?_) (fun c2 => ?_)
    · have h := h.1 c2
      refine a_iconst d_Fs_isMinute_16 (by unfold fs_in32; omega) ?_
      exact b_ireturn d_Fs_isMinute_17 rfl (fs_nar01 (Or.inl rfl)) h
    · have h := h.2 c2
      refine a_iconst d_Fs_isMinute_12 (by unfold fs_in32; omega) ?_
      refine a_goto (tgt := 17) d_Fs_isMinute_13 rfl ?_
      exact b_ireturn d_Fs_isMinute_17 rfl (fs_nar01 (Or.inr rfl)) h
set_option maxRecDepth 8000 in
set_option maxHeartbeats 4000000 in
theorem E_Fs_isGlasses {M : fs_M} {K : fs_K} {x0 : Int} 
    (h : ((x0 < 0 → K (some (fs_i 0)) M) ∧ (¬ x0 < 0 → ((9 < x0 → K (some (fs_i 0)) M) ∧ (¬ 9 < x0 → K (some (fs_i 1)) M))))) :
    fs_C2 g m_Fs_isGlasses 1 [fs_i x0] M K := by
  refine b_enter2 (ls := [(0, fs_i x0)]) (plainFor_of_name pn_Fs) (Nat.le_of_ble_eq_true rfl) rfl ?_
  refine a_iload_n (j := 0) d_Fs_isGlasses_0 rfl rfl ?_
  refine a_if_lt (tgt := 14) d_Fs_isGlasses_1 rfl (fun c1 => ?_) (fun c1 => ?_)
  · have h := h.1 c1
    refine a_iconst d_Fs_isGlasses_14 (by unfold fs_in32; omega) ?_
    exact b_ireturn d_Fs_isGlasses_15 rfl (fs_nar01 (Or.inl rfl)) h
  · have h := h.2 c1
    refine a_iload_n (j := 0) d_Fs_isGlasses_4 rfl rfl ?_
    refine a_bipush d_Fs_isGlasses_5 (by decide) ?_
    refine a_icmp_gt (tgt := 14) d_Fs_isGlasses_7 rfl (fun c2 => ?_) (fun c2 => ?_)
    · have h := h.1 c2
      refine a_iconst d_Fs_isGlasses_14 (by unfold fs_in32; omega) ?_
      exact b_ireturn d_Fs_isGlasses_15 rfl (fs_nar01 (Or.inl rfl)) h
    · have h := h.2 c2
      refine a_iconst d_Fs_isGlasses_10 (by unfold fs_in32; omega) ?_
      refine a_goto (tgt := 15) d_Fs_isGlasses_11 rfl ?_
      exact b_ireturn d_Fs_isGlasses_15 rfl (fs_nar01 (Or.inr rfl)) h
set_option maxRecDepth 8000 in
set_option maxHeartbeats 4000000 in
theorem E_Fs_stays {M : fs_M} {K : fs_K} {x1 x2 x3 x4 x5 : Int} 
    (h : fs_C2 g m_Script_hasDark 1 [fs_r 1, fs_i x1] M (fun v M1 => ∃ r1, v = some (fs_i r1) ∧ ((r1 = 0 → K (some (fs_i (-1))) M1) ∧ (¬ r1 = 0 → fs_C2 g m_Script_hasHouse 1 [fs_r 1, fs_i x2] M1 (fun v M2 => ∃ r2, v = some (fs_i r2) ∧ ((r2 = 0 → K (some (fs_i (-1))) M2) ∧ (¬ r2 = 0 → fs_C2 g m_Fs_isMinute 1 [fs_i x3] M2 (fun v M3 => ∃ r3, v = some (fs_i r3) ∧ ((r3 = 0 → K (some (fs_i (-1))) M3) ∧ (¬ r3 = 0 → fs_C2 g m_Fs_isGlasses 1 [fs_i x4] M3 (fun v M4 => ∃ r4, v = some (fs_i r4) ∧ ((¬ r4 = 0 → (0 ≤ x1 ∧ x1 < 3 ∧ (0 ≤ x2 ∧ x2 < 6 ∧ ((¬ x5 = 0 → ((¬ x5 = 1 → K (some (fs_i (-1))) M4) ∧ (x5 = 1 → fs_C2 g m_Laws_allows 4 [fs_r 9, fs_i x3, fs_i x4, fs_i (M4 8 x1), fs_i (M4 4 x2), fs_i 0] M4 (fun v M5 => ∃ r5, v = some (fs_i r5) ∧ ((r5 = 0 → K (some (fs_i 0)) M5) ∧ (¬ r5 = 0 → K (some (fs_i 1)) M5)))))) ∧ (x5 = 0 → fs_C2 g m_Laws_stayTime 4 [fs_r 9, fs_i x3, fs_i x4, fs_i (M4 8 x1), fs_i (M4 4 x2)] M4 (fun v M6 => ∃ r6, v = some (fs_i r6) ∧ K (some (fs_i r6)) M6)))))) ∧ (r4 = 0 → K (some (fs_i (-1))) M4))))))))))))) :
    fs_C2 g m_Fs_stays 5 [fs_r 0, fs_i x1, fs_i x2, fs_i x3, fs_i x4, fs_i x5] M K := by
  refine b_enter2 (ls := [(0, fs_r 0), (1, fs_i x1), (2, fs_i x2), (3, fs_i x3), (4, fs_i x4), (5, fs_i x5)]) (plainFor_of_name pn_Fs) (Nat.le_of_ble_eq_true rfl) rfl ?_
  refine a_aload_n (j := 0) d_Fs_stays_0 rfl rfl ?_
  refine b_getptr (q := 1) d_Fs_stays_1 fl_Fs_12 io_0 rfl rfl rfl ?_
  refine a_iload_n (j := 1) d_Fs_stays_4 rfl rfl ?_
  refine b_virtual (dc := 1) (ci := 8) (T := fs_T8) (N := 13) [fs_i x1] [] d_Fs_stays_5 ml_Fs_188 k_Script_hasDark v_Script_hasDark rfl io_1 rfl (Nat.le_of_ble_eq_true rfl) rfl (Nat.le_of_ble_eq_true rfl) ?_
  refine fs_Call.mono (fun v M1 hv => ?_) h
  obtain ⟨r1, rfl, h⟩ := hv
  show fs_A2 g m_Fs_stays 5 8 [(0, fs_r 0), (1, fs_i x1), (2, fs_i x2), (3, fs_i x3), (4, fs_i x4), (5, fs_i x5)] [fs_i r1] M1 K
  refine a_if_eq (tgt := 37) d_Fs_stays_8 rfl (fun c1 => ?_) (fun c1 => ?_)
  · have h := h.1 c1
    refine a_iconst d_Fs_stays_37 (by unfold fs_in32; omega) ?_
    exact b_ireturn d_Fs_stays_38 rfl rfl h
  · have h := h.2 c1
    refine a_aload_n (j := 0) d_Fs_stays_11 rfl rfl ?_
    refine b_getptr (q := 1) d_Fs_stays_12 fl_Fs_12 io_0 rfl rfl rfl ?_
    refine a_iload_n (j := 2) d_Fs_stays_15 rfl rfl ?_
    refine b_virtual (dc := 1) (ci := 8) (T := fs_T8) (N := 13) [fs_i x2] [] d_Fs_stays_16 ml_Fs_150 k_Script_hasHouse v_Script_hasHouse rfl io_1 rfl (Nat.le_of_ble_eq_true rfl) rfl (Nat.le_of_ble_eq_true rfl) ?_
    refine fs_Call.mono (fun v M2 hv => ?_) h
    obtain ⟨r2, rfl, h⟩ := hv
    show fs_A2 g m_Fs_stays 5 19 [(0, fs_r 0), (1, fs_i x1), (2, fs_i x2), (3, fs_i x3), (4, fs_i x4), (5, fs_i x5)] [fs_i r2] M2 K
    refine a_if_eq (tgt := 37) d_Fs_stays_19 rfl (fun c2 => ?_) (fun c2 => ?_)
    · have h := h.1 c2
      refine a_iconst d_Fs_stays_37 (by unfold fs_in32; omega) ?_
      exact b_ireturn d_Fs_stays_38 rfl rfl h
    · have h := h.2 c2
      refine a_iload_n (j := 3) d_Fs_stays_22 rfl rfl ?_
      refine b_static (dc := 1) [fs_i x3] [] d_Fs_stays_23 ml_Fs_204 k_Fs_isMinute s_Fs_isMinute rfl (Nat.le_of_ble_eq_true rfl) rfl (Nat.le_of_ble_eq_true rfl) ?_
      refine fs_Call.mono (fun v M3 hv => ?_) h
      obtain ⟨r3, rfl, h⟩ := hv
      show fs_A2 g m_Fs_stays 5 26 [(0, fs_r 0), (1, fs_i x1), (2, fs_i x2), (3, fs_i x3), (4, fs_i x4), (5, fs_i x5)] [fs_i r3] M3 K
      refine a_if_eq (tgt := 37) d_Fs_stays_26 rfl (fun c3 => ?_) (fun c3 => ?_)
      · have h := h.1 c3
        refine a_iconst d_Fs_stays_37 (by unfold fs_in32; omega) ?_
        exact b_ireturn d_Fs_stays_38 rfl rfl h
      · have h := h.2 c3
        refine a_iload (j := 4) d_Fs_stays_29 rfl ?_
        refine b_static (dc := 1) [fs_i x4] [] d_Fs_stays_31 ml_Fs_207 k_Fs_isGlasses s_Fs_isGlasses rfl (Nat.le_of_ble_eq_true rfl) rfl (Nat.le_of_ble_eq_true rfl) ?_
        refine fs_Call.mono (fun v M4 hv => ?_) h
        obtain ⟨r4, rfl, h⟩ := hv
        show fs_A2 g m_Fs_stays 5 34 [(0, fs_r 0), (1, fs_i x1), (2, fs_i x2), (3, fs_i x3), (4, fs_i x4), (5, fs_i x5)] [fs_i r4] M4 K
        refine a_if_ne (tgt := 39) d_Fs_stays_34 rfl (fun c4 => ?_) (fun c4 => ?_)
        · have h := h.1 c4
          refine a_aload_n (j := 0) d_Fs_stays_39 rfl rfl ?_
          refine b_getptr (q := 1) d_Fs_stays_40 fl_Fs_12 io_0 rfl rfl rfl ?_
          refine b_getptr (q := 8) d_Fs_stays_43 fl_Fs_194 io_1 rfl rfl rfl ?_
          refine a_iload_n (j := 1) d_Fs_stays_46 rfl rfl ?_
          obtain ⟨o5, o6, h⟩ := h
          refine b_iaload (v := M4 8 x1) d_Fs_stays_47 ia_8 o5 o6 rfl ?_
          refine a_istore d_Fs_stays_48 (Nat.le_of_ble_eq_true rfl) [1, 2, 3, 4, 5, 6, 0] rfl ?_
          refine a_aload_n (j := 0) d_Fs_stays_50 rfl rfl ?_
          refine b_getptr (q := 1) d_Fs_stays_51 fl_Fs_12 io_0 rfl rfl rfl ?_
          refine b_getptr (q := 4) d_Fs_stays_54 fl_Fs_164 io_1 rfl rfl rfl ?_
          refine a_iload_n (j := 2) d_Fs_stays_57 rfl rfl ?_
          obtain ⟨o7, o8, h⟩ := h
          refine b_iaload (v := M4 4 x2) d_Fs_stays_58 ia_4 o7 o8 rfl ?_
          refine a_istore d_Fs_stays_59 (Nat.le_of_ble_eq_true rfl) [1, 2, 3, 4, 5, 6, 7, 0] rfl ?_
          refine a_iload (j := 5) d_Fs_stays_61 rfl ?_
          refine a_if_ne (tgt := 84) d_Fs_stays_63 rfl (fun c9 => ?_) (fun c9 => ?_)
          · have h := h.1 c9
            refine a_iload (j := 5) d_Fs_stays_84 rfl ?_
            refine a_iconst d_Fs_stays_86 (by unfold fs_in32; omega) ?_
            refine a_icmp_ne (tgt := 117) d_Fs_stays_87 rfl (fun c10 => ?_) (fun c10 => ?_)
            · have h := h.1 c10
              refine a_iconst d_Fs_stays_117 (by unfold fs_in32; omega) ?_
              exact b_ireturn d_Fs_stays_118 rfl rfl h
            · have h := h.2 c10
              refine a_aload_n (j := 0) d_Fs_stays_90 rfl rfl ?_
              refine b_getptr (q := 1) d_Fs_stays_91 fl_Fs_12 io_0 rfl rfl rfl ?_
              refine b_getptr (q := 9) d_Fs_stays_94 fl_Fs_210 io_1 rfl rfl rfl ?_
              refine a_iload_n (j := 3) d_Fs_stays_97 rfl rfl ?_
              refine a_iload (j := 4) d_Fs_stays_98 rfl ?_
              refine a_iload (j := 6) d_Fs_stays_100 rfl ?_
              refine a_iload (j := 7) d_Fs_stays_102 rfl ?_
              refine a_iconst d_Fs_stays_104 (by unfold fs_in32; omega) ?_
              refine b_virtual (dc := 4) (ci := 3) (T := fs_T3) (N := 14) [fs_i x3, fs_i x4, fs_i (M4 8 x1), fs_i (M4 4 x2), fs_i 0] [] d_Fs_stays_105 ml_Fs_224 k_Laws_allows v_Laws_allows rfl io_9 rfl (Nat.le_of_ble_eq_true rfl) rfl (Nat.le_of_ble_eq_true rfl) ?_
              refine fs_Call.mono (fun v M5 hv => ?_) h
              obtain ⟨r5, rfl, h⟩ := hv
              show fs_A2 g m_Fs_stays 5 108 [(0, fs_r 0), (1, fs_i x1), (2, fs_i x2), (3, fs_i x3), (4, fs_i x4), (5, fs_i x5), (6, fs_i (M4 8 x1)), (7, fs_i (M4 4 x2))] [fs_i r5] M5 K
              refine a_if_eq (tgt := 115) d_Fs_stays_108 rfl (fun c11 => ?_) (fun c11 => ?_)
              · have h := h.1 c11
                refine a_iconst d_Fs_stays_115 (by unfold fs_in32; omega) ?_
                exact b_ireturn d_Fs_stays_116 rfl rfl h
              · have h := h.2 c11
                refine a_iconst d_Fs_stays_111 (by unfold fs_in32; omega) ?_
                refine a_goto (tgt := 116) d_Fs_stays_112 rfl ?_
                exact b_ireturn d_Fs_stays_116 rfl rfl h
          · have h := h.2 c9
            refine a_aload_n (j := 0) d_Fs_stays_66 rfl rfl ?_
            refine b_getptr (q := 1) d_Fs_stays_67 fl_Fs_12 io_0 rfl rfl rfl ?_
            refine b_getptr (q := 9) d_Fs_stays_70 fl_Fs_210 io_1 rfl rfl rfl ?_
            refine a_iload_n (j := 3) d_Fs_stays_73 rfl rfl ?_
            refine a_iload (j := 4) d_Fs_stays_74 rfl ?_
            refine a_iload (j := 6) d_Fs_stays_76 rfl ?_
            refine a_iload (j := 7) d_Fs_stays_78 rfl ?_
            refine b_virtual (dc := 4) (ci := 3) (T := fs_T3) (N := 14) [fs_i x3, fs_i x4, fs_i (M4 8 x1), fs_i (M4 4 x2)] [] d_Fs_stays_80 ml_Fs_220 k_Laws_stayTime v_Laws_stayTime rfl io_9 rfl (Nat.le_of_ble_eq_true rfl) rfl (Nat.le_of_ble_eq_true rfl) ?_
            refine fs_Call.mono (fun v M6 hv => ?_) h
            obtain ⟨r6, rfl, h⟩ := hv
            show fs_A2 g m_Fs_stays 5 83 [(0, fs_r 0), (1, fs_i x1), (2, fs_i x2), (3, fs_i x3), (4, fs_i x4), (5, fs_i x5), (6, fs_i (M4 8 x1)), (7, fs_i (M4 4 x2))] [fs_i r6] M6 K
            exact b_ireturn d_Fs_stays_83 rfl rfl h
        · have h := h.2 c4
          refine a_iconst d_Fs_stays_37 (by unfold fs_in32; omega) ?_
          exact b_ireturn d_Fs_stays_38 rfl rfl h
set_option maxRecDepth 8000 in
set_option maxHeartbeats 4000000 in
theorem E_Fs_cat {M : fs_M} {K : fs_K} {x1 x2 : Int} 
    (h : fs_C2 g m_Script_hasHouse 1 [fs_r 1, fs_i x1] M (fun v M1 => ∃ r1, v = some (fs_i r1) ∧ ((r1 = 0 → K (some (fs_i (-1))) M1) ∧ (¬ r1 = 0 → fs_C2 g m_Fs_isMinute 1 [fs_i x2] M1 (fun v M2 => ∃ r2, v = some (fs_i r2) ∧ ((¬ r2 = 0 → (0 ≤ x1 ∧ x1 < 6 ∧ fs_C2 g m_Laws_catChance 4 [fs_r 9, fs_i x2, fs_i (M2 4 x1)] M2 (fun v M3 => ∃ r3, v = some (fs_i r3) ∧ K (some (fs_i r3)) M3))) ∧ (r2 = 0 → K (some (fs_i (-1))) M2))))))) :
    fs_C2 g m_Fs_cat 5 [fs_r 0, fs_i x1, fs_i x2] M K := by
  refine b_enter2 (ls := [(0, fs_r 0), (1, fs_i x1), (2, fs_i x2)]) (plainFor_of_name pn_Fs) (Nat.le_of_ble_eq_true rfl) rfl ?_
  refine a_aload_n (j := 0) d_Fs_cat_0 rfl rfl ?_
  refine b_getptr (q := 1) d_Fs_cat_1 fl_Fs_12 io_0 rfl rfl rfl ?_
  refine a_iload_n (j := 1) d_Fs_cat_4 rfl rfl ?_
  refine b_virtual (dc := 1) (ci := 8) (T := fs_T8) (N := 13) [fs_i x1] [] d_Fs_cat_5 ml_Fs_150 k_Script_hasHouse v_Script_hasHouse rfl io_1 rfl (Nat.le_of_ble_eq_true rfl) rfl (Nat.le_of_ble_eq_true rfl) ?_
  refine fs_Call.mono (fun v M1 hv => ?_) h
  obtain ⟨r1, rfl, h⟩ := hv
  show fs_A2 g m_Fs_cat 5 8 [(0, fs_r 0), (1, fs_i x1), (2, fs_i x2)] [fs_i r1] M1 K
  refine a_if_eq (tgt := 18) d_Fs_cat_8 rfl (fun c1 => ?_) (fun c1 => ?_)
  · have h := h.1 c1
    refine a_iconst d_Fs_cat_18 (by unfold fs_in32; omega) ?_
    exact b_ireturn d_Fs_cat_19 rfl rfl h
  · have h := h.2 c1
    refine a_iload_n (j := 2) d_Fs_cat_11 rfl rfl ?_
    refine b_static (dc := 1) [fs_i x2] [] d_Fs_cat_12 ml_Fs_204 k_Fs_isMinute s_Fs_isMinute rfl (Nat.le_of_ble_eq_true rfl) rfl (Nat.le_of_ble_eq_true rfl) ?_
    refine fs_Call.mono (fun v M2 hv => ?_) h
    obtain ⟨r2, rfl, h⟩ := hv
    show fs_A2 g m_Fs_cat 5 15 [(0, fs_r 0), (1, fs_i x1), (2, fs_i x2)] [fs_i r2] M2 K
    refine a_if_ne (tgt := 20) d_Fs_cat_15 rfl (fun c2 => ?_) (fun c2 => ?_)
    · have h := h.1 c2
      refine a_aload_n (j := 0) d_Fs_cat_20 rfl rfl ?_
      refine b_getptr (q := 1) d_Fs_cat_21 fl_Fs_12 io_0 rfl rfl rfl ?_
      refine b_getptr (q := 9) d_Fs_cat_24 fl_Fs_210 io_1 rfl rfl rfl ?_
      refine a_iload_n (j := 2) d_Fs_cat_27 rfl rfl ?_
      refine a_aload_n (j := 0) d_Fs_cat_28 rfl rfl ?_
      refine b_getptr (q := 1) d_Fs_cat_29 fl_Fs_12 io_0 rfl rfl rfl ?_
      refine b_getptr (q := 4) d_Fs_cat_32 fl_Fs_164 io_1 rfl rfl rfl ?_
      refine a_iload_n (j := 1) d_Fs_cat_35 rfl rfl ?_
      obtain ⟨o3, o4, h⟩ := h
      refine b_iaload (v := M2 4 x1) d_Fs_cat_36 ia_4 o3 o4 rfl ?_
      refine b_virtual (dc := 4) (ci := 3) (T := fs_T3) (N := 14) [fs_i x2, fs_i (M2 4 x1)] [] d_Fs_cat_37 ml_Fs_228 k_Laws_catChance v_Laws_catChance rfl io_9 rfl (Nat.le_of_ble_eq_true rfl) rfl (Nat.le_of_ble_eq_true rfl) ?_
      refine fs_Call.mono (fun v M3 hv => ?_) h
      obtain ⟨r3, rfl, h⟩ := hv
      show fs_A2 g m_Fs_cat 5 40 [(0, fs_r 0), (1, fs_i x1), (2, fs_i x2)] [fs_i r3] M3 K
      exact b_ireturn d_Fs_cat_40 rfl rfl h
    · have h := h.2 c2
      refine a_iconst d_Fs_cat_18 (by unfold fs_in32; omega) ?_
      exact b_ireturn d_Fs_cat_19 rfl rfl h
set_option maxRecDepth 8000 in
set_option maxHeartbeats 4000000 in
theorem E_Fs_send {M : fs_M} {K : fs_K} {x1 x2 : Int} 
    (h : fs_C2 g m_Script_hasDark 1 [fs_r 1, fs_i x1] M (fun v M1 => ∃ r1, v = some (fs_i r1) ∧ ((r1 = 0 → K (some (fs_i (-1))) M1) ∧ (¬ r1 = 0 → fs_C2 g m_Script_hasHouse 1 [fs_r 1, fs_i x2] M1 (fun v M2 => ∃ r2, v = some (fs_i r2) ∧ ((r2 = 0 → K (some (fs_i (-1))) M2) ∧ (¬ r2 = 0 → (0 ≤ x1 ∧ x1 < 3 ∧ ((M2 36 x1 < 9 → fs_C2 g m_Past_remember 2 [fs_r 95, fs_r 31] M2 (fun v M3 => v = none ∧ (0 ≤ M3 36 x1 ∧ M3 36 x1 < 9 ∧ K (some (fs_i (fs_w32 (((fs_st M3 (33 + x1) (M3 36 x1) x2) 36 x1) + 1)))) (fs_st (fs_st M3 (33 + x1) (M3 36 x1) x2) 36 x1 (fs_w32 (((fs_st M3 (33 + x1) (M3 36 x1) x2) 36 x1) + 1)))))) ∧ (¬ M2 36 x1 < 9 → K (some (fs_i (-1))) M2)))))))))) :
    fs_C2 g m_Fs_send 3 [fs_r 0, fs_i x1, fs_i x2] M K := by
  refine b_enter2 (ls := [(0, fs_r 0), (1, fs_i x1), (2, fs_i x2)]) (plainFor_of_name pn_Fs) (Nat.le_of_ble_eq_true rfl) rfl ?_
  refine a_aload_n (j := 0) d_Fs_send_0 rfl rfl ?_
  refine b_getptr (q := 1) d_Fs_send_1 fl_Fs_12 io_0 rfl rfl rfl ?_
  refine a_iload_n (j := 1) d_Fs_send_4 rfl rfl ?_
  refine b_virtual (dc := 1) (ci := 8) (T := fs_T8) (N := 13) [fs_i x1] [] d_Fs_send_5 ml_Fs_188 k_Script_hasDark v_Script_hasDark rfl io_1 rfl (Nat.le_of_ble_eq_true rfl) rfl (Nat.le_of_ble_eq_true rfl) ?_
  refine fs_Call.mono (fun v M1 hv => ?_) h
  obtain ⟨r1, rfl, h⟩ := hv
  show fs_A2 g m_Fs_send 3 8 [(0, fs_r 0), (1, fs_i x1), (2, fs_i x2)] [fs_i r1] M1 K
  refine a_if_eq (tgt := 36) d_Fs_send_8 rfl (fun c1 => ?_) (fun c1 => ?_)
  · have h := h.1 c1
    refine a_iconst d_Fs_send_36 (by unfold fs_in32; omega) ?_
    exact b_ireturn d_Fs_send_37 rfl rfl h
  · have h := h.2 c1
    refine a_aload_n (j := 0) d_Fs_send_11 rfl rfl ?_
    refine b_getptr (q := 1) d_Fs_send_12 fl_Fs_12 io_0 rfl rfl rfl ?_
    refine a_iload_n (j := 2) d_Fs_send_15 rfl rfl ?_
    refine b_virtual (dc := 1) (ci := 8) (T := fs_T8) (N := 13) [fs_i x2] [] d_Fs_send_16 ml_Fs_150 k_Script_hasHouse v_Script_hasHouse rfl io_1 rfl (Nat.le_of_ble_eq_true rfl) rfl (Nat.le_of_ble_eq_true rfl) ?_
    refine fs_Call.mono (fun v M2 hv => ?_) h
    obtain ⟨r2, rfl, h⟩ := hv
    show fs_A2 g m_Fs_send 3 19 [(0, fs_r 0), (1, fs_i x1), (2, fs_i x2)] [fs_i r2] M2 K
    refine a_if_eq (tgt := 36) d_Fs_send_19 rfl (fun c2 => ?_) (fun c2 => ?_)
    · have h := h.1 c2
      refine a_iconst d_Fs_send_36 (by unfold fs_in32; omega) ?_
      exact b_ireturn d_Fs_send_37 rfl rfl h
    · have h := h.2 c2
      refine a_aload_n (j := 0) d_Fs_send_22 rfl rfl ?_
      refine b_getptr (q := 31) d_Fs_send_23 fl_Fs_31 io_0 rfl rfl rfl ?_
      refine b_getptr (q := 36) d_Fs_send_26 fl_Fs_197 io_31 rfl rfl rfl ?_
      refine a_iload_n (j := 1) d_Fs_send_29 rfl rfl ?_
      obtain ⟨o3, o4, h⟩ := h
      refine b_iaload (v := M2 36 x1) d_Fs_send_30 ia_36 o3 o4 rfl ?_
      refine a_bipush d_Fs_send_31 (by decide) ?_
      refine a_icmp_lt (tgt := 38) d_Fs_send_33 rfl (fun c5 => ?_) (fun c5 => ?_)
      · have h := h.1 c5
        refine a_aload_n (j := 0) d_Fs_send_38 rfl rfl ?_
        refine b_getptr (q := 95) d_Fs_send_39 fl_Fs_76 io_0 rfl rfl rfl ?_
        refine a_aload_n (j := 0) d_Fs_send_42 rfl rfl ?_
        refine b_getptr (q := 31) d_Fs_send_43 fl_Fs_31 io_0 rfl rfl rfl ?_
        refine b_virtual (dc := 2) (ci := 5) (T := fs_T5) (N := 3) [fs_r 31] [] d_Fs_send_46 ml_Fs_231 k_Past_remember v_Past_remember rfl io_95 rfl (Nat.le_of_ble_eq_true rfl) rfl (Nat.le_of_ble_eq_true rfl) ?_
        refine fs_Call.mono (fun v M3 hv => ?_) h
        obtain ⟨rfl, h⟩ := hv
        show fs_A2 g m_Fs_send 3 49 [(0, fs_r 0), (1, fs_i x1), (2, fs_i x2)] [] M3 K
        refine a_aload_n (j := 0) d_Fs_send_49 rfl rfl ?_
        refine b_getptr (q := 31) d_Fs_send_50 fl_Fs_31 io_0 rfl rfl rfl ?_
        refine b_getptr (q := 32) d_Fs_send_53 fl_Fs_200 io_31 rfl rfl rfl ?_
        refine a_iload_n (j := 1) d_Fs_send_56 rfl rfl ?_
        refine b_aaptr (q := 33 + x1) d_Fs_send_57 ia_32 (by decide) o3 o4 (aq_32 x1) ?_
        refine a_aload_n (j := 0) d_Fs_send_58 rfl rfl ?_
        refine b_getptr (q := 31) d_Fs_send_59 fl_Fs_31 io_0 rfl rfl rfl ?_
        refine b_getptr (q := 36) d_Fs_send_62 fl_Fs_197 io_31 rfl rfl rfl ?_
        refine a_iload_n (j := 1) d_Fs_send_65 rfl rfl ?_
        refine b_iaload (v := M3 36 x1) d_Fs_send_66 ia_36 o3 o4 rfl ?_
        refine a_iload_n (j := 2) d_Fs_send_67 rfl rfl ?_
        obtain ⟨o6, o7, h⟩ := h
        refine b_iastore d_Fs_send_68 (ae_32 o3 o4) o6 o7 ?_
        refine a_aload_n (j := 0) d_Fs_send_69 rfl rfl ?_
        refine b_getptr (q := 31) d_Fs_send_70 fl_Fs_31 io_0 rfl rfl rfl ?_
        refine b_getptr (q := 36) d_Fs_send_73 fl_Fs_197 io_31 rfl rfl rfl ?_
        refine a_iload_n (j := 1) d_Fs_send_76 rfl rfl ?_
        refine a_dup2 d_Fs_send_77 rfl rfl ?_
        refine b_iaload (v := (fs_st M3 (33 + x1) (M3 36 x1) x2) 36 x1) d_Fs_send_78 ia_36 o3 o4 rfl ?_
        refine a_iconst d_Fs_send_79 (by unfold fs_in32; omega) ?_
        refine a_iadd d_Fs_send_80 ?_
        refine b_iastore d_Fs_send_81 ia_36 o3 o4 ?_
        refine a_aload_n (j := 0) d_Fs_send_82 rfl rfl ?_
        refine b_getptr (q := 31) d_Fs_send_83 fl_Fs_31 io_0 rfl rfl rfl ?_
        refine b_getptr (q := 36) d_Fs_send_86 fl_Fs_197 io_31 rfl rfl rfl ?_
        refine a_iload_n (j := 1) d_Fs_send_89 rfl rfl ?_
        refine b_iaload (v := fs_w32 (((fs_st M3 (33 + x1) (M3 36 x1) x2) 36 x1) + 1)) d_Fs_send_90 ia_36 o3 o4 (fs_st_s) ?_
        exact b_ireturn d_Fs_send_91 rfl rfl h
      · have h := h.2 c5
        refine a_iconst d_Fs_send_36 (by unfold fs_in32; omega) ?_
        exact b_ireturn d_Fs_send_37 rfl rfl h
set_option maxRecDepth 8000 in
set_option maxHeartbeats 4000000 in
theorem E_Fs_drop {M : fs_M} {K : fs_K} {x1 : Int} 
    (h : fs_C2 g m_Script_hasDark 1 [fs_r 1, fs_i x1] M (fun v M1 => ∃ r1, v = some (fs_i r1) ∧ ((r1 = 0 → K (some (fs_i (-1))) M1) ∧ (¬ r1 = 0 → (0 ≤ x1 ∧ x1 < 3 ∧ ((¬ M1 36 x1 = 0 → fs_C2 g m_Past_remember 2 [fs_r 95, fs_r 31] M1 (fun v M2 => v = none ∧ (0 ≤ fs_w32 ((M2 36 x1) - 1) ∧ fs_w32 ((M2 36 x1) - 1) < 9 ∧ K (some (fs_i ((fs_st M2 36 x1 (fs_w32 ((M2 36 x1) - 1))) (33 + x1) (fs_w32 ((M2 36 x1) - 1))))) (fs_st M2 36 x1 (fs_w32 ((M2 36 x1) - 1)))))) ∧ (M1 36 x1 = 0 → K (some (fs_i (-1))) M1))))))) :
    fs_C2 g m_Fs_drop 3 [fs_r 0, fs_i x1] M K := by
  refine b_enter2 (ls := [(0, fs_r 0), (1, fs_i x1)]) (plainFor_of_name pn_Fs) (Nat.le_of_ble_eq_true rfl) rfl ?_
  refine a_aload_n (j := 0) d_Fs_drop_0 rfl rfl ?_
  refine b_getptr (q := 1) d_Fs_drop_1 fl_Fs_12 io_0 rfl rfl rfl ?_
  refine a_iload_n (j := 1) d_Fs_drop_4 rfl rfl ?_
  refine b_virtual (dc := 1) (ci := 8) (T := fs_T8) (N := 13) [fs_i x1] [] d_Fs_drop_5 ml_Fs_188 k_Script_hasDark v_Script_hasDark rfl io_1 rfl (Nat.le_of_ble_eq_true rfl) rfl (Nat.le_of_ble_eq_true rfl) ?_
  refine fs_Call.mono (fun v M1 hv => ?_) h
  obtain ⟨r1, rfl, h⟩ := hv
  show fs_A2 g m_Fs_drop 3 8 [(0, fs_r 0), (1, fs_i x1)] [fs_i r1] M1 K
  refine a_if_eq (tgt := 23) d_Fs_drop_8 rfl (fun c1 => ?_) (fun c1 => ?_)
  · have h := h.1 c1
    refine a_iconst d_Fs_drop_23 (by unfold fs_in32; omega) ?_
    exact b_ireturn d_Fs_drop_24 rfl rfl h
  · have h := h.2 c1
    refine a_aload_n (j := 0) d_Fs_drop_11 rfl rfl ?_
    refine b_getptr (q := 31) d_Fs_drop_12 fl_Fs_31 io_0 rfl rfl rfl ?_
    refine b_getptr (q := 36) d_Fs_drop_15 fl_Fs_197 io_31 rfl rfl rfl ?_
    refine a_iload_n (j := 1) d_Fs_drop_18 rfl rfl ?_
    obtain ⟨o2, o3, h⟩ := h
    refine b_iaload (v := M1 36 x1) d_Fs_drop_19 ia_36 o2 o3 rfl ?_
    refine a_if_ne (tgt := 25) d_Fs_drop_20 rfl (fun c4 => ?_) (fun c4 => ?_)
    · have h := h.1 c4
      refine a_aload_n (j := 0) d_Fs_drop_25 rfl rfl ?_
      refine b_getptr (q := 95) d_Fs_drop_26 fl_Fs_76 io_0 rfl rfl rfl ?_
      refine a_aload_n (j := 0) d_Fs_drop_29 rfl rfl ?_
      refine b_getptr (q := 31) d_Fs_drop_30 fl_Fs_31 io_0 rfl rfl rfl ?_
      refine b_virtual (dc := 2) (ci := 5) (T := fs_T5) (N := 3) [fs_r 31] [] d_Fs_drop_33 ml_Fs_231 k_Past_remember v_Past_remember rfl io_95 rfl (Nat.le_of_ble_eq_true rfl) rfl (Nat.le_of_ble_eq_true rfl) ?_
      refine fs_Call.mono (fun v M2 hv => ?_) h
      obtain ⟨rfl, h⟩ := hv
      show fs_A2 g m_Fs_drop 3 36 [(0, fs_r 0), (1, fs_i x1)] [] M2 K
      refine a_aload_n (j := 0) d_Fs_drop_36 rfl rfl ?_
      refine b_getptr (q := 31) d_Fs_drop_37 fl_Fs_31 io_0 rfl rfl rfl ?_
      refine b_getptr (q := 36) d_Fs_drop_40 fl_Fs_197 io_31 rfl rfl rfl ?_
      refine a_iload_n (j := 1) d_Fs_drop_43 rfl rfl ?_
      refine a_dup2 d_Fs_drop_44 rfl rfl ?_
      refine b_iaload (v := M2 36 x1) d_Fs_drop_45 ia_36 o2 o3 rfl ?_
      refine a_iconst d_Fs_drop_46 (by unfold fs_in32; omega) ?_
      refine a_isub d_Fs_drop_47 ?_
      refine b_iastore d_Fs_drop_48 ia_36 o2 o3 ?_
      refine a_aload_n (j := 0) d_Fs_drop_49 rfl rfl ?_
      refine b_getptr (q := 31) d_Fs_drop_50 fl_Fs_31 io_0 rfl rfl rfl ?_
      refine b_getptr (q := 32) d_Fs_drop_53 fl_Fs_200 io_31 rfl rfl rfl ?_
      refine a_iload_n (j := 1) d_Fs_drop_56 rfl rfl ?_
      refine b_aaptr (q := 33 + x1) d_Fs_drop_57 ia_32 (by decide) o2 o3 (aq_32 x1) ?_
      refine a_aload_n (j := 0) d_Fs_drop_58 rfl rfl ?_
      refine b_getptr (q := 31) d_Fs_drop_59 fl_Fs_31 io_0 rfl rfl rfl ?_
      refine b_getptr (q := 36) d_Fs_drop_62 fl_Fs_197 io_31 rfl rfl rfl ?_
      refine a_iload_n (j := 1) d_Fs_drop_65 rfl rfl ?_
      refine b_iaload (v := fs_w32 ((M2 36 x1) - 1)) d_Fs_drop_66 ia_36 o2 o3 (fs_st_s) ?_
      obtain ⟨o5, o6, h⟩ := h
      refine b_iaload (v := (fs_st M2 36 x1 (fs_w32 ((M2 36 x1) - 1))) (33 + x1) (fs_w32 ((M2 36 x1) - 1))) d_Fs_drop_67 (ae_32 o2 o3) o5 o6 rfl ?_
      exact b_ireturn d_Fs_drop_68 rfl rfl h
    · have h := h.2 c4
      refine a_iconst d_Fs_drop_23 (by unfold fs_in32; omega) ?_
      exact b_ireturn d_Fs_drop_24 rfl rfl h
set_option maxRecDepth 8000 in
set_option maxHeartbeats 4000000 in
theorem E_Fs_glass {M : fs_M} {K : fs_K} {x1 x2 : Int} 
    (h : fs_C2 g m_Script_hasHouse 1 [fs_r 1, fs_i x1] M (fun v M1 => ∃ r1, v = some (fs_i r1) ∧ ((r1 = 0 → K (some (fs_i 0)) M1) ∧ (¬ r1 = 0 → fs_C2 g m_Fs_bit 1 [fs_i (M1 31 2), fs_i x1] M1 (fun v M2 => ∃ r2, v = some (fs_i r2) ∧ ((¬ r2 = 1 → fs_A2 g m_Fs_glass 3 31 [(0, fs_r 0), (1, fs_i x1), (2, fs_i x2)] [fs_i 0] M2 K) ∧ (r2 = 1 → fs_A2 g m_Fs_glass 3 31 [(0, fs_r 0), (1, fs_i x1), (2, fs_i x2)] [fs_i 1] M2 K))))))) :
    fs_C2 g m_Fs_glass 3 [fs_r 0, fs_i x1, fs_i x2] M K := by
  refine b_enter2 (ls := [(0, fs_r 0), (1, fs_i x1), (2, fs_i x2)]) (plainFor_of_name pn_Fs) (Nat.le_of_ble_eq_true rfl) rfl ?_
  refine a_aload_n (j := 0) d_Fs_glass_0 rfl rfl ?_
  refine b_getptr (q := 1) d_Fs_glass_1 fl_Fs_12 io_0 rfl rfl rfl ?_
  refine a_iload_n (j := 1) d_Fs_glass_4 rfl rfl ?_
  refine b_virtual (dc := 1) (ci := 8) (T := fs_T8) (N := 13) [fs_i x1] [] d_Fs_glass_5 ml_Fs_150 k_Script_hasHouse v_Script_hasHouse rfl io_1 rfl (Nat.le_of_ble_eq_true rfl) rfl (Nat.le_of_ble_eq_true rfl) ?_
  refine fs_Call.mono (fun v M1 hv => ?_) h
  obtain ⟨r1, rfl, h⟩ := hv
  show fs_A2 g m_Fs_glass 3 8 [(0, fs_r 0), (1, fs_i x1), (2, fs_i x2)] [fs_i r1] M1 K
  refine a_if_eq (tgt := 35) d_Fs_glass_8 rfl (fun c1 => ?_) (fun c1 => ?_)
  · have h := h.1 c1
    refine a_iconst d_Fs_glass_35 (by unfold fs_in32; omega) ?_
    exact b_ireturn d_Fs_glass_36 rfl (fs_nar01 (Or.inl rfl)) h
  · have h := h.2 c1
    refine a_aload_n (j := 0) d_Fs_glass_11 rfl rfl ?_
    refine b_getptr (q := 31) d_Fs_glass_12 fl_Fs_31 io_0 rfl rfl rfl ?_
    refine b_getfield (v := fs_i (M1 31 2)) d_Fs_glass_15 fl_Fs_177 io_31 rfl ?_
    refine a_iload_n (j := 1) d_Fs_glass_18 rfl rfl ?_
    refine b_static (dc := 1) [fs_i (M1 31 2), fs_i x1] [] d_Fs_glass_19 ml_Fs_173 k_Fs_bit s_Fs_bit rfl (Nat.le_of_ble_eq_true rfl) rfl (Nat.le_of_ble_eq_true rfl) ?_
    refine fs_Call.mono (fun v M2 hv => ?_) h
    obtain ⟨r2, rfl, h⟩ := hv
    show fs_A2 g m_Fs_glass 3 22 [(0, fs_r 0), (1, fs_i x1), (2, fs_i x2)] [fs_i r2] M2 K
    refine a_iconst d_Fs_glass_22 (by unfold fs_in32; omega) ?_
    refine a_icmp_ne (tgt := 30) d_Fs_glass_23 rfl (fun c2 => ?_) (fun c2 => ?_)
    · have h := h.1 c2
      refine a_iconst d_Fs_glass_30 (by unfold fs_in32; omega) ?_
      exact h
    · have h := h.2 c2
      refine a_iconst d_Fs_glass_26 (by unfold fs_in32; omega) ?_
      refine a_goto (tgt := 31) d_Fs_glass_27 rfl ?_
      exact h
set_option maxRecDepth 8000 in
set_option maxHeartbeats 4000000 in
theorem L_Fs_glass_31 {M : fs_M} {K : fs_K} {x1 x2 x100 : Int} 
    (h : ((¬ x100 = x2 → fs_C2 g m_Past_remember 2 [fs_r 95, fs_r 31] M (fun v M3 => v = none ∧ K (some (fs_i 1)) (fs_st (fs_st M3 31 2 (fs_xor (M3 31 2) (fs_shl 1 x1))) 60 5 0))) ∧ (x100 = x2 → K (some (fs_i 0)) M))) :
    fs_A2 g m_Fs_glass 3 31 [(0, fs_r 0), (1, fs_i x1), (2, fs_i x2)] [fs_i x100] M K := by
  refine a_iload_n (j := 2) d_Fs_glass_31 rfl rfl ?_
  refine a_icmp_ne (tgt := 37) d_Fs_glass_32 rfl (fun c3 => ?_) (fun c3 => ?_)
  · have h := h.1 c3
    refine a_aload_n (j := 0) d_Fs_glass_37 rfl rfl ?_
    refine b_getptr (q := 95) d_Fs_glass_38 fl_Fs_76 io_0 rfl rfl rfl ?_
    refine a_aload_n (j := 0) d_Fs_glass_41 rfl rfl ?_
    refine b_getptr (q := 31) d_Fs_glass_42 fl_Fs_31 io_0 rfl rfl rfl ?_
    refine b_virtual (dc := 2) (ci := 5) (T := fs_T5) (N := 3) [fs_r 31] [] d_Fs_glass_45 ml_Fs_231 k_Past_remember v_Past_remember rfl io_95 rfl (Nat.le_of_ble_eq_true rfl) rfl (Nat.le_of_ble_eq_true rfl) ?_
    refine fs_Call.mono (fun v M3 hv => ?_) h
    obtain ⟨rfl, h⟩ := hv
    show fs_A2 g m_Fs_glass 3 48 [(0, fs_r 0), (1, fs_i x1), (2, fs_i x2)] [] M3 K
    refine a_aload_n (j := 0) d_Fs_glass_48 rfl rfl ?_
    refine b_getptr (q := 31) d_Fs_glass_49 fl_Fs_31 io_0 rfl rfl rfl ?_
    refine a_dup d_Fs_glass_52 rfl ?_
    refine b_getfield (v := fs_i (M3 31 2)) d_Fs_glass_53 fl_Fs_177 io_31 rfl ?_
    refine a_iconst d_Fs_glass_56 (by unfold fs_in32; omega) ?_
    refine a_iload_n (j := 1) d_Fs_glass_57 rfl rfl ?_
    refine a_ishl d_Fs_glass_58 ?_
    refine a_ixor d_Fs_glass_59 ?_
    refine b_putfield (x := (fs_xor (M3 31 2) (fs_shl 1 x1))) d_Fs_glass_60 fl_Fs_177 io_31 rfl rfl fs_nar_int ?_
    refine a_aload_n (j := 0) d_Fs_glass_63 rfl rfl ?_
    refine b_getptr (q := 60) d_Fs_glass_64 fl_Fs_62 io_0 rfl rfl rfl ?_
    refine a_iconst d_Fs_glass_67 (by unfold fs_in32; omega) ?_
    refine b_putfield (x := 0) d_Fs_glass_68 fl_Fs_124 io_60 rfl rfl (fs_nar_bool (Or.inl rfl)) ?_
    refine a_iconst d_Fs_glass_71 (by unfold fs_in32; omega) ?_
    exact b_ireturn d_Fs_glass_72 rfl (fs_nar01 (Or.inr rfl)) h
  · have h := h.2 c3
    refine a_iconst d_Fs_glass_35 (by unfold fs_in32; omega) ?_
    exact b_ireturn d_Fs_glass_36 rfl (fs_nar01 (Or.inl rfl)) h
set_option maxRecDepth 8000 in
set_option maxHeartbeats 4000000 in
theorem E_Fs_bit {M : fs_M} {K : fs_K} {x0 x1 : Int} 
    (h : K (some (fs_i (fs_and (fs_shr x0 x1) 1))) M) :
    fs_C2 g m_Fs_bit 1 [fs_i x0, fs_i x1] M K := by
  refine b_enter2 (ls := [(0, fs_i x0), (1, fs_i x1)]) (plainFor_of_name pn_Fs) (Nat.le_of_ble_eq_true rfl) rfl ?_
  refine a_iload_n (j := 0) d_Fs_bit_0 rfl rfl ?_
  refine a_iload_n (j := 1) d_Fs_bit_1 rfl rfl ?_
  refine a_ishr d_Fs_bit_2 ?_
  refine a_iconst d_Fs_bit_3 (by unfold fs_in32; omega) ?_
  refine a_iand d_Fs_bit_4 ?_
  exact b_ireturn d_Fs_bit_5 rfl rfl h
set_option maxRecDepth 8000 in
set_option maxHeartbeats 4000000 in
theorem E_Fs_out {M : fs_M} {K : fs_K} {x1 x2 : Int} 
    (h : fs_C2 g m_Script_hasHouse 1 [fs_r 1, fs_i x1] M (fun v M1 => ∃ r1, v = some (fs_i r1) ∧ ((r1 = 0 → K (some (fs_i 0)) M1) ∧ (¬ r1 = 0 → fs_C2 g m_Fs_bit 1 [fs_i (M1 1 4), fs_i x1] M1 (fun v M2 => ∃ r2, v = some (fs_i r2) ∧ ((r2 = 0 → K (some (fs_i 0)) M2) ∧ (¬ r2 = 0 → fs_C2 g m_Fs_bit 1 [fs_i (M2 31 3), fs_i x1] M2 (fun v M3 => ∃ r3, v = some (fs_i r3) ∧ ((¬ r3 = 1 → fs_A2 g m_Fs_out 3 45 [(0, fs_r 0), (1, fs_i x1), (2, fs_i x2)] [fs_i 0] M3 K) ∧ (r3 = 1 → fs_A2 g m_Fs_out 3 45 [(0, fs_r 0), (1, fs_i x1), (2, fs_i x2)] [fs_i 1] M3 K)))))))))) :
    fs_C2 g m_Fs_out 3 [fs_r 0, fs_i x1, fs_i x2] M K := by
  refine b_enter2 (ls := [(0, fs_r 0), (1, fs_i x1), (2, fs_i x2)]) (plainFor_of_name pn_Fs) (Nat.le_of_ble_eq_true rfl) rfl ?_
  refine a_aload_n (j := 0) d_Fs_out_0 rfl rfl ?_
  refine b_getptr (q := 1) d_Fs_out_1 fl_Fs_12 io_0 rfl rfl rfl ?_
  refine a_iload_n (j := 1) d_Fs_out_4 rfl rfl ?_
  refine b_virtual (dc := 1) (ci := 8) (T := fs_T8) (N := 13) [fs_i x1] [] d_Fs_out_5 ml_Fs_150 k_Script_hasHouse v_Script_hasHouse rfl io_1 rfl (Nat.le_of_ble_eq_true rfl) rfl (Nat.le_of_ble_eq_true rfl) ?_
  refine fs_Call.mono (fun v M1 hv => ?_) h
  obtain ⟨r1, rfl, h⟩ := hv
  show fs_A2 g m_Fs_out 3 8 [(0, fs_r 0), (1, fs_i x1), (2, fs_i x2)] [fs_i r1] M1 K
  refine a_if_eq (tgt := 49) d_Fs_out_8 rfl (fun c1 => ?_) (fun c1 => ?_)
  · have h := h.1 c1
    refine a_iconst d_Fs_out_49 (by unfold fs_in32; omega) ?_
    exact b_ireturn d_Fs_out_50 rfl (fs_nar01 (Or.inl rfl)) h
  · have h := h.2 c1
    refine a_aload_n (j := 0) d_Fs_out_11 rfl rfl ?_
    refine b_getptr (q := 1) d_Fs_out_12 fl_Fs_12 io_0 rfl rfl rfl ?_
    refine b_getfield (v := fs_i (M1 1 4)) d_Fs_out_15 fl_Fs_170 io_1 rfl ?_
    refine a_iload_n (j := 1) d_Fs_out_18 rfl rfl ?_
    refine b_static (dc := 1) [fs_i (M1 1 4), fs_i x1] [] d_Fs_out_19 ml_Fs_173 k_Fs_bit s_Fs_bit rfl (Nat.le_of_ble_eq_true rfl) rfl (Nat.le_of_ble_eq_true rfl) ?_
    refine fs_Call.mono (fun v M2 hv => ?_) h
    obtain ⟨r2, rfl, h⟩ := hv
    show fs_A2 g m_Fs_out 3 22 [(0, fs_r 0), (1, fs_i x1), (2, fs_i x2)] [fs_i r2] M2 K
    refine a_if_eq (tgt := 49) d_Fs_out_22 rfl (fun c2 => ?_) (fun c2 => ?_)
    · have h := h.1 c2
      refine a_iconst d_Fs_out_49 (by unfold fs_in32; omega) ?_
      exact b_ireturn d_Fs_out_50 rfl (fs_nar01 (Or.inl rfl)) h
    · have h := h.2 c2
      refine a_aload_n (j := 0) d_Fs_out_25 rfl rfl ?_
      refine b_getptr (q := 31) d_Fs_out_26 fl_Fs_31 io_0 rfl rfl rfl ?_
      refine b_getfield (v := fs_i (M2 31 3)) d_Fs_out_29 fl_Fs_180 io_31 rfl ?_
      refine a_iload_n (j := 1) d_Fs_out_32 rfl rfl ?_
      refine b_static (dc := 1) [fs_i (M2 31 3), fs_i x1] [] d_Fs_out_33 ml_Fs_173 k_Fs_bit s_Fs_bit rfl (Nat.le_of_ble_eq_true rfl) rfl (Nat.le_of_ble_eq_true rfl) ?_
      refine fs_Call.mono (fun v M3 hv => ?_) h
      obtain ⟨r3, rfl, h⟩ := hv
      show fs_A2 g m_Fs_out 3 36 [(0, fs_r 0), (1, fs_i x1), (2, fs_i x2)] [fs_i r3] M3 K
      refine a_iconst d_Fs_out_36 (by unfold fs_in32; omega) ?_
      refine a_icmp_ne (tgt := 44) d_Fs_out_37 rfl (fun c3 => ?_) (fun c3 => ?_)
      · have h := h.1 c3
        refine a_iconst d_Fs_out_44 (by unfold fs_in32; omega) ?_
        exact h
      · have h := h.2 c3
        refine a_iconst d_Fs_out_40 (by unfold fs_in32; omega) ?_
        refine a_goto (tgt := 45) d_Fs_out_41 rfl ?_
        exact h
set_option maxRecDepth 8000 in
set_option maxHeartbeats 4000000 in
theorem L_Fs_out_45 {M : fs_M} {K : fs_K} {x1 x2 x100 : Int} 
    (h : ((¬ x100 = x2 → fs_C2 g m_Past_remember 2 [fs_r 95, fs_r 31] M (fun v M4 => v = none ∧ K (some (fs_i 1)) (fs_st (fs_st M4 31 3 (fs_xor (M4 31 3) (fs_shl 1 x1))) 60 5 0))) ∧ (x100 = x2 → K (some (fs_i 0)) M))) :
    fs_A2 g m_Fs_out 3 45 [(0, fs_r 0), (1, fs_i x1), (2, fs_i x2)] [fs_i x100] M K := by
  refine a_iload_n (j := 2) d_Fs_out_45 rfl rfl ?_
  refine a_icmp_ne (tgt := 51) d_Fs_out_46 rfl (fun c4 => ?_) (fun c4 => ?_)
  · have h := h.1 c4
    refine a_aload_n (j := 0) d_Fs_out_51 rfl rfl ?_
    refine b_getptr (q := 95) d_Fs_out_52 fl_Fs_76 io_0 rfl rfl rfl ?_
    refine a_aload_n (j := 0) d_Fs_out_55 rfl rfl ?_
    refine b_getptr (q := 31) d_Fs_out_56 fl_Fs_31 io_0 rfl rfl rfl ?_
    refine b_virtual (dc := 2) (ci := 5) (T := fs_T5) (N := 3) [fs_r 31] [] d_Fs_out_59 ml_Fs_231 k_Past_remember v_Past_remember rfl io_95 rfl (Nat.le_of_ble_eq_true rfl) rfl (Nat.le_of_ble_eq_true rfl) ?_
    refine fs_Call.mono (fun v M4 hv => ?_) h
    obtain ⟨rfl, h⟩ := hv
    show fs_A2 g m_Fs_out 3 62 [(0, fs_r 0), (1, fs_i x1), (2, fs_i x2)] [] M4 K
    refine a_aload_n (j := 0) d_Fs_out_62 rfl rfl ?_
    refine b_getptr (q := 31) d_Fs_out_63 fl_Fs_31 io_0 rfl rfl rfl ?_
    refine a_dup d_Fs_out_66 rfl ?_
    refine b_getfield (v := fs_i (M4 31 3)) d_Fs_out_67 fl_Fs_180 io_31 rfl ?_
    refine a_iconst d_Fs_out_70 (by unfold fs_in32; omega) ?_
    refine a_iload_n (j := 1) d_Fs_out_71 rfl rfl ?_
    refine a_ishl d_Fs_out_72 ?_
    refine a_ixor d_Fs_out_73 ?_
    refine b_putfield (x := (fs_xor (M4 31 3) (fs_shl 1 x1))) d_Fs_out_74 fl_Fs_180 io_31 rfl rfl fs_nar_int ?_
    refine a_aload_n (j := 0) d_Fs_out_77 rfl rfl ?_
    refine b_getptr (q := 60) d_Fs_out_78 fl_Fs_62 io_0 rfl rfl rfl ?_
    refine a_iconst d_Fs_out_81 (by unfold fs_in32; omega) ?_
    refine b_putfield (x := 0) d_Fs_out_82 fl_Fs_124 io_60 rfl rfl (fs_nar_bool (Or.inl rfl)) ?_
    refine a_iconst d_Fs_out_85 (by unfold fs_in32; omega) ?_
    exact b_ireturn d_Fs_out_86 rfl (fs_nar01 (Or.inr rfl)) h
  · have h := h.2 c4
    refine a_iconst d_Fs_out_49 (by unfold fs_in32; omega) ?_
    exact b_ireturn d_Fs_out_50 rfl (fs_nar01 (Or.inl rfl)) h
set_option maxRecDepth 8000 in
set_option maxHeartbeats 4000000 in
theorem E_Fs_done {M : fs_M} {K : fs_K} {x1 x2 : Int} 
    (h : fs_C2 g m_Script_hasHouse 1 [fs_r 1, fs_i x1] M (fun v M1 => ∃ r1, v = some (fs_i r1) ∧ ((r1 = 0 → K (some (fs_i (-1))) M1) ∧ (¬ r1 = 0 → ((x2 < 0 → K (some (fs_i (-1))) M1) ∧ (¬ x2 < 0 → ((x2 ≤ 1 → fs_C2 g m_Course_run 7 [fs_r 43, fs_r 31, fs_i (-1)] M1 (fun v M2 => v = none ∧ ((¬ x2 = 0 → (0 ≤ x1 ∧ x1 < 6 ∧ K (some (fs_i (M2 50 x1))) M2)) ∧ (x2 = 0 → (0 ≤ x1 ∧ x1 < 6 ∧ K (some (fs_i (M2 49 x1))) M2))))) ∧ (¬ x2 ≤ 1 → K (some (fs_i (-1))) M1)))))))) :
    fs_C2 g m_Fs_done 8 [fs_r 0, fs_i x1, fs_i x2] M K := by
  refine b_enter2 (ls := [(0, fs_r 0), (1, fs_i x1), (2, fs_i x2)]) (plainFor_of_name pn_Fs) (Nat.le_of_ble_eq_true rfl) rfl ?_
  refine a_aload_n (j := 0) d_Fs_done_0 rfl rfl ?_
  refine b_getptr (q := 1) d_Fs_done_1 fl_Fs_12 io_0 rfl rfl rfl ?_
  refine a_iload_n (j := 1) d_Fs_done_4 rfl rfl ?_
  refine b_virtual (dc := 1) (ci := 8) (T := fs_T8) (N := 13) [fs_i x1] [] d_Fs_done_5 ml_Fs_150 k_Script_hasHouse v_Script_hasHouse rfl io_1 rfl (Nat.le_of_ble_eq_true rfl) rfl (Nat.le_of_ble_eq_true rfl) ?_
  refine fs_Call.mono (fun v M1 hv => ?_) h
  obtain ⟨r1, rfl, h⟩ := hv
  show fs_A2 g m_Fs_done 8 8 [(0, fs_r 0), (1, fs_i x1), (2, fs_i x2)] [fs_i r1] M1 K
  refine a_if_eq (tgt := 20) d_Fs_done_8 rfl (fun c1 => ?_) (fun c1 => ?_)
  · have h := h.1 c1
    refine a_iconst d_Fs_done_20 (by unfold fs_in32; omega) ?_
    exact b_ireturn d_Fs_done_21 rfl rfl h
  · have h := h.2 c1
    refine a_iload_n (j := 2) d_Fs_done_11 rfl rfl ?_
    refine a_if_lt (tgt := 20) d_Fs_done_12 rfl (fun c2 => ?_) (fun c2 => ?_)
    · have h := h.1 c2
      refine a_iconst d_Fs_done_20 (by unfold fs_in32; omega) ?_
      exact b_ireturn d_Fs_done_21 rfl rfl h
    · have h := h.2 c2
      refine a_iload_n (j := 2) d_Fs_done_15 rfl rfl ?_
      refine a_iconst d_Fs_done_16 (by unfold fs_in32; omega) ?_
      refine a_icmp_le (tgt := 22) d_Fs_done_17 rfl (fun c3 => ?_) (fun c3 => ?_)
      · have h := h.1 c3
        refine a_aload_n (j := 0) d_Fs_done_22 rfl rfl ?_
        refine b_getptr (q := 43) d_Fs_done_23 fl_Fs_43 io_0 rfl rfl rfl ?_
        refine a_aload_n (j := 0) d_Fs_done_26 rfl rfl ?_
        refine b_getptr (q := 31) d_Fs_done_27 fl_Fs_31 io_0 rfl rfl rfl ?_
        refine a_iconst d_Fs_done_30 (by unfold fs_in32; omega) ?_
        refine b_virtual (dc := 7) (ci := 1) (T := fs_T1) (N := 8) [fs_r 31, fs_i (-1)] [] d_Fs_done_31 ml_Fs_235 k_Course_run v_Course_run rfl io_43 rfl (Nat.le_of_ble_eq_true rfl) rfl (Nat.le_of_ble_eq_true rfl) ?_
        refine fs_Call.mono (fun v M2 hv => ?_) h
        obtain ⟨rfl, h⟩ := hv
        show fs_A2 g m_Fs_done 8 34 [(0, fs_r 0), (1, fs_i x1), (2, fs_i x2)] [] M2 K
        refine a_iload_n (j := 2) d_Fs_done_34 rfl rfl ?_
        refine a_if_ne (tgt := 50) d_Fs_done_35 rfl (fun c4 => ?_) (fun c4 => ?_)
        · have h := h.1 c4
          refine a_aload_n (j := 0) d_Fs_done_50 rfl rfl ?_
          refine b_getptr (q := 43) d_Fs_done_51 fl_Fs_43 io_0 rfl rfl rfl ?_
          refine b_getptr (q := 50) d_Fs_done_54 fl_Fs_242 io_43 rfl rfl rfl ?_
          refine a_iload_n (j := 1) d_Fs_done_57 rfl rfl ?_
          obtain ⟨o5, o6, h⟩ := h
          refine b_iaload (v := M2 50 x1) d_Fs_done_58 ia_50 o5 o6 rfl ?_
          exact b_ireturn d_Fs_done_59 rfl rfl h
        · have h := h.2 c4
          refine a_aload_n (j := 0) d_Fs_done_38 rfl rfl ?_
          refine b_getptr (q := 43) d_Fs_done_39 fl_Fs_43 io_0 rfl rfl rfl ?_
          refine b_getptr (q := 49) d_Fs_done_42 fl_Fs_239 io_43 rfl rfl rfl ?_
          refine a_iload_n (j := 1) d_Fs_done_45 rfl rfl ?_
          obtain ⟨o7, o8, h⟩ := h
          refine b_iaload (v := M2 49 x1) d_Fs_done_46 ia_49 o7 o8 rfl ?_
          refine a_goto (tgt := 59) d_Fs_done_47 rfl ?_
          exact b_ireturn d_Fs_done_59 rfl rfl h
      · have h := h.2 c3
        refine a_iconst d_Fs_done_20 (by unfold fs_in32; omega) ?_
        exact b_ireturn d_Fs_done_21 rfl rfl h
set_option maxRecDepth 8000 in
set_option maxHeartbeats 4000000 in
theorem E_Fs_where {M : fs_M} {K : fs_K} {x1 x2 : Int} 
    (h : fs_C2 g m_Script_hasDark 1 [fs_r 1, fs_i x1] M (fun v M1 => ∃ r1, v = some (fs_i r1) ∧ ((r1 = 0 → K (some (fs_i (-1))) M1) ∧ (¬ r1 = 0 → fs_C2 g m_Fs_isMinute 1 [fs_i x2] M1 (fun v M2 => ∃ r2, v = some (fs_i r2) ∧ ((¬ r2 = 0 → fs_C2 g m_Course_run 7 [fs_r 43, fs_r 31, fs_i (-1)] M2 (fun v M3 => v = none ∧ fs_A2 g m_Fs_where 8 38 [(0, fs_r 0), (1, fs_i x1), (2, fs_i x2), (3, fs_i (-2)), (4, fs_i 0)] [] M3 K)) ∧ (r2 = 0 → K (some (fs_i (-1))) M2))))))) :
    fs_C2 g m_Fs_where 8 [fs_r 0, fs_i x1, fs_i x2] M K := by
  refine b_enter2 (ls := [(0, fs_r 0), (1, fs_i x1), (2, fs_i x2)]) (plainFor_of_name pn_Fs) (Nat.le_of_ble_eq_true rfl) rfl ?_
  refine a_aload_n (j := 0) d_Fs_where_0 rfl rfl ?_
  refine b_getptr (q := 1) d_Fs_where_1 fl_Fs_12 io_0 rfl rfl rfl ?_
  refine a_iload_n (j := 1) d_Fs_where_4 rfl rfl ?_
  refine b_virtual (dc := 1) (ci := 8) (T := fs_T8) (N := 13) [fs_i x1] [] d_Fs_where_5 ml_Fs_188 k_Script_hasDark v_Script_hasDark rfl io_1 rfl (Nat.le_of_ble_eq_true rfl) rfl (Nat.le_of_ble_eq_true rfl) ?_
  refine fs_Call.mono (fun v M1 hv => ?_) h
  obtain ⟨r1, rfl, h⟩ := hv
  show fs_A2 g m_Fs_where 8 8 [(0, fs_r 0), (1, fs_i x1), (2, fs_i x2)] [fs_i r1] M1 K
  refine a_if_eq (tgt := 18) d_Fs_where_8 rfl (fun c1 => ?_) (fun c1 => ?_)
  · have h := h.1 c1
    refine a_iconst d_Fs_where_18 (by unfold fs_in32; omega) ?_
    exact b_ireturn d_Fs_where_19 rfl rfl h
  · have h := h.2 c1
    refine a_iload_n (j := 2) d_Fs_where_11 rfl rfl ?_
    refine b_static (dc := 1) [fs_i x2] [] d_Fs_where_12 ml_Fs_204 k_Fs_isMinute s_Fs_isMinute rfl (Nat.le_of_ble_eq_true rfl) rfl (Nat.le_of_ble_eq_true rfl) ?_
    refine fs_Call.mono (fun v M2 hv => ?_) h
    obtain ⟨r2, rfl, h⟩ := hv
    show fs_A2 g m_Fs_where 8 15 [(0, fs_r 0), (1, fs_i x1), (2, fs_i x2)] [fs_i r2] M2 K
    refine a_if_ne (tgt := 20) d_Fs_where_15 rfl (fun c2 => ?_) (fun c2 => ?_)
    · have h := h.1 c2
      refine a_aload_n (j := 0) d_Fs_where_20 rfl rfl ?_
      refine b_getptr (q := 43) d_Fs_where_21 fl_Fs_43 io_0 rfl rfl rfl ?_
      refine a_aload_n (j := 0) d_Fs_where_24 rfl rfl ?_
      refine b_getptr (q := 31) d_Fs_where_25 fl_Fs_31 io_0 rfl rfl rfl ?_
      refine a_iconst d_Fs_where_28 (by unfold fs_in32; omega) ?_
      refine b_virtual (dc := 7) (ci := 1) (T := fs_T1) (N := 8) [fs_r 31, fs_i (-1)] [] d_Fs_where_29 ml_Fs_235 k_Course_run v_Course_run rfl io_43 rfl (Nat.le_of_ble_eq_true rfl) rfl (Nat.le_of_ble_eq_true rfl) ?_
      refine fs_Call.mono (fun v M3 hv => ?_) h
      obtain ⟨rfl, h⟩ := hv
      show fs_A2 g m_Fs_where 8 32 [(0, fs_r 0), (1, fs_i x1), (2, fs_i x2)] [] M3 K
      refine a_bipush d_Fs_where_32 (by decide) ?_
      refine a_istore_n d_Fs_where_34 rfl (Nat.le_of_ble_eq_true rfl) [1, 2, 3, 0] rfl ?_
      refine a_iconst d_Fs_where_35 (by unfold fs_in32; omega) ?_
      refine a_istore d_Fs_where_36 (Nat.le_of_ble_eq_true rfl) [1, 2, 3, 4, 0] rfl ?_
      exact h
    · have h := h.2 c2
      refine a_iconst d_Fs_where_18 (by unfold fs_in32; omega) ?_
      exact b_ireturn d_Fs_where_19 rfl rfl h
set_option maxRecDepth 8000 in
set_option maxHeartbeats 4000000 in
theorem L_Fs_where_38 {M : fs_M} {K : fs_K} {x1 x2 x3 x4 : Int} 
    (h : (0 ≤ x1 ∧ x1 < 3 ∧ ((M (51 + x1) 5 ≤ x4 → K (some (fs_i x3)) M) ∧ (¬ M (51 + x1) 5 ≤ x4 → (0 ≤ x4 ∧ x4 < 9 ∧ ((x2 < M (46 + x1) x4 → fs_A2 g m_Fs_where 8 38 [(0, fs_r 0), (1, fs_i x1), (2, fs_i x2), (3, fs_i x3), (4, fs_i (fs_w32 (x4 + 1)))] [] M K) ∧ (¬ x2 < M (46 + x1) x4 → fs_A2 g m_Fs_where 8 38 [(0, fs_r 0), (1, fs_i x1), (2, fs_i x2), (3, fs_i x4), (4, fs_i (fs_w32 (x4 + 1)))] [] M K))))))) :
    fs_A2 g m_Fs_where 8 38 [(0, fs_r 0), (1, fs_i x1), (2, fs_i x2), (3, fs_i x3), (4, fs_i x4)] [] M K := by
  refine a_iload (j := 4) d_Fs_where_38 rfl ?_
  refine a_aload_n (j := 0) d_Fs_where_40 rfl rfl ?_
  refine b_getptr (q := 43) d_Fs_where_41 fl_Fs_43 io_0 rfl rfl rfl ?_
  refine b_getptr (q := 44) d_Fs_where_44 fl_Fs_245 io_43 rfl rfl rfl ?_
  refine a_iload_n (j := 1) d_Fs_where_47 rfl rfl ?_
  obtain ⟨o3, o4, h⟩ := h
  refine b_aaptr (q := 51 + x1) d_Fs_where_48 ia_44 (by decide) o3 o4 (aq_44 x1) ?_
  refine b_getfield (v := fs_i (M (51 + x1) 5)) d_Fs_where_49 fl_Fs_249 (ae_44 o3 o4) rfl ?_
  refine a_icmp_ge (tgt := 80) d_Fs_where_52 rfl (fun c5 => ?_) (fun c5 => ?_)
  · have h := h.1 c5
    refine a_iload_n (j := 3) d_Fs_where_80 rfl rfl ?_
    exact b_ireturn d_Fs_where_81 rfl rfl h
  · have h := h.2 c5
    refine a_aload_n (j := 0) d_Fs_where_55 rfl rfl ?_
    refine b_getptr (q := 43) d_Fs_where_56 fl_Fs_43 io_0 rfl rfl rfl ?_
    refine b_getptr (q := 45) d_Fs_where_59 fl_Fs_254 io_43 rfl rfl rfl ?_
    refine a_iload_n (j := 1) d_Fs_where_62 rfl rfl ?_
    refine b_aaptr (q := 46 + x1) d_Fs_where_63 ia_45 (by decide) o3 o4 (aq_45 x1) ?_
    refine a_iload (j := 4) d_Fs_where_64 rfl ?_
    obtain ⟨o6, o7, h⟩ := h
    refine b_iaload (v := M (46 + x1) x4) d_Fs_where_66 (ae_45 o3 o4) o6 o7 rfl ?_
    refine a_iload_n (j := 2) d_Fs_where_67 rfl rfl ?_
    refine a_icmp_gt (tgt := 74) d_Fs_where_68 rfl (fun c8 => ?_) (fun c8 => ?_)
    · have h := h.1 c8
      refine a_iinc (j := 4) d_Fs_where_74 rfl (Nat.le_of_ble_eq_true rfl) [1, 2, 3, 4, 0] rfl ?_
      refine a_goto (tgt := 38) d_Fs_where_77 rfl ?_
      exact h
    · have h := h.2 c8
      refine a_iload (j := 4) d_Fs_where_71 rfl ?_
      refine a_istore_n d_Fs_where_73 rfl (Nat.le_of_ble_eq_true rfl) [1, 2, 3, 0, 4] rfl ?_
      refine a_iinc (j := 4) d_Fs_where_74 rfl (Nat.le_of_ble_eq_true rfl) [1, 2, 3, 4, 0] rfl ?_
      refine a_goto (tgt := 38) d_Fs_where_77 rfl ?_
      exact h
set_option maxRecDepth 8000 in
set_option maxHeartbeats 4000000 in
theorem E_Fs_gain {M : fs_M} {K : fs_K} 
    (h : fs_C2 g m_Course_run 7 [fs_r 43, fs_r 31, fs_i (-1)] M (fun v M1 => v = none ∧ fs_C2 g m_Course_gained 3 [fs_r 43, fs_i (M1 31 2)] M1 (fun v M2 => ∃ r2, v = some (fs_i r2) ∧ K (some (fs_i r2)) M2))) :
    fs_C2 g m_Fs_gain 8 [fs_r 0] M K := by
  refine b_enter2 (ls := [(0, fs_r 0)]) (plainFor_of_name pn_Fs) (Nat.le_of_ble_eq_true rfl) rfl ?_
  refine a_aload_n (j := 0) d_Fs_gain_0 rfl rfl ?_
  refine b_getptr (q := 43) d_Fs_gain_1 fl_Fs_43 io_0 rfl rfl rfl ?_
  refine a_aload_n (j := 0) d_Fs_gain_4 rfl rfl ?_
  refine b_getptr (q := 31) d_Fs_gain_5 fl_Fs_31 io_0 rfl rfl rfl ?_
  refine a_iconst d_Fs_gain_8 (by unfold fs_in32; omega) ?_
  refine b_virtual (dc := 7) (ci := 1) (T := fs_T1) (N := 8) [fs_r 31, fs_i (-1)] [] d_Fs_gain_9 ml_Fs_235 k_Course_run v_Course_run rfl io_43 rfl (Nat.le_of_ble_eq_true rfl) rfl (Nat.le_of_ble_eq_true rfl) ?_
  refine fs_Call.mono (fun v M1 hv => ?_) h
  obtain ⟨rfl, h⟩ := hv
  show fs_A2 g m_Fs_gain 8 12 [(0, fs_r 0)] [] M1 K
  refine a_aload_n (j := 0) d_Fs_gain_12 rfl rfl ?_
  refine b_getptr (q := 43) d_Fs_gain_13 fl_Fs_43 io_0 rfl rfl rfl ?_
  refine a_aload_n (j := 0) d_Fs_gain_16 rfl rfl ?_
  refine b_getptr (q := 31) d_Fs_gain_17 fl_Fs_31 io_0 rfl rfl rfl ?_
  refine b_getfield (v := fs_i (M1 31 2)) d_Fs_gain_20 fl_Fs_177 io_31 rfl ?_
  refine b_virtual (dc := 3) (ci := 1) (T := fs_T1) (N := 8) [fs_i (M1 31 2)] [] d_Fs_gain_23 ml_Fs_257 k_Course_gained v_Course_gained rfl io_43 rfl (Nat.le_of_ble_eq_true rfl) rfl (Nat.le_of_ble_eq_true rfl) ?_
  refine fs_Call.mono (fun v M2 hv => ?_) h
  obtain ⟨r2, rfl, h⟩ := hv
  show fs_A2 g m_Fs_gain 8 26 [(0, fs_r 0)] [fs_i r2] M2 K
  exact b_ireturn d_Fs_gain_26 rfl rfl h
set_option maxRecDepth 8000 in
set_option maxHeartbeats 4000000 in
theorem E_Fs_after {M : fs_M} {K : fs_K} {x1 x2 : Int} 
    (h : fs_C2 g m_Script_hasDark 1 [fs_r 1, fs_i x1] M (fun v M1 => ∃ r1, v = some (fs_i r1) ∧ ((¬ r1 = 0 → fs_C2 g m_Course_run 7 [fs_r 43, fs_r 31, fs_i (-1)] M1 (fun v M2 => v = none ∧ (0 ≤ x1 ∧ x1 < 3 ∧ ((x2 = 0 → K (some (fs_i (M2 (51 + x1) 1))) M2) ∧ (x2 = 1 → K (some (fs_i (M2 (51 + x1) 2))) M2) ∧ (x2 = 2 → K (some (fs_i (M2 (51 + x1) 3))) M2) ∧ (x2 = 3 → K (some (fs_i (M2 (51 + x1) 4))) M2) ∧ (x2 = 4 → K (some (fs_i (M2 (51 + x1) 0))) M2) ∧ (¬ x2 = 0 ∧ ¬ x2 = 1 ∧ ¬ x2 = 2 ∧ ¬ x2 = 3 ∧ ¬ x2 = 4 → K (some (fs_i (-1))) M2))))) ∧ (r1 = 0 → K (some (fs_i (-1))) M1)))) :
    fs_C2 g m_Fs_after 8 [fs_r 0, fs_i x1, fs_i x2] M K := by
  refine b_enter2 (ls := [(0, fs_r 0), (1, fs_i x1), (2, fs_i x2)]) (plainFor_of_name pn_Fs) (Nat.le_of_ble_eq_true rfl) rfl ?_
  refine a_aload_n (j := 0) d_Fs_after_0 rfl rfl ?_
  refine b_getptr (q := 1) d_Fs_after_1 fl_Fs_12 io_0 rfl rfl rfl ?_
  refine a_iload_n (j := 1) d_Fs_after_4 rfl rfl ?_
  refine b_virtual (dc := 1) (ci := 8) (T := fs_T8) (N := 13) [fs_i x1] [] d_Fs_after_5 ml_Fs_188 k_Script_hasDark v_Script_hasDark rfl io_1 rfl (Nat.le_of_ble_eq_true rfl) rfl (Nat.le_of_ble_eq_true rfl) ?_
  refine fs_Call.mono (fun v M1 hv => ?_) h
  obtain ⟨r1, rfl, h⟩ := hv
  show fs_A2 g m_Fs_after 8 8 [(0, fs_r 0), (1, fs_i x1), (2, fs_i x2)] [fs_i r1] M1 K
  refine a_if_ne (tgt := 13) d_Fs_after_8 rfl (fun c1 => ?_) (fun c1 => ?_)
  · have h := h.1 c1
    refine a_aload_n (j := 0) d_Fs_after_13 rfl rfl ?_
    refine b_getptr (q := 43) d_Fs_after_14 fl_Fs_43 io_0 rfl rfl rfl ?_
    refine a_aload_n (j := 0) d_Fs_after_17 rfl rfl ?_
    refine b_getptr (q := 31) d_Fs_after_18 fl_Fs_31 io_0 rfl rfl rfl ?_
    refine a_iconst d_Fs_after_21 (by unfold fs_in32; omega) ?_
    refine b_virtual (dc := 7) (ci := 1) (T := fs_T1) (N := 8) [fs_r 31, fs_i (-1)] [] d_Fs_after_22 ml_Fs_235 k_Course_run v_Course_run rfl io_43 rfl (Nat.le_of_ble_eq_true rfl) rfl (Nat.le_of_ble_eq_true rfl) ?_
    refine fs_Call.mono (fun v M2 hv => ?_) h
    obtain ⟨rfl, h⟩ := hv
    show fs_A2 g m_Fs_after 8 25 [(0, fs_r 0), (1, fs_i x1), (2, fs_i x2)] [] M2 K
    refine a_aload_n (j := 0) d_Fs_after_25 rfl rfl ?_
    refine b_getptr (q := 43) d_Fs_after_26 fl_Fs_43 io_0 rfl rfl rfl ?_
    refine b_getptr (q := 44) d_Fs_after_29 fl_Fs_245 io_43 rfl rfl rfl ?_
    refine a_iload_n (j := 1) d_Fs_after_32 rfl rfl ?_
    obtain ⟨o2, o3, h⟩ := h
    refine b_aaptr (q := 51 + x1) d_Fs_after_33 ia_44 (by decide) o2 o3 (aq_44 x1) ?_
    refine a_astore_n d_Fs_after_34 rfl (Nat.le_of_ble_eq_true rfl) ((ae_44 o2 o3)).1 [1, 2, 3, 0] rfl ?_
    refine a_iload_n (j := 2) d_Fs_after_35 rfl rfl ?_
    obtain ⟨hs36_0, hs36_1, hs36_2, hs36_3, hs36_4, hs36_5⟩ := h
    by_cases q36_0 : x2 = 0
    · have h := hs36_0 q36_0
      refine a_tableIn (tgt := 72) d_Fs_after_36 (by omega) (by omega) (by rw [q36_0]; rfl) rfl ?_
      refine a_aload_n (j := 3) d_Fs_after_72 rfl rfl ?_
      refine b_getfield (v := fs_i (M2 (51 + x1) 1)) d_Fs_after_73 fl_Fs_260 (ae_44 o2 o3) rfl ?_
      exact b_ireturn d_Fs_after_76 rfl rfl h
    ·
      by_cases q36_1 : x2 = 1
      · have h := hs36_1 q36_1
        refine a_tableIn (tgt := 77) d_Fs_after_36 (by omega) (by omega) (by rw [q36_1]; rfl) rfl ?_
        refine a_aload_n (j := 3) d_Fs_after_77 rfl rfl ?_
        refine b_getfield (v := fs_i (M2 (51 + x1) 2)) d_Fs_after_78 fl_Fs_263 (ae_44 o2 o3) rfl ?_
        exact b_ireturn d_Fs_after_81 rfl rfl h
      ·
        by_cases q36_2 : x2 = 2
        · have h := hs36_2 q36_2
          refine a_tableIn (tgt := 82) d_Fs_after_36 (by omega) (by omega) (by rw [q36_2]; rfl) rfl ?_
          refine a_aload_n (j := 3) d_Fs_after_82 rfl rfl ?_
          refine b_getfield (v := fs_i (M2 (51 + x1) 3)) d_Fs_after_83 fl_Fs_266 (ae_44 o2 o3) rfl ?_
          exact b_ireturn d_Fs_after_86 rfl rfl h
        ·
          by_cases q36_3 : x2 = 3
          · have h := hs36_3 q36_3
            refine a_tableIn (tgt := 87) d_Fs_after_36 (by omega) (by omega) (by rw [q36_3]; rfl) rfl ?_
            refine a_aload_n (j := 3) d_Fs_after_87 rfl rfl ?_
            refine b_getfield (v := fs_i (M2 (51 + x1) 4)) d_Fs_after_88 fl_Fs_269 (ae_44 o2 o3) rfl ?_
            exact b_ireturn d_Fs_after_91 rfl rfl h
          ·
            by_cases q36_4 : x2 = 4
            · have h := hs36_4 q36_4
              refine a_tableIn (tgt := 92) d_Fs_after_36 (by omega) (by omega) (by rw [q36_4]; rfl) rfl ?_
              refine a_aload_n (j := 3) d_Fs_after_92 rfl rfl ?_
              refine b_getfield (v := fs_i (M2 (51 + x1) 0)) d_Fs_after_93 fl_Fs_272 (ae_44 o2 o3) rfl ?_
              exact b_ireturn d_Fs_after_96 rfl rfl h
            ·
              have h := hs36_5 ⟨q36_0, q36_1, q36_2, q36_3, q36_4⟩
              refine a_tableOut (tgt := 97) d_Fs_after_36 (by omega) rfl ?_
              refine a_iconst d_Fs_after_97 (by unfold fs_in32; omega) ?_
              exact b_ireturn d_Fs_after_98 rfl rfl h
  · have h := h.2 c1
    refine a_iconst d_Fs_after_11 (by unfold fs_in32; omega) ?_
    exact b_ireturn d_Fs_after_12 rfl rfl h
set_option maxRecDepth 8000 in
set_option maxHeartbeats 4000000 in
theorem E_Fs_which {M : fs_M} {K : fs_K} {x1 : Int} 
    (h : ((x1 < 0 → K (some (fs_i (-1))) M) ∧ (¬ x1 < 0 → ((x1 ≤ 2 → fs_C2 g m_Course_run 7 [fs_r 43, fs_r 31, fs_i (-1)] M (fun v M1 => v = none ∧ ((¬ x1 = 2 → fs_A2 g m_Fs_which 8 40 [(0, fs_r 0), (1, fs_i x1), (2, fs_i 0), (3, fs_i 0)] [] M1 K) ∧ (x1 = 2 → K (some (fs_i (M1 43 7))) M1)))) ∧ (¬ x1 ≤ 2 → K (some (fs_i (-1))) M))))) :
    fs_C2 g m_Fs_which 8 [fs_r 0, fs_i x1] M K := by
  refine b_enter2 (ls := [(0, fs_r 0), (1, fs_i x1)]) (plainFor_of_name pn_Fs) (Nat.le_of_ble_eq_true rfl) rfl ?_
  refine a_iload_n (j := 1) d_Fs_which_0 rfl rfl ?_
  refine a_if_lt (tgt := 9) d_Fs_which_1 rfl (fun c1 => ?_) (fun c1 => ?_)
  · have h := h.1 c1
    refine a_iconst d_Fs_which_9 (by unfold fs_in32; omega) ?_
    exact b_ireturn d_Fs_which_10 rfl rfl h
  · have h := h.2 c1
    refine a_iload_n (j := 1) d_Fs_which_4 rfl rfl ?_
    refine a_iconst d_Fs_which_5 (by unfold fs_in32; omega) ?_
    refine a_icmp_le (tgt := 11) d_Fs_which_6 rfl (fun c2 => ?_) (fun c2 => ?_)
    · have h := h.1 c2
      refine a_aload_n (j := 0) d_Fs_which_11 rfl rfl ?_
      refine b_getptr (q := 43) d_Fs_which_12 fl_Fs_43 io_0 rfl rfl rfl ?_
      refine a_aload_n (j := 0) d_Fs_which_15 rfl rfl ?_
      refine b_getptr (q := 31) d_Fs_which_16 fl_Fs_31 io_0 rfl rfl rfl ?_
      refine a_iconst d_Fs_which_19 (by unfold fs_in32; omega) ?_
      refine b_virtual (dc := 7) (ci := 1) (T := fs_T1) (N := 8) [fs_r 31, fs_i (-1)] [] d_Fs_which_20 ml_Fs_235 k_Course_run v_Course_run rfl io_43 rfl (Nat.le_of_ble_eq_true rfl) rfl (Nat.le_of_ble_eq_true rfl) ?_
      refine fs_Call.mono (fun v M1 hv => ?_) h
      obtain ⟨rfl, h⟩ := hv
      show fs_A2 g m_Fs_which 8 23 [(0, fs_r 0), (1, fs_i x1)] [] M1 K
      refine a_iload_n (j := 1) d_Fs_which_23 rfl rfl ?_
      refine a_iconst d_Fs_which_24 (by unfold fs_in32; omega) ?_
      refine a_icmp_ne (tgt := 36) d_Fs_which_25 rfl (fun c3 => ?_) (fun c3 => ?_)
      · have h := h.1 c3
        refine a_iconst d_Fs_which_36 (by unfold fs_in32; omega) ?_
        refine a_istore_n d_Fs_which_37 rfl (Nat.le_of_ble_eq_true rfl) [1, 2, 0] rfl ?_
        refine a_iconst d_Fs_which_38 (by unfold fs_in32; omega) ?_
        refine a_istore_n d_Fs_which_39 rfl (Nat.le_of_ble_eq_true rfl) [1, 2, 3, 0] rfl ?_
        exact h
      · have h := h.2 c3
        refine a_aload_n (j := 0) d_Fs_which_28 rfl rfl ?_
        refine b_getptr (q := 43) d_Fs_which_29 fl_Fs_43 io_0 rfl rfl rfl ?_
        refine b_getfield (v := fs_i (M1 43 7)) d_Fs_which_32 fl_Fs_275 io_43 rfl ?_
        exact b_ireturn d_Fs_which_35 rfl rfl h
    · have h := h.2 c2
      refine a_iconst d_Fs_which_9 (by unfold fs_in32; omega) ?_
      exact b_ireturn d_Fs_which_10 rfl rfl h
set_option maxRecDepth 8000 in
set_option maxHeartbeats 4000000 in
theorem L_Fs_which_40 {M : fs_M} {K : fs_K} {x1 x2 x3 : Int} 
    (h : ((M 1 5 ≤ x3 → K (some (fs_i x2)) M) ∧ (¬ M 1 5 ≤ x3 → fs_C2 g m_Course_isDone 1 [fs_r 43, fs_i x3] M (fun v M2 => ∃ r2, v = some (fs_i r2) ∧ ((r2 = 0 → fs_A2 g m_Fs_which 8 88 [(0, fs_r 0), (1, fs_i x1), (2, fs_i x2), (3, fs_i x3)] [fs_i 0] M2 K) ∧ (¬ r2 = 0 → (0 ≤ x3 ∧ x3 < 6 ∧ ((M2 50 x3 ≤ M2 5 x3 → fs_A2 g m_Fs_which 8 88 [(0, fs_r 0), (1, fs_i x1), (2, fs_i x2), (3, fs_i x3)] [fs_i 0] M2 K) ∧ (¬ M2 50 x3 ≤ M2 5 x3 → fs_A2 g m_Fs_which 8 88 [(0, fs_r 0), (1, fs_i x1), (2, fs_i x2), (3, fs_i x3)] [fs_i 1] M2 K))))))))) :
    fs_A2 g m_Fs_which 8 40 [(0, fs_r 0), (1, fs_i x1), (2, fs_i x2), (3, fs_i x3)] [] M K := by
  refine a_iload_n (j := 3) d_Fs_which_40 rfl rfl ?_
  refine a_aload_n (j := 0) d_Fs_which_41 rfl rfl ?_
  refine b_getptr (q := 1) d_Fs_which_42 fl_Fs_12 io_0 rfl rfl rfl ?_
  refine b_getfield (v := fs_i (M 1 5)) d_Fs_which_45 fl_Fs_137 io_1 rfl ?_
  refine a_icmp_ge (tgt := 125) d_Fs_which_48 rfl (fun c4 => ?_) (fun c4 => ?_)
  · have h := h.1 c4
    refine a_iload_n (j := 2) d_Fs_which_125 rfl rfl ?_
    exact b_ireturn d_Fs_which_126 rfl rfl h
  · have h := h.2 c4
    refine a_aload_n (j := 0) d_Fs_which_51 rfl rfl ?_
    refine b_getptr (q := 43) d_Fs_which_52 fl_Fs_43 io_0 rfl rfl rfl ?_
    refine a_iload_n (j := 3) d_Fs_which_55 rfl rfl ?_
    refine b_virtual (dc := 1) (ci := 1) (T := fs_T1) (N := 8) [fs_i x3] [] d_Fs_which_56 ml_Fs_278 k_Course_isDone v_Course_isDone rfl io_43 rfl (Nat.le_of_ble_eq_true rfl) rfl (Nat.le_of_ble_eq_true rfl) ?_
    refine fs_Call.mono (fun v M2 hv => ?_) h
    obtain ⟨r2, rfl, h⟩ := hv
    show fs_A2 g m_Fs_which 8 59 [(0, fs_r 0), (1, fs_i x1), (2, fs_i x2), (3, fs_i x3)] [fs_i r2] M2 K
    refine a_if_eq (tgt := 87) d_Fs_which_59 rfl (fun c5 => ?_) (fun c5 => ?_)
    · have h := h.1 c5
      refine a_iconst d_Fs_which_87 (by unfold fs_in32; omega) ?_
      exact h
    · have h := h.2 c5
      refine a_aload_n (j := 0) d_Fs_which_62 rfl rfl ?_
      refine b_getptr (q := 43) d_Fs_which_63 fl_Fs_43 io_0 rfl rfl rfl ?_
      refine b_getptr (q := 50) d_Fs_which_66 fl_Fs_242 io_43 rfl rfl rfl ?_
      refine a_iload_n (j := 3) d_Fs_which_69 rfl rfl ?_
      obtain ⟨o6, o7, h⟩ := h
      refine b_iaload (v := M2 50 x3) d_Fs_which_70 ia_50 o6 o7 rfl ?_
      refine a_aload_n (j := 0) d_Fs_which_71 rfl rfl ?_
      refine b_getptr (q := 1) d_Fs_which_72 fl_Fs_12 io_0 rfl rfl rfl ?_
      refine b_getptr (q := 5) d_Fs_which_75 fl_Fs_167 io_1 rfl rfl rfl ?_
      refine a_iload_n (j := 3) d_Fs_which_78 rfl rfl ?_
      refine b_iaload (v := M2 5 x3) d_Fs_which_79 ia_5 o6 o7 rfl ?_
      refine a_icmp_le (tgt := 87) d_Fs_which_80 rfl (fun c8 => ?_) (fun c8 => ?_)
      · have h := h.1 c8
        refine a_iconst d_Fs_which_87 (by unfold fs_in32; omega) ?_
        exact h
      · have h := h.2 c8
        refine a_iconst d_Fs_which_83 (by unfold fs_in32; omega) ?_
        refine a_goto (tgt := 88) d_Fs_which_84 rfl ?_
        exact h
set_option maxRecDepth 8000 in
set_option maxHeartbeats 4000000 in
theorem L_Fs_which_88 {M : fs_M} {K : fs_K} {x1 x2 x3 x100 : Int} 
    (h : ((¬ x1 = 0 → fs_C2 g m_Course_isDone 1 [fs_r 43, fs_i x3] M (fun v M3 => ∃ r3, v = some (fs_i r3) ∧ ((¬ r3 = 0 → fs_A2 g m_Fs_which 8 40 [(0, fs_r 0), (1, fs_i x1), (2, fs_i x2), (3, fs_i (fs_w32 (x3 + 1)))] [] M3 K) ∧ (r3 = 0 → fs_A2 g m_Fs_which 8 113 [(0, fs_r 0), (1, fs_i x1), (2, fs_i x2), (3, fs_i x3)] [] M3 K)))) ∧ (x1 = 0 → ((x100 = 0 → fs_A2 g m_Fs_which 8 40 [(0, fs_r 0), (1, fs_i x1), (2, fs_i x2), (3, fs_i (fs_w32 (x3 + 1)))] [] M K) ∧ (¬ x100 = 0 → fs_A2 g m_Fs_which 8 113 [(0, fs_r 0), (1, fs_i x1), (2, fs_i x2), (3, fs_i x3)] [] M K))))) :
    fs_A2 g m_Fs_which 8 88 [(0, fs_r 0), (1, fs_i x1), (2, fs_i x2), (3, fs_i x3)] [fs_i x100] M K := by
  refine a_istore d_Fs_which_88 (Nat.le_of_ble_eq_true rfl) [1, 2, 3, 4, 0] rfl ?_
  refine a_iload_n (j := 1) d_Fs_which_90 rfl rfl ?_
  refine a_if_ne (tgt := 102) d_Fs_which_91 rfl (fun c9 => ?_) (fun c9 => ?_)
  · have h := h.1 c9
    refine a_aload_n (j := 0) d_Fs_which_102 rfl rfl ?_
    refine b_getptr (q := 43) d_Fs_which_103 fl_Fs_43 io_0 rfl rfl rfl ?_
    refine a_iload_n (j := 3) d_Fs_which_106 rfl rfl ?_
    refine b_virtual (dc := 1) (ci := 1) (T := fs_T1) (N := 8) [fs_i x3] [] d_Fs_which_107 ml_Fs_278 k_Course_isDone v_Course_isDone rfl io_43 rfl (Nat.le_of_ble_eq_true rfl) rfl (Nat.le_of_ble_eq_true rfl) ?_
    refine fs_Call.mono (fun v M3 hv => ?_) h
    obtain ⟨r3, rfl, h⟩ := hv
    show fs_A2 g m_Fs_which 8 110 [(0, fs_r 0), (1, fs_i x1), (2, fs_i x2), (3, fs_i x3), (4, fs_i x100)] [fs_i r3] M3 K
    refine a_if_ne (tgt := 119) d_Fs_which_110 rfl (fun c10 => ?_) (fun c10 => ?_)
    · have h := h.1 c10
      refine a_iinc (j := 3) d_Fs_which_119 rfl (Nat.le_of_ble_eq_true rfl) [1, 2, 3, 0, 4] rfl ?_
      refine a_goto (tgt := 40) d_Fs_which_122 rfl ?_
      refine a_sub [0, 1, 2, 3] rfl ?_
      exact h
    · have h := h.2 c10
      refine a_sub [0, 1, 2, 3] rfl ?_
      exact h
  · have h := h.2 c9
    refine a_iload (j := 4) d_Fs_which_94 rfl ?_
    refine a_if_eq (tgt := 119) d_Fs_which_96 rfl (fun c11 => ?_) (fun c11 => ?_)
    · have h := h.1 c11
      refine a_iinc (j := 3) d_Fs_which_119 rfl (Nat.le_of_ble_eq_true rfl) [1, 2, 3, 0, 4] rfl ?_
      refine a_goto (tgt := 40) d_Fs_which_122 rfl ?_
      refine a_sub [0, 1, 2, 3] rfl ?_
      exact h
    · have h := h.2 c11
      refine a_goto (tgt := 113) d_Fs_which_99 rfl ?_
      refine a_sub [0, 1, 2, 3] rfl ?_
      exact h
set_option maxRecDepth 8000 in
set_option maxHeartbeats 4000000 in
theorem L_Fs_which_113 {M : fs_M} {K : fs_K} {x1 x2 x3 : Int} 
    (h : fs_A2 g m_Fs_which 8 40 [(0, fs_r 0), (1, fs_i x1), (2, fs_i (fs_or x2 (fs_shl 1 x3))), (3, fs_i (fs_w32 (x3 + 1)))] [] M K) :
    fs_A2 g m_Fs_which 8 113 [(0, fs_r 0), (1, fs_i x1), (2, fs_i x2), (3, fs_i x3)] [] M K := by
  refine a_iload_n (j := 2) d_Fs_which_113 rfl rfl ?_
  refine a_iconst d_Fs_which_114 (by unfold fs_in32; omega) ?_
  refine a_iload_n (j := 3) d_Fs_which_115 rfl rfl ?_
  refine a_ishl d_Fs_which_116 ?_
  refine a_ior d_Fs_which_117 ?_
  refine a_istore_n d_Fs_which_118 rfl (Nat.le_of_ble_eq_true rfl) [1, 2, 0, 3] rfl ?_
  refine a_iinc (j := 3) d_Fs_which_119 rfl (Nat.le_of_ble_eq_true rfl) [1, 2, 3, 0] rfl ?_
  refine a_goto (tgt := 40) d_Fs_which_122 rfl ?_
  exact h
set_option maxRecDepth 8000 in
set_option maxHeartbeats 4000000 in
theorem E_Fs_night {M : fs_M} {K : fs_K} 
    (h : fs_C2 g m_Course_begin 6 [fs_r 43, fs_r 31, fs_i (-1)] M (fun v M1 => v = none ∧ fs_C2 g m_Night_pass 7 [fs_r 54, fs_r 43] M1 (fun v M2 => v = none ∧ fs_C2 g m_Course_gained 3 [fs_r 43, fs_i (M2 31 2)] M2 (fun v M3 => ∃ r3, v = some (fs_i r3) ∧ K (some (fs_i r3)) M3)))) :
    fs_C2 g m_Fs_night 8 [fs_r 0] M K := by
  refine b_enter2 (ls := [(0, fs_r 0)]) (plainFor_of_name pn_Fs) (Nat.le_of_ble_eq_true rfl) rfl ?_
  refine a_aload_n (j := 0) d_Fs_night_0 rfl rfl ?_
  refine b_getptr (q := 43) d_Fs_night_1 fl_Fs_43 io_0 rfl rfl rfl ?_
  refine a_aload_n (j := 0) d_Fs_night_4 rfl rfl ?_
  refine b_getptr (q := 31) d_Fs_night_5 fl_Fs_31 io_0 rfl rfl rfl ?_
  refine a_iconst d_Fs_night_8 (by unfold fs_in32; omega) ?_
  refine b_virtual (dc := 6) (ci := 1) (T := fs_T1) (N := 8) [fs_r 31, fs_i (-1)] [] d_Fs_night_9 ml_Fs_281 k_Course_begin v_Course_begin rfl io_43 rfl (Nat.le_of_ble_eq_true rfl) rfl (Nat.le_of_ble_eq_true rfl) ?_
  refine fs_Call.mono (fun v M1 hv => ?_) h
  obtain ⟨rfl, h⟩ := hv
  show fs_A2 g m_Fs_night 8 12 [(0, fs_r 0)] [] M1 K
  refine a_aload_n (j := 0) d_Fs_night_12 rfl rfl ?_
  refine b_getptr (q := 54) d_Fs_night_13 fl_Fs_50 io_0 rfl rfl rfl ?_
  refine a_aload_n (j := 0) d_Fs_night_16 rfl rfl ?_
  refine b_getptr (q := 43) d_Fs_night_17 fl_Fs_43 io_0 rfl rfl rfl ?_
  refine b_virtual (dc := 7) (ci := 4) (T := fs_T4) (N := 4) [fs_r 43] [] d_Fs_night_20 ml_Fs_284 k_Night_pass v_Night_pass rfl io_54 rfl (Nat.le_of_ble_eq_true rfl) rfl (Nat.le_of_ble_eq_true rfl) ?_
  refine fs_Call.mono (fun v M2 hv => ?_) h
  obtain ⟨rfl, h⟩ := hv
  show fs_A2 g m_Fs_night 8 23 [(0, fs_r 0)] [] M2 K
  refine a_aload_n (j := 0) d_Fs_night_23 rfl rfl ?_
  refine b_getptr (q := 43) d_Fs_night_24 fl_Fs_43 io_0 rfl rfl rfl ?_
  refine a_aload_n (j := 0) d_Fs_night_27 rfl rfl ?_
  refine b_getptr (q := 31) d_Fs_night_28 fl_Fs_31 io_0 rfl rfl rfl ?_
  refine b_getfield (v := fs_i (M2 31 2)) d_Fs_night_31 fl_Fs_177 io_31 rfl ?_
  refine b_virtual (dc := 3) (ci := 1) (T := fs_T1) (N := 8) [fs_i (M2 31 2)] [] d_Fs_night_34 ml_Fs_257 k_Course_gained v_Course_gained rfl io_43 rfl (Nat.le_of_ble_eq_true rfl) rfl (Nat.le_of_ble_eq_true rfl) ?_
  refine fs_Call.mono (fun v M3 hv => ?_) h
  obtain ⟨r3, rfl, h⟩ := hv
  show fs_A2 g m_Fs_night 8 37 [(0, fs_r 0)] [fs_i r3] M3 K
  exact b_ireturn d_Fs_night_37 rfl rfl h
set_option maxRecDepth 8000 in
set_option maxHeartbeats 4000000 in
theorem E_Fs_was {M : fs_M} {K : fs_K} {x1 x2 : Int} 
    (h : fs_C2 g m_Script_hasHouse 1 [fs_r 1, fs_i x1] M (fun v M1 => ∃ r1, v = some (fs_i r1) ∧ ((r1 = 0 → K (some (fs_i (-1))) M1) ∧ (¬ r1 = 0 → ((x2 < 0 → K (some (fs_i (-1))) M1) ∧ (¬ x2 < 0 → ((x2 ≤ 1 → ((¬ M1 54 2 = 0 → ((¬ x2 = 0 → (0 ≤ x1 ∧ x1 < 6 ∧ K (some (fs_i (M1 56 x1))) M1)) ∧ (x2 = 0 → (0 ≤ x1 ∧ x1 < 6 ∧ K (some (fs_i (M1 55 x1))) M1)))) ∧ (M1 54 2 = 0 → K (some (fs_i (-4))) M1))) ∧ (¬ x2 ≤ 1 → K (some (fs_i (-1))) M1)))))))) :
    fs_C2 g m_Fs_was 2 [fs_r 0, fs_i x1, fs_i x2] M K := by
  refine b_enter2 (ls := [(0, fs_r 0), (1, fs_i x1), (2, fs_i x2)]) (plainFor_of_name pn_Fs) (Nat.le_of_ble_eq_true rfl) rfl ?_
  refine a_aload_n (j := 0) d_Fs_was_0 rfl rfl ?_
  refine b_getptr (q := 1) d_Fs_was_1 fl_Fs_12 io_0 rfl rfl rfl ?_
  refine a_iload_n (j := 1) d_Fs_was_4 rfl rfl ?_
  refine b_virtual (dc := 1) (ci := 8) (T := fs_T8) (N := 13) [fs_i x1] [] d_Fs_was_5 ml_Fs_150 k_Script_hasHouse v_Script_hasHouse rfl io_1 rfl (Nat.le_of_ble_eq_true rfl) rfl (Nat.le_of_ble_eq_true rfl) ?_
  refine fs_Call.mono (fun v M1 hv => ?_) h
  obtain ⟨r1, rfl, h⟩ := hv
  show fs_A2 g m_Fs_was 2 8 [(0, fs_r 0), (1, fs_i x1), (2, fs_i x2)] [fs_i r1] M1 K
  refine a_if_eq (tgt := 20) d_Fs_was_8 rfl (fun c1 => ?_) (fun c1 => ?_)
  · have h := h.1 c1
    refine a_iconst d_Fs_was_20 (by unfold fs_in32; omega) ?_
    exact b_ireturn d_Fs_was_21 rfl rfl h
  · have h := h.2 c1
    refine a_iload_n (j := 2) d_Fs_was_11 rfl rfl ?_
    refine a_if_lt (tgt := 20) d_Fs_was_12 rfl (fun c2 => ?_) (fun c2 => ?_)
    · have h := h.1 c2
      refine a_iconst d_Fs_was_20 (by unfold fs_in32; omega) ?_
      exact b_ireturn d_Fs_was_21 rfl rfl h
    · have h := h.2 c2
      refine a_iload_n (j := 2) d_Fs_was_15 rfl rfl ?_
      refine a_iconst d_Fs_was_16 (by unfold fs_in32; omega) ?_
      refine a_icmp_le (tgt := 22) d_Fs_was_17 rfl (fun c3 => ?_) (fun c3 => ?_)
      · have h := h.1 c3
        refine a_aload_n (j := 0) d_Fs_was_22 rfl rfl ?_
        refine b_getptr (q := 54) d_Fs_was_23 fl_Fs_50 io_0 rfl rfl rfl ?_
        refine b_getfield (v := fs_i (M1 54 2)) d_Fs_was_26 fl_Fs_288 io_54 rfl ?_
        refine a_if_ne (tgt := 35) d_Fs_was_29 rfl (fun c4 => ?_) (fun c4 => ?_)
        · have h := h.1 c4
          refine a_iload_n (j := 2) d_Fs_was_35 rfl rfl ?_
          refine a_if_ne (tgt := 51) d_Fs_was_36 rfl (fun c5 => ?_) (fun c5 => ?_)
          · have h := h.1 c5
            refine a_aload_n (j := 0) d_Fs_was_51 rfl rfl ?_
            refine b_getptr (q := 54) d_Fs_was_52 fl_Fs_50 io_0 rfl rfl rfl ?_
            refine b_getptr (q := 56) d_Fs_was_55 fl_Fs_292 io_54 rfl rfl rfl ?_
            refine a_iload_n (j := 1) d_Fs_was_58 rfl rfl ?_
            obtain ⟨o6, o7, h⟩ := h
            refine b_iaload (v := M1 56 x1) d_Fs_was_59 ia_56 o6 o7 rfl ?_
            exact b_ireturn d_Fs_was_60 rfl rfl h
          · have h := h.2 c5
            refine a_aload_n (j := 0) d_Fs_was_39 rfl rfl ?_
            refine b_getptr (q := 54) d_Fs_was_40 fl_Fs_50 io_0 rfl rfl rfl ?_
            refine b_getptr (q := 55) d_Fs_was_43 fl_Fs_291 io_54 rfl rfl rfl ?_
            refine a_iload_n (j := 1) d_Fs_was_46 rfl rfl ?_
            obtain ⟨o8, o9, h⟩ := h
            refine b_iaload (v := M1 55 x1) d_Fs_was_47 ia_55 o8 o9 rfl ?_
            refine a_goto (tgt := 60) d_Fs_was_48 rfl ?_
            exact b_ireturn d_Fs_was_60 rfl rfl h
        · have h := h.2 c4
          refine a_bipush d_Fs_was_32 (by decide) ?_
          exact b_ireturn d_Fs_was_34 rfl rfl h
      · have h := h.2 c3
        refine a_iconst d_Fs_was_20 (by unfold fs_in32; omega) ?_
        exact b_ireturn d_Fs_was_21 rfl rfl h
set_option maxRecDepth 8000 in
set_option maxHeartbeats 4000000 in
theorem E_Fs_chance {M : fs_M} {K : fs_K} {x1 x2 : Int} 
    (h : ((x1 < 0 → K (some (fs_i (-1))) M) ∧ (¬ x1 < 0 → fs_C2 g m_Script_hasHouse 1 [fs_r 1, fs_i x2] M (fun v M1 => ∃ r1, v = some (fs_i r1) ∧ ((¬ r1 = 0 → fs_C2 g m_Night_clear 1 [fs_r 57, fs_i x1] M1 (fun v M2 => v = none ∧ fs_A2 g m_Fs_chance 8 30 [(0, fs_r 0), (2, fs_i x2), (3, fs_i 0), (4, fs_i 0)] [] M2 K)) ∧ (r1 = 0 → K (some (fs_i (-1))) M1)))))) :
    fs_C2 g m_Fs_chance 8 [fs_r 0, fs_i x1, fs_i x2] M K := by
  refine b_enter2 (ls := [(0, fs_r 0), (1, fs_i x1), (2, fs_i x2)]) (plainFor_of_name pn_Fs) (Nat.le_of_ble_eq_true rfl) rfl ?_
  refine a_iload_n (j := 1) d_Fs_chance_0 rfl rfl ?_
  refine a_if_lt (tgt := 15) d_Fs_chance_1 rfl (fun c1 => ?_) (fun c1 => ?_)
  · have h := h.1 c1
    refine a_iconst d_Fs_chance_15 (by unfold fs_in32; omega) ?_
    exact b_ireturn d_Fs_chance_16 rfl rfl h
  · have h := h.2 c1
    refine a_aload_n (j := 0) d_Fs_chance_4 rfl rfl ?_
    refine b_getptr (q := 1) d_Fs_chance_5 fl_Fs_12 io_0 rfl rfl rfl ?_
    refine a_iload_n (j := 2) d_Fs_chance_8 rfl rfl ?_
    refine b_virtual (dc := 1) (ci := 8) (T := fs_T8) (N := 13) [fs_i x2] [] d_Fs_chance_9 ml_Fs_150 k_Script_hasHouse v_Script_hasHouse rfl io_1 rfl (Nat.le_of_ble_eq_true rfl) rfl (Nat.le_of_ble_eq_true rfl) ?_
    refine fs_Call.mono (fun v M1 hv => ?_) h
    obtain ⟨r1, rfl, h⟩ := hv
    show fs_A2 g m_Fs_chance 8 12 [(0, fs_r 0), (1, fs_i x1), (2, fs_i x2)] [fs_i r1] M1 K
    refine a_if_ne (tgt := 17) d_Fs_chance_12 rfl (fun c2 => ?_) (fun c2 => ?_)
    · have h := h.1 c2
      refine a_aload_n (j := 0) d_Fs_chance_17 rfl rfl ?_
      refine b_getptr (q := 57) d_Fs_chance_18 fl_Fs_54 io_0 rfl rfl rfl ?_
      refine a_iload_n (j := 1) d_Fs_chance_21 rfl rfl ?_
      refine b_virtual (dc := 1) (ci := 4) (T := fs_T4) (N := 4) [fs_i x1] [] d_Fs_chance_22 ml_Fs_120 k_Night_clear v_Night_clear rfl io_57 rfl (Nat.le_of_ble_eq_true rfl) rfl (Nat.le_of_ble_eq_true rfl) ?_
      refine fs_Call.mono (fun v M2 hv => ?_) h
      obtain ⟨rfl, h⟩ := hv
      show fs_A2 g m_Fs_chance 8 25 [(0, fs_r 0), (1, fs_i x1), (2, fs_i x2)] [] M2 K
      refine a_iconst d_Fs_chance_25 (by unfold fs_in32; omega) ?_
      refine a_istore_n d_Fs_chance_26 rfl (Nat.le_of_ble_eq_true rfl) [1, 2, 3, 0] rfl ?_
      refine a_iconst d_Fs_chance_27 (by unfold fs_in32; omega) ?_
      refine a_istore d_Fs_chance_28 (Nat.le_of_ble_eq_true rfl) [1, 2, 3, 4, 0] rfl ?_
      refine a_sub [0, 2, 3, 4] rfl ?_
      exact h
    · have h := h.2 c2
      refine a_iconst d_Fs_chance_15 (by unfold fs_in32; omega) ?_
      exact b_ireturn d_Fs_chance_16 rfl rfl h
set_option maxRecDepth 8000 in
set_option maxHeartbeats 4000000 in
theorem L_Fs_chance_30 {M : fs_M} {K : fs_K} {x2 x3 x4 : Int} 
    (h : ((10 ≤ x4 → K (some (fs_i x3)) M) ∧ (¬ 10 ≤ x4 → fs_C2 g m_Course_begin 6 [fs_r 43, fs_r 31, fs_i (-1)] M (fun v M3 => v = none ∧ fs_C2 g m_Night_pass 7 [fs_r 57, fs_r 43] M3 (fun v M4 => v = none ∧ fs_C2 g m_Course_isInTime 2 [fs_r 43, fs_i x2] M4 (fun v M5 => ∃ r5, v = some (fs_i r5) ∧ ((r5 = 0 → fs_A2 g m_Fs_chance 8 30 [(0, fs_r 0), (2, fs_i x2), (3, fs_i x3), (4, fs_i (fs_w32 (x4 + 1)))] [] M5 K) ∧ (¬ r5 = 0 → fs_A2 g m_Fs_chance 8 30 [(0, fs_r 0), (2, fs_i x2), (3, fs_i (fs_w32 (x3 + 1))), (4, fs_i (fs_w32 (x4 + 1)))] [] M5 K)))))))) :
    fs_A2 g m_Fs_chance 8 30 [(0, fs_r 0), (2, fs_i x2), (3, fs_i x3), (4, fs_i x4)] [] M K := by
  refine a_iload (j := 3) d_Fs_chance_30 rfl ?_
  refine a_bipush d_Fs_chance_32 (by decide) ?_
  refine a_icmp_ge (tgt := 80) d_Fs_chance_34 rfl (fun c3 => ?_) (fun c3 => ?_)
  · have h := h.1 c3
    refine a_iload_n (j := 2) d_Fs_chance_80 rfl rfl ?_
    exact b_ireturn d_Fs_chance_81 rfl rfl h
  · have h := h.2 c3
    refine a_aload_n (j := 0) d_Fs_chance_37 rfl rfl ?_
    refine b_getptr (q := 43) d_Fs_chance_38 fl_Fs_43 io_0 rfl rfl rfl ?_
    refine a_aload_n (j := 0) d_Fs_chance_41 rfl rfl ?_
    refine b_getptr (q := 31) d_Fs_chance_42 fl_Fs_31 io_0 rfl rfl rfl ?_
    refine a_iconst d_Fs_chance_45 (by unfold fs_in32; omega) ?_
    refine b_virtual (dc := 6) (ci := 1) (T := fs_T1) (N := 8) [fs_r 31, fs_i (-1)] [] d_Fs_chance_46 ml_Fs_281 k_Course_begin v_Course_begin rfl io_43 rfl (Nat.le_of_ble_eq_true rfl) rfl (Nat.le_of_ble_eq_true rfl) ?_
    refine fs_Call.mono (fun v M3 hv => ?_) h
    obtain ⟨rfl, h⟩ := hv
    show fs_A2 g m_Fs_chance 8 49 [(0, fs_r 0), (2, fs_i x2), (3, fs_i x3), (4, fs_i x4)] [] M3 K
    refine a_aload_n (j := 0) d_Fs_chance_49 rfl rfl ?_
    refine b_getptr (q := 57) d_Fs_chance_50 fl_Fs_54 io_0 rfl rfl rfl ?_
    refine a_aload_n (j := 0) d_Fs_chance_53 rfl rfl ?_
    refine b_getptr (q := 43) d_Fs_chance_54 fl_Fs_43 io_0 rfl rfl rfl ?_
    refine b_virtual (dc := 7) (ci := 4) (T := fs_T4) (N := 4) [fs_r 43] [] d_Fs_chance_57 ml_Fs_284 k_Night_pass v_Night_pass rfl io_57 rfl (Nat.le_of_ble_eq_true rfl) rfl (Nat.le_of_ble_eq_true rfl) ?_
    refine fs_Call.mono (fun v M4 hv => ?_) h
    obtain ⟨rfl, h⟩ := hv
    show fs_A2 g m_Fs_chance 8 60 [(0, fs_r 0), (2, fs_i x2), (3, fs_i x3), (4, fs_i x4)] [] M4 K
    refine a_aload_n (j := 0) d_Fs_chance_60 rfl rfl ?_
    refine b_getptr (q := 43) d_Fs_chance_61 fl_Fs_43 io_0 rfl rfl rfl ?_
    refine a_iload_n (j := 1) d_Fs_chance_64 rfl rfl ?_
    refine b_virtual (dc := 2) (ci := 1) (T := fs_T1) (N := 8) [fs_i x2] [] d_Fs_chance_65 ml_Fs_293 k_Course_isInTime v_Course_isInTime rfl io_43 rfl (Nat.le_of_ble_eq_true rfl) rfl (Nat.le_of_ble_eq_true rfl) ?_
    refine fs_Call.mono (fun v M5 hv => ?_) h
    obtain ⟨r5, rfl, h⟩ := hv
    show fs_A2 g m_Fs_chance 8 68 [(0, fs_r 0), (2, fs_i x2), (3, fs_i x3), (4, fs_i x4)] [fs_i r5] M5 K
    refine a_if_eq (tgt := 74) d_Fs_chance_68 rfl (fun c4 => ?_) (fun c4 => ?_)
    · have h := h.1 c4
      refine a_iinc (j := 3) d_Fs_chance_74 rfl (Nat.le_of_ble_eq_true rfl) [1, 2, 3, 0] rfl ?_
      refine a_goto (tgt := 30) d_Fs_chance_77 rfl ?_
      exact h
    · have h := h.2 c4
      refine a_iinc (j := 2) d_Fs_chance_71 rfl (Nat.le_of_ble_eq_true rfl) [1, 2, 0, 3] rfl ?_
      refine a_iinc (j := 3) d_Fs_chance_74 rfl (Nat.le_of_ble_eq_true rfl) [1, 2, 3, 0] rfl ?_
      refine a_goto (tgt := 30) d_Fs_chance_77 rfl ?_
      exact h
set_option maxRecDepth 8000 in
set_option maxHeartbeats 4000000 in
theorem E_Fs_best {M : fs_M} {K : fs_K} {x1 : Int} 
    (h : ((x1 < 0 → K (some (fs_i (-1))) M) ∧ (¬ x1 < 0 → ((x1 ≤ M 1 9 → fs_C2 g m_Book_write 19 [fs_r 60, fs_r 31] M (fun v M1 => v = none ∧ fs_C2 g m_Book_bestGain 4 [fs_r 60, fs_i x1] M1 (fun v M2 => ∃ r2, v = some (fs_i r2) ∧ K (some (fs_i r2)) M2))) ∧ (¬ x1 ≤ M 1 9 → K (some (fs_i (-1))) M))))) :
    fs_C2 g m_Fs_best 20 [fs_r 0, fs_i x1] M K := by
  refine b_enter2 (ls := [(0, fs_r 0), (1, fs_i x1)]) (plainFor_of_name pn_Fs) (Nat.le_of_ble_eq_true rfl) rfl ?_
  refine a_iload_n (j := 1) d_Fs_best_0 rfl rfl ?_
  refine a_if_lt (tgt := 15) d_Fs_best_1 rfl (fun c1 => ?_) (fun c1 => ?_)
  · have h := h.1 c1
    refine a_iconst d_Fs_best_15 (by unfold fs_in32; omega) ?_
    exact b_ireturn d_Fs_best_16 rfl rfl h
  · have h := h.2 c1
    refine a_iload_n (j := 1) d_Fs_best_4 rfl rfl ?_
    refine a_aload_n (j := 0) d_Fs_best_5 rfl rfl ?_
    refine b_getptr (q := 1) d_Fs_best_6 fl_Fs_12 io_0 rfl rfl rfl ?_
    refine b_getfield (v := fs_i (M 1 9)) d_Fs_best_9 fl_Fs_147 io_1 rfl ?_
    refine a_icmp_le (tgt := 17) d_Fs_best_12 rfl (fun c2 => ?_) (fun c2 => ?_)
    · have h := h.1 c2
      refine a_aload_n (j := 0) d_Fs_best_17 rfl rfl ?_
      refine b_getptr (q := 60) d_Fs_best_18 fl_Fs_62 io_0 rfl rfl rfl ?_
      refine a_aload_n (j := 0) d_Fs_best_21 rfl rfl ?_
      refine b_getptr (q := 31) d_Fs_best_22 fl_Fs_31 io_0 rfl rfl rfl ?_
      refine b_virtual (dc := 19) (ci := 0) (T := fs_T0) (N := 15) [fs_r 31] [] d_Fs_best_25 ml_Fs_296 k_Book_write v_Book_write rfl io_60 rfl (Nat.le_of_ble_eq_true rfl) rfl (Nat.le_of_ble_eq_true rfl) ?_
      refine fs_Call.mono (fun v M1 hv => ?_) h
      obtain ⟨rfl, h⟩ := hv
      show fs_A2 g m_Fs_best 20 28 [(0, fs_r 0), (1, fs_i x1)] [] M1 K
      refine a_aload_n (j := 0) d_Fs_best_28 rfl rfl ?_
      refine b_getptr (q := 60) d_Fs_best_29 fl_Fs_62 io_0 rfl rfl rfl ?_
      refine a_iload_n (j := 1) d_Fs_best_32 rfl rfl ?_
      refine b_virtual (dc := 4) (ci := 0) (T := fs_T0) (N := 15) [fs_i x1] [] d_Fs_best_33 ml_Fs_299 k_Book_bestGain v_Book_bestGain rfl io_60 rfl (Nat.le_of_ble_eq_true rfl) rfl (Nat.le_of_ble_eq_true rfl) ?_
      refine fs_Call.mono (fun v M2 hv => ?_) h
      obtain ⟨r2, rfl, h⟩ := hv
      show fs_A2 g m_Fs_best 20 36 [(0, fs_r 0), (1, fs_i x1)] [fs_i r2] M2 K
      exact b_ireturn d_Fs_best_36 rfl rfl h
    · have h := h.2 c2
      refine a_iconst d_Fs_best_15 (by unfold fs_in32; omega) ?_
      exact b_ireturn d_Fs_best_16 rfl rfl h
set_option maxRecDepth 8000 in
set_option maxHeartbeats 4000000 in
theorem E_Fs_chosen {M : fs_M} {K : fs_K} {x1 x2 x3 : Int} 
    (h : ((x1 < 0 → K (some (fs_i (-1))) M) ∧ (¬ x1 < 0 → ((M 1 9 < x1 → K (some (fs_i (-1))) M) ∧ (¬ M 1 9 < x1 → ((x2 < 0 → K (some (fs_i (-1))) M) ∧ (¬ x2 < 0 → ((x1 ≤ x2 → K (some (fs_i (-1))) M) ∧ (¬ x1 ≤ x2 → ((0 ≤ x3 → fs_C2 g m_Book_write 19 [fs_r 60, fs_r 31] M (fun v M1 => v = none ∧ fs_C2 g m_Book_chooseBest 4 [fs_r 60, fs_i x1] M1 (fun v M2 => v = none ∧ (x2 < 3 ∧ fs_C2 g m_Book_houseOf 1 [fs_r 60, fs_i (M2 82 x2), fs_i x3] M2 (fun v M3 => ∃ r3, v = some (fs_i r3) ∧ K (some (fs_i r3)) M3))))) ∧ (¬ 0 ≤ x3 → K (some (fs_i (-1))) M))))))))))) :
    fs_C2 g m_Fs_chosen 20 [fs_r 0, fs_i x1, fs_i x2, fs_i x3] M K := by
  refine b_enter2 (ls := [(0, fs_r 0), (1, fs_i x1), (2, fs_i x2), (3, fs_i x3)]) (plainFor_of_name pn_Fs) (Nat.le_of_ble_eq_true rfl) rfl ?_
  refine a_iload_n (j := 1) d_Fs_chosen_0 rfl rfl ?_
  refine a_if_lt (tgt := 28) d_Fs_chosen_1 rfl (fun c1 => ?_) (fun c1 => ?_)
  · have h := h.1 c1
    refine a_iconst d_Fs_chosen_28 (by unfold fs_in32; omega) ?_
    exact b_ireturn d_Fs_chosen_29 rfl rfl h
  · have h := h.2 c1
    refine a_iload_n (j := 1) d_Fs_chosen_4 rfl rfl ?_
    refine a_aload_n (j := 0) d_Fs_chosen_5 rfl rfl ?_
    refine b_getptr (q := 1) d_Fs_chosen_6 fl_Fs_12 io_0 rfl rfl rfl ?_
    refine b_getfield (v := fs_i (M 1 9)) d_Fs_chosen_9 fl_Fs_147 io_1 rfl ?_
    refine a_icmp_gt (tgt := 28) d_Fs_chosen_12 rfl (fun c2 => ?_) (fun c2 => ?_)
    · have h := h.1 c2
      refine a_iconst d_Fs_chosen_28 (by unfold fs_in32; omega) ?_
      exact b_ireturn d_Fs_chosen_29 rfl rfl h
    · have h := h.2 c2
      refine a_iload_n (j := 2) d_Fs_chosen_15 rfl rfl ?_
      refine a_if_lt (tgt := 28) d_Fs_chosen_16 rfl (fun c3 => ?_) (fun c3 => ?_)
      · have h := h.1 c3
        refine a_iconst d_Fs_chosen_28 (by unfold fs_in32; omega) ?_
        exact b_ireturn d_Fs_chosen_29 rfl rfl h
      · have h := h.2 c3
        refine a_iload_n (j := 2) d_Fs_chosen_19 rfl rfl ?_
        refine a_iload_n (j := 1) d_Fs_chosen_20 rfl rfl ?_
        refine a_icmp_ge (tgt := 28) d_Fs_chosen_21 rfl (fun c4 => ?_) (fun c4 => ?_)
        · have h := h.1 c4
          refine a_iconst d_Fs_chosen_28 (by unfold fs_in32; omega) ?_
          exact b_ireturn d_Fs_chosen_29 rfl rfl h
        · have h := h.2 c4
          refine a_iload_n (j := 3) d_Fs_chosen_24 rfl rfl ?_
          refine a_if_ge (tgt := 30) d_Fs_chosen_25 rfl (fun c5 => ?_) (fun c5 => ?_)
          · have h := h.1 c5
            refine a_aload_n (j := 0) d_Fs_chosen_30 rfl rfl ?_
            refine b_getptr (q := 60) d_Fs_chosen_31 fl_Fs_62 io_0 rfl rfl rfl ?_
            refine a_aload_n (j := 0) d_Fs_chosen_34 rfl rfl ?_
            refine b_getptr (q := 31) d_Fs_chosen_35 fl_Fs_31 io_0 rfl rfl rfl ?_
            refine b_virtual (dc := 19) (ci := 0) (T := fs_T0) (N := 15) [fs_r 31] [] d_Fs_chosen_38 ml_Fs_296 k_Book_write v_Book_write rfl io_60 rfl (Nat.le_of_ble_eq_true rfl) rfl (Nat.le_of_ble_eq_true rfl) ?_
            refine fs_Call.mono (fun v M1 hv => ?_) h
            obtain ⟨rfl, h⟩ := hv
            show fs_A2 g m_Fs_chosen 20 41 [(0, fs_r 0), (1, fs_i x1), (2, fs_i x2), (3, fs_i x3)] [] M1 K
            refine a_aload_n (j := 0) d_Fs_chosen_41 rfl rfl ?_
            refine b_getptr (q := 60) d_Fs_chosen_42 fl_Fs_62 io_0 rfl rfl rfl ?_
            refine a_iload_n (j := 1) d_Fs_chosen_45 rfl rfl ?_
            refine b_virtual (dc := 4) (ci := 0) (T := fs_T0) (N := 15) [fs_i x1] [] d_Fs_chosen_46 ml_Fs_302 k_Book_chooseBest v_Book_chooseBest rfl io_60 rfl (Nat.le_of_ble_eq_true rfl) rfl (Nat.le_of_ble_eq_true rfl) ?_
            refine fs_Call.mono (fun v M2 hv => ?_) h
            obtain ⟨rfl, h⟩ := hv
            show fs_A2 g m_Fs_chosen 20 49 [(0, fs_r 0), (1, fs_i x1), (2, fs_i x2), (3, fs_i x3)] [] M2 K
            refine a_aload_n (j := 0) d_Fs_chosen_49 rfl rfl ?_
            refine b_getptr (q := 60) d_Fs_chosen_50 fl_Fs_62 io_0 rfl rfl rfl ?_
            refine a_aload_n (j := 0) d_Fs_chosen_53 rfl rfl ?_
            refine b_getptr (q := 60) d_Fs_chosen_54 fl_Fs_62 io_0 rfl rfl rfl ?_
            refine b_getptr (q := 82) d_Fs_chosen_57 fl_Fs_305 io_60 rfl rfl rfl ?_
            refine a_iload_n (j := 2) d_Fs_chosen_60 rfl rfl ?_
            obtain ⟨o6, h⟩ := h
            refine b_iaload (v := M2 82 x2) d_Fs_chosen_61 ia_82 (by omega) o6 rfl ?_
            refine a_iload_n (j := 3) d_Fs_chosen_62 rfl rfl ?_
            refine b_virtual (dc := 1) (ci := 0) (T := fs_T0) (N := 15) [fs_i (M2 82 x2), fs_i x3] [] d_Fs_chosen_63 ml_Fs_308 k_Book_houseOf v_Book_houseOf rfl io_60 rfl (Nat.le_of_ble_eq_true rfl) rfl (Nat.le_of_ble_eq_true rfl) ?_
            refine fs_Call.mono (fun v M3 hv => ?_) h
            obtain ⟨r3, rfl, h⟩ := hv
            show fs_A2 g m_Fs_chosen 20 66 [(0, fs_r 0), (1, fs_i x1), (2, fs_i x2), (3, fs_i x3)] [fs_i r3] M3 K
            exact b_ireturn d_Fs_chosen_66 rfl rfl h
          · have h := h.2 c5
            refine a_iconst d_Fs_chosen_28 (by unfold fs_in32; omega) ?_
            exact b_ireturn d_Fs_chosen_29 rfl rfl h
set_option maxRecDepth 8000 in
set_option maxHeartbeats 4000000 in
theorem E_Fs_many {M : fs_M} {K : fs_K} 
    (h : fs_C2 g m_Book_write 19 [fs_r 60, fs_r 31] M (fun v M1 => v = none ∧ fs_C2 g m_Book_wholeWorth 3 [fs_r 60] M1 (fun v M2 => ∃ r2, v = some (fs_i r2) ∧ fs_A2 g m_Fs_many 20 21 [(0, fs_r 0), (1, fs_i r2), (2, fs_i 0)] [] M2 K))) :
    fs_C2 g m_Fs_many 20 [fs_r 0] M K := by
  refine b_enter2 (ls := [(0, fs_r 0)]) (plainFor_of_name pn_Fs) (Nat.le_of_ble_eq_true rfl) rfl ?_
  refine a_aload_n (j := 0) d_Fs_many_0 rfl rfl ?_
  refine b_getptr (q := 60) d_Fs_many_1 fl_Fs_62 io_0 rfl rfl rfl ?_
  refine a_aload_n (j := 0) d_Fs_many_4 rfl rfl ?_
  refine b_getptr (q := 31) d_Fs_many_5 fl_Fs_31 io_0 rfl rfl rfl ?_
  refine b_virtual (dc := 19) (ci := 0) (T := fs_T0) (N := 15) [fs_r 31] [] d_Fs_many_8 ml_Fs_296 k_Book_write v_Book_write rfl io_60 rfl (Nat.le_of_ble_eq_true rfl) rfl (Nat.le_of_ble_eq_true rfl) ?_
  refine fs_Call.mono (fun v M1 hv => ?_) h
  obtain ⟨rfl, h⟩ := hv
  show fs_A2 g m_Fs_many 20 11 [(0, fs_r 0)] [] M1 K
  refine a_aload_n (j := 0) d_Fs_many_11 rfl rfl ?_
  refine b_getptr (q := 60) d_Fs_many_12 fl_Fs_62 io_0 rfl rfl rfl ?_
  refine b_virtual (dc := 3) (ci := 0) (T := fs_T0) (N := 15) [] [] d_Fs_many_15 ml_Fs_311 k_Book_wholeWorth v_Book_wholeWorth rfl io_60 rfl (Nat.le_of_ble_eq_true rfl) rfl (Nat.le_of_ble_eq_true rfl) ?_
  refine fs_Call.mono (fun v M2 hv => ?_) h
  obtain ⟨r2, rfl, h⟩ := hv
  show fs_A2 g m_Fs_many 20 18 [(0, fs_r 0)] [fs_i r2] M2 K
  refine a_istore_n d_Fs_many_18 rfl (Nat.le_of_ble_eq_true rfl) [1, 0] rfl ?_
  refine a_iconst d_Fs_many_19 (by unfold fs_in32; omega) ?_
  refine a_istore_n d_Fs_many_20 rfl (Nat.le_of_ble_eq_true rfl) [1, 2, 0] rfl ?_
  exact h
set_option maxRecDepth 8000 in
set_option maxHeartbeats 4000000 in
theorem L_Fs_many_21 {M : fs_M} {K : fs_K} {x1 x2 : Int} 
    (h : ((M 1 9 < x2 → K (some (fs_i (-2))) M) ∧ (¬ M 1 9 < x2 → fs_C2 g m_Book_bestGain 4 [fs_r 60, fs_i x2] M (fun v M3 => ∃ r3, v = some (fs_i r3) ∧ ((¬ r3 = x1 → fs_A2 g m_Fs_many 20 21 [(0, fs_r 0), (1, fs_i x1), (2, fs_i (fs_w32 (x2 + 1)))] [] M3 K) ∧ (r3 = x1 → K (some (fs_i x2)) M3)))))) :
    fs_A2 g m_Fs_many 20 21 [(0, fs_r 0), (1, fs_i x1), (2, fs_i x2)] [] M K := by
  refine a_iload_n (j := 2) d_Fs_many_21 rfl rfl ?_
  refine a_aload_n (j := 0) d_Fs_many_22 rfl rfl ?_
  refine b_getptr (q := 1) d_Fs_many_23 fl_Fs_12 io_0 rfl rfl rfl ?_
  refine b_getfield (v := fs_i (M 1 9)) d_Fs_many_26 fl_Fs_147 io_1 rfl ?_
  refine a_icmp_gt (tgt := 52) d_Fs_many_29 rfl (fun c1 => ?_) (fun c1 => ?_)
  · have h := h.1 c1
    refine a_bipush d_Fs_many_52 (by decide) ?_
    exact b_ireturn d_Fs_many_54 rfl rfl h
  · have h := h.2 c1
    refine a_aload_n (j := 0) d_Fs_many_32 rfl rfl ?_
    refine b_getptr (q := 60) d_Fs_many_33 fl_Fs_62 io_0 rfl rfl rfl ?_
    refine a_iload_n (j := 2) d_Fs_many_36 rfl rfl ?_
    refine b_virtual (dc := 4) (ci := 0) (T := fs_T0) (N := 15) [fs_i x2] [] d_Fs_many_37 ml_Fs_299 k_Book_bestGain v_Book_bestGain rfl io_60 rfl (Nat.le_of_ble_eq_true rfl) rfl (Nat.le_of_ble_eq_true rfl) ?_
    refine fs_Call.mono (fun v M3 hv => ?_) h
    obtain ⟨r3, rfl, h⟩ := hv
    show fs_A2 g m_Fs_many 20 40 [(0, fs_r 0), (1, fs_i x1), (2, fs_i x2)] [fs_i r3] M3 K
    refine a_iload_n (j := 1) d_Fs_many_40 rfl rfl ?_
    refine a_icmp_ne (tgt := 46) d_Fs_many_41 rfl (fun c2 => ?_) (fun c2 => ?_)
    · have h := h.1 c2
      refine a_iinc (j := 2) d_Fs_many_46 rfl (Nat.le_of_ble_eq_true rfl) [1, 2, 0] rfl ?_
      refine a_goto (tgt := 21) d_Fs_many_49 rfl ?_
      exact h
    · have h := h.2 c2
      refine a_iload_n (j := 2) d_Fs_many_44 rfl rfl ?_
      exact b_ireturn d_Fs_many_45 rfl rfl h
set_option maxRecDepth 8000 in
set_option maxHeartbeats 4000000 in
theorem E_Fs_price {M : fs_M} {K : fs_K} {x1 : Int} 
    (h : fs_C2 g m_Script_hasHouse 1 [fs_r 1, fs_i x1] M (fun v M1 => ∃ r1, v = some (fs_i r1) ∧ ((¬ r1 = 0 → fs_C2 g m_Book_write 19 [fs_r 60, fs_r 31] M1 (fun v M2 => v = none ∧ fs_C2 g m_Book_priceOf 5 [fs_r 60, fs_i x1] M2 (fun v M3 => ∃ r3, v = some (fs_i r3) ∧ K (some (fs_i r3)) M3))) ∧ (r1 = 0 → K (some (fs_i (-1))) M1)))) :
    fs_C2 g m_Fs_price 20 [fs_r 0, fs_i x1] M K := by
  refine b_enter2 (ls := [(0, fs_r 0), (1, fs_i x1)]) (plainFor_of_name pn_Fs) (Nat.le_of_ble_eq_true rfl) rfl ?_
  refine a_aload_n (j := 0) d_Fs_price_0 rfl rfl ?_
  refine b_getptr (q := 1) d_Fs_price_1 fl_Fs_12 io_0 rfl rfl rfl ?_
  refine a_iload_n (j := 1) d_Fs_price_4 rfl rfl ?_
  refine b_virtual (dc := 1) (ci := 8) (T := fs_T8) (N := 13) [fs_i x1] [] d_Fs_price_5 ml_Fs_150 k_Script_hasHouse v_Script_hasHouse rfl io_1 rfl (Nat.le_of_ble_eq_true rfl) rfl (Nat.le_of_ble_eq_true rfl) ?_
  refine fs_Call.mono (fun v M1 hv => ?_) h
  obtain ⟨r1, rfl, h⟩ := hv
  show fs_A2 g m_Fs_price 20 8 [(0, fs_r 0), (1, fs_i x1)] [fs_i r1] M1 K
  refine a_if_ne (tgt := 13) d_Fs_price_8 rfl (fun c1 => ?_) (fun c1 => ?_)
  · have h := h.1 c1
    refine a_aload_n (j := 0) d_Fs_price_13 rfl rfl ?_
    refine b_getptr (q := 60) d_Fs_price_14 fl_Fs_62 io_0 rfl rfl rfl ?_
    refine a_aload_n (j := 0) d_Fs_price_17 rfl rfl ?_
    refine b_getptr (q := 31) d_Fs_price_18 fl_Fs_31 io_0 rfl rfl rfl ?_
    refine b_virtual (dc := 19) (ci := 0) (T := fs_T0) (N := 15) [fs_r 31] [] d_Fs_price_21 ml_Fs_296 k_Book_write v_Book_write rfl io_60 rfl (Nat.le_of_ble_eq_true rfl) rfl (Nat.le_of_ble_eq_true rfl) ?_
    refine fs_Call.mono (fun v M2 hv => ?_) h
    obtain ⟨rfl, h⟩ := hv
    show fs_A2 g m_Fs_price 20 24 [(0, fs_r 0), (1, fs_i x1)] [] M2 K
    refine a_aload_n (j := 0) d_Fs_price_24 rfl rfl ?_
    refine b_getptr (q := 60) d_Fs_price_25 fl_Fs_62 io_0 rfl rfl rfl ?_
    refine a_iload_n (j := 1) d_Fs_price_28 rfl rfl ?_
    refine b_virtual (dc := 5) (ci := 0) (T := fs_T0) (N := 15) [fs_i x1] [] d_Fs_price_29 ml_Fs_315 k_Book_priceOf v_Book_priceOf rfl io_60 rfl (Nat.le_of_ble_eq_true rfl) rfl (Nat.le_of_ble_eq_true rfl) ?_
    refine fs_Call.mono (fun v M3 hv => ?_) h
    obtain ⟨r3, rfl, h⟩ := hv
    show fs_A2 g m_Fs_price 20 32 [(0, fs_r 0), (1, fs_i x1)] [fs_i r3] M3 K
    exact b_ireturn d_Fs_price_32 rfl rfl h
  · have h := h.2 c1
    refine a_iconst d_Fs_price_11 (by unfold fs_in32; omega) ?_
    exact b_ireturn d_Fs_price_12 rfl rfl h
set_option maxRecDepth 8000 in
set_option maxHeartbeats 4000000 in
theorem E_Fs_all {M : fs_M} {K : fs_K} {x1 : Int} 
    (h : ((x1 < 0 → K (some (fs_i (-1))) M) ∧ (¬ x1 < 0 → ((x1 < fs_shl 1 (M 1 5) → fs_C2 g m_Book_write 19 [fs_r 60, fs_r 31] M (fun v M1 => v = none ∧ fs_C2 g m_Book_canDoAll 4 [fs_r 60, fs_i x1] M1 (fun v M2 => ∃ r2, v = some (fs_i r2) ∧ ((r2 = 0 → K (some (fs_i 0)) M2) ∧ (¬ r2 = 0 → K (some (fs_i 1)) M2))))) ∧ (¬ x1 < fs_shl 1 (M 1 5) → K (some (fs_i (-1))) M))))) :
    fs_C2 g m_Fs_all 20 [fs_r 0, fs_i x1] M K := by
  refine b_enter2 (ls := [(0, fs_r 0), (1, fs_i x1)]) (plainFor_of_name pn_Fs) (Nat.le_of_ble_eq_true rfl) rfl ?_
  refine a_iload_n (j := 1) d_Fs_all_0 rfl rfl ?_
  refine a_if_lt (tgt := 17) d_Fs_all_1 rfl (fun c1 => ?_) (fun c1 => ?_)
  · have h := h.1 c1
    refine a_iconst d_Fs_all_17 (by unfold fs_in32; omega) ?_
    exact b_ireturn d_Fs_all_18 rfl rfl h
  · have h := h.2 c1
    refine a_iload_n (j := 1) d_Fs_all_4 rfl rfl ?_
    refine a_iconst d_Fs_all_5 (by unfold fs_in32; omega) ?_
    refine a_aload_n (j := 0) d_Fs_all_6 rfl rfl ?_
    refine b_getptr (q := 1) d_Fs_all_7 fl_Fs_12 io_0 rfl rfl rfl ?_
    refine b_getfield (v := fs_i (M 1 5)) d_Fs_all_10 fl_Fs_137 io_1 rfl ?_
    refine a_ishl d_Fs_all_13 ?_
    refine a_icmp_lt (tgt := 19) d_Fs_all_14 rfl (fun c2 => ?_) (fun c2 => ?_)
    · have h := h.1 c2
      refine a_aload_n (j := 0) d_Fs_all_19 rfl rfl ?_
      refine b_getptr (q := 60) d_Fs_all_20 fl_Fs_62 io_0 rfl rfl rfl ?_
      refine a_aload_n (j := 0) d_Fs_all_23 rfl rfl ?_
      refine b_getptr (q := 31) d_Fs_all_24 fl_Fs_31 io_0 rfl rfl rfl ?_
      refine b_virtual (dc := 19) (ci := 0) (T := fs_T0) (N := 15) [fs_r 31] [] d_Fs_all_27 ml_Fs_296 k_Book_write v_Book_write rfl io_60 rfl (Nat.le_of_ble_eq_true rfl) rfl (Nat.le_of_ble_eq_true rfl) ?_
      refine fs_Call.mono (fun v M1 hv => ?_) h
      obtain ⟨rfl, h⟩ := hv
      show fs_A2 g m_Fs_all 20 30 [(0, fs_r 0), (1, fs_i x1)] [] M1 K
      refine a_aload_n (j := 0) d_Fs_all_30 rfl rfl ?_
      refine b_getptr (q := 60) d_Fs_all_31 fl_Fs_62 io_0 rfl rfl rfl ?_
      refine a_iload_n (j := 1) d_Fs_all_34 rfl rfl ?_
      refine b_virtual (dc := 4) (ci := 0) (T := fs_T0) (N := 15) [fs_i x1] [] d_Fs_all_35 ml_Fs_318 k_Book_canDoAll v_Book_canDoAll rfl io_60 rfl (Nat.le_of_ble_eq_true rfl) rfl (Nat.le_of_ble_eq_true rfl) ?_
      refine fs_Call.mono (fun v M2 hv => ?_) h
      obtain ⟨r2, rfl, h⟩ := hv
      show fs_A2 g m_Fs_all 20 38 [(0, fs_r 0), (1, fs_i x1)] [fs_i r2] M2 K
      refine a_if_eq (tgt := 45) d_Fs_all_38 rfl (fun c3 => ?_) (fun c3 => ?_)
      · have h := h.1 c3
        refine a_iconst d_Fs_all_45 (by unfold fs_in32; omega) ?_
        exact b_ireturn d_Fs_all_46 rfl rfl h
      · have h := h.2 c3
        refine a_iconst d_Fs_all_41 (by unfold fs_in32; omega) ?_
        refine a_goto (tgt := 46) d_Fs_all_42 rfl ?_
        exact b_ireturn d_Fs_all_46 rfl rfl h
    · have h := h.2 c2
      refine a_iconst d_Fs_all_17 (by unfold fs_in32; omega) ?_
      exact b_ireturn d_Fs_all_18 rfl rfl h
set_option maxRecDepth 8000 in
set_option maxHeartbeats 4000000 in
theorem E_Fs_exchange {M : fs_M} {K : fs_K} {x1 : Int} 
    (h : ((x1 < 0 → K (some (fs_i (-1))) M) ∧ (¬ x1 < 0 → ((x1 ≤ 4 → fs_C2 g m_Fs_findExchange 8 [fs_r 0] M (fun v M1 => v = none ∧ ((¬ M1 0 15 = (-1) → ((x1 = 0 → K (some (fs_i (M1 0 14))) M1) ∧ (x1 = 1 → K (some (fs_i (fs_div (M1 0 15) 9))) M1) ∧ (x1 = 2 → K (some (fs_i (fs_rem (M1 0 15) 9))) M1) ∧ (x1 = 3 → K (some (fs_i (fs_div (M1 0 16) 9))) M1) ∧ (¬ x1 = 0 ∧ ¬ x1 = 1 ∧ ¬ x1 = 2 ∧ ¬ x1 = 3 → K (some (fs_i (fs_rem (M1 0 16) 9))) M1))) ∧ (M1 0 15 = (-1) → K (some (fs_i (-2))) M1)))) ∧ (¬ x1 ≤ 4 → K (some (fs_i (-1))) M))))) :
    fs_C2 g m_Fs_exchange 9 [fs_r 0, fs_i x1] M K := by
  refine b_enter2 (ls := [(0, fs_r 0), (1, fs_i x1)]) (plainFor_of_name pn_Fs) (Nat.le_of_ble_eq_true rfl) rfl ?_
  refine a_iload_n (j := 1) d_Fs_exchange_0 rfl rfl ?_
  refine a_if_lt (tgt := 9) d_Fs_exchange_1 rfl (fun c1 => ?_) (fun c1 => ?_)
  · have h := h.1 c1
    refine a_iconst d_Fs_exchange_9 (by unfold fs_in32; omega) ?_
    exact b_ireturn d_Fs_exchange_10 rfl rfl h
  · have h := h.2 c1
    refine a_iload_n (j := 1) d_Fs_exchange_4 rfl rfl ?_
    refine a_iconst d_Fs_exchange_5 (by unfold fs_in32; omega) ?_
    refine a_icmp_le (tgt := 11) d_Fs_exchange_6 rfl (fun c2 => ?_) (fun c2 => ?_)
    · have h := h.1 c2
      refine a_aload_n (j := 0) d_Fs_exchange_11 rfl rfl ?_
      refine b_virtual (dc := 8) (ci := 10) (T := fs_T10) (N := 17) [] [] d_Fs_exchange_12 ml_Fs_321 k_Fs_findExchange v_Fs_findExchange rfl io_0 rfl (Nat.le_of_ble_eq_true rfl) rfl (Nat.le_of_ble_eq_true rfl) ?_
      refine fs_Call.mono (fun v M1 hv => ?_) h
      obtain ⟨rfl, h⟩ := hv
      show fs_A2 g m_Fs_exchange 9 15 [(0, fs_r 0), (1, fs_i x1)] [] M1 K
      refine a_aload_n (j := 0) d_Fs_exchange_15 rfl rfl ?_
      refine b_getfield (v := fs_i (M1 0 15)) d_Fs_exchange_16 fl_Fs_94 io_0 rfl ?_
      refine a_iconst d_Fs_exchange_19 (by unfold fs_in32; omega) ?_
      refine a_icmp_ne (tgt := 26) d_Fs_exchange_20 rfl (fun c3 => ?_) (fun c3 => ?_)
      · have h := h.1 c3
        refine a_iload_n (j := 1) d_Fs_exchange_26 rfl rfl ?_
        obtain ⟨hs27_0, hs27_1, hs27_2, hs27_3, hs27_4⟩ := h
        by_cases q27_0 : x1 = 0
        · have h := hs27_0 q27_0
          refine a_tableIn (tgt := 56) d_Fs_exchange_27 (by omega) (by omega) (by rw [q27_0]; rfl) rfl ?_
          refine a_aload_n (j := 0) d_Fs_exchange_56 rfl rfl ?_
          refine b_getfield (v := fs_i (M1 0 14)) d_Fs_exchange_57 fl_Fs_90 io_0 rfl ?_
          exact b_ireturn d_Fs_exchange_60 rfl rfl h
        ·
          by_cases q27_1 : x1 = 1
          · have h := hs27_1 q27_1
            refine a_tableIn (tgt := 61) d_Fs_exchange_27 (by omega) (by omega) (by rw [q27_1]; rfl) rfl ?_
            refine a_aload_n (j := 0) d_Fs_exchange_61 rfl rfl ?_
            refine b_getfield (v := fs_i (M1 0 15)) d_Fs_exchange_62 fl_Fs_94 io_0 rfl ?_
            refine a_bipush d_Fs_exchange_65 (by decide) ?_
            refine a_idiv d_Fs_exchange_67 (by decide) ?_
            exact b_ireturn d_Fs_exchange_68 rfl rfl h
          ·
            by_cases q27_2 : x1 = 2
            · have h := hs27_2 q27_2
              refine a_tableIn (tgt := 69) d_Fs_exchange_27 (by omega) (by omega) (by rw [q27_2]; rfl) rfl ?_
              refine a_aload_n (j := 0) d_Fs_exchange_69 rfl rfl ?_
              refine b_getfield (v := fs_i (M1 0 15)) d_Fs_exchange_70 fl_Fs_94 io_0 rfl ?_
              refine a_bipush d_Fs_exchange_73 (by decide) ?_
              refine a_irem d_Fs_exchange_75 (by decide) ?_
              exact b_ireturn d_Fs_exchange_76 rfl rfl h
            ·
              by_cases q27_3 : x1 = 3
              · have h := hs27_3 q27_3
                refine a_tableIn (tgt := 77) d_Fs_exchange_27 (by omega) (by omega) (by rw [q27_3]; rfl) rfl ?_
                refine a_aload_n (j := 0) d_Fs_exchange_77 rfl rfl ?_
                refine b_getfield (v := fs_i (M1 0 16)) d_Fs_exchange_78 fl_Fs_97 io_0 rfl ?_
                refine a_bipush d_Fs_exchange_81 (by decide) ?_
                refine a_idiv d_Fs_exchange_83 (by decide) ?_
                exact b_ireturn d_Fs_exchange_84 rfl rfl h
              ·
                have h := hs27_4 ⟨q27_0, q27_1, q27_2, q27_3⟩
                refine a_tableOut (tgt := 85) d_Fs_exchange_27 (by omega) rfl ?_
                refine a_aload_n (j := 0) d_Fs_exchange_85 rfl rfl ?_
                refine b_getfield (v := fs_i (M1 0 16)) d_Fs_exchange_86 fl_Fs_97 io_0 rfl ?_
                refine a_bipush d_Fs_exchange_89 (by decide) ?_
                refine a_irem d_Fs_exchange_91 (by decide) ?_
                exact b_ireturn d_Fs_exchange_92 rfl rfl h
      · have h := h.2 c3
        refine a_bipush d_Fs_exchange_23 (by decide) ?_
        exact b_ireturn d_Fs_exchange_25 rfl rfl h
    · have h := h.2 c2
      refine a_iconst d_Fs_exchange_9 (by unfold fs_in32; omega) ?_
      exact b_ireturn d_Fs_exchange_10 rfl rfl h
set_option maxRecDepth 8000 in
set_option maxHeartbeats 4000000 in
theorem E_Fs_findExchange {M : fs_M} {K : fs_K} 
    (h : fs_C2 g m_Course_run 7 [fs_r 43, fs_r 31, fs_i (-1)] M (fun v M1 => v = none ∧ fs_C2 g m_Course_gained 3 [fs_r 43, fs_i (M1 31 2)] M1 (fun v M2 => ∃ r2, v = some (fs_i r2) ∧ fs_A2 g m_Fs_findExchange 8 42 [(0, fs_r 0), (1, fs_i 0)] [] (fs_st (fs_st (fs_st M2 0 14 r2) 0 15 (-1)) 0 16 (-1)) K))) :
    fs_C2 g m_Fs_findExchange 8 [fs_r 0] M K := by
  refine b_enter2 (ls := [(0, fs_r 0)]) (plainFor_of_name pn_Fs) (Nat.le_of_ble_eq_true rfl) rfl ?_
  refine a_aload_n (j := 0) d_Fs_findExchange_0 rfl rfl ?_
  refine b_getptr (q := 43) d_Fs_findExchange_1 fl_Fs_43 io_0 rfl rfl rfl ?_
  refine a_aload_n (j := 0) d_Fs_findExchange_4 rfl rfl ?_
  refine b_getptr (q := 31) d_Fs_findExchange_5 fl_Fs_31 io_0 rfl rfl rfl ?_
  refine a_iconst d_Fs_findExchange_8 (by unfold fs_in32; omega) ?_
  refine b_virtual (dc := 7) (ci := 1) (T := fs_T1) (N := 8) [fs_r 31, fs_i (-1)] [] d_Fs_findExchange_9 ml_Fs_235 k_Course_run v_Course_run rfl io_43 rfl (Nat.le_of_ble_eq_true rfl) rfl (Nat.le_of_ble_eq_true rfl) ?_
  refine fs_Call.mono (fun v M1 hv => ?_) h
  obtain ⟨rfl, h⟩ := hv
  show fs_A2 g m_Fs_findExchange 8 12 [(0, fs_r 0)] [] M1 K
  refine a_aload_n (j := 0) d_Fs_findExchange_12 rfl rfl ?_
  refine a_aload_n (j := 0) d_Fs_findExchange_13 rfl rfl ?_
  refine b_getptr (q := 43) d_Fs_findExchange_14 fl_Fs_43 io_0 rfl rfl rfl ?_
  refine a_aload_n (j := 0) d_Fs_findExchange_17 rfl rfl ?_
  refine b_getptr (q := 31) d_Fs_findExchange_18 fl_Fs_31 io_0 rfl rfl rfl ?_
  refine b_getfield (v := fs_i (M1 31 2)) d_Fs_findExchange_21 fl_Fs_177 io_31 rfl ?_
  refine b_virtual (dc := 3) (ci := 1) (T := fs_T1) (N := 8) [fs_i (M1 31 2)] [fs_r 0] d_Fs_findExchange_24 ml_Fs_257 k_Course_gained v_Course_gained rfl io_43 rfl (Nat.le_of_ble_eq_true rfl) rfl (Nat.le_of_ble_eq_true rfl) ?_
  refine fs_Call.mono (fun v M2 hv => ?_) h
  obtain ⟨r2, rfl, h⟩ := hv
  show fs_A2 g m_Fs_findExchange 8 27 [(0, fs_r 0)] [fs_i r2, fs_r 0] M2 K
  refine b_putfield (x := r2) d_Fs_findExchange_27 fl_Fs_90 io_0 rfl rfl fs_nar_int ?_
  refine a_aload_n (j := 0) d_Fs_findExchange_30 rfl rfl ?_
  refine a_iconst d_Fs_findExchange_31 (by unfold fs_in32; omega) ?_
  refine b_putfield (x := (-1)) d_Fs_findExchange_32 fl_Fs_94 io_0 rfl rfl fs_nar_int ?_
  refine a_aload_n (j := 0) d_Fs_findExchange_35 rfl rfl ?_
  refine a_iconst d_Fs_findExchange_36 (by unfold fs_in32; omega) ?_
  refine b_putfield (x := (-1)) d_Fs_findExchange_37 fl_Fs_97 io_0 rfl rfl fs_nar_int ?_
  refine a_iconst d_Fs_findExchange_40 (by unfold fs_in32; omega) ?_
  refine a_istore_n d_Fs_findExchange_41 rfl (Nat.le_of_ble_eq_true rfl) [1, 0] rfl ?_
  exact h
set_option maxRecDepth 8000 in
set_option maxHeartbeats 4000000 in
theorem L_Fs_findExchange_42 {M : fs_M} {K : fs_K} {x1 : Int} 
    (h : ((27 ≤ x1 → K none M) ∧ (¬ 27 ≤ x1 → fs_A2 g m_Fs_findExchange 8 52 [(0, fs_r 0), (1, fs_i x1), (2, fs_i (fs_w32 (x1 + 1)))] [] M K))) :
    fs_A2 g m_Fs_findExchange 8 42 [(0, fs_r 0), (1, fs_i x1)] [] M K := by
  refine a_iload_n (j := 1) d_Fs_findExchange_42 rfl rfl ?_
  refine a_bipush d_Fs_findExchange_43 (by decide) ?_
  refine a_icmp_ge (tgt := 161) d_Fs_findExchange_45 rfl (fun c1 => ?_) (fun c1 => ?_)
  · have h := h.1 c1
    exact b_return d_Fs_findExchange_161 rfl h
  · have h := h.2 c1
    refine a_iload_n (j := 1) d_Fs_findExchange_48 rfl rfl ?_
    refine a_iconst d_Fs_findExchange_49 (by unfold fs_in32; omega) ?_
    refine a_iadd d_Fs_findExchange_50 ?_
    refine a_istore_n d_Fs_findExchange_51 rfl (Nat.le_of_ble_eq_true rfl) [1, 2, 0] rfl ?_
    exact h
set_option maxRecDepth 8000 in
set_option maxHeartbeats 4000000 in
theorem L_Fs_findExchange_52 {M : fs_M} {K : fs_K} {x1 x2 : Int} 
    (h : ((27 ≤ x2 → fs_A2 g m_Fs_findExchange 8 42 [(0, fs_r 0), (1, fs_i (fs_w32 (x1 + 1)))] [] M K) ∧ (¬ 27 ≤ x2 → fs_C2 g m_Plan_areUnlike 3 [fs_r 31, fs_i x1, fs_i x2] M (fun v M3 => ∃ r3, v = some (fs_i r3) ∧ ((r3 = 0 → fs_A2 g m_Fs_findExchange 8 52 [(0, fs_r 0), (1, fs_i x1), (2, fs_i (fs_w32 (x2 + 1)))] [] M3 K) ∧ (¬ r3 = 0 → fs_C2 g m_Plan_swap 1 [fs_r 31, fs_i x1, fs_i x2] M3 (fun v M4 => v = none ∧ fs_C2 g m_Course_run 7 [fs_r 43, fs_r 31, fs_i (-1)] M4 (fun v M5 => v = none ∧ fs_C2 g m_Plan_swap 1 [fs_r 31, fs_i x1, fs_i x2] M5 (fun v M6 => v = none ∧ fs_C2 g m_Course_gained 3 [fs_r 43, fs_i (M6 31 2)] M6 (fun v M7 => ∃ r7, v = some (fs_i r7) ∧ ((r7 ≤ M7 0 14 → fs_A2 g m_Fs_findExchange 8 52 [(0, fs_r 0), (1, fs_i x1), (2, fs_i (fs_w32 (x2 + 1)))] [] M7 K) ∧ (¬ r7 ≤ M7 0 14 → fs_C2 g m_Course_gained 3 [fs_r 43, fs_i (M7 31 2)] M7 (fun v M8 => ∃ r8, v = some (fs_i r8) ∧ fs_A2 g m_Fs_findExchange 8 52 [(0, fs_r 0), (1, fs_i x1), (2, fs_i (fs_w32 (x2 + 1)))] [] (fs_st (fs_st (fs_st M8 0 14 r8) 0 15 x1) 0 16 x2) K))))))))))))) :
    fs_A2 g m_Fs_findExchange 8 52 [(0, fs_r 0), (1, fs_i x1), (2, fs_i x2)] [] M K := by
  refine a_iload_n (j := 2) d_Fs_findExchange_52 rfl rfl ?_
  refine a_bipush d_Fs_findExchange_53 (by decide) ?_
  refine a_icmp_ge (tgt := 155) d_Fs_findExchange_55 rfl (fun c2 => ?_) (fun c2 => ?_)
  · have h := h.1 c2
    refine a_iinc (j := 1) d_Fs_findExchange_155 rfl (Nat.le_of_ble_eq_true rfl) [1, 0, 2] rfl ?_
    refine a_goto (tgt := 42) d_Fs_findExchange_158 rfl ?_
    refine a_sub [0, 1] rfl ?_
    exact h
  · have h := h.2 c2
    refine a_aload_n (j := 0) d_Fs_findExchange_58 rfl rfl ?_
    refine b_getptr (q := 31) d_Fs_findExchange_59 fl_Fs_31 io_0 rfl rfl rfl ?_
    refine a_iload_n (j := 1) d_Fs_findExchange_62 rfl rfl ?_
    refine a_iload_n (j := 2) d_Fs_findExchange_63 rfl rfl ?_
    refine b_virtual (dc := 3) (ci := 6) (T := fs_T6) (N := 4) [fs_i x1, fs_i x2] [] d_Fs_findExchange_64 ml_Fs_374 k_Plan_areUnlike v_Plan_areUnlike rfl io_31 rfl (Nat.le_of_ble_eq_true rfl) rfl (Nat.le_of_ble_eq_true rfl) ?_
    refine fs_Call.mono (fun v M3 hv => ?_) h
    obtain ⟨r3, rfl, h⟩ := hv
    show fs_A2 g m_Fs_findExchange 8 67 [(0, fs_r 0), (1, fs_i x1), (2, fs_i x2)] [fs_i r3] M3 K
    refine a_if_eq (tgt := 149) d_Fs_findExchange_67 rfl (fun c3 => ?_) (fun c3 => ?_)
    · have h := h.1 c3
      refine a_iinc (j := 2) d_Fs_findExchange_149 rfl (Nat.le_of_ble_eq_true rfl) [1, 2, 0] rfl ?_
      refine a_goto (tgt := 52) d_Fs_findExchange_152 rfl ?_
      exact h
    · have h := h.2 c3
      refine a_aload_n (j := 0) d_Fs_findExchange_70 rfl rfl ?_
      refine b_getptr (q := 31) d_Fs_findExchange_71 fl_Fs_31 io_0 rfl rfl rfl ?_
      refine a_iload_n (j := 1) d_Fs_findExchange_74 rfl rfl ?_
      refine a_iload_n (j := 2) d_Fs_findExchange_75 rfl rfl ?_
      refine b_virtual (dc := 1) (ci := 6) (T := fs_T6) (N := 4) [fs_i x1, fs_i x2] [] d_Fs_findExchange_76 ml_Fs_326 k_Plan_swap v_Plan_swap rfl io_31 rfl (Nat.le_of_ble_eq_true rfl) rfl (Nat.le_of_ble_eq_true rfl) ?_
      refine fs_Call.mono (fun v M4 hv => ?_) h
      obtain ⟨rfl, h⟩ := hv
      show fs_A2 g m_Fs_findExchange 8 79 [(0, fs_r 0), (1, fs_i x1), (2, fs_i x2)] [] M4 K
      refine a_aload_n (j := 0) d_Fs_findExchange_79 rfl rfl ?_
      refine b_getptr (q := 43) d_Fs_findExchange_80 fl_Fs_43 io_0 rfl rfl rfl ?_
      refine a_aload_n (j := 0) d_Fs_findExchange_83 rfl rfl ?_
      refine b_getptr (q := 31) d_Fs_findExchange_84 fl_Fs_31 io_0 rfl rfl rfl ?_
      refine a_iconst d_Fs_findExchange_87 (by unfold fs_in32; omega) ?_
      refine b_virtual (dc := 7) (ci := 1) (T := fs_T1) (N := 8) [fs_r 31, fs_i (-1)] [] d_Fs_findExchange_88 ml_Fs_235 k_Course_run v_Course_run rfl io_43 rfl (Nat.le_of_ble_eq_true rfl) rfl (Nat.le_of_ble_eq_true rfl) ?_
      refine fs_Call.mono (fun v M5 hv => ?_) h
      obtain ⟨rfl, h⟩ := hv
      show fs_A2 g m_Fs_findExchange 8 91 [(0, fs_r 0), (1, fs_i x1), (2, fs_i x2)] [] M5 K
      refine a_aload_n (j := 0) d_Fs_findExchange_91 rfl rfl ?_
      refine b_getptr (q := 31) d_Fs_findExchange_92 fl_Fs_31 io_0 rfl rfl rfl ?_
      refine a_iload_n (j := 1) d_Fs_findExchange_95 rfl rfl ?_
      refine a_iload_n (j := 2) d_Fs_findExchange_96 rfl rfl ?_
      refine b_virtual (dc := 1) (ci := 6) (T := fs_T6) (N := 4) [fs_i x1, fs_i x2] [] d_Fs_findExchange_97 ml_Fs_326 k_Plan_swap v_Plan_swap rfl io_31 rfl (Nat.le_of_ble_eq_true rfl) rfl (Nat.le_of_ble_eq_true rfl) ?_
      refine fs_Call.mono (fun v M6 hv => ?_) h
      obtain ⟨rfl, h⟩ := hv
      show fs_A2 g m_Fs_findExchange 8 100 [(0, fs_r 0), (1, fs_i x1), (2, fs_i x2)] [] M6 K
      refine a_aload_n (j := 0) d_Fs_findExchange_100 rfl rfl ?_
      refine b_getptr (q := 43) d_Fs_findExchange_101 fl_Fs_43 io_0 rfl rfl rfl ?_
      refine a_aload_n (j := 0) d_Fs_findExchange_104 rfl rfl ?_
      refine b_getptr (q := 31) d_Fs_findExchange_105 fl_Fs_31 io_0 rfl rfl rfl ?_
      refine b_getfield (v := fs_i (M6 31 2)) d_Fs_findExchange_108 fl_Fs_177 io_31 rfl ?_
      refine b_virtual (dc := 3) (ci := 1) (T := fs_T1) (N := 8) [fs_i (M6 31 2)] [] d_Fs_findExchange_111 ml_Fs_257 k_Course_gained v_Course_gained rfl io_43 rfl (Nat.le_of_ble_eq_true rfl) rfl (Nat.le_of_ble_eq_true rfl) ?_
      refine fs_Call.mono (fun v M7 hv => ?_) h
      obtain ⟨r7, rfl, h⟩ := hv
      show fs_A2 g m_Fs_findExchange 8 114 [(0, fs_r 0), (1, fs_i x1), (2, fs_i x2)] [fs_i r7] M7 K
      refine a_aload_n (j := 0) d_Fs_findExchange_114 rfl rfl ?_
      refine b_getfield (v := fs_i (M7 0 14)) d_Fs_findExchange_115 fl_Fs_90 io_0 rfl ?_
      refine a_icmp_le (tgt := 149) d_Fs_findExchange_118 rfl (fun c4 => ?_) (fun c4 => ?_)
      · have h := h.1 c4
        refine a_iinc (j := 2) d_Fs_findExchange_149 rfl (Nat.le_of_ble_eq_true rfl) [1, 2, 0] rfl ?_
        refine a_goto (tgt := 52) d_Fs_findExchange_152 rfl ?_
        exact h
      · have h := h.2 c4
        refine a_aload_n (j := 0) d_Fs_findExchange_121 rfl rfl ?_
        refine a_aload_n (j := 0) d_Fs_findExchange_122 rfl rfl ?_
        refine b_getptr (q := 43) d_Fs_findExchange_123 fl_Fs_43 io_0 rfl rfl rfl ?_
        refine a_aload_n (j := 0) d_Fs_findExchange_126 rfl rfl ?_
        refine b_getptr (q := 31) d_Fs_findExchange_127 fl_Fs_31 io_0 rfl rfl rfl ?_
        refine b_getfield (v := fs_i (M7 31 2)) d_Fs_findExchange_130 fl_Fs_177 io_31 rfl ?_
        refine b_virtual (dc := 3) (ci := 1) (T := fs_T1) (N := 8) [fs_i (M7 31 2)] [fs_r 0] d_Fs_findExchange_133 ml_Fs_257 k_Course_gained v_Course_gained rfl io_43 rfl (Nat.le_of_ble_eq_true rfl) rfl (Nat.le_of_ble_eq_true rfl) ?_
        refine fs_Call.mono (fun v M8 hv => ?_) h
        obtain ⟨r8, rfl, h⟩ := hv
        show fs_A2 g m_Fs_findExchange 8 136 [(0, fs_r 0), (1, fs_i x1), (2, fs_i x2)] [fs_i r8, fs_r 0] M8 K
        refine b_putfield (x := r8) d_Fs_findExchange_136 fl_Fs_90 io_0 rfl rfl fs_nar_int ?_
        refine a_aload_n (j := 0) d_Fs_findExchange_139 rfl rfl ?_
        refine a_iload_n (j := 1) d_Fs_findExchange_140 rfl rfl ?_
        refine b_putfield (x := x1) d_Fs_findExchange_141 fl_Fs_94 io_0 rfl rfl fs_nar_int ?_
        refine a_aload_n (j := 0) d_Fs_findExchange_144 rfl rfl ?_
        refine a_iload_n (j := 2) d_Fs_findExchange_145 rfl rfl ?_
        refine b_putfield (x := x2) d_Fs_findExchange_146 fl_Fs_97 io_0 rfl rfl fs_nar_int ?_
        refine a_iinc (j := 2) d_Fs_findExchange_149 rfl (Nat.le_of_ble_eq_true rfl) [1, 2, 0] rfl ?_
        refine a_goto (tgt := 52) d_Fs_findExchange_152 rfl ?_
        exact h
set_option maxRecDepth 8000 in
set_option maxHeartbeats 4000000 in
theorem E_Fs_climb {M : fs_M} {K : fs_K} 
    (h : fs_C2 g m_Plan_copyFrom 1 [fs_r 37, fs_r 31] M (fun v M1 => v = none ∧ fs_C2 g m_Fs_findExchange 8 [fs_r 0] M1 (fun v M2 => v = none ∧ fs_A2 g m_Fs_climb 9 17 [(0, fs_r 0), (1, fs_i 0)] [] M2 K))) :
    fs_C2 g m_Fs_climb 9 [fs_r 0] M K := by
  refine b_enter2 (ls := [(0, fs_r 0)]) (plainFor_of_name pn_Fs) (Nat.le_of_ble_eq_true rfl) rfl ?_
  refine a_aload_n (j := 0) d_Fs_climb_0 rfl rfl ?_
  refine b_getptr (q := 37) d_Fs_climb_1 fl_Fs_35 io_0 rfl rfl rfl ?_
  refine a_aload_n (j := 0) d_Fs_climb_4 rfl rfl ?_
  refine b_getptr (q := 31) d_Fs_climb_5 fl_Fs_31 io_0 rfl rfl rfl ?_
  refine b_virtual (dc := 1) (ci := 6) (T := fs_T6) (N := 4) [fs_r 31] [] d_Fs_climb_8 ml_Fs_324 k_Plan_copyFrom v_Plan_copyFrom rfl io_37 rfl (Nat.le_of_ble_eq_true rfl) rfl (Nat.le_of_ble_eq_true rfl) ?_
  refine fs_Call.mono (fun v M1 hv => ?_) h
  obtain ⟨rfl, h⟩ := hv
  show fs_A2 g m_Fs_climb 9 11 [(0, fs_r 0)] [] M1 K
  refine a_iconst d_Fs_climb_11 (by unfold fs_in32; omega) ?_
  refine a_istore_n d_Fs_climb_12 rfl (Nat.le_of_ble_eq_true rfl) [1, 0] rfl ?_
  refine a_aload_n (j := 0) d_Fs_climb_13 rfl rfl ?_
  refine b_virtual (dc := 8) (ci := 10) (T := fs_T10) (N := 17) [] [] d_Fs_climb_14 ml_Fs_321 k_Fs_findExchange v_Fs_findExchange rfl io_0 rfl (Nat.le_of_ble_eq_true rfl) rfl (Nat.le_of_ble_eq_true rfl) ?_
  refine fs_Call.mono (fun v M2 hv => ?_) h
  obtain ⟨rfl, h⟩ := hv
  show fs_A2 g m_Fs_climb 9 17 [(0, fs_r 0), (1, fs_i 0)] [] M2 K
  exact h
set_option maxRecDepth 8000 in
set_option maxHeartbeats 4000000 in
theorem L_Fs_climb_17 {M : fs_M} {K : fs_K} {x1 : Int} 
    (h : ((594 < x1 → fs_A2 g m_Fs_climb 9 57 [(0, fs_r 0), (1, fs_i x1)] [] M K) ∧ (¬ 594 < x1 → ((M 0 15 = (-1) → fs_A2 g m_Fs_climb 9 57 [(0, fs_r 0), (1, fs_i x1)] [] M K) ∧ (¬ M 0 15 = (-1) → fs_C2 g m_Plan_swap 1 [fs_r 31, fs_i (M 0 15), fs_i (M 0 16)] M (fun v M3 => v = none ∧ fs_C2 g m_Fs_findExchange 8 [fs_r 0] M3 (fun v M4 => v = none ∧ fs_A2 g m_Fs_climb 9 17 [(0, fs_r 0), (1, fs_i (fs_w32 (x1 + 1)))] [] M4 K))))))) :
    fs_A2 g m_Fs_climb 9 17 [(0, fs_r 0), (1, fs_i x1)] [] M K := by
  refine a_iload_n (j := 1) d_Fs_climb_17 rfl rfl ?_
  refine a_sipush d_Fs_climb_18 (by decide) ?_
  refine a_icmp_gt (tgt := 57) d_Fs_climb_21 rfl (fun c1 => ?_) (fun c1 => ?_)
  · have h := h.1 c1
    exact h
  · have h := h.2 c1
    refine a_aload_n (j := 0) d_Fs_climb_24 rfl rfl ?_
    refine b_getfield (v := fs_i (M 0 15)) d_Fs_climb_25 fl_Fs_94 io_0 rfl ?_
    refine a_iconst d_Fs_climb_28 (by unfold fs_in32; omega) ?_
    refine a_icmp_eq (tgt := 57) d_Fs_climb_29 rfl (fun c2 => ?_) (fun c2 => ?_)
    · have h := h.1 c2
      exact h
    · have h := h.2 c2
      refine a_aload_n (j := 0) d_Fs_climb_32 rfl rfl ?_
      refine b_getptr (q := 31) d_Fs_climb_33 fl_Fs_31 io_0 rfl rfl rfl ?_
      refine a_aload_n (j := 0) d_Fs_climb_36 rfl rfl ?_
      refine b_getfield (v := fs_i (M 0 15)) d_Fs_climb_37 fl_Fs_94 io_0 rfl ?_
      refine a_aload_n (j := 0) d_Fs_climb_40 rfl rfl ?_
      refine b_getfield (v := fs_i (M 0 16)) d_Fs_climb_41 fl_Fs_97 io_0 rfl ?_
      refine b_virtual (dc := 1) (ci := 6) (T := fs_T6) (N := 4) [fs_i (M 0 15), fs_i (M 0 16)] [] d_Fs_climb_44 ml_Fs_326 k_Plan_swap v_Plan_swap rfl io_31 rfl (Nat.le_of_ble_eq_true rfl) rfl (Nat.le_of_ble_eq_true rfl) ?_
      refine fs_Call.mono (fun v M3 hv => ?_) h
      obtain ⟨rfl, h⟩ := hv
      show fs_A2 g m_Fs_climb 9 47 [(0, fs_r 0), (1, fs_i x1)] [] M3 K
      refine a_aload_n (j := 0) d_Fs_climb_47 rfl rfl ?_
      refine b_virtual (dc := 8) (ci := 10) (T := fs_T10) (N := 17) [] [] d_Fs_climb_48 ml_Fs_321 k_Fs_findExchange v_Fs_findExchange rfl io_0 rfl (Nat.le_of_ble_eq_true rfl) rfl (Nat.le_of_ble_eq_true rfl) ?_
      refine fs_Call.mono (fun v M4 hv => ?_) h
      obtain ⟨rfl, h⟩ := hv
      show fs_A2 g m_Fs_climb 9 51 [(0, fs_r 0), (1, fs_i x1)] [] M4 K
      refine a_iinc (j := 1) d_Fs_climb_51 rfl (Nat.le_of_ble_eq_true rfl) [1, 0] rfl ?_
      refine a_goto (tgt := 17) d_Fs_climb_54 rfl ?_
      exact h
set_option maxRecDepth 8000 in
set_option maxHeartbeats 4000000 in
theorem L_Fs_climb_57 {M : fs_M} {K : fs_K} {x1 : Int} 
    (h : ((x1 ≤ 0 → K (some (fs_i x1)) M) ∧ (¬ x1 ≤ 0 → fs_C2 g m_Past_remember 2 [fs_r 95, fs_r 37] M (fun v M5 => v = none ∧ K (some (fs_i x1)) M5)))) :
    fs_A2 g m_Fs_climb 9 57 [(0, fs_r 0), (1, fs_i x1)] [] M K := by
  refine a_iload_n (j := 1) d_Fs_climb_57 rfl rfl ?_
  refine a_if_le (tgt := 72) d_Fs_climb_58 rfl (fun c3 => ?_) (fun c3 => ?_)
  · have h := h.1 c3
    refine a_iload_n (j := 1) d_Fs_climb_72 rfl rfl ?_
    exact b_ireturn d_Fs_climb_73 rfl rfl h
  · have h := h.2 c3
    refine a_aload_n (j := 0) d_Fs_climb_61 rfl rfl ?_
    refine b_getptr (q := 95) d_Fs_climb_62 fl_Fs_76 io_0 rfl rfl rfl ?_
    refine a_aload_n (j := 0) d_Fs_climb_65 rfl rfl ?_
    refine b_getptr (q := 37) d_Fs_climb_66 fl_Fs_35 io_0 rfl rfl rfl ?_
    refine b_virtual (dc := 2) (ci := 5) (T := fs_T5) (N := 3) [fs_r 37] [] d_Fs_climb_69 ml_Fs_231 k_Past_remember v_Past_remember rfl io_95 rfl (Nat.le_of_ble_eq_true rfl) rfl (Nat.le_of_ble_eq_true rfl) ?_
    refine fs_Call.mono (fun v M5 hv => ?_) h
    obtain ⟨rfl, h⟩ := hv
    show fs_A2 g m_Fs_climb 9 72 [(0, fs_r 0), (1, fs_i x1)] [] M5 K
    refine a_iload_n (j := 1) d_Fs_climb_72 rfl rfl ?_
    exact b_ireturn d_Fs_climb_73 rfl rfl h
set_option maxRecDepth 8000 in
set_option maxHeartbeats 4000000 in
theorem E_Fs_refusal {M : fs_M} {K : fs_K} {x1 : Int} 
    (h : ((x1 < 0 → K (some (fs_i (-1))) M) ∧ (¬ x1 < 0 → ((x1 ≤ 1 → fs_C2 g m_Plan_copyFrom 1 [fs_r 37, fs_r 31] M (fun v M1 => v = none ∧ fs_A2 g m_Fs_refusal 8 29 [(0, fs_r 0), (1, fs_i x1), (2, fs_i (-1)), (3, fs_i 0), (4, fs_i 0)] [] M1 K)) ∧ (¬ x1 ≤ 1 → K (some (fs_i (-1))) M))))) :
    fs_C2 g m_Fs_refusal 8 [fs_r 0, fs_i x1] M K := by
  refine b_enter2 (ls := [(0, fs_r 0), (1, fs_i x1)]) (plainFor_of_name pn_Fs) (Nat.le_of_ble_eq_true rfl) rfl ?_
  refine a_iload_n (j := 1) d_Fs_refusal_0 rfl rfl ?_
  refine a_if_lt (tgt := 9) d_Fs_refusal_1 rfl (fun c1 => ?_) (fun c1 => ?_)
  · have h := h.1 c1
    refine a_iconst d_Fs_refusal_9 (by unfold fs_in32; omega) ?_
    exact b_ireturn d_Fs_refusal_10 rfl rfl h
  · have h := h.2 c1
    refine a_iload_n (j := 1) d_Fs_refusal_4 rfl rfl ?_
    refine a_iconst d_Fs_refusal_5 (by unfold fs_in32; omega) ?_
    refine a_icmp_le (tgt := 11) d_Fs_refusal_6 rfl (fun c2 => ?_) (fun c2 => ?_)
    · have h := h.1 c2
      refine a_aload_n (j := 0) d_Fs_refusal_11 rfl rfl ?_
      refine b_getptr (q := 37) d_Fs_refusal_12 fl_Fs_35 io_0 rfl rfl rfl ?_
      refine a_aload_n (j := 0) d_Fs_refusal_15 rfl rfl ?_
      refine b_getptr (q := 31) d_Fs_refusal_16 fl_Fs_31 io_0 rfl rfl rfl ?_
      refine b_virtual (dc := 1) (ci := 6) (T := fs_T6) (N := 4) [fs_r 31] [] d_Fs_refusal_19 ml_Fs_324 k_Plan_copyFrom v_Plan_copyFrom rfl io_37 rfl (Nat.le_of_ble_eq_true rfl) rfl (Nat.le_of_ble_eq_true rfl) ?_
      refine fs_Call.mono (fun v M1 hv => ?_) h
      obtain ⟨rfl, h⟩ := hv
      show fs_A2 g m_Fs_refusal 8 22 [(0, fs_r 0), (1, fs_i x1)] [] M1 K
      refine a_iconst d_Fs_refusal_22 (by unfold fs_in32; omega) ?_
      refine a_istore_n d_Fs_refusal_23 rfl (Nat.le_of_ble_eq_true rfl) [1, 2, 0] rfl ?_
      refine a_iconst d_Fs_refusal_24 (by unfold fs_in32; omega) ?_
      refine a_istore_n d_Fs_refusal_25 rfl (Nat.le_of_ble_eq_true rfl) [1, 2, 3, 0] rfl ?_
      refine a_iconst d_Fs_refusal_26 (by unfold fs_in32; omega) ?_
      refine a_istore d_Fs_refusal_27 (Nat.le_of_ble_eq_true rfl) [1, 2, 3, 4, 0] rfl ?_
      exact h
    · have h := h.2 c2
      refine a_iconst d_Fs_refusal_9 (by unfold fs_in32; omega) ?_
      exact b_ireturn d_Fs_refusal_10 rfl rfl h
set_option maxRecDepth 8000 in
set_option maxHeartbeats 4000000 in
theorem L_Fs_refusal_29 {M : fs_M} {K : fs_K} {x1 x2 x3 x4 : Int} 
    (h : ((fs_shl 1 (M 1 5) ≤ x4 → ((¬ x1 = 0 → K (some (fs_i x3)) M) ∧ (x1 = 0 → K (some (fs_i x2)) M))) ∧ (¬ fs_shl 1 (M 1 5) ≤ x4 → fs_C2 g m_Course_run 7 [fs_r 43, fs_r 37, fs_i (-1)] (fs_st M 37 2 x4) (fun v M2 => v = none ∧ fs_C2 g m_Course_gained 3 [fs_r 43, fs_i x4] M2 (fun v M3 => ∃ r3, v = some (fs_i r3) ∧ ((x2 < r3 → fs_A2 g m_Fs_refusal 8 29 [(0, fs_r 0), (1, fs_i x1), (2, fs_i r3), (3, fs_i x4), (4, fs_i (fs_w32 (x4 + 1)))] [] M3 K) ∧ (¬ x2 < r3 → ((¬ r3 = x2 → fs_A2 g m_Fs_refusal 8 29 [(0, fs_r 0), (1, fs_i x1), (2, fs_i x2), (3, fs_i x3), (4, fs_i (fs_w32 (x4 + 1)))] [] M3 K) ∧ (r3 = x2 → fs_C2 g m_Integer_bitCount 1 [fs_i x4] M3 (fun v M4 => ∃ r4, v = some (fs_i r4) ∧ fs_C2 g m_Integer_bitCount 1 [fs_i x3] M4 (fun v M5 => ∃ r5, v = some (fs_i r5) ∧ ((r5 ≤ r4 → fs_A2 g m_Fs_refusal 8 29 [(0, fs_r 0), (1, fs_i x1), (2, fs_i x2), (3, fs_i x3), (4, fs_i (fs_w32 (x4 + 1)))] [] M5 K) ∧ (¬ r5 ≤ r4 → fs_A2 g m_Fs_refusal 8 29 [(0, fs_r 0), (1, fs_i x1), (2, fs_i r3), (3, fs_i x4), (4, fs_i (fs_w32 (x4 + 1)))] [] M5 K))))))))))))) :
    fs_A2 g m_Fs_refusal 8 29 [(0, fs_r 0), (1, fs_i x1), (2, fs_i x2), (3, fs_i x3), (4, fs_i x4)] [] M K := by
  refine a_iload (j := 4) d_Fs_refusal_29 rfl ?_
  refine a_iconst d_Fs_refusal_31 (by unfold fs_in32; omega) ?_
  refine a_aload_n (j := 0) d_Fs_refusal_32 rfl rfl ?_
  refine b_getptr (q := 1) d_Fs_refusal_33 fl_Fs_12 io_0 rfl rfl rfl ?_
  refine b_getfield (v := fs_i (M 1 5)) d_Fs_refusal_36 fl_Fs_137 io_1 rfl ?_
  refine a_ishl d_Fs_refusal_39 ?_
  refine a_icmp_ge (tgt := 111) d_Fs_refusal_40 rfl (fun c3 => ?_) (fun c3 => ?_)
  · have h := h.1 c3
    refine a_iload_n (j := 1) d_Fs_refusal_111 rfl rfl ?_
    refine a_if_ne (tgt := 119) d_Fs_refusal_112 rfl (fun c4 => ?_) (fun c4 => ?_)
    · have h := h.1 c4
      refine a_iload_n (j := 3) d_Fs_refusal_119 rfl rfl ?_
      exact b_ireturn d_Fs_refusal_120 rfl rfl h
    · have h := h.2 c4
      refine a_iload_n (j := 2) d_Fs_refusal_115 rfl rfl ?_
      refine a_goto (tgt := 120) d_Fs_refusal_116 rfl ?_
      exact b_ireturn d_Fs_refusal_120 rfl rfl h
  · have h := h.2 c3
    refine a_aload_n (j := 0) d_Fs_refusal_43 rfl rfl ?_
    refine b_getptr (q := 37) d_Fs_refusal_44 fl_Fs_35 io_0 rfl rfl rfl ?_
    refine a_iload (j := 4) d_Fs_refusal_47 rfl ?_
    refine b_putfield (x := x4) d_Fs_refusal_49 fl_Fs_177 io_37 rfl rfl fs_nar_int ?_
    refine a_aload_n (j := 0) d_Fs_refusal_52 rfl rfl ?_
    refine b_getptr (q := 43) d_Fs_refusal_53 fl_Fs_43 io_0 rfl rfl rfl ?_
    refine a_aload_n (j := 0) d_Fs_refusal_56 rfl rfl ?_
    refine b_getptr (q := 37) d_Fs_refusal_57 fl_Fs_35 io_0 rfl rfl rfl ?_
    refine a_iconst d_Fs_refusal_60 (by unfold fs_in32; omega) ?_
    refine b_virtual (dc := 7) (ci := 1) (T := fs_T1) (N := 8) [fs_r 37, fs_i (-1)] [] d_Fs_refusal_61 ml_Fs_235 k_Course_run v_Course_run rfl io_43 rfl (Nat.le_of_ble_eq_true rfl) rfl (Nat.le_of_ble_eq_true rfl) ?_
    refine fs_Call.mono (fun v M2 hv => ?_) h
    obtain ⟨rfl, h⟩ := hv
    show fs_A2 g m_Fs_refusal 8 64 [(0, fs_r 0), (1, fs_i x1), (2, fs_i x2), (3, fs_i x3), (4, fs_i x4)] [] M2 K
    refine a_aload_n (j := 0) d_Fs_refusal_64 rfl rfl ?_
    refine b_getptr (q := 43) d_Fs_refusal_65 fl_Fs_43 io_0 rfl rfl rfl ?_
    refine a_iload (j := 4) d_Fs_refusal_68 rfl ?_
    refine b_virtual (dc := 3) (ci := 1) (T := fs_T1) (N := 8) [fs_i x4] [] d_Fs_refusal_70 ml_Fs_257 k_Course_gained v_Course_gained rfl io_43 rfl (Nat.le_of_ble_eq_true rfl) rfl (Nat.le_of_ble_eq_true rfl) ?_
    refine fs_Call.mono (fun v M3 hv => ?_) h
    obtain ⟨r3, rfl, h⟩ := hv
    show fs_A2 g m_Fs_refusal 8 73 [(0, fs_r 0), (1, fs_i x1), (2, fs_i x2), (3, fs_i x3), (4, fs_i x4)] [fs_i r3] M3 K
    refine a_istore d_Fs_refusal_73 (Nat.le_of_ble_eq_true rfl) [1, 2, 3, 4, 5, 0] rfl ?_
    refine a_iload (j := 5) d_Fs_refusal_75 rfl ?_
    refine a_iload_n (j := 2) d_Fs_refusal_77 rfl rfl ?_
    refine a_icmp_gt (tgt := 99) d_Fs_refusal_78 rfl (fun c5 => ?_) (fun c5 => ?_)
    · have h := h.1 c5
      refine a_iload (j := 5) d_Fs_refusal_99 rfl ?_
      refine a_istore_n d_Fs_refusal_101 rfl (Nat.le_of_ble_eq_true rfl) [1, 2, 0, 3, 4, 5] rfl ?_
      refine a_iload (j := 4) d_Fs_refusal_102 rfl ?_
      refine a_istore_n d_Fs_refusal_104 rfl (Nat.le_of_ble_eq_true rfl) [1, 2, 3, 0, 4, 5] rfl ?_
      refine a_iinc (j := 4) d_Fs_refusal_105 rfl (Nat.le_of_ble_eq_true rfl) [1, 2, 3, 4, 0, 5] rfl ?_
      refine a_goto (tgt := 29) d_Fs_refusal_108 rfl ?_
      refine a_sub [0, 1, 2, 3, 4] rfl ?_
      exact h
    · have h := h.2 c5
      refine a_iload (j := 5) d_Fs_refusal_81 rfl ?_
      refine a_iload_n (j := 2) d_Fs_refusal_83 rfl rfl ?_
      refine a_icmp_ne (tgt := 105) d_Fs_refusal_84 rfl (fun c6 => ?_) (fun c6 => ?_)
      · have h := h.1 c6
        refine a_iinc (j := 4) d_Fs_refusal_105 rfl (Nat.le_of_ble_eq_true rfl) [1, 2, 3, 4, 0, 5] rfl ?_
        refine a_goto (tgt := 29) d_Fs_refusal_108 rfl ?_
        refine a_sub [0, 1, 2, 3, 4] rfl ?_
        exact h
      · have h := h.2 c6
        refine a_iload (j := 4) d_Fs_refusal_87 rfl ?_
        refine b_static (dc := 1) [fs_i x4] [] d_Fs_refusal_89 ml_Fs_330 k_Integer_bitCount s_Integer_bitCount rfl (Nat.le_of_ble_eq_true rfl) rfl (Nat.le_of_ble_eq_true rfl) ?_
        refine fs_Call.mono (fun v M4 hv => ?_) h
        obtain ⟨r4, rfl, h⟩ := hv
        show fs_A2 g m_Fs_refusal 8 92 [(0, fs_r 0), (1, fs_i x1), (2, fs_i x2), (3, fs_i x3), (4, fs_i x4), (5, fs_i r3)] [fs_i r4] M4 K
        refine a_iload_n (j := 3) d_Fs_refusal_92 rfl rfl ?_
        refine b_static (dc := 1) [fs_i x3] [fs_i r4] d_Fs_refusal_93 ml_Fs_330 k_Integer_bitCount s_Integer_bitCount rfl (Nat.le_of_ble_eq_true rfl) rfl (Nat.le_of_ble_eq_true rfl) ?_
        refine fs_Call.mono (fun v M5 hv => ?_) h
        obtain ⟨r5, rfl, h⟩ := hv
        show fs_A2 g m_Fs_refusal 8 96 [(0, fs_r 0), (1, fs_i x1), (2, fs_i x2), (3, fs_i x3), (4, fs_i x4), (5, fs_i r3)] [fs_i r5, fs_i r4] M5 K
        refine a_icmp_ge (tgt := 105) d_Fs_refusal_96 rfl (fun c7 => ?_) (fun c7 => ?_)
        · have h := h.1 c7
          refine a_iinc (j := 4) d_Fs_refusal_105 rfl (Nat.le_of_ble_eq_true rfl) [1, 2, 3, 4, 0, 5] rfl ?_
          refine a_goto (tgt := 29) d_Fs_refusal_108 rfl ?_
          refine a_sub [0, 1, 2, 3, 4] rfl ?_
          exact h
        · have h := h.2 c7
          refine a_iload (j := 5) d_Fs_refusal_99 rfl ?_
          refine a_istore_n d_Fs_refusal_101 rfl (Nat.le_of_ble_eq_true rfl) [1, 2, 0, 3, 4, 5] rfl ?_
          refine a_iload (j := 4) d_Fs_refusal_102 rfl ?_
          refine a_istore_n d_Fs_refusal_104 rfl (Nat.le_of_ble_eq_true rfl) [1, 2, 3, 0, 4, 5] rfl ?_
          refine a_iinc (j := 4) d_Fs_refusal_105 rfl (Nat.le_of_ble_eq_true rfl) [1, 2, 3, 4, 0, 5] rfl ?_
          refine a_goto (tgt := 29) d_Fs_refusal_108 rfl ?_
          refine a_sub [0, 1, 2, 3, 4] rfl ?_
          exact h
set_option maxRecDepth 8000 in
set_option maxHeartbeats 4000000 in
theorem E_Fs_tried {M : fs_M} {K : fs_K} {x1 x2 : Int} 
    (h : ((¬ x1 = 3 → ((¬ x1 = 4 → fs_A2 g m_Fs_tried 8 31 [(0, fs_r 0), (1, fs_i x1), (2, fs_i x2)] [fs_i 1] M K) ∧ (x1 = 4 → fs_A2 g m_Fs_tried 8 31 [(0, fs_r 0), (1, fs_i x1), (2, fs_i x2)] [fs_i (M 1 9)] M K))) ∧ (x1 = 3 → fs_A2 g m_Fs_tried 8 31 [(0, fs_r 0), (1, fs_i x1), (2, fs_i x2)] [fs_i (M 1 5)] M K))) :
    fs_C2 g m_Fs_tried 8 [fs_r 0, fs_i x1, fs_i x2] M K := by
  refine b_enter2 (ls := [(0, fs_r 0), (1, fs_i x1), (2, fs_i x2)]) (plainFor_of_name pn_Fs) (Nat.le_of_ble_eq_true rfl) rfl ?_
  refine a_iload_n (j := 1) d_Fs_tried_0 rfl rfl ?_
  refine a_iconst d_Fs_tried_1 (by unfold fs_in32; omega) ?_
  refine a_icmp_ne (tgt := 15) d_Fs_tried_2 rfl (fun c1 => ?_) (fun c1 => ?_)
  · have h := h.1 c1
    refine a_iload_n (j := 1) d_Fs_tried_15 rfl rfl ?_
    refine a_iconst d_Fs_tried_16 (by unfold fs_in32; omega) ?_
    refine a_icmp_ne (tgt := 30) d_Fs_tried_17 rfl (fun c2 => ?_) (fun c2 => ?_)
    · have h := h.1 c2
      refine a_iconst d_Fs_tried_30 (by unfold fs_in32; omega) ?_
      exact h
    · have h := h.2 c2
      refine a_aload_n (j := 0) d_Fs_tried_20 rfl rfl ?_
      refine b_getptr (q := 1) d_Fs_tried_21 fl_Fs_12 io_0 rfl rfl rfl ?_
      refine b_getfield (v := fs_i (M 1 9)) d_Fs_tried_24 fl_Fs_147 io_1 rfl ?_
      refine a_goto (tgt := 31) d_Fs_tried_27 rfl ?_
      exact h
  · have h := h.2 c1
    refine a_aload_n (j := 0) d_Fs_tried_5 rfl rfl ?_
    refine b_getptr (q := 1) d_Fs_tried_6 fl_Fs_12 io_0 rfl rfl rfl ?_
    refine b_getfield (v := fs_i (M 1 5)) d_Fs_tried_9 fl_Fs_137 io_1 rfl ?_
    refine a_goto (tgt := 31) d_Fs_tried_12 rfl ?_
    exact h
set_option maxRecDepth 8000 in
set_option maxHeartbeats 4000000 in
theorem L_Fs_tried_31 {M : fs_M} {K : fs_K} {x1 x2 x100 : Int} 
    (h : ((x1 < 0 → K (some (fs_i (-1))) M) ∧ (¬ x1 < 0 → ((5 < x1 → K (some (fs_i (-1))) M) ∧ (¬ 5 < x1 → ((x2 < 0 → K (some (fs_i (-1))) M) ∧ (¬ x2 < 0 → ((x2 < x100 → fs_C2 g m_Plan_copyFrom 1 [fs_r 37, fs_r 31] M (fun v M1 => v = none ∧ ((¬ x1 = 0 → ((¬ x1 = 3 → ((¬ x1 = 4 → fs_A2 g m_Fs_tried 8 110 [(0, fs_r 0), (1, fs_i x1)] [] M1 K) ∧ (x1 = 4 → (x2 < 3 ∧ fs_A2 g m_Fs_tried 8 110 [(0, fs_r 0), (1, fs_i x1)] [] (fs_st M1 42 x2 0) K)))) ∧ (x1 = 3 → fs_C2 g m_Plan_removeHouse 1 [fs_r 37, fs_i x2] M1 (fun v M2 => v = none ∧ fs_A2 g m_Fs_tried 8 110 [(0, fs_r 0), (1, fs_i x1)] [] M2 K)))) ∧ (x1 = 0 → fs_A2 g m_Fs_tried 8 110 [(0, fs_r 0), (1, fs_i x1)] [] (fs_st M1 37 2 63) K)))) ∧ (¬ x2 < x100 → K (some (fs_i (-1))) M))))))))) :
    fs_A2 g m_Fs_tried 8 31 [(0, fs_r 0), (1, fs_i x1), (2, fs_i x2)] [fs_i x100] M K := by
  refine a_istore_n d_Fs_tried_31 rfl (Nat.le_of_ble_eq_true rfl) [1, 2, 3, 0] rfl ?_
  refine a_iload_n (j := 1) d_Fs_tried_32 rfl rfl ?_
  refine a_if_lt (tgt := 50) d_Fs_tried_33 rfl (fun c3 => ?_) (fun c3 => ?_)
  · have h := h.1 c3
    refine a_iconst d_Fs_tried_50 (by unfold fs_in32; omega) ?_
    exact b_ireturn d_Fs_tried_51 rfl rfl h
  · have h := h.2 c3
    refine a_iload_n (j := 1) d_Fs_tried_36 rfl rfl ?_
    refine a_iconst d_Fs_tried_37 (by unfold fs_in32; omega) ?_
    refine a_icmp_gt (tgt := 50) d_Fs_tried_38 rfl (fun c4 => ?_) (fun c4 => ?_)
    · have h := h.1 c4
      refine a_iconst d_Fs_tried_50 (by unfold fs_in32; omega) ?_
      exact b_ireturn d_Fs_tried_51 rfl rfl h
    · have h := h.2 c4
      refine a_iload_n (j := 2) d_Fs_tried_41 rfl rfl ?_
      refine a_if_lt (tgt := 50) d_Fs_tried_42 rfl (fun c5 => ?_) (fun c5 => ?_)
      · have h := h.1 c5
        refine a_iconst d_Fs_tried_50 (by unfold fs_in32; omega) ?_
        exact b_ireturn d_Fs_tried_51 rfl rfl h
      · have h := h.2 c5
        refine a_iload_n (j := 2) d_Fs_tried_45 rfl rfl ?_
        refine a_iload_n (j := 3) d_Fs_tried_46 rfl rfl ?_
        refine a_icmp_lt (tgt := 52) d_Fs_tried_47 rfl (fun c6 => ?_) (fun c6 => ?_)
        · have h := h.1 c6
          refine a_aload_n (j := 0) d_Fs_tried_52 rfl rfl ?_
          refine b_getptr (q := 37) d_Fs_tried_53 fl_Fs_35 io_0 rfl rfl rfl ?_
          refine a_aload_n (j := 0) d_Fs_tried_56 rfl rfl ?_
          refine b_getptr (q := 31) d_Fs_tried_57 fl_Fs_31 io_0 rfl rfl rfl ?_
          refine b_virtual (dc := 1) (ci := 6) (T := fs_T6) (N := 4) [fs_r 31] [] d_Fs_tried_60 ml_Fs_324 k_Plan_copyFrom v_Plan_copyFrom rfl io_37 rfl (Nat.le_of_ble_eq_true rfl) rfl (Nat.le_of_ble_eq_true rfl) ?_
          refine fs_Call.mono (fun v M1 hv => ?_) h
          obtain ⟨rfl, h⟩ := hv
          show fs_A2 g m_Fs_tried 8 63 [(0, fs_r 0), (1, fs_i x1), (2, fs_i x2), (3, fs_i x100)] [] M1 K
          refine a_iload_n (j := 1) d_Fs_tried_63 rfl rfl ?_
          refine a_if_ne (tgt := 79) d_Fs_tried_64 rfl (fun c7 => ?_) (fun c7 => ?_)
          · have h := h.1 c7
            refine a_iload_n (j := 1) d_Fs_tried_79 rfl rfl ?_
            refine a_iconst d_Fs_tried_80 (by unfold fs_in32; omega) ?_
            refine a_icmp_ne (tgt := 95) d_Fs_tried_81 rfl (fun c8 => ?_) (fun c8 => ?_)
            · have h := h.1 c8
              refine a_iload_n (j := 1) d_Fs_tried_95 rfl rfl ?_
              refine a_iconst d_Fs_tried_96 (by unfold fs_in32; omega) ?_
              refine a_icmp_ne (tgt := 110) d_Fs_tried_97 rfl (fun c9 => ?_) (fun c9 => ?_)
              · have h := h.1 c9
                refine a_sub [0, 1] rfl ?_
                exact h
              · have h := h.2 c9
                refine a_aload_n (j := 0) d_Fs_tried_100 rfl rfl ?_
                refine b_getptr (q := 37) d_Fs_tried_101 fl_Fs_35 io_0 rfl rfl rfl ?_
                refine b_getptr (q := 42) d_Fs_tried_104 fl_Fs_197 io_37 rfl rfl rfl ?_
                refine a_iload_n (j := 2) d_Fs_tried_107 rfl rfl ?_
                refine a_iconst d_Fs_tried_108 (by unfold fs_in32; omega) ?_
                obtain ⟨o10, h⟩ := h
                refine b_iastore d_Fs_tried_109 ia_42 (by omega) o10 ?_
                refine a_sub [0, 1] rfl ?_
                exact h
            · have h := h.2 c8
              refine a_aload_n (j := 0) d_Fs_tried_84 rfl rfl ?_
              refine b_getptr (q := 37) d_Fs_tried_85 fl_Fs_35 io_0 rfl rfl rfl ?_
              refine a_iload_n (j := 2) d_Fs_tried_88 rfl rfl ?_
              refine b_virtual (dc := 1) (ci := 6) (T := fs_T6) (N := 4) [fs_i x2] [] d_Fs_tried_89 ml_Fs_335 k_Plan_removeHouse v_Plan_removeHouse rfl io_37 rfl (Nat.le_of_ble_eq_true rfl) rfl (Nat.le_of_ble_eq_true rfl) ?_
              refine fs_Call.mono (fun v M2 hv => ?_) h
              obtain ⟨rfl, h⟩ := hv
              show fs_A2 g m_Fs_tried 8 92 [(0, fs_r 0), (1, fs_i x1), (2, fs_i x2), (3, fs_i x100)] [] M2 K
              refine a_goto (tgt := 110) d_Fs_tried_92 rfl ?_
              refine a_sub [0, 1] rfl ?_
              exact h
          · have h := h.2 c7
            refine a_aload_n (j := 0) d_Fs_tried_67 rfl rfl ?_
            refine b_getptr (q := 37) d_Fs_tried_68 fl_Fs_35 io_0 rfl rfl rfl ?_
            refine a_bipush d_Fs_tried_71 (by decide) ?_
            refine b_putfield (x := 63) d_Fs_tried_73 fl_Fs_177 io_37 rfl rfl fs_nar_int ?_
            refine a_goto (tgt := 110) d_Fs_tried_76 rfl ?_
            refine a_sub [0, 1] rfl ?_
            exact h
        · have h := h.2 c6
          refine a_iconst d_Fs_tried_50 (by unfold fs_in32; omega) ?_
          exact b_ireturn d_Fs_tried_51 rfl rfl h
set_option maxRecDepth 8000 in
set_option maxHeartbeats 4000000 in
theorem L_Fs_tried_110 {M : fs_M} {K : fs_K} {x1 : Int} 
    (h : fs_C2 g m_Course_run 7 [fs_r 43, fs_r 37, fs_i x1] M (fun v M3 => v = none ∧ ((¬ x1 = 0 → fs_C2 g m_Course_gained 3 [fs_r 43, fs_i (M3 37 2)] M3 (fun v M4 => ∃ r4, v = some (fs_i r4) ∧ K (some (fs_i r4)) M4)) ∧ (x1 = 0 → fs_C2 g m_Course_gained 3 [fs_r 43, fs_i 0] M3 (fun v M5 => ∃ r5, v = some (fs_i r5) ∧ K (some (fs_i r5)) M5))))) :
    fs_A2 g m_Fs_tried 8 110 [(0, fs_r 0), (1, fs_i x1)] [] M K := by
  refine a_aload_n (j := 0) d_Fs_tried_110 rfl rfl ?_
  refine b_getptr (q := 43) d_Fs_tried_111 fl_Fs_43 io_0 rfl rfl rfl ?_
  refine a_aload_n (j := 0) d_Fs_tried_114 rfl rfl ?_
  refine b_getptr (q := 37) d_Fs_tried_115 fl_Fs_35 io_0 rfl rfl rfl ?_
  refine a_iload_n (j := 1) d_Fs_tried_118 rfl rfl ?_
  refine b_virtual (dc := 7) (ci := 1) (T := fs_T1) (N := 8) [fs_r 37, fs_i x1] [] d_Fs_tried_119 ml_Fs_235 k_Course_run v_Course_run rfl io_43 rfl (Nat.le_of_ble_eq_true rfl) rfl (Nat.le_of_ble_eq_true rfl) ?_
  refine fs_Call.mono (fun v M3 hv => ?_) h
  obtain ⟨rfl, h⟩ := hv
  show fs_A2 g m_Fs_tried 8 122 [(0, fs_r 0), (1, fs_i x1)] [] M3 K
  refine a_aload_n (j := 0) d_Fs_tried_122 rfl rfl ?_
  refine b_getptr (q := 43) d_Fs_tried_123 fl_Fs_43 io_0 rfl rfl rfl ?_
  refine a_iload_n (j := 1) d_Fs_tried_126 rfl rfl ?_
  refine a_if_ne (tgt := 134) d_Fs_tried_127 rfl (fun c11 => ?_) (fun c11 => ?_)
  · have h := h.1 c11
    refine a_aload_n (j := 0) d_Fs_tried_134 rfl rfl ?_
    refine b_getptr (q := 37) d_Fs_tried_135 fl_Fs_35 io_0 rfl rfl rfl ?_
    refine b_getfield (v := fs_i (M3 37 2)) d_Fs_tried_138 fl_Fs_177 io_37 rfl ?_
    refine b_virtual (dc := 3) (ci := 1) (T := fs_T1) (N := 8) [fs_i (M3 37 2)] [] d_Fs_tried_141 ml_Fs_257 k_Course_gained v_Course_gained rfl io_43 rfl (Nat.le_of_ble_eq_true rfl) rfl (Nat.le_of_ble_eq_true rfl) ?_
    refine fs_Call.mono (fun v M4 hv => ?_) h
    obtain ⟨r4, rfl, h⟩ := hv
    show fs_A2 g m_Fs_tried 8 144 [(0, fs_r 0), (1, fs_i x1)] [fs_i r4] M4 K
    exact b_ireturn d_Fs_tried_144 rfl rfl h
  · have h := h.2 c11
    refine a_iconst d_Fs_tried_130 (by unfold fs_in32; omega) ?_
    refine a_goto (tgt := 141) d_Fs_tried_131 rfl ?_
    refine b_virtual (dc := 3) (ci := 1) (T := fs_T1) (N := 8) [fs_i 0] [] d_Fs_tried_141 ml_Fs_257 k_Course_gained v_Course_gained rfl io_43 rfl (Nat.le_of_ble_eq_true rfl) rfl (Nat.le_of_ble_eq_true rfl) ?_
    refine fs_Call.mono (fun v M5 hv => ?_) h
    obtain ⟨r5, rfl, h⟩ := hv
    show fs_A2 g m_Fs_tried 8 144 [(0, fs_r 0), (1, fs_i x1)] [fs_i r5] M5 K
    exact b_ireturn d_Fs_tried_144 rfl rfl h
set_option maxRecDepth 8000 in
set_option maxHeartbeats 4000000 in
theorem E_Fs_track {M : fs_M} {K : fs_K} {x1 x2 x3 : Int} 
    (h : fs_C2 g m_Script_hasDark 1 [fs_r 1, fs_i x1] M (fun v M1 => ∃ r1, v = some (fs_i r1) ∧ ((r1 = 0 → K (some (fs_i (-1))) M1) ∧ (¬ r1 = 0 → fs_C2 g m_Script_hasHouse 1 [fs_r 1, fs_i x2] M1 (fun v M2 => ∃ r2, v = some (fs_i r2) ∧ ((r2 = 0 → K (some (fs_i (-1))) M2) ∧ (¬ r2 = 0 → fs_C2 g m_Fs_isMinute 1 [fs_i x3] M2 (fun v M3 => ∃ r3, v = some (fs_i r3) ∧ ((¬ r3 = 0 → fs_C2 g m_Tracks_add 1 [fs_r 90, fs_i x1, fs_i x2, fs_i x3, fs_i (-1)] M3 (fun v M4 => ∃ r4, v = some (fs_i r4) ∧ K (some (fs_i r4)) M4)) ∧ (r3 = 0 → K (some (fs_i (-1))) M3)))))))))) :
    fs_C2 g m_Fs_track 2 [fs_r 0, fs_i x1, fs_i x2, fs_i x3] M K := by
  refine b_enter2 (ls := [(0, fs_r 0), (1, fs_i x1), (2, fs_i x2), (3, fs_i x3)]) (plainFor_of_name pn_Fs) (Nat.le_of_ble_eq_true rfl) rfl ?_
  refine a_aload_n (j := 0) d_Fs_track_0 rfl rfl ?_
  refine b_getptr (q := 1) d_Fs_track_1 fl_Fs_12 io_0 rfl rfl rfl ?_
  refine a_iload_n (j := 1) d_Fs_track_4 rfl rfl ?_
  refine b_virtual (dc := 1) (ci := 8) (T := fs_T8) (N := 13) [fs_i x1] [] d_Fs_track_5 ml_Fs_188 k_Script_hasDark v_Script_hasDark rfl io_1 rfl (Nat.le_of_ble_eq_true rfl) rfl (Nat.le_of_ble_eq_true rfl) ?_
  refine fs_Call.mono (fun v M1 hv => ?_) h
  obtain ⟨r1, rfl, h⟩ := hv
  show fs_A2 g m_Fs_track 2 8 [(0, fs_r 0), (1, fs_i x1), (2, fs_i x2), (3, fs_i x3)] [fs_i r1] M1 K
  refine a_if_eq (tgt := 29) d_Fs_track_8 rfl (fun c1 => ?_) (fun c1 => ?_)
  · have h := h.1 c1
    refine a_iconst d_Fs_track_29 (by unfold fs_in32; omega) ?_
    exact b_ireturn d_Fs_track_30 rfl rfl h
  · have h := h.2 c1
    refine a_aload_n (j := 0) d_Fs_track_11 rfl rfl ?_
    refine b_getptr (q := 1) d_Fs_track_12 fl_Fs_12 io_0 rfl rfl rfl ?_
    refine a_iload_n (j := 2) d_Fs_track_15 rfl rfl ?_
    refine b_virtual (dc := 1) (ci := 8) (T := fs_T8) (N := 13) [fs_i x2] [] d_Fs_track_16 ml_Fs_150 k_Script_hasHouse v_Script_hasHouse rfl io_1 rfl (Nat.le_of_ble_eq_true rfl) rfl (Nat.le_of_ble_eq_true rfl) ?_
    refine fs_Call.mono (fun v M2 hv => ?_) h
    obtain ⟨r2, rfl, h⟩ := hv
    show fs_A2 g m_Fs_track 2 19 [(0, fs_r 0), (1, fs_i x1), (2, fs_i x2), (3, fs_i x3)] [fs_i r2] M2 K
    refine a_if_eq (tgt := 29) d_Fs_track_19 rfl (fun c2 => ?_) (fun c2 => ?_)
    · have h := h.1 c2
      refine a_iconst d_Fs_track_29 (by unfold fs_in32; omega) ?_
      exact b_ireturn d_Fs_track_30 rfl rfl h
    · have h := h.2 c2
      refine a_iload_n (j := 3) d_Fs_track_22 rfl rfl ?_
      refine b_static (dc := 1) [fs_i x3] [] d_Fs_track_23 ml_Fs_204 k_Fs_isMinute s_Fs_isMinute rfl (Nat.le_of_ble_eq_true rfl) rfl (Nat.le_of_ble_eq_true rfl) ?_
      refine fs_Call.mono (fun v M3 hv => ?_) h
      obtain ⟨r3, rfl, h⟩ := hv
      show fs_A2 g m_Fs_track 2 26 [(0, fs_r 0), (1, fs_i x1), (2, fs_i x2), (3, fs_i x3)] [fs_i r3] M3 K
      refine a_if_ne (tgt := 31) d_Fs_track_26 rfl (fun c3 => ?_) (fun c3 => ?_)
      · have h := h.1 c3
        refine a_aload_n (j := 0) d_Fs_track_31 rfl rfl ?_
        refine b_getptr (q := 90) d_Fs_track_32 fl_Fs_69 io_0 rfl rfl rfl ?_
        refine a_iload_n (j := 1) d_Fs_track_35 rfl rfl ?_
        refine a_iload_n (j := 2) d_Fs_track_36 rfl rfl ?_
        refine a_iload_n (j := 3) d_Fs_track_37 rfl rfl ?_
        refine a_iconst d_Fs_track_38 (by unfold fs_in32; omega) ?_
        refine b_virtual (dc := 1) (ci := 9) (T := fs_T9) (N := 6) [fs_i x1, fs_i x2, fs_i x3, fs_i (-1)] [] d_Fs_track_39 ml_Fs_338 k_Tracks_add v_Tracks_add rfl io_90 rfl (Nat.le_of_ble_eq_true rfl) rfl (Nat.le_of_ble_eq_true rfl) ?_
        refine fs_Call.mono (fun v M4 hv => ?_) h
        obtain ⟨r4, rfl, h⟩ := hv
        show fs_A2 g m_Fs_track 2 42 [(0, fs_r 0), (1, fs_i x1), (2, fs_i x2), (3, fs_i x3)] [fs_i r4] M4 K
        exact b_ireturn d_Fs_track_42 rfl rfl h
      · have h := h.2 c3
        refine a_iconst d_Fs_track_29 (by unfold fs_in32; omega) ?_
        exact b_ireturn d_Fs_track_30 rfl rfl h
set_option maxRecDepth 8000 in
set_option maxHeartbeats 4000000 in
theorem E_Fs_strike {M : fs_M} {K : fs_K} {x1 : Int} 
    (h : ((x1 < 0 → K (some (fs_i (-1))) M) ∧ (¬ x1 < 0 → ((x1 < M 90 4 → fs_C2 g m_Tracks_add 1 [fs_r 90, fs_i (-1), fs_i (-1), fs_i (-1), fs_i x1] M (fun v M1 => ∃ r1, v = some (fs_i r1) ∧ K (some (fs_i r1)) M1)) ∧ (¬ x1 < M 90 4 → K (some (fs_i (-1))) M))))) :
    fs_C2 g m_Fs_strike 2 [fs_r 0, fs_i x1] M K := by
  refine b_enter2 (ls := [(0, fs_r 0), (1, fs_i x1)]) (plainFor_of_name pn_Fs) (Nat.le_of_ble_eq_true rfl) rfl ?_
  refine a_iload_n (j := 1) d_Fs_strike_0 rfl rfl ?_
  refine a_if_lt (tgt := 15) d_Fs_strike_1 rfl (fun c1 => ?_) (fun c1 => ?_)
  · have h := h.1 c1
    refine a_iconst d_Fs_strike_15 (by unfold fs_in32; omega) ?_
    exact b_ireturn d_Fs_strike_16 rfl rfl h
  · have h := h.2 c1
    refine a_iload_n (j := 1) d_Fs_strike_4 rfl rfl ?_
    refine a_aload_n (j := 0) d_Fs_strike_5 rfl rfl ?_
    refine b_getptr (q := 90) d_Fs_strike_6 fl_Fs_69 io_0 rfl rfl rfl ?_
    refine b_getfield (v := fs_i (M 90 4)) d_Fs_strike_9 fl_Fs_341 io_90 rfl ?_
    refine a_icmp_lt (tgt := 17) d_Fs_strike_12 rfl (fun c2 => ?_) (fun c2 => ?_)
    · have h := h.1 c2
      refine a_aload_n (j := 0) d_Fs_strike_17 rfl rfl ?_
      refine b_getptr (q := 90) d_Fs_strike_18 fl_Fs_69 io_0 rfl rfl rfl ?_
      refine a_iconst d_Fs_strike_21 (by unfold fs_in32; omega) ?_
      refine a_iconst d_Fs_strike_22 (by unfold fs_in32; omega) ?_
      refine a_iconst d_Fs_strike_23 (by unfold fs_in32; omega) ?_
      refine a_iload_n (j := 1) d_Fs_strike_24 rfl rfl ?_
      refine b_virtual (dc := 1) (ci := 9) (T := fs_T9) (N := 6) [fs_i (-1), fs_i (-1), fs_i (-1), fs_i x1] [] d_Fs_strike_25 ml_Fs_338 k_Tracks_add v_Tracks_add rfl io_90 rfl (Nat.le_of_ble_eq_true rfl) rfl (Nat.le_of_ble_eq_true rfl) ?_
      refine fs_Call.mono (fun v M1 hv => ?_) h
      obtain ⟨r1, rfl, h⟩ := hv
      show fs_A2 g m_Fs_strike 2 28 [(0, fs_r 0), (1, fs_i x1)] [fs_i r1] M1 K
      exact b_ireturn d_Fs_strike_28 rfl rfl h
    · have h := h.2 c2
      refine a_iconst d_Fs_strike_15 (by unfold fs_in32; omega) ?_
      exact b_ireturn d_Fs_strike_16 rfl rfl h
set_option maxRecDepth 8000 in
set_option maxHeartbeats 4000000 in
theorem E_Fs_known {M : fs_M} {K : fs_K} {x1 : Int} 
    (h : ((x1 < (-1) → K (some (fs_i 0)) M) ∧ (¬ x1 < (-1) → ((x1 ≤ M 90 4 → K (some (fs_i 1)) (fs_st M 90 5 x1)) ∧ (¬ x1 ≤ M 90 4 → K (some (fs_i 0)) M))))) :
    fs_C2 g m_Fs_known 1 [fs_r 0, fs_i x1] M K := by
  refine b_enter2 (ls := [(0, fs_r 0), (1, fs_i x1)]) (plainFor_of_name pn_Fs) (Nat.le_of_ble_eq_true rfl) rfl ?_
  refine a_iload_n (j := 1) d_Fs_known_0 rfl rfl ?_
  refine a_iconst d_Fs_known_1 (by unfold fs_in32; omega) ?_
  refine a_icmp_lt (tgt := 16) d_Fs_known_2 rfl (fun c1 => ?_) (fun c1 => ?_)
  · have h := h.1 c1
    refine a_iconst d_Fs_known_16 (by unfold fs_in32; omega) ?_
    exact b_ireturn d_Fs_known_17 rfl (fs_nar01 (Or.inl rfl)) h
  · have h := h.2 c1
    refine a_iload_n (j := 1) d_Fs_known_5 rfl rfl ?_
    refine a_aload_n (j := 0) d_Fs_known_6 rfl rfl ?_
    refine b_getptr (q := 90) d_Fs_known_7 fl_Fs_69 io_0 rfl rfl rfl ?_
    refine b_getfield (v := fs_i (M 90 4)) d_Fs_known_10 fl_Fs_341 io_90 rfl ?_
    refine a_icmp_le (tgt := 18) d_Fs_known_13 rfl (fun c2 => ?_) (fun c2 => ?_)
    · have h := h.1 c2
      refine a_aload_n (j := 0) d_Fs_known_18 rfl rfl ?_
      refine b_getptr (q := 90) d_Fs_known_19 fl_Fs_69 io_0 rfl rfl rfl ?_
      refine a_iload_n (j := 1) d_Fs_known_22 rfl rfl ?_
      refine b_putfield (x := x1) d_Fs_known_23 fl_Fs_342 io_90 rfl rfl fs_nar_int ?_
      refine a_iconst d_Fs_known_26 (by unfold fs_in32; omega) ?_
      exact b_ireturn d_Fs_known_27 rfl (fs_nar01 (Or.inr rfl)) h
    · have h := h.2 c2
      refine a_iconst d_Fs_known_16 (by unfold fs_in32; omega) ?_
      exact b_ireturn d_Fs_known_17 rfl (fs_nar01 (Or.inl rfl)) h
set_option maxRecDepth 8000 in
set_option maxHeartbeats 4000000 in
theorem E_Fs_tales {M : fs_M} {K : fs_K} {x1 : Int} 
    (h : fs_C2 g m_Script_hasDark 1 [fs_r 1, fs_i x1] M (fun v M1 => ∃ r1, v = some (fs_i r1) ∧ ((¬ r1 = 0 → fs_C2 g m_Book_write 19 [fs_r 60, fs_r 31] M1 (fun v M2 => v = none ∧ fs_C2 g m_Tracks_standing 2 [fs_r 90] M2 (fun v M3 => ∃ r3, v = some (fs_i r3) ∧ fs_A2 g m_Fs_tales 20 37 [(0, fs_r 0), (1, fs_i x1), (2, fs_i r3), (3, fs_i 0), (4, fs_i 0)] [] M3 K))) ∧ (r1 = 0 → K (some (fs_i (-1))) M1)))) :
    fs_C2 g m_Fs_tales 20 [fs_r 0, fs_i x1] M K := by
  refine b_enter2 (ls := [(0, fs_r 0), (1, fs_i x1)]) (plainFor_of_name pn_Fs) (Nat.le_of_ble_eq_true rfl) rfl ?_
  refine a_aload_n (j := 0) d_Fs_tales_0 rfl rfl ?_
  refine b_getptr (q := 1) d_Fs_tales_1 fl_Fs_12 io_0 rfl rfl rfl ?_
  refine a_iload_n (j := 1) d_Fs_tales_4 rfl rfl ?_
  refine b_virtual (dc := 1) (ci := 8) (T := fs_T8) (N := 13) [fs_i x1] [] d_Fs_tales_5 ml_Fs_188 k_Script_hasDark v_Script_hasDark rfl io_1 rfl (Nat.le_of_ble_eq_true rfl) rfl (Nat.le_of_ble_eq_true rfl) ?_
  refine fs_Call.mono (fun v M1 hv => ?_) h
  obtain ⟨r1, rfl, h⟩ := hv
  show fs_A2 g m_Fs_tales 20 8 [(0, fs_r 0), (1, fs_i x1)] [fs_i r1] M1 K
  refine a_if_ne (tgt := 13) d_Fs_tales_8 rfl (fun c1 => ?_) (fun c1 => ?_)
  · have h := h.1 c1
    refine a_aload_n (j := 0) d_Fs_tales_13 rfl rfl ?_
    refine b_getptr (q := 60) d_Fs_tales_14 fl_Fs_62 io_0 rfl rfl rfl ?_
    refine a_aload_n (j := 0) d_Fs_tales_17 rfl rfl ?_
    refine b_getptr (q := 31) d_Fs_tales_18 fl_Fs_31 io_0 rfl rfl rfl ?_
    refine b_virtual (dc := 19) (ci := 0) (T := fs_T0) (N := 15) [fs_r 31] [] d_Fs_tales_21 ml_Fs_296 k_Book_write v_Book_write rfl io_60 rfl (Nat.le_of_ble_eq_true rfl) rfl (Nat.le_of_ble_eq_true rfl) ?_
    refine fs_Call.mono (fun v M2 hv => ?_) h
    obtain ⟨rfl, h⟩ := hv
    show fs_A2 g m_Fs_tales 20 24 [(0, fs_r 0), (1, fs_i x1)] [] M2 K
    refine a_aload_n (j := 0) d_Fs_tales_24 rfl rfl ?_
    refine b_getptr (q := 90) d_Fs_tales_25 fl_Fs_69 io_0 rfl rfl rfl ?_
    refine b_virtual (dc := 2) (ci := 9) (T := fs_T9) (N := 6) [] [] d_Fs_tales_28 ml_Fs_345 k_Tracks_standing v_Tracks_standing rfl io_90 rfl (Nat.le_of_ble_eq_true rfl) rfl (Nat.le_of_ble_eq_true rfl) ?_
    refine fs_Call.mono (fun v M3 hv => ?_) h
    obtain ⟨r3, rfl, h⟩ := hv
    show fs_A2 g m_Fs_tales 20 31 [(0, fs_r 0), (1, fs_i x1)] [fs_i r3] M3 K
    refine a_istore_n d_Fs_tales_31 rfl (Nat.le_of_ble_eq_true rfl) [1, 2, 0] rfl ?_
    refine a_iconst d_Fs_tales_32 (by unfold fs_in32; omega) ?_
    refine a_istore_n d_Fs_tales_33 rfl (Nat.le_of_ble_eq_true rfl) [1, 2, 3, 0] rfl ?_
    refine a_iconst d_Fs_tales_34 (by unfold fs_in32; omega) ?_
    refine a_istore d_Fs_tales_35 (Nat.le_of_ble_eq_true rfl) [1, 2, 3, 4, 0] rfl ?_
    exact h
  · have h := h.2 c1
    refine a_iconst d_Fs_tales_11 (by unfold fs_in32; omega) ?_
    exact b_ireturn d_Fs_tales_12 rfl rfl h
set_option maxRecDepth 8000 in
set_option maxHeartbeats 4000000 in
theorem L_Fs_tales_37 {M : fs_M} {K : fs_K} {x1 x2 x3 x4 : Int} 
    (h : ((M 60 2 ≤ x4 → K (some (fs_i x3)) M) ∧ (¬ M 60 2 ≤ x4 → (0 ≤ x1 ∧ x1 < 3 ∧ (0 ≤ x4 ∧ x4 < 1957 ∧ fs_C2 g m_Tracks_agree 2 [fs_r 90, fs_i x2, fs_i x1, fs_l (M (64 + x1) x4)] M (fun v M4 => ∃ r4, v = some (fs_i r4) ∧ ((r4 = 0 → fs_A2 g m_Fs_tales 20 37 [(0, fs_r 0), (1, fs_i x1), (2, fs_i x2), (3, fs_i x3), (4, fs_i (fs_w32 (x4 + 1)))] [] M4 K) ∧ (¬ r4 = 0 → fs_A2 g m_Fs_tales 20 37 [(0, fs_r 0), (1, fs_i x1), (2, fs_i x2), (3, fs_i (fs_w32 (x3 + 1))), (4, fs_i (fs_w32 (x4 + 1)))] [] M4 K)))))))) :
    fs_A2 g m_Fs_tales 20 37 [(0, fs_r 0), (1, fs_i x1), (2, fs_i x2), (3, fs_i x3), (4, fs_i x4)] [] M K := by
  refine a_iload (j := 4) d_Fs_tales_37 rfl ?_
  refine a_aload_n (j := 0) d_Fs_tales_39 rfl rfl ?_
  refine b_getptr (q := 60) d_Fs_tales_40 fl_Fs_62 io_0 rfl rfl rfl ?_
  refine b_getfield (v := fs_i (M 60 2)) d_Fs_tales_43 fl_Fs_348 io_60 rfl ?_
  refine a_icmp_ge (tgt := 82) d_Fs_tales_46 rfl (fun c2 => ?_) (fun c2 => ?_)
  · have h := h.1 c2
    refine a_iload_n (j := 3) d_Fs_tales_82 rfl rfl ?_
    exact b_ireturn d_Fs_tales_83 rfl rfl h
  · have h := h.2 c2
    refine a_aload_n (j := 0) d_Fs_tales_49 rfl rfl ?_
    refine b_getptr (q := 90) d_Fs_tales_50 fl_Fs_69 io_0 rfl rfl rfl ?_
    refine a_iload_n (j := 2) d_Fs_tales_53 rfl rfl ?_
    refine a_iload_n (j := 1) d_Fs_tales_54 rfl rfl ?_
    refine a_aload_n (j := 0) d_Fs_tales_55 rfl rfl ?_
    refine b_getptr (q := 60) d_Fs_tales_56 fl_Fs_62 io_0 rfl rfl rfl ?_
    refine b_getptr (q := 63) d_Fs_tales_59 fl_Fs_349 io_60 rfl rfl rfl ?_
    refine a_iload_n (j := 1) d_Fs_tales_62 rfl rfl ?_
    obtain ⟨o3, o4, h⟩ := h
    refine b_aaptr (q := 64 + x1) d_Fs_tales_63 ia_63 (by decide) o3 o4 (aq_63 x1) ?_
    refine a_iload (j := 4) d_Fs_tales_64 rfl ?_
    obtain ⟨o5, o6, h⟩ := h
    refine b_laload (v := M (64 + x1) x4) d_Fs_tales_66 (ae_63 o3 o4) o5 o6 rfl ?_
    refine b_virtual (dc := 2) (ci := 9) (T := fs_T9) (N := 6) [fs_i x2, fs_i x1, fs_l (M (64 + x1) x4)] [] d_Fs_tales_67 ml_Fs_353 k_Tracks_agree v_Tracks_agree rfl io_90 rfl (Nat.le_of_ble_eq_true rfl) rfl (Nat.le_of_ble_eq_true rfl) ?_
    refine fs_Call.mono (fun v M4 hv => ?_) h
    obtain ⟨r4, rfl, h⟩ := hv
    show fs_A2 g m_Fs_tales 20 70 [(0, fs_r 0), (1, fs_i x1), (2, fs_i x2), (3, fs_i x3), (4, fs_i x4)] [fs_i r4] M4 K
    refine a_if_eq (tgt := 76) d_Fs_tales_70 rfl (fun c7 => ?_) (fun c7 => ?_)
    · have h := h.1 c7
      refine a_iinc (j := 4) d_Fs_tales_76 rfl (Nat.le_of_ble_eq_true rfl) [1, 2, 3, 4, 0] rfl ?_
      refine a_goto (tgt := 37) d_Fs_tales_79 rfl ?_
      exact h
    · have h := h.2 c7
      refine a_iinc (j := 3) d_Fs_tales_73 rfl (Nat.le_of_ble_eq_true rfl) [1, 2, 3, 0, 4] rfl ?_
      refine a_iinc (j := 4) d_Fs_tales_76 rfl (Nat.le_of_ble_eq_true rfl) [1, 2, 3, 4, 0] rfl ?_
      refine a_goto (tgt := 37) d_Fs_tales_79 rfl ?_
      exact h
set_option maxRecDepth 8000 in
set_option maxHeartbeats 4000000 in
theorem E_Fs_tale {M : fs_M} {K : fs_K} {x1 x2 x3 : Int} 
    (h : fs_C2 g m_Script_hasDark 1 [fs_r 1, fs_i x1] M (fun v M1 => ∃ r1, v = some (fs_i r1) ∧ ((r1 = 0 → K (some (fs_i (-1))) M1) ∧ (¬ r1 = 0 → ((x2 < 0 → K (some (fs_i (-1))) M1) ∧ (¬ x2 < 0 → ((0 ≤ x3 → fs_C2 g m_Book_write 19 [fs_r 60, fs_r 31] M1 (fun v M2 => v = none ∧ fs_C2 g m_Tracks_standing 2 [fs_r 90] M2 (fun v M3 => ∃ r3, v = some (fs_i r3) ∧ fs_A2 g m_Fs_tale 20 47 [(0, fs_r 0), (1, fs_i x1), (2, fs_i x2), (3, fs_i x3), (4, fs_i r3), (5, fs_i 0), (6, fs_i 0)] [] M3 K))) ∧ (¬ 0 ≤ x3 → K (some (fs_i (-1))) M1)))))))) :
    fs_C2 g m_Fs_tale 20 [fs_r 0, fs_i x1, fs_i x2, fs_i x3] M K := by
  refine b_enter2 (ls := [(0, fs_r 0), (1, fs_i x1), (2, fs_i x2), (3, fs_i x3)]) (plainFor_of_name pn_Fs) (Nat.le_of_ble_eq_true rfl) rfl ?_
  refine a_aload_n (j := 0) d_Fs_tale_0 rfl rfl ?_
  refine b_getptr (q := 1) d_Fs_tale_1 fl_Fs_12 io_0 rfl rfl rfl ?_
  refine a_iload_n (j := 1) d_Fs_tale_4 rfl rfl ?_
  refine b_virtual (dc := 1) (ci := 8) (T := fs_T8) (N := 13) [fs_i x1] [] d_Fs_tale_5 ml_Fs_188 k_Script_hasDark v_Script_hasDark rfl io_1 rfl (Nat.le_of_ble_eq_true rfl) rfl (Nat.le_of_ble_eq_true rfl) ?_
  refine fs_Call.mono (fun v M1 hv => ?_) h
  obtain ⟨r1, rfl, h⟩ := hv
  show fs_A2 g m_Fs_tale 20 8 [(0, fs_r 0), (1, fs_i x1), (2, fs_i x2), (3, fs_i x3)] [fs_i r1] M1 K
  refine a_if_eq (tgt := 19) d_Fs_tale_8 rfl (fun c1 => ?_) (fun c1 => ?_)
  · have h := h.1 c1
    refine a_iconst d_Fs_tale_19 (by unfold fs_in32; omega) ?_
    exact b_ireturn d_Fs_tale_20 rfl rfl h
  · have h := h.2 c1
    refine a_iload_n (j := 2) d_Fs_tale_11 rfl rfl ?_
    refine a_if_lt (tgt := 19) d_Fs_tale_12 rfl (fun c2 => ?_) (fun c2 => ?_)
    · have h := h.1 c2
      refine a_iconst d_Fs_tale_19 (by unfold fs_in32; omega) ?_
      exact b_ireturn d_Fs_tale_20 rfl rfl h
    · have h := h.2 c2
      refine a_iload_n (j := 3) d_Fs_tale_15 rfl rfl ?_
      refine a_if_ge (tgt := 21) d_Fs_tale_16 rfl (fun c3 => ?_) (fun c3 => ?_)
      · have h := h.1 c3
        refine a_aload_n (j := 0) d_Fs_tale_21 rfl rfl ?_
        refine b_getptr (q := 60) d_Fs_tale_22 fl_Fs_62 io_0 rfl rfl rfl ?_
        refine a_aload_n (j := 0) d_Fs_tale_25 rfl rfl ?_
        refine b_getptr (q := 31) d_Fs_tale_26 fl_Fs_31 io_0 rfl rfl rfl ?_
        refine b_virtual (dc := 19) (ci := 0) (T := fs_T0) (N := 15) [fs_r 31] [] d_Fs_tale_29 ml_Fs_296 k_Book_write v_Book_write rfl io_60 rfl (Nat.le_of_ble_eq_true rfl) rfl (Nat.le_of_ble_eq_true rfl) ?_
        refine fs_Call.mono (fun v M2 hv => ?_) h
        obtain ⟨rfl, h⟩ := hv
        show fs_A2 g m_Fs_tale 20 32 [(0, fs_r 0), (1, fs_i x1), (2, fs_i x2), (3, fs_i x3)] [] M2 K
        refine a_aload_n (j := 0) d_Fs_tale_32 rfl rfl ?_
        refine b_getptr (q := 90) d_Fs_tale_33 fl_Fs_69 io_0 rfl rfl rfl ?_
        refine b_virtual (dc := 2) (ci := 9) (T := fs_T9) (N := 6) [] [] d_Fs_tale_36 ml_Fs_345 k_Tracks_standing v_Tracks_standing rfl io_90 rfl (Nat.le_of_ble_eq_true rfl) rfl (Nat.le_of_ble_eq_true rfl) ?_
        refine fs_Call.mono (fun v M3 hv => ?_) h
        obtain ⟨r3, rfl, h⟩ := hv
        show fs_A2 g m_Fs_tale 20 39 [(0, fs_r 0), (1, fs_i x1), (2, fs_i x2), (3, fs_i x3)] [fs_i r3] M3 K
        refine a_istore d_Fs_tale_39 (Nat.le_of_ble_eq_true rfl) [1, 2, 3, 4, 0] rfl ?_
        refine a_iconst d_Fs_tale_41 (by unfold fs_in32; omega) ?_
        refine a_istore d_Fs_tale_42 (Nat.le_of_ble_eq_true rfl) [1, 2, 3, 4, 5, 0] rfl ?_
        refine a_iconst d_Fs_tale_44 (by unfold fs_in32; omega) ?_
        refine a_istore d_Fs_tale_45 (Nat.le_of_ble_eq_true rfl) [1, 2, 3, 4, 5, 6, 0] rfl ?_
        exact h
      · have h := h.2 c3
        refine a_iconst d_Fs_tale_19 (by unfold fs_in32; omega) ?_
        exact b_ireturn d_Fs_tale_20 rfl rfl h
set_option maxRecDepth 8000 in
set_option maxHeartbeats 4000000 in
theorem L_Fs_tale_47 {M : fs_M} {K : fs_K} {x1 x2 x3 x4 x5 x6 : Int} 
    (h : ((M 60 2 ≤ x6 → K (some (fs_i (-3))) M) ∧ (¬ M 60 2 ≤ x6 → (0 ≤ x1 ∧ x1 < 3 ∧ (0 ≤ x6 ∧ x6 < 1957 ∧ fs_C2 g m_Tracks_agree 2 [fs_r 90, fs_i x4, fs_i x1, fs_l (M (64 + x1) x6)] M (fun v M4 => ∃ r4, v = some (fs_i r4) ∧ ((r4 = 0 → fs_A2 g m_Fs_tale 20 47 [(0, fs_r 0), (1, fs_i x1), (2, fs_i x2), (3, fs_i x3), (4, fs_i x4), (5, fs_i x5), (6, fs_i (fs_w32 (x6 + 1)))] [] M4 K) ∧ (¬ r4 = 0 → ((¬ x5 = x2 → fs_A2 g m_Fs_tale 20 47 [(0, fs_r 0), (1, fs_i x1), (2, fs_i x2), (3, fs_i x3), (4, fs_i x4), (5, fs_i (fs_w32 (x5 + 1))), (6, fs_i (fs_w32 (x6 + 1)))] [] M4 K) ∧ (x5 = x2 → fs_C2 g m_Book_houseOf 1 [fs_r 60, fs_i x6, fs_i x3] M4 (fun v M5 => ∃ r5, v = some (fs_i r5) ∧ K (some (fs_i r5)) M5))))))))))) :
    fs_A2 g m_Fs_tale 20 47 [(0, fs_r 0), (1, fs_i x1), (2, fs_i x2), (3, fs_i x3), (4, fs_i x4), (5, fs_i x5), (6, fs_i x6)] [] M K := by
  refine a_iload (j := 6) d_Fs_tale_47 rfl ?_
  refine a_aload_n (j := 0) d_Fs_tale_49 rfl rfl ?_
  refine b_getptr (q := 60) d_Fs_tale_50 fl_Fs_62 io_0 rfl rfl rfl ?_
  refine b_getfield (v := fs_i (M 60 2)) d_Fs_tale_53 fl_Fs_348 io_60 rfl ?_
  refine a_icmp_ge (tgt := 110) d_Fs_tale_56 rfl (fun c4 => ?_) (fun c4 => ?_)
  · have h := h.1 c4
    refine a_bipush d_Fs_tale_110 (by decide) ?_
    exact b_ireturn d_Fs_tale_112 rfl rfl h
  · have h := h.2 c4
    refine a_aload_n (j := 0) d_Fs_tale_59 rfl rfl ?_
    refine b_getptr (q := 90) d_Fs_tale_60 fl_Fs_69 io_0 rfl rfl rfl ?_
    refine a_iload (j := 4) d_Fs_tale_63 rfl ?_
    refine a_iload_n (j := 1) d_Fs_tale_65 rfl rfl ?_
    refine a_aload_n (j := 0) d_Fs_tale_66 rfl rfl ?_
    refine b_getptr (q := 60) d_Fs_tale_67 fl_Fs_62 io_0 rfl rfl rfl ?_
    refine b_getptr (q := 63) d_Fs_tale_70 fl_Fs_349 io_60 rfl rfl rfl ?_
    refine a_iload_n (j := 1) d_Fs_tale_73 rfl rfl ?_
    obtain ⟨o5, o6, h⟩ := h
    refine b_aaptr (q := 64 + x1) d_Fs_tale_74 ia_63 (by decide) o5 o6 (aq_63 x1) ?_
    refine a_iload (j := 6) d_Fs_tale_75 rfl ?_
    obtain ⟨o7, o8, h⟩ := h
    refine b_laload (v := M (64 + x1) x6) d_Fs_tale_77 (ae_63 o5 o6) o7 o8 rfl ?_
    refine b_virtual (dc := 2) (ci := 9) (T := fs_T9) (N := 6) [fs_i x4, fs_i x1, fs_l (M (64 + x1) x6)] [] d_Fs_tale_78 ml_Fs_353 k_Tracks_agree v_Tracks_agree rfl io_90 rfl (Nat.le_of_ble_eq_true rfl) rfl (Nat.le_of_ble_eq_true rfl) ?_
    refine fs_Call.mono (fun v M4 hv => ?_) h
    obtain ⟨r4, rfl, h⟩ := hv
    show fs_A2 g m_Fs_tale 20 81 [(0, fs_r 0), (1, fs_i x1), (2, fs_i x2), (3, fs_i x3), (4, fs_i x4), (5, fs_i x5), (6, fs_i x6)] [fs_i r4] M4 K
    refine a_if_eq (tgt := 104) d_Fs_tale_81 rfl (fun c9 => ?_) (fun c9 => ?_)
    · have h := h.1 c9
      refine a_iinc (j := 6) d_Fs_tale_104 rfl (Nat.le_of_ble_eq_true rfl) [1, 2, 3, 4, 5, 6, 0] rfl ?_
      refine a_goto (tgt := 47) d_Fs_tale_107 rfl ?_
      exact h
    · have h := h.2 c9
      refine a_iload (j := 5) d_Fs_tale_84 rfl ?_
      refine a_iload_n (j := 2) d_Fs_tale_86 rfl rfl ?_
      refine a_icmp_ne (tgt := 101) d_Fs_tale_87 rfl (fun c10 => ?_) (fun c10 => ?_)
      · have h := h.1 c10
        refine a_iinc (j := 5) d_Fs_tale_101 rfl (Nat.le_of_ble_eq_true rfl) [1, 2, 3, 4, 5, 0, 6] rfl ?_
        refine a_iinc (j := 6) d_Fs_tale_104 rfl (Nat.le_of_ble_eq_true rfl) [1, 2, 3, 4, 5, 6, 0] rfl ?_
        refine a_goto (tgt := 47) d_Fs_tale_107 rfl ?_
        exact h
      · have h := h.2 c10
        refine a_aload_n (j := 0) d_Fs_tale_90 rfl rfl ?_
        refine b_getptr (q := 60) d_Fs_tale_91 fl_Fs_62 io_0 rfl rfl rfl ?_
        refine a_iload (j := 6) d_Fs_tale_94 rfl ?_
        refine a_iload_n (j := 3) d_Fs_tale_96 rfl rfl ?_
        refine b_virtual (dc := 1) (ci := 0) (T := fs_T0) (N := 15) [fs_i x6, fs_i x3] [] d_Fs_tale_97 ml_Fs_308 k_Book_houseOf v_Book_houseOf rfl io_60 rfl (Nat.le_of_ble_eq_true rfl) rfl (Nat.le_of_ble_eq_true rfl) ?_
        refine fs_Call.mono (fun v M5 hv => ?_) h
        obtain ⟨r5, rfl, h⟩ := hv
        show fs_A2 g m_Fs_tale 20 100 [(0, fs_r 0), (1, fs_i x1), (2, fs_i x2), (3, fs_i x3), (4, fs_i x4), (5, fs_i x5), (6, fs_i x6)] [fs_i r5] M5 K
        exact b_ireturn d_Fs_tale_100 rfl rfl h
set_option maxRecDepth 8000 in
set_option maxHeartbeats 4000000 in
theorem E_Fs_undo {M : fs_M} {K : fs_K} 
    (h : ((¬ M 95 2 = 0 → fs_C2 g m_Past_recall 2 [fs_r 95, fs_r 31] M (fun v M1 => v = none ∧ K (some (fs_i (M1 95 2))) (fs_st M1 60 5 0))) ∧ (M 95 2 = 0 → K (some (fs_i (-1))) M))) :
    fs_C2 g m_Fs_undo 3 [fs_r 0] M K := by
  refine b_enter2 (ls := [(0, fs_r 0)]) (plainFor_of_name pn_Fs) (Nat.le_of_ble_eq_true rfl) rfl ?_
  refine a_aload_n (j := 0) d_Fs_undo_0 rfl rfl ?_
  refine b_getptr (q := 95) d_Fs_undo_1 fl_Fs_76 io_0 rfl rfl rfl ?_
  refine b_getfield (v := fs_i (M 95 2)) d_Fs_undo_4 fl_Fs_357 io_95 rfl ?_
  refine a_if_ne (tgt := 12) d_Fs_undo_7 rfl (fun c1 => ?_) (fun c1 => ?_)
  · have h := h.1 c1
    refine a_aload_n (j := 0) d_Fs_undo_12 rfl rfl ?_
    refine b_getptr (q := 95) d_Fs_undo_13 fl_Fs_76 io_0 rfl rfl rfl ?_
    refine a_aload_n (j := 0) d_Fs_undo_16 rfl rfl ?_
    refine b_getptr (q := 31) d_Fs_undo_17 fl_Fs_31 io_0 rfl rfl rfl ?_
    refine b_virtual (dc := 2) (ci := 5) (T := fs_T5) (N := 3) [fs_r 31] [] d_Fs_undo_20 ml_Fs_358 k_Past_recall v_Past_recall rfl io_95 rfl (Nat.le_of_ble_eq_true rfl) rfl (Nat.le_of_ble_eq_true rfl) ?_
    refine fs_Call.mono (fun v M1 hv => ?_) h
    obtain ⟨rfl, h⟩ := hv
    show fs_A2 g m_Fs_undo 3 23 [(0, fs_r 0)] [] M1 K
    refine a_aload_n (j := 0) d_Fs_undo_23 rfl rfl ?_
    refine b_getptr (q := 60) d_Fs_undo_24 fl_Fs_62 io_0 rfl rfl rfl ?_
    refine a_iconst d_Fs_undo_27 (by unfold fs_in32; omega) ?_
    refine b_putfield (x := 0) d_Fs_undo_28 fl_Fs_124 io_60 rfl rfl (fs_nar_bool (Or.inl rfl)) ?_
    refine a_aload_n (j := 0) d_Fs_undo_31 rfl rfl ?_
    refine b_getptr (q := 95) d_Fs_undo_32 fl_Fs_76 io_0 rfl rfl rfl ?_
    refine b_getfield (v := fs_i (M1 95 2)) d_Fs_undo_35 fl_Fs_357 io_95 rfl ?_
    exact b_ireturn d_Fs_undo_38 rfl rfl h
  · have h := h.2 c1
    refine a_iconst d_Fs_undo_10 (by unfold fs_in32; omega) ?_
    exact b_ireturn d_Fs_undo_11 rfl rfl h
set_option maxRecDepth 8000 in
set_option maxHeartbeats 4000000 in
theorem E_Fs_keep {M : fs_M} {K : fs_K} 
    (h : fs_C2 g m_Plan_copyFrom 1 [fs_r 217, fs_r 31] M (fun v M1 => v = none ∧ fs_C2 g m_Night_copyFrom 1 [fs_r 223, fs_r 54] M1 (fun v M2 => v = none ∧ fs_C2 g m_Fs_gain 8 [fs_r 0] (fs_st M2 0 13 1) (fun v M3 => ∃ r3, v = some (fs_i r3) ∧ K (some (fs_i r3)) M3)))) :
    fs_C2 g m_Fs_keep 9 [fs_r 0] M K := by
  refine b_enter2 (ls := [(0, fs_r 0)]) (plainFor_of_name pn_Fs) (Nat.le_of_ble_eq_true rfl) rfl ?_
  refine a_aload_n (j := 0) d_Fs_keep_0 rfl rfl ?_
  refine b_getptr (q := 217) d_Fs_keep_1 fl_Fs_80 io_0 rfl rfl rfl ?_
  refine a_aload_n (j := 0) d_Fs_keep_4 rfl rfl ?_
  refine b_getptr (q := 31) d_Fs_keep_5 fl_Fs_31 io_0 rfl rfl rfl ?_
  refine b_virtual (dc := 1) (ci := 6) (T := fs_T6) (N := 4) [fs_r 31] [] d_Fs_keep_8 ml_Fs_324 k_Plan_copyFrom v_Plan_copyFrom rfl io_217 rfl (Nat.le_of_ble_eq_true rfl) rfl (Nat.le_of_ble_eq_true rfl) ?_
  refine fs_Call.mono (fun v M1 hv => ?_) h
  obtain ⟨rfl, h⟩ := hv
  show fs_A2 g m_Fs_keep 9 11 [(0, fs_r 0)] [] M1 K
  refine a_aload_n (j := 0) d_Fs_keep_11 rfl rfl ?_
  refine b_getptr (q := 223) d_Fs_keep_12 fl_Fs_83 io_0 rfl rfl rfl ?_
  refine a_aload_n (j := 0) d_Fs_keep_15 rfl rfl ?_
  refine b_getptr (q := 54) d_Fs_keep_16 fl_Fs_50 io_0 rfl rfl rfl ?_
  refine b_virtual (dc := 1) (ci := 4) (T := fs_T4) (N := 4) [fs_r 54] [] d_Fs_keep_19 ml_Fs_361 k_Night_copyFrom v_Night_copyFrom rfl io_223 rfl (Nat.le_of_ble_eq_true rfl) rfl (Nat.le_of_ble_eq_true rfl) ?_
  refine fs_Call.mono (fun v M2 hv => ?_) h
  obtain ⟨rfl, h⟩ := hv
  show fs_A2 g m_Fs_keep 9 22 [(0, fs_r 0)] [] M2 K
  refine a_aload_n (j := 0) d_Fs_keep_22 rfl rfl ?_
  refine a_iconst d_Fs_keep_23 (by unfold fs_in32; omega) ?_
  refine b_putfield (x := 1) d_Fs_keep_24 fl_Fs_86 io_0 rfl rfl (fs_nar_bool (Or.inr rfl)) ?_
  refine a_aload_n (j := 0) d_Fs_keep_27 rfl rfl ?_
  refine b_virtual (dc := 8) (ci := 10) (T := fs_T10) (N := 17) [] [] d_Fs_keep_28 ml_Fs_364 k_Fs_gain v_Fs_gain rfl io_0 rfl (Nat.le_of_ble_eq_true rfl) rfl (Nat.le_of_ble_eq_true rfl) ?_
  refine fs_Call.mono (fun v M3 hv => ?_) h
  obtain ⟨r3, rfl, h⟩ := hv
  show fs_A2 g m_Fs_keep 9 31 [(0, fs_r 0)] [fs_i r3] M3 K
  exact b_ireturn d_Fs_keep_31 rfl rfl h
set_option maxRecDepth 8000 in
set_option maxHeartbeats 4000000 in
theorem E_Fs_back {M : fs_M} {K : fs_K} 
    (h : ((¬ M 0 13 = 0 → fs_C2 g m_Plan_copyFrom 1 [fs_r 31, fs_r 217] M (fun v M1 => v = none ∧ fs_C2 g m_Night_copyFrom 1 [fs_r 54, fs_r 223] M1 (fun v M2 => v = none ∧ fs_C2 g m_Past_clear 1 [fs_r 95] M2 (fun v M3 => v = none ∧ fs_C2 g m_Fs_gain 8 [fs_r 0] (fs_st M3 60 5 0) (fun v M4 => ∃ r4, v = some (fs_i r4) ∧ K (some (fs_i r4)) M4))))) ∧ (M 0 13 = 0 → K (some (fs_i (-1))) M))) :
    fs_C2 g m_Fs_back 9 [fs_r 0] M K := by
  refine b_enter2 (ls := [(0, fs_r 0)]) (plainFor_of_name pn_Fs) (Nat.le_of_ble_eq_true rfl) rfl ?_
  refine a_aload_n (j := 0) d_Fs_back_0 rfl rfl ?_
  refine b_getfield (v := fs_i (M 0 13)) d_Fs_back_1 fl_Fs_86 io_0 rfl ?_
  refine a_if_ne (tgt := 9) d_Fs_back_4 rfl (fun c1 => ?_) (fun c1 => ?_)
  · have h := h.1 c1
    refine a_aload_n (j := 0) d_Fs_back_9 rfl rfl ?_
    refine b_getptr (q := 31) d_Fs_back_10 fl_Fs_31 io_0 rfl rfl rfl ?_
    refine a_aload_n (j := 0) d_Fs_back_13 rfl rfl ?_
    refine b_getptr (q := 217) d_Fs_back_14 fl_Fs_80 io_0 rfl rfl rfl ?_
    refine b_virtual (dc := 1) (ci := 6) (T := fs_T6) (N := 4) [fs_r 217] [] d_Fs_back_17 ml_Fs_324 k_Plan_copyFrom v_Plan_copyFrom rfl io_31 rfl (Nat.le_of_ble_eq_true rfl) rfl (Nat.le_of_ble_eq_true rfl) ?_
    refine fs_Call.mono (fun v M1 hv => ?_) h
    obtain ⟨rfl, h⟩ := hv
    show fs_A2 g m_Fs_back 9 20 [(0, fs_r 0)] [] M1 K
    refine a_aload_n (j := 0) d_Fs_back_20 rfl rfl ?_
    refine b_getptr (q := 54) d_Fs_back_21 fl_Fs_50 io_0 rfl rfl rfl ?_
    refine a_aload_n (j := 0) d_Fs_back_24 rfl rfl ?_
    refine b_getptr (q := 223) d_Fs_back_25 fl_Fs_83 io_0 rfl rfl rfl ?_
    refine b_virtual (dc := 1) (ci := 4) (T := fs_T4) (N := 4) [fs_r 223] [] d_Fs_back_28 ml_Fs_361 k_Night_copyFrom v_Night_copyFrom rfl io_54 rfl (Nat.le_of_ble_eq_true rfl) rfl (Nat.le_of_ble_eq_true rfl) ?_
    refine fs_Call.mono (fun v M2 hv => ?_) h
    obtain ⟨rfl, h⟩ := hv
    show fs_A2 g m_Fs_back 9 31 [(0, fs_r 0)] [] M2 K
    refine a_aload_n (j := 0) d_Fs_back_31 rfl rfl ?_
    refine b_getptr (q := 95) d_Fs_back_32 fl_Fs_76 io_0 rfl rfl rfl ?_
    refine b_virtual (dc := 1) (ci := 5) (T := fs_T5) (N := 3) [] [] d_Fs_back_35 ml_Fs_123 k_Past_clear v_Past_clear rfl io_95 rfl (Nat.le_of_ble_eq_true rfl) rfl (Nat.le_of_ble_eq_true rfl) ?_
    refine fs_Call.mono (fun v M3 hv => ?_) h
    obtain ⟨rfl, h⟩ := hv
    show fs_A2 g m_Fs_back 9 38 [(0, fs_r 0)] [] M3 K
    refine a_aload_n (j := 0) d_Fs_back_38 rfl rfl ?_
    refine b_getptr (q := 60) d_Fs_back_39 fl_Fs_62 io_0 rfl rfl rfl ?_
    refine a_iconst d_Fs_back_42 (by unfold fs_in32; omega) ?_
    refine b_putfield (x := 0) d_Fs_back_43 fl_Fs_124 io_60 rfl rfl (fs_nar_bool (Or.inl rfl)) ?_
    refine a_aload_n (j := 0) d_Fs_back_46 rfl rfl ?_
    refine b_virtual (dc := 8) (ci := 10) (T := fs_T10) (N := 17) [] [] d_Fs_back_47 ml_Fs_364 k_Fs_gain v_Fs_gain rfl io_0 rfl (Nat.le_of_ble_eq_true rfl) rfl (Nat.le_of_ble_eq_true rfl) ?_
    refine fs_Call.mono (fun v M4 hv => ?_) h
    obtain ⟨r4, rfl, h⟩ := hv
    show fs_A2 g m_Fs_back 9 50 [(0, fs_r 0)] [fs_i r4] M4 K
    exact b_ireturn d_Fs_back_50 rfl rfl h
  · have h := h.2 c1
    refine a_iconst d_Fs_back_7 (by unfold fs_in32; omega) ?_
    exact b_ireturn d_Fs_back_8 rfl rfl h
set_option maxRecDepth 8000 in
set_option maxHeartbeats 4000000 in
theorem E_Fs_count {M : fs_M} {K : fs_K} {x1 : Int} 
    (h : ((x1 = 0 → K (some (fs_i (M 1 5))) M) ∧ (x1 = 1 → K (some (fs_i (M 1 9))) M) ∧ (x1 = 2 → K (some (fs_i (M 9 2))) M) ∧ (x1 = 3 → fs_C2 g m_Fs_which 8 [fs_r 0, fs_i 1] M (fun v M1 => ∃ r1, v = some (fs_i r1) ∧ fs_C2 g m_Integer_bitCount 1 [fs_i r1] M1 (fun v M2 => ∃ r2, v = some (fs_i r2) ∧ K (some (fs_i (fs_w32 ((M 1 5) - r2)))) M2))) ∧ (x1 = 4 → K (some (fs_i (M 90 4))) M) ∧ (x1 = 5 → fs_C2 g m_Tracks_knownLength 1 [fs_r 90] M (fun v M3 => ∃ r3, v = some (fs_i r3) ∧ K (some (fs_i r3)) M3)) ∧ (x1 = 6 → K (some (fs_i (M 95 2))) M) ∧ (x1 = 7 → K (some (fs_i (M 54 2))) M) ∧ (¬ x1 = 0 ∧ ¬ x1 = 1 ∧ ¬ x1 = 2 ∧ ¬ x1 = 3 ∧ ¬ x1 = 4 ∧ ¬ x1 = 5 ∧ ¬ x1 = 6 ∧ ¬ x1 = 7 → K (some (fs_i (-1))) M))) :
    fs_C2 g m_Fs_count 9 [fs_r 0, fs_i x1] M K := by
  refine b_enter2 (ls := [(0, fs_r 0), (1, fs_i x1)]) (plainFor_of_name pn_Fs) (Nat.le_of_ble_eq_true rfl) rfl ?_
  refine a_iload_n (j := 1) d_Fs_count_0 rfl rfl ?_
  obtain ⟨hs1_0, hs1_1, hs1_2, hs1_3, hs1_4, hs1_5, hs1_6, hs1_7, hs1_8⟩ := h
  by_cases q1_0 : x1 = 0
  · have h := hs1_0 q1_0
    refine a_tableIn (tgt := 48) d_Fs_count_1 (by omega) (by omega) (by rw [q1_0]; rfl) rfl ?_
    refine a_aload_n (j := 0) d_Fs_count_48 rfl rfl ?_
    refine b_getptr (q := 1) d_Fs_count_49 fl_Fs_12 io_0 rfl rfl rfl ?_
    refine b_getfield (v := fs_i (M 1 5)) d_Fs_count_52 fl_Fs_137 io_1 rfl ?_
    exact b_ireturn d_Fs_count_55 rfl rfl h
  ·
    by_cases q1_1 : x1 = 1
    · have h := hs1_1 q1_1
      refine a_tableIn (tgt := 56) d_Fs_count_1 (by omega) (by omega) (by rw [q1_1]; rfl) rfl ?_
      refine a_aload_n (j := 0) d_Fs_count_56 rfl rfl ?_
      refine b_getptr (q := 1) d_Fs_count_57 fl_Fs_12 io_0 rfl rfl rfl ?_
      refine b_getfield (v := fs_i (M 1 9)) d_Fs_count_60 fl_Fs_147 io_1 rfl ?_
      exact b_ireturn d_Fs_count_63 rfl rfl h
    ·
      by_cases q1_2 : x1 = 2
      · have h := hs1_2 q1_2
        refine a_tableIn (tgt := 64) d_Fs_count_1 (by omega) (by omega) (by rw [q1_2]; rfl) rfl ?_
        refine a_aload_n (j := 0) d_Fs_count_64 rfl rfl ?_
        refine b_getptr (q := 1) d_Fs_count_65 fl_Fs_12 io_0 rfl rfl rfl ?_
        refine b_getptr (q := 9) d_Fs_count_68 fl_Fs_210 io_1 rfl rfl rfl ?_
        refine b_getfield (v := fs_i (M 9 2)) d_Fs_count_71 fl_Fs_367 io_9 rfl ?_
        exact b_ireturn d_Fs_count_74 rfl rfl h
      ·
        by_cases q1_3 : x1 = 3
        · have h := hs1_3 q1_3
          refine a_tableIn (tgt := 75) d_Fs_count_1 (by omega) (by omega) (by rw [q1_3]; rfl) rfl ?_
          refine a_aload_n (j := 0) d_Fs_count_75 rfl rfl ?_
          refine b_getptr (q := 1) d_Fs_count_76 fl_Fs_12 io_0 rfl rfl rfl ?_
          refine b_getfield (v := fs_i (M 1 5)) d_Fs_count_79 fl_Fs_137 io_1 rfl ?_
          refine a_aload_n (j := 0) d_Fs_count_82 rfl rfl ?_
          refine a_iconst d_Fs_count_83 (by unfold fs_in32; omega) ?_
          refine b_virtual (dc := 8) (ci := 10) (T := fs_T10) (N := 17) [fs_i 1] [fs_i (M 1 5)] d_Fs_count_84 ml_Fs_368 k_Fs_which v_Fs_which rfl io_0 rfl (Nat.le_of_ble_eq_true rfl) rfl (Nat.le_of_ble_eq_true rfl) ?_
          refine fs_Call.mono (fun v M1 hv => ?_) h
          obtain ⟨r1, rfl, h⟩ := hv
          show fs_A2 g m_Fs_count 9 87 [(0, fs_r 0), (1, fs_i x1)] [fs_i r1, fs_i (M 1 5)] M1 K
          refine b_static (dc := 1) [fs_i r1] [fs_i (M 1 5)] d_Fs_count_87 ml_Fs_330 k_Integer_bitCount s_Integer_bitCount rfl (Nat.le_of_ble_eq_true rfl) rfl (Nat.le_of_ble_eq_true rfl) ?_
          refine fs_Call.mono (fun v M2 hv => ?_) h
          obtain ⟨r2, rfl, h⟩ := hv
          show fs_A2 g m_Fs_count 9 90 [(0, fs_r 0), (1, fs_i x1)] [fs_i r2, fs_i (M 1 5)] M2 K
          refine a_isub d_Fs_count_90 ?_
          exact b_ireturn d_Fs_count_91 rfl rfl h
        ·
          by_cases q1_4 : x1 = 4
          · have h := hs1_4 q1_4
            refine a_tableIn (tgt := 92) d_Fs_count_1 (by omega) (by omega) (by rw [q1_4]; rfl) rfl ?_
            refine a_aload_n (j := 0) d_Fs_count_92 rfl rfl ?_
            refine b_getptr (q := 90) d_Fs_count_93 fl_Fs_69 io_0 rfl rfl rfl ?_
            refine b_getfield (v := fs_i (M 90 4)) d_Fs_count_96 fl_Fs_341 io_90 rfl ?_
            exact b_ireturn d_Fs_count_99 rfl rfl h
          ·
            by_cases q1_5 : x1 = 5
            · have h := hs1_5 q1_5
              refine a_tableIn (tgt := 100) d_Fs_count_1 (by omega) (by omega) (by rw [q1_5]; rfl) rfl ?_
              refine a_aload_n (j := 0) d_Fs_count_100 rfl rfl ?_
              refine b_getptr (q := 90) d_Fs_count_101 fl_Fs_69 io_0 rfl rfl rfl ?_
              refine b_virtual (dc := 1) (ci := 9) (T := fs_T9) (N := 6) [] [] d_Fs_count_104 ml_Fs_371 k_Tracks_knownLength v_Tracks_knownLength rfl io_90 rfl (Nat.le_of_ble_eq_true rfl) rfl (Nat.le_of_ble_eq_true rfl) ?_
              refine fs_Call.mono (fun v M3 hv => ?_) h
              obtain ⟨r3, rfl, h⟩ := hv
              show fs_A2 g m_Fs_count 9 107 [(0, fs_r 0), (1, fs_i x1)] [fs_i r3] M3 K
              exact b_ireturn d_Fs_count_107 rfl rfl h
            ·
              by_cases q1_6 : x1 = 6
              · have h := hs1_6 q1_6
                refine a_tableIn (tgt := 108) d_Fs_count_1 (by omega) (by omega) (by rw [q1_6]; rfl) rfl ?_
                refine a_aload_n (j := 0) d_Fs_count_108 rfl rfl ?_
                refine b_getptr (q := 95) d_Fs_count_109 fl_Fs_76 io_0 rfl rfl rfl ?_
                refine b_getfield (v := fs_i (M 95 2)) d_Fs_count_112 fl_Fs_357 io_95 rfl ?_
                exact b_ireturn d_Fs_count_115 rfl rfl h
              ·
                by_cases q1_7 : x1 = 7
                · have h := hs1_7 q1_7
                  refine a_tableIn (tgt := 116) d_Fs_count_1 (by omega) (by omega) (by rw [q1_7]; rfl) rfl ?_
                  refine a_aload_n (j := 0) d_Fs_count_116 rfl rfl ?_
                  refine b_getptr (q := 54) d_Fs_count_117 fl_Fs_50 io_0 rfl rfl rfl ?_
                  refine b_getfield (v := fs_i (M 54 2)) d_Fs_count_120 fl_Fs_288 io_54 rfl ?_
                  exact b_ireturn d_Fs_count_123 rfl rfl h
                ·
                  have h := hs1_8 ⟨q1_0, q1_1, q1_2, q1_3, q1_4, q1_5, q1_6, q1_7⟩
                  refine a_tableOut (tgt := 124) d_Fs_count_1 (by omega) rfl ?_
                  refine a_iconst d_Fs_count_124 (by unfold fs_in32; omega) ?_
                  exact b_ireturn d_Fs_count_125 rfl rfl h
end WALK
