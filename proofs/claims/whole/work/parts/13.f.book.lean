-- ===== printed by program (wip/whole/gen12.py): what must hold at a method's entry, at its labels =====
section WALK
variable {g : fs_G}
set_option maxRecDepth 8000 in
set_option maxHeartbeats 4000000 in
theorem E_Book_write {M : fs_M} {K : fs_K} {x1 : Int} (h1 : fs_isO 6 x1) 
    (h : ((M 60 5 = 0 → fs_C2 g m_Course_begin 6 [fs_r 43, fs_r x1, fs_i (-1)] (fs_st (fs_st (fs_st M 60 8 (M x1 2)) 60 9 0) 60 2 0) (fun v M1 => v = none ∧ fs_A2 g m_Book_write 19 37 [(0, fs_r 60), (2, fs_i 0)] [] M1 K)) ∧ (¬ M 60 5 = 0 → K none M))) :
    fs_C2 g m_Book_write 19 [fs_r 60, fs_r x1] M K := by
  refine b_enter2 (ls := [(0, fs_r 60), (1, fs_r x1)]) (plainFor_of_name pn_Book) (Nat.le_of_ble_eq_true rfl) rfl ?_
  refine a_aload_n (j := 0) d_Book_write_0 rfl rfl ?_
  refine b_getfield (v := fs_i (M 60 5)) d_Book_write_1 fl_Book_32 io_60 rfl ?_
  refine a_if_eq (tgt := 8) d_Book_write_4 rfl (fun c1 => ?_) (fun c1 => ?_)
  · have h := h.1 c1
    refine a_aload_n (j := 0) d_Book_write_8 rfl rfl ?_
    refine a_aload_n (j := 1) d_Book_write_9 rfl rfl ?_
    refine b_getfield (v := fs_i (M x1 2)) d_Book_write_10 fl_Book_69 h1 rfl ?_
    refine b_putfield (x := (M x1 2)) d_Book_write_13 fl_Book_36 io_60 rfl rfl fs_nar_int ?_
    refine a_aload_n (j := 0) d_Book_write_16 rfl rfl ?_
    refine a_iconst d_Book_write_17 (by unfold fs_in32; omega) ?_
    refine b_putfield (x := 0) d_Book_write_18 fl_Book_39 io_60 rfl rfl fs_nar_int ?_
    refine a_aload_n (j := 0) d_Book_write_21 rfl rfl ?_
    refine a_iconst d_Book_write_22 (by unfold fs_in32; omega) ?_
    refine b_putfield (x := 0) d_Book_write_23 fl_Book_18 io_60 rfl rfl fs_nar_int ?_
    refine a_aload_n (j := 0) d_Book_write_26 rfl rfl ?_
    refine b_getptr (q := 43) d_Book_write_27 fl_Book_64 io_60 rfl rfl rfl ?_
    refine a_aload_n (j := 1) d_Book_write_30 rfl rfl ?_
    refine a_iconst d_Book_write_31 (by unfold fs_in32; omega) ?_
    refine b_virtual (dc := 6) (ci := 1) (T := fs_T1) (N := 8) [fs_r x1, fs_i (-1)] [] d_Book_write_32 ml_Book_72 k_Course_begin v_Course_begin rfl io_43 rfl (Nat.le_of_ble_eq_true rfl) rfl (Nat.le_of_ble_eq_true rfl) ?_
    refine fs_Call.mono (fun v M1 hv => ?_) h
    obtain ⟨rfl, h⟩ := hv
    show fs_A2 g m_Book_write 19 35 [(0, fs_r 60), (1, fs_r x1)] [] M1 K
    refine a_iconst d_Book_write_35 (by unfold fs_in32; omega) ?_
    refine a_istore_n d_Book_write_36 rfl (Nat.le_of_ble_eq_true rfl) [1, 2, 0] rfl ?_
    refine a_sub [0, 2] rfl ?_
    exact h
  · have h := h.2 c1
    exact b_return d_Book_write_7 rfl h
set_option maxRecDepth 8000 in
set_option maxHeartbeats 4000000 in
theorem L_Book_write_37 {M : fs_M} {K : fs_K} {x2 : Int} 
    (h : ((M 1 5 ≤ x2 → fs_C2 g m_Book_addRows 13 [fs_r 60, fs_i 0, fs_i 0, fs_i 0] M (fun v M2 => v = none ∧ fs_A2 g m_Book_write 19 89 [(0, fs_r 60), (2, fs_i 0)] [] M2 K)) ∧ (¬ M 1 5 ≤ x2 → (0 ≤ x2 ∧ x2 < 6 ∧ ((¬ M 49 x2 = (-2) → fs_A2 g m_Book_write 19 37 [(0, fs_r 60), (2, fs_i (fs_w32 (x2 + 1)))] [] M K) ∧ (M 49 x2 = (-2) → fs_A2 g m_Book_write 19 37 [(0, fs_r 60), (2, fs_i (fs_w32 (x2 + 1)))] [] (fs_st M 60 9 (fs_or (M 60 9) (fs_shl 1 x2))) K)))))) :
    fs_A2 g m_Book_write 19 37 [(0, fs_r 60), (2, fs_i x2)] [] M K := by
  refine a_iload_n (j := 1) d_Book_write_37 rfl rfl ?_
  refine a_aload_n (j := 0) d_Book_write_38 rfl rfl ?_
  refine b_getptr (q := 1) d_Book_write_39 fl_Book_60 io_60 rfl rfl rfl ?_
  refine b_getfield (v := fs_i (M 1 5)) d_Book_write_42 fl_Book_78 io_1 rfl ?_
  refine a_icmp_ge (tgt := 80) d_Book_write_45 rfl (fun c2 => ?_) (fun c2 => ?_)
  · have h := h.1 c2
    refine a_aload_n (j := 0) d_Book_write_80 rfl rfl ?_
    refine a_iconst d_Book_write_81 (by unfold fs_in32; omega) ?_
    refine a_iconst d_Book_write_82 (by unfold fs_in32; omega) ?_
    refine a_iconst d_Book_write_83 (by unfold fs_in32; omega) ?_
    refine b_virtual (dc := 13) (ci := 0) (T := fs_T0) (N := 15) [fs_i 0, fs_i 0, fs_i 0] [] d_Book_write_84 ml_Book_86 k_Book_addRows v_Book_addRows rfl io_60 rfl (Nat.le_of_ble_eq_true rfl) rfl (Nat.le_of_ble_eq_true rfl) ?_
    refine fs_Call.mono (fun v M2 hv => ?_) h
    obtain ⟨rfl, h⟩ := hv
    show fs_A2 g m_Book_write 19 87 [(0, fs_r 60), (2, fs_i x2)] [] M2 K
    refine a_iconst d_Book_write_87 (by unfold fs_in32; omega) ?_
    refine a_istore_n d_Book_write_88 rfl (Nat.le_of_ble_eq_true rfl) [1, 0] rfl ?_
    exact h
  · have h := h.2 c2
    refine a_aload_n (j := 0) d_Book_write_48 rfl rfl ?_
    refine b_getptr (q := 43) d_Book_write_49 fl_Book_64 io_60 rfl rfl rfl ?_
    refine b_getptr (q := 49) d_Book_write_52 fl_Book_83 io_43 rfl rfl rfl ?_
    refine a_iload_n (j := 1) d_Book_write_55 rfl rfl ?_
    obtain ⟨o3, o4, h⟩ := h
    refine b_iaload (v := M 49 x2) d_Book_write_56 ia_49 o3 o4 rfl ?_
    refine a_bipush d_Book_write_57 (by decide) ?_
    refine a_icmp_ne (tgt := 74) d_Book_write_59 rfl (fun c5 => ?_) (fun c5 => ?_)
    · have h := h.1 c5
      refine a_iinc (j := 1) d_Book_write_74 rfl (Nat.le_of_ble_eq_true rfl) [1, 0] rfl ?_
      refine a_goto (tgt := 37) d_Book_write_77 rfl ?_
      exact h
    · have h := h.2 c5
      refine a_aload_n (j := 0) d_Book_write_62 rfl rfl ?_
      refine a_dup d_Book_write_63 rfl ?_
      refine b_getfield (v := fs_i (M 60 9)) d_Book_write_64 fl_Book_39 io_60 rfl ?_
      refine a_iconst d_Book_write_67 (by unfold fs_in32; omega) ?_
      refine a_iload_n (j := 1) d_Book_write_68 rfl rfl ?_
      refine a_ishl d_Book_write_69 ?_
      refine a_ior d_Book_write_70 ?_
      refine b_putfield (x := (fs_or (M 60 9) (fs_shl 1 x2))) d_Book_write_71 fl_Book_39 io_60 rfl rfl fs_nar_int ?_
      refine a_iinc (j := 1) d_Book_write_74 rfl (Nat.le_of_ble_eq_true rfl) [1, 0] rfl ?_
      refine a_goto (tgt := 37) d_Book_write_77 rfl ?_
      exact h
set_option maxRecDepth 8000 in
set_option maxHeartbeats 4000000 in
theorem L_Book_write_89 {M : fs_M} {K : fs_K} {x2 : Int} 
    (h : ((M 1 9 ≤ x2 → K none (fs_st M 60 5 1)) ∧ (¬ M 1 9 ≤ x2 → (0 ≤ x2 ∧ x2 < 3 ∧ fs_C2 g m_Goer_begin 1 [fs_r 83, fs_i (M 7 x2), fs_i (M 8 x2)] M (fun v M3 => v = none ∧ fs_C2 g m_Book_goOn 18 [fs_r 60, fs_i x2, fs_i 0, fs_i 0, fs_l 0] M3 (fun v M4 => ∃ r4, v = some (fs_i r4) ∧ fs_A2 g m_Book_write 19 89 [(0, fs_r 60), (2, fs_i (fs_w32 (x2 + 1)))] [] M4 K)))))) :
    fs_A2 g m_Book_write 19 89 [(0, fs_r 60), (2, fs_i x2)] [] M K := by
  refine a_iload_n (j := 1) d_Book_write_89 rfl rfl ?_
  refine a_aload_n (j := 0) d_Book_write_90 rfl rfl ?_
  refine b_getptr (q := 1) d_Book_write_91 fl_Book_60 io_60 rfl rfl rfl ?_
  refine b_getfield (v := fs_i (M 1 9)) d_Book_write_94 fl_Book_90 io_1 rfl ?_
  refine a_icmp_ge (tgt := 142) d_Book_write_97 rfl (fun c6 => ?_) (fun c6 => ?_)
  · have h := h.1 c6
    refine a_aload_n (j := 0) d_Book_write_142 rfl rfl ?_
    refine a_iconst d_Book_write_143 (by unfold fs_in32; omega) ?_
    refine b_putfield (x := 1) d_Book_write_144 fl_Book_32 io_60 rfl rfl (fs_nar_bool (Or.inr rfl)) ?_
    exact b_return d_Book_write_147 rfl h
  · have h := h.2 c6
    refine a_aload_n (j := 0) d_Book_write_100 rfl rfl ?_
    refine b_getptr (q := 71) d_Book_write_101 fl_Book_44 io_60 rfl rfl rfl ?_
    refine a_iconst d_Book_write_104 (by unfold fs_in32; omega) ?_
    refine b_aaptr (q := 83) d_Book_write_105 ia_71 (by decide) (by decide) (by decide) (aq_71 0) ?_
    refine a_aload_n (j := 0) d_Book_write_106 rfl rfl ?_
    refine b_getptr (q := 1) d_Book_write_107 fl_Book_60 io_60 rfl rfl rfl ?_
    refine b_getptr (q := 7) d_Book_write_110 fl_Book_93 io_1 rfl rfl rfl ?_
    refine a_iload_n (j := 1) d_Book_write_113 rfl rfl ?_
    obtain ⟨o7, o8, h⟩ := h
    refine b_iaload (v := M 7 x2) d_Book_write_114 ia_7 o7 o8 rfl ?_
    refine a_aload_n (j := 0) d_Book_write_115 rfl rfl ?_
    refine b_getptr (q := 1) d_Book_write_116 fl_Book_60 io_60 rfl rfl rfl ?_
    refine b_getptr (q := 8) d_Book_write_119 fl_Book_96 io_1 rfl rfl rfl ?_
    refine a_iload_n (j := 1) d_Book_write_122 rfl rfl ?_
    refine b_iaload (v := M 8 x2) d_Book_write_123 ia_8 o7 o8 rfl ?_
    refine b_virtual (dc := 1) (ci := 2) (T := fs_T2) (N := 7) [fs_i (M 7 x2), fs_i (M 8 x2)] [] d_Book_write_124 ml_Book_99 k_Goer_begin v_Goer_begin rfl io_83 rfl (Nat.le_of_ble_eq_true rfl) rfl (Nat.le_of_ble_eq_true rfl) ?_
    refine fs_Call.mono (fun v M3 hv => ?_) h
    obtain ⟨rfl, h⟩ := hv
    show fs_A2 g m_Book_write 19 127 [(0, fs_r 60), (2, fs_i x2)] [] M3 K
    refine a_aload_n (j := 0) d_Book_write_127 rfl rfl ?_
    refine a_iload_n (j := 1) d_Book_write_128 rfl rfl ?_
    refine a_iconst d_Book_write_129 (by unfold fs_in32; omega) ?_
    refine a_iconst d_Book_write_130 (by unfold fs_in32; omega) ?_
    refine a_lconst (v := 0) d_Book_write_131 rfl (by unfold fs_in64; omega) ?_
    refine b_virtual (dc := 18) (ci := 0) (T := fs_T0) (N := 15) [fs_i x2, fs_i 0, fs_i 0, fs_l 0] [] d_Book_write_132 ml_Book_102 k_Book_goOn v_Book_goOn rfl io_60 rfl (Nat.le_of_ble_eq_true rfl) rfl (Nat.le_of_ble_eq_true rfl) ?_
    refine fs_Call.mono (fun v M4 hv => ?_) h
    obtain ⟨r4, rfl, h⟩ := hv
    show fs_A2 g m_Book_write 19 135 [(0, fs_r 60), (2, fs_i x2)] [fs_i r4] M4 K
    refine a_pop d_Book_write_135 rfl ?_
    refine a_iinc (j := 1) d_Book_write_136 rfl (Nat.le_of_ble_eq_true rfl) [1, 0] rfl ?_
    refine a_goto (tgt := 89) d_Book_write_139 rfl ?_
    exact h
set_option maxRecDepth 8000 in
set_option maxHeartbeats 4000000 in
theorem E_Book_addRows {d : Nat} (hd : 1 ≤ d) {M : fs_M} {K : fs_K} {x1 x2 x3 : Int} 
    (h : ((M 60 2 < 1957 → (0 ≤ M 60 2 ∧ fs_A2 g m_Book_addRows (d + 1) 44 [(0, fs_r 60), (1, fs_i x1), (2, fs_i x2), (3, fs_i x3), (4, fs_i 0)] [] (fs_st (fs_st (fs_st M 61 (M 60 2) x1) 62 (M 60 2) x3) 60 2 (fs_w32 ((M 60 2) + 1))) K)) ∧ (¬ M 60 2 < 1957 → K none M))) :
    fs_C2 g m_Book_addRows (d + 1) [fs_r 60, fs_i x1, fs_i x2, fs_i x3] M K := by
  refine b_enter2 (ls := [(0, fs_r 60), (1, fs_i x1), (2, fs_i x2), (3, fs_i x3)]) (plainFor_of_name pn_Book) (Nat.le_of_ble_eq_true rfl) rfl ?_
  refine a_aload_n (j := 0) d_Book_addRows_0 rfl rfl ?_
  refine b_getfield (v := fs_i (M 60 2)) d_Book_addRows_1 fl_Book_18 io_60 rfl ?_
  refine a_sipush d_Book_addRows_4 (by decide) ?_
  refine a_icmp_lt (tgt := 11) d_Book_addRows_7 rfl (fun c1 => ?_) (fun c1 => ?_)
  · have h := h.1 c1
    refine a_aload_n (j := 0) d_Book_addRows_11 rfl rfl ?_
    refine b_getptr (q := 61) d_Book_addRows_12 fl_Book_9 io_60 rfl rfl rfl ?_
    refine a_aload_n (j := 0) d_Book_addRows_15 rfl rfl ?_
    refine b_getfield (v := fs_i (M 60 2)) d_Book_addRows_16 fl_Book_18 io_60 rfl ?_
    refine a_iload_n (j := 1) d_Book_addRows_19 rfl rfl ?_
    obtain ⟨o2, h⟩ := h
    refine b_iastore d_Book_addRows_20 ia_61 o2 c1 ?_
    refine a_aload_n (j := 0) d_Book_addRows_21 rfl rfl ?_
    refine b_getptr (q := 62) d_Book_addRows_22 fl_Book_15 io_60 rfl rfl rfl ?_
    refine a_aload_n (j := 0) d_Book_addRows_25 rfl rfl ?_
    refine b_getfield (v := fs_i (M 60 2)) d_Book_addRows_26 fl_Book_18 io_60 rfl ?_
    refine a_iload_n (j := 3) d_Book_addRows_29 rfl rfl ?_
    refine b_iastore d_Book_addRows_30 ia_62 o2 c1 ?_
    refine a_aload_n (j := 0) d_Book_addRows_31 rfl rfl ?_
    refine a_dup d_Book_addRows_32 rfl ?_
    refine b_getfield (v := fs_i (M 60 2)) d_Book_addRows_33 fl_Book_18 io_60 rfl ?_
    refine a_iconst d_Book_addRows_36 (by unfold fs_in32; omega) ?_
    refine a_iadd d_Book_addRows_37 ?_
    refine b_putfield (x := (fs_w32 ((M 60 2) + 1))) d_Book_addRows_38 fl_Book_18 io_60 rfl rfl fs_nar_int ?_
    refine a_iconst d_Book_addRows_41 (by unfold fs_in32; omega) ?_
    refine a_istore d_Book_addRows_42 (Nat.le_of_ble_eq_true rfl) [1, 2, 3, 4, 0] rfl ?_
    exact h
  · have h := h.2 c1
    exact b_return d_Book_addRows_10 rfl h
set_option maxRecDepth 8000 in
set_option maxHeartbeats 4000000 in
theorem L_Book_addRows_44 {d : Nat} (hd : 1 ≤ d) {M : fs_M} {K : fs_K} {x1 x2 x3 x4 : Int} 
    (h : ((M 1 5 ≤ x4 → K none M) ∧ (¬ M 1 5 ≤ x4 → ((6 ≤ x2 → K none M) ∧ (¬ 6 ≤ x2 → fs_C2 g m_Fs_bit 1 [fs_i x3, fs_i x4] M (fun v M1 => ∃ r1, v = some (fs_i r1) ∧ ((¬ r1 = 0 → fs_A2 g m_Book_addRows (d + 1) 44 [(0, fs_r 60), (1, fs_i x1), (2, fs_i x2), (3, fs_i x3), (4, fs_i (fs_w32 (x4 + 1)))] [] M1 K) ∧ (r1 = 0 → fs_C2 g m_Book_addRows d [fs_r 60, fs_i (fs_or x1 (fs_shl (fs_w32 (x4 + 1)) (fs_w32 (3 * x2)))), fs_i (fs_w32 (x2 + 1)), fs_i (fs_or x3 (fs_shl 1 x4))] M1 (fun v M2 => v = none ∧ fs_A2 g m_Book_addRows (d + 1) 44 [(0, fs_r 60), (1, fs_i x1), (2, fs_i x2), (3, fs_i x3), (4, fs_i (fs_w32 (x4 + 1)))] [] M2 K))))))))) :
    fs_A2 g m_Book_addRows (d + 1) 44 [(0, fs_r 60), (1, fs_i x1), (2, fs_i x2), (3, fs_i x3), (4, fs_i x4)] [] M K := by
  refine a_iload (j := 4) d_Book_addRows_44 rfl ?_
  refine a_aload_n (j := 0) d_Book_addRows_46 rfl rfl ?_
  refine b_getptr (q := 1) d_Book_addRows_47 fl_Book_60 io_60 rfl rfl rfl ?_
  refine b_getfield (v := fs_i (M 1 5)) d_Book_addRows_50 fl_Book_78 io_1 rfl ?_
  refine a_icmp_ge (tgt := 100) d_Book_addRows_53 rfl (fun c3 => ?_) (fun c3 => ?_)
  · have h := h.1 c3
    exact b_return d_Book_addRows_100 rfl h
  · have h := h.2 c3
    refine a_iload_n (j := 2) d_Book_addRows_56 rfl rfl ?_
    refine a_bipush d_Book_addRows_57 (by decide) ?_
    refine a_icmp_ge (tgt := 100) d_Book_addRows_59 rfl (fun c4 => ?_) (fun c4 => ?_)
    · have h := h.1 c4
      exact b_return d_Book_addRows_100 rfl h
    · have h := h.2 c4
      refine a_iload_n (j := 3) d_Book_addRows_62 rfl rfl ?_
      refine a_iload (j := 4) d_Book_addRows_63 rfl ?_
      refine b_static (dc := 1) [fs_i x3, fs_i x4] [] d_Book_addRows_65 ml_Book_106 k_Fs_bit s_Fs_bit rfl (by omega) rfl (Nat.le_of_ble_eq_true rfl) ?_
      refine fs_Call.mono (fun v M1 hv => ?_) h
      obtain ⟨r1, rfl, h⟩ := hv
      show fs_A2 g m_Book_addRows (d + 1) 68 [(0, fs_r 60), (1, fs_i x1), (2, fs_i x2), (3, fs_i x3), (4, fs_i x4)] [fs_i r1] M1 K
      refine a_if_ne (tgt := 94) d_Book_addRows_68 rfl (fun c5 => ?_) (fun c5 => ?_)
      · have h := h.1 c5
        refine a_iinc (j := 4) d_Book_addRows_94 rfl (Nat.le_of_ble_eq_true rfl) [1, 2, 3, 4, 0] rfl ?_
        refine a_goto (tgt := 44) d_Book_addRows_97 rfl ?_
        exact h
      · have h := h.2 c5
        refine a_aload_n (j := 0) d_Book_addRows_71 rfl rfl ?_
        refine a_iload_n (j := 1) d_Book_addRows_72 rfl rfl ?_
        refine a_iload (j := 4) d_Book_addRows_73 rfl ?_
        refine a_iconst d_Book_addRows_75 (by unfold fs_in32; omega) ?_
        refine a_iadd d_Book_addRows_76 ?_
        refine a_iconst d_Book_addRows_77 (by unfold fs_in32; omega) ?_
        refine a_iload_n (j := 2) d_Book_addRows_78 rfl rfl ?_
        refine a_imul d_Book_addRows_79 ?_
        refine a_ishl d_Book_addRows_80 ?_
        refine a_ior d_Book_addRows_81 ?_
        refine a_iload_n (j := 2) d_Book_addRows_82 rfl rfl ?_
        refine a_iconst d_Book_addRows_83 (by unfold fs_in32; omega) ?_
        refine a_iadd d_Book_addRows_84 ?_
        refine a_iload_n (j := 3) d_Book_addRows_85 rfl rfl ?_
        refine a_iconst d_Book_addRows_86 (by unfold fs_in32; omega) ?_
        refine a_iload (j := 4) d_Book_addRows_87 rfl ?_
        refine a_ishl d_Book_addRows_89 ?_
        refine a_ior d_Book_addRows_90 ?_
        refine b_virtual (dc := d) (ci := 0) (T := fs_T0) (N := 15) [fs_i (fs_or x1 (fs_shl (fs_w32 (x4 + 1)) (fs_w32 (3 * x2)))), fs_i (fs_w32 (x2 + 1)), fs_i (fs_or x3 (fs_shl 1 x4))] [] d_Book_addRows_91 ml_Book_86 k_Book_addRows v_Book_addRows rfl io_60 rfl (Nat.le_refl _) rfl (Nat.le_of_ble_eq_true rfl) ?_
        refine fs_Call.mono (fun v M2 hv => ?_) h
        obtain ⟨rfl, h⟩ := hv
        show fs_A2 g m_Book_addRows (d + 1) 94 [(0, fs_r 60), (1, fs_i x1), (2, fs_i x2), (3, fs_i x3), (4, fs_i x4)] [] M2 K
        refine a_iinc (j := 4) d_Book_addRows_94 rfl (Nat.le_of_ble_eq_true rfl) [1, 2, 3, 4, 0] rfl ?_
        refine a_goto (tgt := 44) d_Book_addRows_97 rfl ?_
        exact h
set_option maxRecDepth 8000 in
set_option maxHeartbeats 4000000 in
theorem E_Book_goOn {d : Nat} (hd : 6 ≤ d) {M : fs_M} {K : fs_K} {x1 x2 x3 x4 : Int} 
    (h : ((x2 < 1957 → (0 ≤ x1 ∧ x1 < 3 ∧ (0 ≤ x2 ∧ fs_C2 g m_Book_housesInTime 2 [fs_r 60, fs_l x4] (fs_st M (64 + x1) x2 x4) (fun v M1 => ∃ r1, v = some (fs_i r1) ∧ fs_A2 g m_Book_goOn (d + 1) 41 [(0, fs_r 60), (1, fs_i x1), (2, fs_i x2), (3, fs_i x3), (4, fs_l x4), (6, fs_i (fs_w32 (x2 + 1))), (7, fs_i 0)] [] (fs_st M1 (68 + x1) x2 r1) K)))) ∧ (¬ x2 < 1957 → K (some (fs_i x2)) M))) :
    fs_C2 g m_Book_goOn (d + 1) [fs_r 60, fs_i x1, fs_i x2, fs_i x3, fs_l x4] M K := by
  refine b_enter2 (ls := [(0, fs_r 60), (1, fs_i x1), (2, fs_i x2), (3, fs_i x3), (4, fs_l x4)]) (plainFor_of_name pn_Book) (Nat.le_of_ble_eq_true rfl) rfl ?_
  refine a_iload_n (j := 2) d_Book_goOn_0 rfl rfl ?_
  refine a_sipush d_Book_goOn_1 (by decide) ?_
  refine a_icmp_lt (tgt := 9) d_Book_goOn_4 rfl (fun c1 => ?_) (fun c1 => ?_)
  · have h := h.1 c1
    refine a_aload_n (j := 0) d_Book_goOn_9 rfl rfl ?_
    refine b_getptr (q := 63) d_Book_goOn_10 fl_Book_24 io_60 rfl rfl rfl ?_
    refine a_iload_n (j := 1) d_Book_goOn_13 rfl rfl ?_
    obtain ⟨o2, o3, h⟩ := h
    refine b_aaptr (q := 64 + x1) d_Book_goOn_14 ia_63 (by decide) o2 o3 (aq_63 x1) ?_
    refine a_iload_n (j := 2) d_Book_goOn_15 rfl rfl ?_
    refine a_lload (j := 4) d_Book_goOn_16 rfl ?_
    obtain ⟨o4, h⟩ := h
    refine b_lastore d_Book_goOn_18 (ae_63 o2 o3) o4 c1 ?_
    refine a_aload_n (j := 0) d_Book_goOn_19 rfl rfl ?_
    refine b_getptr (q := 67) d_Book_goOn_20 fl_Book_29 io_60 rfl rfl rfl ?_
    refine a_iload_n (j := 1) d_Book_goOn_23 rfl rfl ?_
    refine b_aaptr (q := 68 + x1) d_Book_goOn_24 ia_67 (by decide) o2 o3 (aq_67 x1) ?_
    refine a_iload_n (j := 2) d_Book_goOn_25 rfl rfl ?_
    refine a_aload_n (j := 0) d_Book_goOn_26 rfl rfl ?_
    refine a_lload (j := 4) d_Book_goOn_27 rfl ?_
    refine b_virtual (dc := 2) (ci := 0) (T := fs_T0) (N := 15) [fs_l x4] [fs_i x2, fs_r (68 + x1)] d_Book_goOn_29 ml_Book_110 k_Book_housesInTime v_Book_housesInTime rfl io_60 rfl (by omega) rfl (Nat.le_of_ble_eq_true rfl) ?_
    refine fs_Call.mono (fun v M1 hv => ?_) h
    obtain ⟨r1, rfl, h⟩ := hv
    show fs_A2 g m_Book_goOn (d + 1) 32 [(0, fs_r 60), (1, fs_i x1), (2, fs_i x2), (3, fs_i x3), (4, fs_l x4)] [fs_i r1, fs_i x2, fs_r (68 + x1)] M1 K
    refine b_iastore d_Book_goOn_32 (ae_67 o2 o3) o4 c1 ?_
    refine a_iload_n (j := 2) d_Book_goOn_33 rfl rfl ?_
    refine a_iconst d_Book_goOn_34 (by unfold fs_in32; omega) ?_
    refine a_iadd d_Book_goOn_35 ?_
    refine a_istore d_Book_goOn_36 (Nat.le_of_ble_eq_true rfl) [1, 2, 3, 4, 5, 0] rfl ?_
    refine a_iconst d_Book_goOn_38 (by unfold fs_in32; omega) ?_
    refine a_istore d_Book_goOn_39 (Nat.le_of_ble_eq_true rfl) [1, 2, 3, 4, 5, 6, 0] rfl ?_
    exact h
  · have h := h.2 c1
    refine a_iload_n (j := 2) d_Book_goOn_7 rfl rfl ?_
    exact b_ireturn d_Book_goOn_8 rfl rfl h
set_option maxRecDepth 8000 in
set_option maxHeartbeats 4000000 in
theorem L_Book_goOn_41 {d : Nat} (hd : 6 ≤ d) {M : fs_M} {K : fs_K} {x1 x2 x3 x4 x6 x7 : Int} 
    (h : ((M 1 5 ≤ x7 → K (some (fs_i x6)) M) ∧ (¬ M 1 5 ≤ x7 → ((6 ≤ x3 → K (some (fs_i x6)) M) ∧ (¬ 6 ≤ x3 → (0 ≤ x2 ∧ x2 < 1957 ∧ fs_C2 g m_Fs_bit 1 [fs_i (M 62 x2), fs_i x7] M (fun v M2 => ∃ r2, v = some (fs_i r2) ∧ ((¬ r2 = 0 → fs_A2 g m_Book_goOn (d + 1) 41 [(0, fs_r 60), (1, fs_i x1), (2, fs_i x2), (3, fs_i x3), (4, fs_l x4), (6, fs_i x6), (7, fs_i (fs_w32 (x7 + 1)))] [] M2 K) ∧ (r2 = 0 → (0 ≤ fs_w32 (x3 + 1) ∧ fs_w32 (x3 + 1) < 7 ∧ (0 ≤ x3 ∧ fs_C2 g m_Goer_copyFrom 1 [fs_r (83 + (fs_w32 (x3 + 1))), fs_r (83 + x3)] M2 (fun v M3 => v = none ∧ fs_C2 g m_Book_doesNext 6 [fs_r 60, fs_r (83 + (fs_w32 (x3 + 1))), fs_i x7] M3 (fun v M4 => ∃ r4, v = some (fs_l r4) ∧ fs_C2 g m_Book_goOn d [fs_r 60, fs_i x1, fs_i x6, fs_i (fs_w32 (x3 + 1)), fs_l (fs_lor x4 r4)] M4 (fun v M5 => ∃ r5, v = some (fs_i r5) ∧ fs_A2 g m_Book_goOn (d + 1) 41 [(0, fs_r 60), (1, fs_i x1), (2, fs_i x2), (3, fs_i x3), (4, fs_l x4), (6, fs_i r5), (7, fs_i (fs_w32 (x7 + 1)))] [] M5 K)))))))))))))) :
    fs_A2 g m_Book_goOn (d + 1) 41 [(0, fs_r 60), (1, fs_i x1), (2, fs_i x2), (3, fs_i x3), (4, fs_l x4), (6, fs_i x6), (7, fs_i x7)] [] M K := by
  refine a_iload (j := 6) d_Book_goOn_41 rfl ?_
  refine a_aload_n (j := 0) d_Book_goOn_43 rfl rfl ?_
  refine b_getptr (q := 1) d_Book_goOn_44 fl_Book_60 io_60 rfl rfl rfl ?_
  refine b_getfield (v := fs_i (M 1 5)) d_Book_goOn_47 fl_Book_78 io_1 rfl ?_
  refine a_icmp_ge (tgt := 125) d_Book_goOn_50 rfl (fun c5 => ?_) (fun c5 => ?_)
  · have h := h.1 c5
    refine a_iload (j := 5) d_Book_goOn_125 rfl ?_
    exact b_ireturn d_Book_goOn_127 rfl rfl h
  · have h := h.2 c5
    refine a_iload_n (j := 3) d_Book_goOn_53 rfl rfl ?_
    refine a_bipush d_Book_goOn_54 (by decide) ?_
    refine a_icmp_ge (tgt := 125) d_Book_goOn_56 rfl (fun c6 => ?_) (fun c6 => ?_)
    · have h := h.1 c6
      refine a_iload (j := 5) d_Book_goOn_125 rfl ?_
      exact b_ireturn d_Book_goOn_127 rfl rfl h
    · have h := h.2 c6
      refine a_aload_n (j := 0) d_Book_goOn_59 rfl rfl ?_
      refine b_getptr (q := 62) d_Book_goOn_60 fl_Book_15 io_60 rfl rfl rfl ?_
      refine a_iload_n (j := 2) d_Book_goOn_63 rfl rfl ?_
      obtain ⟨o7, o8, h⟩ := h
      refine b_iaload (v := M 62 x2) d_Book_goOn_64 ia_62 o7 o8 rfl ?_
      refine a_iload (j := 6) d_Book_goOn_65 rfl ?_
      refine b_static (dc := 1) [fs_i (M 62 x2), fs_i x7] [] d_Book_goOn_67 ml_Book_106 k_Fs_bit s_Fs_bit rfl (by omega) rfl (Nat.le_of_ble_eq_true rfl) ?_
      refine fs_Call.mono (fun v M2 hv => ?_) h
      obtain ⟨r2, rfl, h⟩ := hv
      show fs_A2 g m_Book_goOn (d + 1) 70 [(0, fs_r 60), (1, fs_i x1), (2, fs_i x2), (3, fs_i x3), (4, fs_l x4), (6, fs_i x6), (7, fs_i x7)] [fs_i r2] M2 K
      refine a_if_ne (tgt := 119) d_Book_goOn_70 rfl (fun c9 => ?_) (fun c9 => ?_)
      · have h := h.1 c9
        refine a_iinc (j := 6) d_Book_goOn_119 rfl (Nat.le_of_ble_eq_true rfl) [1, 2, 3, 4, 5, 6, 0] rfl ?_
        refine a_goto (tgt := 41) d_Book_goOn_122 rfl ?_
        exact h
      · have h := h.2 c9
        refine a_aload_n (j := 0) d_Book_goOn_73 rfl rfl ?_
        refine b_getptr (q := 71) d_Book_goOn_74 fl_Book_44 io_60 rfl rfl rfl ?_
        refine a_iload_n (j := 3) d_Book_goOn_77 rfl rfl ?_
        refine a_iconst d_Book_goOn_78 (by unfold fs_in32; omega) ?_
        refine a_iadd d_Book_goOn_79 ?_
        obtain ⟨o10, o11, h⟩ := h
        refine b_aaptr (q := 83 + (fs_w32 (x3 + 1))) d_Book_goOn_80 ia_71 (by decide) o10 o11 (aq_71 (fs_w32 (x3 + 1))) ?_
        refine a_aload_n (j := 0) d_Book_goOn_81 rfl rfl ?_
        refine b_getptr (q := 71) d_Book_goOn_82 fl_Book_44 io_60 rfl rfl rfl ?_
        refine a_iload_n (j := 3) d_Book_goOn_85 rfl rfl ?_
        obtain ⟨o12, h⟩ := h
        refine b_aaptr (q := 83 + x3) d_Book_goOn_86 ia_71 (by decide) o12 (by have q := (by omega : x3 < 6); omega) (aq_71 x3) ?_
        refine b_virtual (dc := 1) (ci := 2) (T := fs_T2) (N := 7) [fs_r (83 + x3)] [] d_Book_goOn_87 ml_Book_114 k_Goer_copyFrom v_Goer_copyFrom rfl (ae_71 o10 o11) rfl (by omega) rfl (Nat.le_of_ble_eq_true rfl) ?_
        refine fs_Call.mono (fun v M3 hv => ?_) h
        obtain ⟨rfl, h⟩ := hv
        show fs_A2 g m_Book_goOn (d + 1) 90 [(0, fs_r 60), (1, fs_i x1), (2, fs_i x2), (3, fs_i x3), (4, fs_l x4), (6, fs_i x6), (7, fs_i x7)] [] M3 K
        refine a_aload_n (j := 0) d_Book_goOn_90 rfl rfl ?_
        refine a_iload_n (j := 1) d_Book_goOn_91 rfl rfl ?_
        refine a_iload (j := 5) d_Book_goOn_92 rfl ?_
        refine a_iload_n (j := 3) d_Book_goOn_94 rfl rfl ?_
        refine a_iconst d_Book_goOn_95 (by unfold fs_in32; omega) ?_
        refine a_iadd d_Book_goOn_96 ?_
        refine a_lload (j := 4) d_Book_goOn_97 rfl ?_
        refine a_aload_n (j := 0) d_Book_goOn_99 rfl rfl ?_
        refine a_aload_n (j := 0) d_Book_goOn_100 rfl rfl ?_
        refine b_getptr (q := 71) d_Book_goOn_101 fl_Book_44 io_60 rfl rfl rfl ?_
        refine a_iload_n (j := 3) d_Book_goOn_104 rfl rfl ?_
        refine a_iconst d_Book_goOn_105 (by unfold fs_in32; omega) ?_
        refine a_iadd d_Book_goOn_106 ?_
        refine b_aaptr (q := 83 + (fs_w32 (x3 + 1))) d_Book_goOn_107 ia_71 (by decide) o10 o11 (aq_71 (fs_w32 (x3 + 1))) ?_
        refine a_iload (j := 6) d_Book_goOn_108 rfl ?_
        refine b_virtual (dc := 6) (ci := 0) (T := fs_T0) (N := 15) [fs_r (83 + (fs_w32 (x3 + 1))), fs_i x7] [fs_l x4, fs_i (fs_w32 (x3 + 1)), fs_i x6, fs_i x1, fs_r 60] d_Book_goOn_110 ml_Book_118 k_Book_doesNext v_Book_doesNext rfl io_60 rfl (by omega) rfl (Nat.le_of_ble_eq_true rfl) ?_
        refine fs_Call.mono (fun v M4 hv => ?_) h
        obtain ⟨r4, rfl, h⟩ := hv
        show fs_A2 g m_Book_goOn (d + 1) 113 [(0, fs_r 60), (1, fs_i x1), (2, fs_i x2), (3, fs_i x3), (4, fs_l x4), (6, fs_i x6), (7, fs_i x7)] [fs_l r4, fs_l x4, fs_i (fs_w32 (x3 + 1)), fs_i x6, fs_i x1, fs_r 60] M4 K
        refine a_lor d_Book_goOn_113 ?_
        refine b_virtual (dc := d) (ci := 0) (T := fs_T0) (N := 15) [fs_i x1, fs_i x6, fs_i (fs_w32 (x3 + 1)), fs_l (fs_lor x4 r4)] [] d_Book_goOn_114 ml_Book_102 k_Book_goOn v_Book_goOn rfl io_60 rfl (Nat.le_refl _) rfl (Nat.le_of_ble_eq_true rfl) ?_
        refine fs_Call.mono (fun v M5 hv => ?_) h
        obtain ⟨r5, rfl, h⟩ := hv
        show fs_A2 g m_Book_goOn (d + 1) 117 [(0, fs_r 60), (1, fs_i x1), (2, fs_i x2), (3, fs_i x3), (4, fs_l x4), (6, fs_i x6), (7, fs_i x7)] [fs_i r5] M5 K
        refine a_istore d_Book_goOn_117 (Nat.le_of_ble_eq_true rfl) [1, 2, 3, 4, 5, 0, 6] rfl ?_
        refine a_iinc (j := 6) d_Book_goOn_119 rfl (Nat.le_of_ble_eq_true rfl) [1, 2, 3, 4, 5, 6, 0] rfl ?_
        refine a_goto (tgt := 41) d_Book_goOn_122 rfl ?_
        exact h
set_option maxRecDepth 8000 in
set_option maxHeartbeats 4000000 in
theorem E_Book_housesInTime {M : fs_M} {K : fs_K} {x1 : Int} 
    (h : fs_A2 g m_Book_housesInTime 2 5 [(0, fs_r 60), (1, fs_l x1), (3, fs_i 0), (4, fs_i 0)] [] M K) :
    fs_C2 g m_Book_housesInTime 2 [fs_r 60, fs_l x1] M K := by
  refine b_enter2 (ls := [(0, fs_r 60), (1, fs_l x1)]) (plainFor_of_name pn_Book) (Nat.le_of_ble_eq_true rfl) rfl ?_
  refine a_iconst d_Book_housesInTime_0 (by unfold fs_in32; omega) ?_
  refine a_istore_n d_Book_housesInTime_1 rfl (Nat.le_of_ble_eq_true rfl) [1, 2, 0] rfl ?_
  refine a_iconst d_Book_housesInTime_2 (by unfold fs_in32; omega) ?_
  refine a_istore d_Book_housesInTime_3 (Nat.le_of_ble_eq_true rfl) [1, 2, 3, 0] rfl ?_
  exact h
set_option maxRecDepth 8000 in
set_option maxHeartbeats 4000000 in
theorem L_Book_housesInTime_5 {M : fs_M} {K : fs_K} {x1 x3 x4 : Int} 
    (h : ((M 1 5 ≤ x4 → K (some (fs_i x3)) M) ∧ (¬ M 1 5 ≤ x4 → fs_C2 g m_Book_minuteOf 1 [fs_l x1, fs_i x4] M (fun v M1 => ∃ r1, v = some (fs_i r1) ∧ ((r1 ≤ 0 → fs_A2 g m_Book_housesInTime 2 5 [(0, fs_r 60), (1, fs_l x1), (3, fs_i x3), (4, fs_i (fs_w32 (x4 + 1)))] [] M1 K) ∧ (¬ r1 ≤ 0 → (0 ≤ x4 ∧ x4 < 6 ∧ ((M1 5 x4 < r1 → fs_A2 g m_Book_housesInTime 2 5 [(0, fs_r 60), (1, fs_l x1), (3, fs_i x3), (4, fs_i (fs_w32 (x4 + 1)))] [] M1 K) ∧ (¬ M1 5 x4 < r1 → fs_A2 g m_Book_housesInTime 2 5 [(0, fs_r 60), (1, fs_l x1), (3, fs_i (fs_or x3 (fs_shl 1 x4))), (4, fs_i (fs_w32 (x4 + 1)))] [] M1 K))))))))) :
    fs_A2 g m_Book_housesInTime 2 5 [(0, fs_r 60), (1, fs_l x1), (3, fs_i x3), (4, fs_i x4)] [] M K := by
  refine a_iload (j := 3) d_Book_housesInTime_5 rfl ?_
  refine a_aload_n (j := 0) d_Book_housesInTime_7 rfl rfl ?_
  refine b_getptr (q := 1) d_Book_housesInTime_8 fl_Book_60 io_60 rfl rfl rfl ?_
  refine b_getfield (v := fs_i (M 1 5)) d_Book_housesInTime_11 fl_Book_78 io_1 rfl ?_
  refine a_icmp_ge (tgt := 58) d_Book_housesInTime_14 rfl (fun c1 => ?_) (fun c1 => ?_)
  · have h := h.1 c1
    refine a_iload_n (j := 2) d_Book_housesInTime_58 rfl rfl ?_
    exact b_ireturn d_Book_housesInTime_59 rfl rfl h
  · have h := h.2 c1
    refine a_lload_n (j := 1) d_Book_housesInTime_17 rfl rfl ?_
    refine a_iload (j := 3) d_Book_housesInTime_18 rfl ?_
    refine b_static (dc := 1) [fs_l x1, fs_i x4] [] d_Book_housesInTime_20 ml_Book_133 k_Book_minuteOf s_Book_minuteOf rfl (Nat.le_of_ble_eq_true rfl) rfl (Nat.le_of_ble_eq_true rfl) ?_
    refine fs_Call.mono (fun v M1 hv => ?_) h
    obtain ⟨r1, rfl, h⟩ := hv
    show fs_A2 g m_Book_housesInTime 2 23 [(0, fs_r 60), (1, fs_l x1), (3, fs_i x3), (4, fs_i x4)] [fs_i r1] M1 K
    refine a_istore d_Book_housesInTime_23 (Nat.le_of_ble_eq_true rfl) [1, 2, 3, 4, 0] rfl ?_
    refine a_iload (j := 4) d_Book_housesInTime_25 rfl ?_
    refine a_if_le (tgt := 52) d_Book_housesInTime_27 rfl (fun c2 => ?_) (fun c2 => ?_)
    · have h := h.1 c2
      refine a_iinc (j := 3) d_Book_housesInTime_52 rfl (Nat.le_of_ble_eq_true rfl) [1, 2, 3, 0, 4] rfl ?_
      refine a_goto (tgt := 5) d_Book_housesInTime_55 rfl ?_
      refine a_sub [0, 1, 2, 3] rfl ?_
      exact h
    · have h := h.2 c2
      refine a_iload (j := 4) d_Book_housesInTime_30 rfl ?_
      refine a_aload_n (j := 0) d_Book_housesInTime_32 rfl rfl ?_
      refine b_getptr (q := 1) d_Book_housesInTime_33 fl_Book_60 io_60 rfl rfl rfl ?_
      refine b_getptr (q := 5) d_Book_housesInTime_36 fl_Book_137 io_1 rfl rfl rfl ?_
      refine a_iload (j := 3) d_Book_housesInTime_39 rfl ?_
      obtain ⟨o3, o4, h⟩ := h
      refine b_iaload (v := M1 5 x4) d_Book_housesInTime_41 ia_5 o3 o4 rfl ?_
      refine a_icmp_gt (tgt := 52) d_Book_housesInTime_42 rfl (fun c5 => ?_) (fun c5 => ?_)
      · have h := h.1 c5
        refine a_iinc (j := 3) d_Book_housesInTime_52 rfl (Nat.le_of_ble_eq_true rfl) [1, 2, 3, 0, 4] rfl ?_
        refine a_goto (tgt := 5) d_Book_housesInTime_55 rfl ?_
        refine a_sub [0, 1, 2, 3] rfl ?_
        exact h
      · have h := h.2 c5
        refine a_iload_n (j := 2) d_Book_housesInTime_45 rfl rfl ?_
        refine a_iconst d_Book_housesInTime_46 (by unfold fs_in32; omega) ?_
        refine a_iload (j := 3) d_Book_housesInTime_47 rfl ?_
        refine a_ishl d_Book_housesInTime_49 ?_
        refine a_ior d_Book_housesInTime_50 ?_
        refine a_istore_n d_Book_housesInTime_51 rfl (Nat.le_of_ble_eq_true rfl) [1, 2, 0, 3, 4] rfl ?_
        refine a_iinc (j := 3) d_Book_housesInTime_52 rfl (Nat.le_of_ble_eq_true rfl) [1, 2, 3, 0, 4] rfl ?_
        refine a_goto (tgt := 5) d_Book_housesInTime_55 rfl ?_
        refine a_sub [0, 1, 2, 3] rfl ?_
        exact h
set_option maxRecDepth 8000 in
set_option maxHeartbeats 4000000 in
theorem E_Book_minuteOf {M : fs_M} {K : fs_K} {x0 x2 : Int} 
    (h : K (some (fs_i (fs_and (fs_w32 (fs_lshr x0 (fs_w32 (8 * x2)))) 255))) M) :
    fs_C2 g m_Book_minuteOf 1 [fs_l x0, fs_i x2] M K := by
  refine b_enter2 (ls := [(0, fs_l x0), (2, fs_i x2)]) (plainFor_of_name pn_Book) (Nat.le_of_ble_eq_true rfl) rfl ?_
  refine a_lload_n (j := 0) d_Book_minuteOf_0 rfl rfl ?_
  refine a_bipush d_Book_minuteOf_1 (by decide) ?_
  refine a_iload_n (j := 1) d_Book_minuteOf_3 rfl rfl ?_
  refine a_imul d_Book_minuteOf_4 ?_
  refine a_lshr d_Book_minuteOf_5 ?_
  refine a_l2i d_Book_minuteOf_6 ?_
  refine a_sipush d_Book_minuteOf_7 (by decide) ?_
  refine a_iand d_Book_minuteOf_10 ?_
  exact b_ireturn d_Book_minuteOf_11 rfl rfl h
set_option maxRecDepth 8000 in
set_option maxHeartbeats 4000000 in
theorem E_Book_doesNext {M : fs_M} {K : fs_K} {x1 x2 : Int} (h1 : fs_isO 2 x1) 
    (h : ((M x1 6 = 1000 → fs_A2 g m_Book_doesNext 6 19 [(0, fs_r 60), (1, fs_r x1), (2, fs_i x2)] [] M K) ∧ (¬ M x1 6 = 1000 → fs_C2 g m_Course_setOut 5 [fs_r 43, fs_r x1, fs_i x2] M (fun v M1 => v = none ∧ fs_A2 g m_Book_doesNext 6 19 [(0, fs_r 60), (1, fs_r x1), (2, fs_i x2)] [] M1 K)))) :
    fs_C2 g m_Book_doesNext 6 [fs_r 60, fs_r x1, fs_i x2] M K := by
  refine b_enter2 (ls := [(0, fs_r 60), (1, fs_r x1), (2, fs_i x2)]) (plainFor_of_name pn_Book) (Nat.le_of_ble_eq_true rfl) rfl ?_
  refine a_aload_n (j := 1) d_Book_doesNext_0 rfl rfl ?_
  refine b_getfield (v := fs_i (M x1 6)) d_Book_doesNext_1 fl_Book_122 h1 rfl ?_
  refine a_sipush d_Book_doesNext_4 (by decide) ?_
  refine a_icmp_eq (tgt := 19) d_Book_doesNext_7 rfl (fun c1 => ?_) (fun c1 => ?_)
  · have h := h.1 c1
    exact h
  · have h := h.2 c1
    refine a_aload_n (j := 0) d_Book_doesNext_10 rfl rfl ?_
    refine b_getptr (q := 43) d_Book_doesNext_11 fl_Book_64 io_60 rfl rfl rfl ?_
    refine a_aload_n (j := 1) d_Book_doesNext_14 rfl rfl ?_
    refine a_iload_n (j := 2) d_Book_doesNext_15 rfl rfl ?_
    refine b_virtual (dc := 5) (ci := 1) (T := fs_T1) (N := 8) [fs_r x1, fs_i x2] [] d_Book_doesNext_16 ml_Book_125 k_Course_setOut v_Course_setOut rfl io_43 rfl (Nat.le_of_ble_eq_true rfl) rfl (Nat.le_of_ble_eq_true rfl) ?_
    refine fs_Call.mono (fun v M1 hv => ?_) h
    obtain ⟨rfl, h⟩ := hv
    show fs_A2 g m_Book_doesNext 6 19 [(0, fs_r 60), (1, fs_r x1), (2, fs_i x2)] [] M1 K
    exact h
set_option maxRecDepth 8000 in
set_option maxHeartbeats 4000000 in
theorem L_Book_doesNext_19 {M : fs_M} {K : fs_K} {x1 x2 : Int} (h1 : fs_isO 2 x1) 
    (h : ((M x1 6 = 1000 → K (some (fs_l 0)) M) ∧ (¬ M x1 6 = 1000 → fs_C2 g m_Fs_bit 1 [fs_i (M 60 9), fs_i x2] M (fun v M2 => ∃ r2, v = some (fs_i r2) ∧ ((¬ r2 = 0 → fs_A2 g m_Book_doesNext 6 51 [(1, fs_r x1), (2, fs_i x2)] [fs_i 0, fs_i x2, fs_r x1, fs_r 43] M2 K) ∧ (r2 = 0 → fs_A2 g m_Book_doesNext 6 51 [(1, fs_r x1), (2, fs_i x2)] [fs_i 1, fs_i x2, fs_r x1, fs_r 43] M2 K)))))) :
    fs_A2 g m_Book_doesNext 6 19 [(0, fs_r 60), (1, fs_r x1), (2, fs_i x2)] [] M K := by
  refine a_aload_n (j := 1) d_Book_doesNext_19 rfl rfl ?_
  refine b_getfield (v := fs_i (M x1 6)) d_Book_doesNext_20 fl_Book_122 h1 rfl ?_
  refine a_sipush d_Book_doesNext_23 (by decide) ?_
  refine a_icmp_eq (tgt := 68) d_Book_doesNext_26 rfl (fun c2 => ?_) (fun c2 => ?_)
  · have h := h.1 c2
    refine a_lconst (v := 0) d_Book_doesNext_68 rfl (by unfold fs_in64; omega) ?_
    exact b_lreturn d_Book_doesNext_69 rfl h
  · have h := h.2 c2
    refine a_aload_n (j := 0) d_Book_doesNext_29 rfl rfl ?_
    refine b_getptr (q := 43) d_Book_doesNext_30 fl_Book_64 io_60 rfl rfl rfl ?_
    refine a_aload_n (j := 1) d_Book_doesNext_33 rfl rfl ?_
    refine a_iload_n (j := 2) d_Book_doesNext_34 rfl rfl ?_
    refine a_aload_n (j := 0) d_Book_doesNext_35 rfl rfl ?_
    refine b_getfield (v := fs_i (M 60 9)) d_Book_doesNext_36 fl_Book_39 io_60 rfl ?_
    refine a_iload_n (j := 2) d_Book_doesNext_39 rfl rfl ?_
    refine b_static (dc := 1) [fs_i (M 60 9), fs_i x2] [fs_i x2, fs_r x1, fs_r 43] d_Book_doesNext_40 ml_Book_106 k_Fs_bit s_Fs_bit rfl (Nat.le_of_ble_eq_true rfl) rfl (Nat.le_of_ble_eq_true rfl) ?_
    refine fs_Call.mono (fun v M2 hv => ?_) h
    obtain ⟨r2, rfl, h⟩ := hv
    show fs_A2 g m_Book_doesNext 6 43 [(0, fs_r 60), (1, fs_r x1), (2, fs_i x2)] [fs_i r2, fs_i x2, fs_r x1, fs_r 43] M2 K
    refine a_if_ne (tgt := 50) d_Book_doesNext_43 rfl (fun c3 => ?_) (fun c3 => ?_)
    · have h := h.1 c3
      refine a_iconst d_Book_doesNext_50 (by unfold fs_in32; omega) ?_
      refine a_sub [1, 2] rfl ?_
      exact h
    · have h := h.2 c3
      refine a_iconst d_Book_doesNext_46 (by unfold fs_in32; omega) ?_
      refine a_goto (tgt := 51) d_Book_doesNext_47 rfl ?_
      refine a_sub [1, 2] rfl ?_
      exact h
set_option maxRecDepth 8000 in
set_option maxHeartbeats 4000000 in
theorem L_Book_doesNext_51 {M : fs_M} {K : fs_K} {x1 x2 x101 x102 x103 : Int} (h1 : fs_isO 2 x1) (h101 : fs_isO 2 x101) 
    (h : fs_C2 g m_Course_doesIt 5 [fs_r 43, fs_r x101, fs_i x102, fs_i x103] M (fun v M3 => ∃ r3, v = some (fs_i r3) ∧ ((r3 = 0 → K (some (fs_l 0)) M3) ∧ (¬ r3 = 0 → K (some (fs_l (fs_lshl (M3 x1 6) (fs_w32 (8 * x2))))) M3)))) :
    fs_A2 g m_Book_doesNext 6 51 [(1, fs_r x1), (2, fs_i x2)] [fs_i x103, fs_i x102, fs_r x101, fs_r 43] M K := by
  refine b_virtual (dc := 5) (ci := 1) (T := fs_T1) (N := 8) [fs_r x101, fs_i x102, fs_i x103] [] d_Book_doesNext_51 ml_Book_129 k_Course_doesIt v_Course_doesIt rfl io_43 rfl (Nat.le_of_ble_eq_true rfl) rfl (Nat.le_of_ble_eq_true rfl) ?_
  refine fs_Call.mono (fun v M3 hv => ?_) h
  obtain ⟨r3, rfl, h⟩ := hv
  show fs_A2 g m_Book_doesNext 6 54 [(1, fs_r x1), (2, fs_i x2)] [fs_i r3] M3 K
  refine a_if_eq (tgt := 68) d_Book_doesNext_54 rfl (fun c4 => ?_) (fun c4 => ?_)
  · have h := h.1 c4
    refine a_lconst (v := 0) d_Book_doesNext_68 rfl (by unfold fs_in64; omega) ?_
    exact b_lreturn d_Book_doesNext_69 rfl h
  · have h := h.2 c4
    refine a_aload_n (j := 0) d_Book_doesNext_57 rfl rfl ?_
    refine b_getfield (v := fs_i (M3 x1 6)) d_Book_doesNext_58 fl_Book_122 h1 rfl ?_
    refine a_i2l d_Book_doesNext_61 ?_
    refine a_bipush d_Book_doesNext_62 (by decide) ?_
    refine a_iload_n (j := 1) d_Book_doesNext_64 rfl rfl ?_
    refine a_imul d_Book_doesNext_65 ?_
    refine a_lshl d_Book_doesNext_66 ?_
    exact b_lreturn d_Book_doesNext_67 rfl h
set_option maxRecDepth 8000 in
set_option maxHeartbeats 4000000 in
theorem E_Book_bestGain {M : fs_M} {K : fs_K} {x1 : Int} 
    (h : fs_C2 g m_Book_weighWorth 3 [fs_r 60] M (fun v M1 => v = none ∧ fs_C2 g m_Book_weighRows 3 [fs_r 60, fs_i x1] M1 (fun v M2 => v = none ∧ fs_C2 g m_Book_gainByItself 2 [fs_r 60] M2 (fun v M3 => ∃ r3, v = some (fs_i r3) ∧ fs_C2 g m_Book_everyHouse 1 [fs_r 60] M3 (fun v M4 => ∃ r4, v = some (fs_i r4) ∧ (0 ≤ r4 ∧ r4 < 64 ∧ K (some (fs_i (fs_w32 (r3 + (M4 78 r4))))) M4)))))) :
    fs_C2 g m_Book_bestGain 4 [fs_r 60, fs_i x1] M K := by
  refine b_enter2 (ls := [(0, fs_r 60), (1, fs_i x1)]) (plainFor_of_name pn_Book) (Nat.le_of_ble_eq_true rfl) rfl ?_
  refine a_aload_n (j := 0) d_Book_bestGain_0 rfl rfl ?_
  refine b_virtual (dc := 3) (ci := 0) (T := fs_T0) (N := 15) [] [] d_Book_bestGain_1 ml_Book_151 k_Book_weighWorth v_Book_weighWorth rfl io_60 rfl (Nat.le_of_ble_eq_true rfl) rfl (Nat.le_of_ble_eq_true rfl) ?_
  refine fs_Call.mono (fun v M1 hv => ?_) h
  obtain ⟨rfl, h⟩ := hv
  show fs_A2 g m_Book_bestGain 4 4 [(0, fs_r 60), (1, fs_i x1)] [] M1 K
  refine a_aload_n (j := 0) d_Book_bestGain_4 rfl rfl ?_
  refine a_iload_n (j := 1) d_Book_bestGain_5 rfl rfl ?_
  refine b_virtual (dc := 3) (ci := 0) (T := fs_T0) (N := 15) [fs_i x1] [] d_Book_bestGain_6 ml_Book_154 k_Book_weighRows v_Book_weighRows rfl io_60 rfl (Nat.le_of_ble_eq_true rfl) rfl (Nat.le_of_ble_eq_true rfl) ?_
  refine fs_Call.mono (fun v M2 hv => ?_) h
  obtain ⟨rfl, h⟩ := hv
  show fs_A2 g m_Book_bestGain 4 9 [(0, fs_r 60), (1, fs_i x1)] [] M2 K
  refine a_aload_n (j := 0) d_Book_bestGain_9 rfl rfl ?_
  refine b_virtual (dc := 2) (ci := 0) (T := fs_T0) (N := 15) [] [] d_Book_bestGain_10 ml_Book_143 k_Book_gainByItself v_Book_gainByItself rfl io_60 rfl (Nat.le_of_ble_eq_true rfl) rfl (Nat.le_of_ble_eq_true rfl) ?_
  refine fs_Call.mono (fun v M3 hv => ?_) h
  obtain ⟨r3, rfl, h⟩ := hv
  show fs_A2 g m_Book_bestGain 4 13 [(0, fs_r 60), (1, fs_i x1)] [fs_i r3] M3 K
  refine a_aload_n (j := 0) d_Book_bestGain_13 rfl rfl ?_
  refine b_getptr (q := 77) d_Book_bestGain_14 fl_Book_54 io_60 rfl rfl rfl ?_
  refine a_iconst d_Book_bestGain_17 (by unfold fs_in32; omega) ?_
  refine b_aaptr (q := 78) d_Book_bestGain_18 ia_77 (by decide) (by decide) (by decide) (aq_77 0) ?_
  refine a_aload_n (j := 0) d_Book_bestGain_19 rfl rfl ?_
  refine b_virtual (dc := 1) (ci := 0) (T := fs_T0) (N := 15) [] [fs_r 78, fs_i r3] d_Book_bestGain_20 ml_Book_158 k_Book_everyHouse v_Book_everyHouse rfl io_60 rfl (Nat.le_of_ble_eq_true rfl) rfl (Nat.le_of_ble_eq_true rfl) ?_
  refine fs_Call.mono (fun v M4 hv => ?_) h
  obtain ⟨r4, rfl, h⟩ := hv
  show fs_A2 g m_Book_bestGain 4 23 [(0, fs_r 60), (1, fs_i x1)] [fs_i r4, fs_r 78, fs_i r3] M4 K
  obtain ⟨o1, o2, h⟩ := h
  refine b_iaload (v := M4 78 r4) d_Book_bestGain_23 ia_78 o1 o2 rfl ?_
  refine a_iadd d_Book_bestGain_24 ?_
  exact b_ireturn d_Book_bestGain_25 rfl rfl h
set_option maxRecDepth 8000 in
set_option maxHeartbeats 4000000 in
theorem E_Book_weighWorth {M : fs_M} {K : fs_K} 
    (h : fs_A2 g m_Book_weighWorth 3 2 [(0, fs_r 60), (1, fs_i 0)] [] M K) :
    fs_C2 g m_Book_weighWorth 3 [fs_r 60] M K := by
  refine b_enter2 (ls := [(0, fs_r 60)]) (plainFor_of_name pn_Book) (Nat.le_of_ble_eq_true rfl) rfl ?_
  refine a_iconst d_Book_weighWorth_0 (by unfold fs_in32; omega) ?_
  refine a_istore_n d_Book_weighWorth_1 rfl (Nat.le_of_ble_eq_true rfl) [1, 0] rfl ?_
  exact h
set_option maxRecDepth 8000 in
set_option maxHeartbeats 4000000 in
theorem L_Book_weighWorth_2 {M : fs_M} {K : fs_K} {x1 : Int} 
    (h : ((64 ≤ x1 → K none M) ∧ (¬ 64 ≤ x1 → (0 ≤ x1 ∧ fs_A2 g m_Book_weighWorth 3 17 [(0, fs_r 60), (1, fs_i x1), (2, fs_i 0)] [] (fs_st M 72 x1 0) K)))) :
    fs_A2 g m_Book_weighWorth 3 2 [(0, fs_r 60), (1, fs_i x1)] [] M K := by
  refine a_iload_n (j := 1) d_Book_weighWorth_2 rfl rfl ?_
  refine a_bipush d_Book_weighWorth_3 (by decide) ?_
  refine a_icmp_ge (tgt := 67) d_Book_weighWorth_5 rfl (fun c1 => ?_) (fun c1 => ?_)
  · have h := h.1 c1
    exact b_return d_Book_weighWorth_67 rfl h
  · have h := h.2 c1
    refine a_aload_n (j := 0) d_Book_weighWorth_8 rfl rfl ?_
    refine b_getptr (q := 72) d_Book_weighWorth_9 fl_Book_48 io_60 rfl rfl rfl ?_
    refine a_iload_n (j := 1) d_Book_weighWorth_12 rfl rfl ?_
    refine a_iconst d_Book_weighWorth_13 (by unfold fs_in32; omega) ?_
    obtain ⟨o2, h⟩ := h
    refine b_iastore d_Book_weighWorth_14 ia_72 o2 (by omega : x1 < 64) ?_
    refine a_iconst d_Book_weighWorth_15 (by unfold fs_in32; omega) ?_
    refine a_istore_n d_Book_weighWorth_16 rfl (Nat.le_of_ble_eq_true rfl) [1, 2, 0] rfl ?_
    exact h
set_option maxRecDepth 8000 in
set_option maxHeartbeats 4000000 in
theorem L_Book_weighWorth_17 {M : fs_M} {K : fs_K} {x1 x2 : Int} 
    (h : ((M 1 5 ≤ x2 → fs_A2 g m_Book_weighWorth 3 2 [(0, fs_r 60), (1, fs_i (fs_w32 (x1 + 1)))] [] M K) ∧ (¬ M 1 5 ≤ x2 → (0 ≤ x1 ∧ x1 < 64 ∧ fs_C2 g m_Fs_bit 1 [fs_i x1, fs_i x2] M (fun v M1 => ∃ r1, v = some (fs_i r1) ∧ ((¬ r1 = 1 → fs_A2 g m_Book_weighWorth 3 17 [(0, fs_r 60), (1, fs_i x1), (2, fs_i (fs_w32 (x2 + 1)))] [] (fs_st M1 72 x1 (fs_w32 ((M 72 x1) + 0))) K) ∧ (r1 = 1 → fs_C2 g m_Book_worthByDark 2 [fs_r 60, fs_i x2] M1 (fun v M2 => ∃ r2, v = some (fs_i r2) ∧ fs_A2 g m_Book_weighWorth 3 17 [(0, fs_r 60), (1, fs_i x1), (2, fs_i (fs_w32 (x2 + 1)))] [] (fs_st M2 72 x1 (fs_w32 ((M 72 x1) + r2))) K)))))))) :
    fs_A2 g m_Book_weighWorth 3 17 [(0, fs_r 60), (1, fs_i x1), (2, fs_i x2)] [] M K := by
  refine a_iload_n (j := 2) d_Book_weighWorth_17 rfl rfl ?_
  refine a_aload_n (j := 0) d_Book_weighWorth_18 rfl rfl ?_
  refine b_getptr (q := 1) d_Book_weighWorth_19 fl_Book_60 io_60 rfl rfl rfl ?_
  refine b_getfield (v := fs_i (M 1 5)) d_Book_weighWorth_22 fl_Book_78 io_1 rfl ?_
  refine a_icmp_ge (tgt := 61) d_Book_weighWorth_25 rfl (fun c3 => ?_) (fun c3 => ?_)
  · have h := h.1 c3
    refine a_iinc (j := 1) d_Book_weighWorth_61 rfl (Nat.le_of_ble_eq_true rfl) [1, 0, 2] rfl ?_
    refine a_goto (tgt := 2) d_Book_weighWorth_64 rfl ?_
    refine a_sub [0, 1] rfl ?_
    exact h
  · have h := h.2 c3
    refine a_aload_n (j := 0) d_Book_weighWorth_28 rfl rfl ?_
    refine b_getptr (q := 72) d_Book_weighWorth_29 fl_Book_48 io_60 rfl rfl rfl ?_
    refine a_iload_n (j := 1) d_Book_weighWorth_32 rfl rfl ?_
    refine a_dup2 d_Book_weighWorth_33 rfl rfl ?_
    obtain ⟨o4, o5, h⟩ := h
    refine b_iaload (v := M 72 x1) d_Book_weighWorth_34 ia_72 o4 o5 rfl ?_
    refine a_iload_n (j := 1) d_Book_weighWorth_35 rfl rfl ?_
    refine a_iload_n (j := 2) d_Book_weighWorth_36 rfl rfl ?_
    refine b_static (dc := 1) [fs_i x1, fs_i x2] [fs_i (M 72 x1), fs_i x1, fs_r 72] d_Book_weighWorth_37 ml_Book_106 k_Fs_bit s_Fs_bit rfl (Nat.le_of_ble_eq_true rfl) rfl (Nat.le_of_ble_eq_true rfl) ?_
    refine fs_Call.mono (fun v M1 hv => ?_) h
    obtain ⟨r1, rfl, h⟩ := hv
    show fs_A2 g m_Book_weighWorth 3 40 [(0, fs_r 60), (1, fs_i x1), (2, fs_i x2)] [fs_i r1, fs_i (M 72 x1), fs_i x1, fs_r 72] M1 K
    refine a_iconst d_Book_weighWorth_40 (by unfold fs_in32; omega) ?_
    refine a_icmp_ne (tgt := 52) d_Book_weighWorth_41 rfl (fun c6 => ?_) (fun c6 => ?_)
    · have h := h.1 c6
      refine a_iconst d_Book_weighWorth_52 (by unfold fs_in32; omega) ?_
      refine a_iadd d_Book_weighWorth_53 ?_
      refine b_iastore d_Book_weighWorth_54 ia_72 o4 o5 ?_
      refine a_iinc (j := 2) d_Book_weighWorth_55 rfl (Nat.le_of_ble_eq_true rfl) [1, 2, 0] rfl ?_
      refine a_goto (tgt := 17) d_Book_weighWorth_58 rfl ?_
      exact h
    · have h := h.2 c6
      refine a_aload_n (j := 0) d_Book_weighWorth_44 rfl rfl ?_
      refine a_iload_n (j := 2) d_Book_weighWorth_45 rfl rfl ?_
      refine b_virtual (dc := 2) (ci := 0) (T := fs_T0) (N := 15) [fs_i x2] [fs_i (M 72 x1), fs_i x1, fs_r 72] d_Book_weighWorth_46 ml_Book_147 k_Book_worthByDark v_Book_worthByDark rfl io_60 rfl (Nat.le_of_ble_eq_true rfl) rfl (Nat.le_of_ble_eq_true rfl) ?_
      refine fs_Call.mono (fun v M2 hv => ?_) h
      obtain ⟨r2, rfl, h⟩ := hv
      show fs_A2 g m_Book_weighWorth 3 49 [(0, fs_r 60), (1, fs_i x1), (2, fs_i x2)] [fs_i r2, fs_i (M 72 x1), fs_i x1, fs_r 72] M2 K
      refine a_goto (tgt := 53) d_Book_weighWorth_49 rfl ?_
      refine a_iadd d_Book_weighWorth_53 ?_
      refine b_iastore d_Book_weighWorth_54 ia_72 o4 o5 ?_
      refine a_iinc (j := 2) d_Book_weighWorth_55 rfl (Nat.le_of_ble_eq_true rfl) [1, 2, 0] rfl ?_
      refine a_goto (tgt := 17) d_Book_weighWorth_58 rfl ?_
      exact h
set_option maxRecDepth 8000 in
set_option maxHeartbeats 4000000 in
theorem E_Book_worthByDark {M : fs_M} {K : fs_K} {x1 : Int} 
    (h : fs_C2 g m_Fs_bit 1 [fs_i (M 60 8), fs_i x1] M (fun v M1 => ∃ r1, v = some (fs_i r1) ∧ ((¬ r1 = 1 → (0 ≤ x1 ∧ x1 < 6 ∧ K (some (fs_i (M1 4 x1))) M1)) ∧ (r1 = 1 → (0 ≤ x1 ∧ x1 < 6 ∧ K (some (fs_i (fs_div (M1 4 x1) 2))) M1))))) :
    fs_C2 g m_Book_worthByDark 2 [fs_r 60, fs_i x1] M K := by
  refine b_enter2 (ls := [(0, fs_r 60), (1, fs_i x1)]) (plainFor_of_name pn_Book) (Nat.le_of_ble_eq_true rfl) rfl ?_
  refine a_aload_n (j := 0) d_Book_worthByDark_0 rfl rfl ?_
  refine b_getfield (v := fs_i (M 60 8)) d_Book_worthByDark_1 fl_Book_36 io_60 rfl ?_
  refine a_iload_n (j := 1) d_Book_worthByDark_4 rfl rfl ?_
  refine b_static (dc := 1) [fs_i (M 60 8), fs_i x1] [] d_Book_worthByDark_5 ml_Book_106 k_Fs_bit s_Fs_bit rfl (Nat.le_of_ble_eq_true rfl) rfl (Nat.le_of_ble_eq_true rfl) ?_
  refine fs_Call.mono (fun v M1 hv => ?_) h
  obtain ⟨r1, rfl, h⟩ := hv
  show fs_A2 g m_Book_worthByDark 2 8 [(0, fs_r 60), (1, fs_i x1)] [fs_i r1] M1 K
  refine a_iconst d_Book_worthByDark_8 (by unfold fs_in32; omega) ?_
  refine a_icmp_ne (tgt := 26) d_Book_worthByDark_9 rfl (fun c1 => ?_) (fun c1 => ?_)
  · have h := h.1 c1
    refine a_aload_n (j := 0) d_Book_worthByDark_26 rfl rfl ?_
    refine b_getptr (q := 1) d_Book_worthByDark_27 fl_Book_60 io_60 rfl rfl rfl ?_
    refine b_getptr (q := 4) d_Book_worthByDark_30 fl_Book_140 io_1 rfl rfl rfl ?_
    refine a_iload_n (j := 1) d_Book_worthByDark_33 rfl rfl ?_
    obtain ⟨o2, o3, h⟩ := h
    refine b_iaload (v := M1 4 x1) d_Book_worthByDark_34 ia_4 o2 o3 rfl ?_
    exact b_ireturn d_Book_worthByDark_35 rfl rfl h
  · have h := h.2 c1
    refine a_aload_n (j := 0) d_Book_worthByDark_12 rfl rfl ?_
    refine b_getptr (q := 1) d_Book_worthByDark_13 fl_Book_60 io_60 rfl rfl rfl ?_
    refine b_getptr (q := 4) d_Book_worthByDark_16 fl_Book_140 io_1 rfl rfl rfl ?_
    refine a_iload_n (j := 1) d_Book_worthByDark_19 rfl rfl ?_
    obtain ⟨o4, o5, h⟩ := h
    refine b_iaload (v := M1 4 x1) d_Book_worthByDark_20 ia_4 o4 o5 rfl ?_
    refine a_iconst d_Book_worthByDark_21 (by unfold fs_in32; omega) ?_
    refine a_idiv d_Book_worthByDark_22 (by decide) ?_
    refine a_goto (tgt := 35) d_Book_worthByDark_23 rfl ?_
    exact b_ireturn d_Book_worthByDark_35 rfl rfl h
set_option maxRecDepth 8000 in
set_option maxHeartbeats 4000000 in
theorem E_Book_weighRows {M : fs_M} {K : fs_K} {x1 : Int} 
    (h : fs_A2 g m_Book_weighRows 3 2 [(0, fs_r 60), (1, fs_i x1), (2, fs_i 0)] [] M K) :
    fs_C2 g m_Book_weighRows 3 [fs_r 60, fs_i x1] M K := by
  refine b_enter2 (ls := [(0, fs_r 60), (1, fs_i x1)]) (plainFor_of_name pn_Book) (Nat.le_of_ble_eq_true rfl) rfl ?_
  refine a_iconst d_Book_weighRows_0 (by unfold fs_in32; omega) ?_
  refine a_istore_n d_Book_weighRows_1 rfl (Nat.le_of_ble_eq_true rfl) [1, 2, 0] rfl ?_
  exact h
set_option maxRecDepth 8000 in
set_option maxHeartbeats 4000000 in
theorem L_Book_weighRows_2 {M : fs_M} {K : fs_K} {x1 x2 : Int} 
    (h : ((64 ≤ x2 → fs_A2 g m_Book_weighRows 3 27 [(0, fs_r 60), (2, fs_i (fs_w32 (x1 - 1)))] [] M K) ∧ (¬ 64 ≤ x2 → (0 ≤ x1 ∧ x1 < 4 ∧ (0 ≤ x2 ∧ fs_A2 g m_Book_weighRows 3 2 [(0, fs_r 60), (1, fs_i x1), (2, fs_i (fs_w32 (x2 + 1)))] [] (fs_st M (78 + x1) x2 0) K))))) :
    fs_A2 g m_Book_weighRows 3 2 [(0, fs_r 60), (1, fs_i x1), (2, fs_i x2)] [] M K := by
  refine a_iload_n (j := 2) d_Book_weighRows_2 rfl rfl ?_
  refine a_bipush d_Book_weighRows_3 (by decide) ?_
  refine a_icmp_ge (tgt := 23) d_Book_weighRows_5 rfl (fun c1 => ?_) (fun c1 => ?_)
  · have h := h.1 c1
    refine a_iload_n (j := 1) d_Book_weighRows_23 rfl rfl ?_
    refine a_iconst d_Book_weighRows_24 (by unfold fs_in32; omega) ?_
    refine a_isub d_Book_weighRows_25 ?_
    refine a_istore_n d_Book_weighRows_26 rfl (Nat.le_of_ble_eq_true rfl) [1, 2, 0] rfl ?_
    refine a_sub [0, 2] rfl ?_
    exact h
  · have h := h.2 c1
    refine a_aload_n (j := 0) d_Book_weighRows_8 rfl rfl ?_
    refine b_getptr (q := 77) d_Book_weighRows_9 fl_Book_54 io_60 rfl rfl rfl ?_
    refine a_iload_n (j := 1) d_Book_weighRows_12 rfl rfl ?_
    obtain ⟨o2, o3, h⟩ := h
    refine b_aaptr (q := 78 + x1) d_Book_weighRows_13 ia_77 (by decide) o2 o3 (aq_77 x1) ?_
    refine a_iload_n (j := 2) d_Book_weighRows_14 rfl rfl ?_
    refine a_iconst d_Book_weighRows_15 (by unfold fs_in32; omega) ?_
    obtain ⟨o4, h⟩ := h
    refine b_iastore d_Book_weighRows_16 (ae_77 o2 o3) o4 (by omega : x2 < 64) ?_
    refine a_iinc (j := 2) d_Book_weighRows_17 rfl (Nat.le_of_ble_eq_true rfl) [1, 2, 0] rfl ?_
    refine a_goto (tgt := 2) d_Book_weighRows_20 rfl ?_
    exact h
set_option maxRecDepth 8000 in
set_option maxHeartbeats 4000000 in
theorem L_Book_weighRows_27 {M : fs_M} {K : fs_K} {x2 : Int} 
    (h : ((x2 < 0 → K none M) ∧ (¬ x2 < 0 → fs_C2 g m_Book_weighRowsOf 2 [fs_r 60, fs_i x2] M (fun v M1 => v = none ∧ fs_A2 g m_Book_weighRows 3 38 [(0, fs_r 60), (2, fs_i x2), (3, fs_i 0)] [] M1 K)))) :
    fs_A2 g m_Book_weighRows 3 27 [(0, fs_r 60), (2, fs_i x2)] [] M K := by
  refine a_iload_n (j := 1) d_Book_weighRows_27 rfl rfl ?_
  refine a_if_lt (tgt := 72) d_Book_weighRows_28 rfl (fun c5 => ?_) (fun c5 => ?_)
  · have h := h.1 c5
    exact b_return d_Book_weighRows_72 rfl h
  · have h := h.2 c5
    refine a_aload_n (j := 0) d_Book_weighRows_31 rfl rfl ?_
    refine a_iload_n (j := 1) d_Book_weighRows_32 rfl rfl ?_
    refine b_virtual (dc := 2) (ci := 0) (T := fs_T0) (N := 15) [fs_i x2] [] d_Book_weighRows_33 ml_Book_172 k_Book_weighRowsOf v_Book_weighRowsOf rfl io_60 rfl (Nat.le_of_ble_eq_true rfl) rfl (Nat.le_of_ble_eq_true rfl) ?_
    refine fs_Call.mono (fun v M1 hv => ?_) h
    obtain ⟨rfl, h⟩ := hv
    show fs_A2 g m_Book_weighRows 3 36 [(0, fs_r 60), (2, fs_i x2)] [] M1 K
    refine a_iconst d_Book_weighRows_36 (by unfold fs_in32; omega) ?_
    refine a_istore_n d_Book_weighRows_37 rfl (Nat.le_of_ble_eq_true rfl) [1, 2, 0] rfl ?_
    exact h
set_option maxRecDepth 8000 in
set_option maxHeartbeats 4000000 in
theorem L_Book_weighRows_38 {M : fs_M} {K : fs_K} {x2 x3 : Int} 
    (h : fs_C2 g m_Book_everyHouse 1 [fs_r 60] M (fun v M2 => ∃ r2, v = some (fs_i r2) ∧ ((r2 < x3 → fs_A2 g m_Book_weighRows 3 27 [(0, fs_r 60), (2, fs_i (fs_w32 (x2 + (-1))))] [] M2 K) ∧ (¬ r2 < x3 → (0 ≤ x2 ∧ x2 < 4 ∧ fs_C2 g m_Book_mostWithin 2 [fs_r 60, fs_i x2, fs_i x3] M2 (fun v M3 => ∃ r3, v = some (fs_i r3) ∧ (0 ≤ x3 ∧ x3 < 64 ∧ fs_A2 g m_Book_weighRows 3 38 [(0, fs_r 60), (2, fs_i x2), (3, fs_i (fs_w32 (x3 + 1)))] [] (fs_st M3 (78 + x2) x3 r3) K))))))) :
    fs_A2 g m_Book_weighRows 3 38 [(0, fs_r 60), (2, fs_i x2), (3, fs_i x3)] [] M K := by
  refine a_iload_n (j := 2) d_Book_weighRows_38 rfl rfl ?_
  refine a_aload_n (j := 0) d_Book_weighRows_39 rfl rfl ?_
  refine b_virtual (dc := 1) (ci := 0) (T := fs_T0) (N := 15) [] [fs_i x3] d_Book_weighRows_40 ml_Book_158 k_Book_everyHouse v_Book_everyHouse rfl io_60 rfl (Nat.le_of_ble_eq_true rfl) rfl (Nat.le_of_ble_eq_true rfl) ?_
  refine fs_Call.mono (fun v M2 hv => ?_) h
  obtain ⟨r2, rfl, h⟩ := hv
  show fs_A2 g m_Book_weighRows 3 43 [(0, fs_r 60), (2, fs_i x2), (3, fs_i x3)] [fs_i r2, fs_i x3] M2 K
  refine a_icmp_gt (tgt := 66) d_Book_weighRows_43 rfl (fun c6 => ?_) (fun c6 => ?_)
  · have h := h.1 c6
    refine a_iinc (j := 1) d_Book_weighRows_66 rfl (Nat.le_of_ble_eq_true rfl) [1, 0, 2] rfl ?_
    refine a_goto (tgt := 27) d_Book_weighRows_69 rfl ?_
    refine a_sub [0, 1] rfl ?_
    exact h
  · have h := h.2 c6
    refine a_aload_n (j := 0) d_Book_weighRows_46 rfl rfl ?_
    refine b_getptr (q := 77) d_Book_weighRows_47 fl_Book_54 io_60 rfl rfl rfl ?_
    refine a_iload_n (j := 1) d_Book_weighRows_50 rfl rfl ?_
    obtain ⟨o7, o8, h⟩ := h
    refine b_aaptr (q := 78 + x2) d_Book_weighRows_51 ia_77 (by decide) o7 o8 (aq_77 x2) ?_
    refine a_iload_n (j := 2) d_Book_weighRows_52 rfl rfl ?_
    refine a_aload_n (j := 0) d_Book_weighRows_53 rfl rfl ?_
    refine a_iload_n (j := 1) d_Book_weighRows_54 rfl rfl ?_
    refine a_iload_n (j := 2) d_Book_weighRows_55 rfl rfl ?_
    refine b_virtual (dc := 2) (ci := 0) (T := fs_T0) (N := 15) [fs_i x2, fs_i x3] [fs_i x3, fs_r (78 + x2)] d_Book_weighRows_56 ml_Book_175 k_Book_mostWithin v_Book_mostWithin rfl io_60 rfl (Nat.le_of_ble_eq_true rfl) rfl (Nat.le_of_ble_eq_true rfl) ?_
    refine fs_Call.mono (fun v M3 hv => ?_) h
    obtain ⟨r3, rfl, h⟩ := hv
    show fs_A2 g m_Book_weighRows 3 59 [(0, fs_r 60), (2, fs_i x2), (3, fs_i x3)] [fs_i r3, fs_i x3, fs_r (78 + x2)] M3 K
    obtain ⟨o9, o10, h⟩ := h
    refine b_iastore d_Book_weighRows_59 (ae_77 o7 o8) o9 o10 ?_
    refine a_iinc (j := 2) d_Book_weighRows_60 rfl (Nat.le_of_ble_eq_true rfl) [1, 2, 0] rfl ?_
    refine a_goto (tgt := 38) d_Book_weighRows_63 rfl ?_
    exact h
set_option maxRecDepth 8000 in
set_option maxHeartbeats 4000000 in
theorem E_Book_weighRowsOf {M : fs_M} {K : fs_K} {x1 : Int} 
    (h : fs_A2 g m_Book_weighRowsOf 2 2 [(0, fs_r 60), (1, fs_i x1), (2, fs_i 0)] [] M K) :
    fs_C2 g m_Book_weighRowsOf 2 [fs_r 60, fs_i x1] M K := by
  refine b_enter2 (ls := [(0, fs_r 60), (1, fs_i x1)]) (plainFor_of_name pn_Book) (Nat.le_of_ble_eq_true rfl) rfl ?_
  refine a_iconst d_Book_weighRowsOf_0 (by unfold fs_in32; omega) ?_
  refine a_istore_n d_Book_weighRowsOf_1 rfl (Nat.le_of_ble_eq_true rfl) [1, 2, 0] rfl ?_
  exact h
set_option maxRecDepth 8000 in
set_option maxHeartbeats 4000000 in
theorem L_Book_weighRowsOf_2 {M : fs_M} {K : fs_K} {x1 x2 : Int} 
    (h : ((64 ≤ x2 → fs_A2 g m_Book_weighRowsOf 2 25 [(0, fs_r 60), (1, fs_i x1), (2, fs_i 0)] [] M K) ∧ (¬ 64 ≤ x2 → (0 ≤ x1 ∧ x1 < 3 ∧ (0 ≤ x2 ∧ fs_A2 g m_Book_weighRowsOf 2 2 [(0, fs_r 60), (1, fs_i x1), (2, fs_i (fs_w32 (x2 + 1)))] [] (fs_st M (74 + x1) x2 0) K))))) :
    fs_A2 g m_Book_weighRowsOf 2 2 [(0, fs_r 60), (1, fs_i x1), (2, fs_i x2)] [] M K := by
  refine a_iload_n (j := 2) d_Book_weighRowsOf_2 rfl rfl ?_
  refine a_bipush d_Book_weighRowsOf_3 (by decide) ?_
  refine a_icmp_ge (tgt := 23) d_Book_weighRowsOf_5 rfl (fun c1 => ?_) (fun c1 => ?_)
  · have h := h.1 c1
    refine a_iconst d_Book_weighRowsOf_23 (by unfold fs_in32; omega) ?_
    refine a_istore_n d_Book_weighRowsOf_24 rfl (Nat.le_of_ble_eq_true rfl) [1, 2, 0] rfl ?_
    exact h
  · have h := h.2 c1
    refine a_aload_n (j := 0) d_Book_weighRowsOf_8 rfl rfl ?_
    refine b_getptr (q := 73) d_Book_weighRowsOf_9 fl_Book_51 io_60 rfl rfl rfl ?_
    refine a_iload_n (j := 1) d_Book_weighRowsOf_12 rfl rfl ?_
    obtain ⟨o2, o3, h⟩ := h
    refine b_aaptr (q := 74 + x1) d_Book_weighRowsOf_13 ia_73 (by decide) o2 o3 (aq_73 x1) ?_
    refine a_iload_n (j := 2) d_Book_weighRowsOf_14 rfl rfl ?_
    refine a_iconst d_Book_weighRowsOf_15 (by unfold fs_in32; omega) ?_
    obtain ⟨o4, h⟩ := h
    refine b_iastore d_Book_weighRowsOf_16 (ae_73 o2 o3) o4 (by omega : x2 < 64) ?_
    refine a_iinc (j := 2) d_Book_weighRowsOf_17 rfl (Nat.le_of_ble_eq_true rfl) [1, 2, 0] rfl ?_
    refine a_goto (tgt := 2) d_Book_weighRowsOf_20 rfl ?_
    exact h
set_option maxRecDepth 8000 in
set_option maxHeartbeats 4000000 in
theorem L_Book_weighRowsOf_25 {M : fs_M} {K : fs_K} {x1 x2 : Int} 
    (h : ((M 60 2 ≤ x2 → K none M) ∧ (¬ M 60 2 ≤ x2 → (0 ≤ x1 ∧ x1 < 3 ∧ (0 ≤ x2 ∧ x2 < 1957 ∧ (0 ≤ M 62 x2 ∧ M 62 x2 < 64 ∧ (0 ≤ M (68 + x1) x2 ∧ M (68 + x1) x2 < 64 ∧ fs_C2 g m_Math_max_I 1 [fs_i (M (74 + x1) (M 62 x2)), fs_i (M 72 (M (68 + x1) x2))] M (fun v M1 => ∃ r1, v = some (fs_i r1) ∧ fs_A2 g m_Book_weighRowsOf 2 25 [(0, fs_r 60), (1, fs_i x1), (2, fs_i (fs_w32 (x2 + 1)))] [] (fs_st M1 (74 + x1) (M 62 x2) r1) K)))))))) :
    fs_A2 g m_Book_weighRowsOf 2 25 [(0, fs_r 60), (1, fs_i x1), (2, fs_i x2)] [] M K := by
  refine a_iload_n (j := 2) d_Book_weighRowsOf_25 rfl rfl ?_
  refine a_aload_n (j := 0) d_Book_weighRowsOf_26 rfl rfl ?_
  refine b_getfield (v := fs_i (M 60 2)) d_Book_weighRowsOf_27 fl_Book_18 io_60 rfl ?_
  refine a_icmp_ge (tgt := 81) d_Book_weighRowsOf_30 rfl (fun c5 => ?_) (fun c5 => ?_)
  · have h := h.1 c5
    exact b_return d_Book_weighRowsOf_81 rfl h
  · have h := h.2 c5
    refine a_aload_n (j := 0) d_Book_weighRowsOf_33 rfl rfl ?_
    refine b_getptr (q := 73) d_Book_weighRowsOf_34 fl_Book_51 io_60 rfl rfl rfl ?_
    refine a_iload_n (j := 1) d_Book_weighRowsOf_37 rfl rfl ?_
    obtain ⟨o6, o7, h⟩ := h
    refine b_aaptr (q := 74 + x1) d_Book_weighRowsOf_38 ia_73 (by decide) o6 o7 (aq_73 x1) ?_
    refine a_aload_n (j := 0) d_Book_weighRowsOf_39 rfl rfl ?_
    refine b_getptr (q := 62) d_Book_weighRowsOf_40 fl_Book_15 io_60 rfl rfl rfl ?_
    refine a_iload_n (j := 2) d_Book_weighRowsOf_43 rfl rfl ?_
    obtain ⟨o8, o9, h⟩ := h
    refine b_iaload (v := M 62 x2) d_Book_weighRowsOf_44 ia_62 o8 o9 rfl ?_
    refine a_aload_n (j := 0) d_Book_weighRowsOf_45 rfl rfl ?_
    refine b_getptr (q := 73) d_Book_weighRowsOf_46 fl_Book_51 io_60 rfl rfl rfl ?_
    refine a_iload_n (j := 1) d_Book_weighRowsOf_49 rfl rfl ?_
    refine b_aaptr (q := 74 + x1) d_Book_weighRowsOf_50 ia_73 (by decide) o6 o7 (aq_73 x1) ?_
    refine a_aload_n (j := 0) d_Book_weighRowsOf_51 rfl rfl ?_
    refine b_getptr (q := 62) d_Book_weighRowsOf_52 fl_Book_15 io_60 rfl rfl rfl ?_
    refine a_iload_n (j := 2) d_Book_weighRowsOf_55 rfl rfl ?_
    refine b_iaload (v := M 62 x2) d_Book_weighRowsOf_56 ia_62 o8 o9 rfl ?_
    obtain ⟨o10, o11, h⟩ := h
    refine b_iaload (v := M (74 + x1) (M 62 x2)) d_Book_weighRowsOf_57 (ae_73 o6 o7) o10 o11 rfl ?_
    refine a_aload_n (j := 0) d_Book_weighRowsOf_58 rfl rfl ?_
    refine b_getptr (q := 72) d_Book_weighRowsOf_59 fl_Book_48 io_60 rfl rfl rfl ?_
    refine a_aload_n (j := 0) d_Book_weighRowsOf_62 rfl rfl ?_
    refine b_getptr (q := 67) d_Book_weighRowsOf_63 fl_Book_29 io_60 rfl rfl rfl ?_
    refine a_iload_n (j := 1) d_Book_weighRowsOf_66 rfl rfl ?_
    refine b_aaptr (q := 68 + x1) d_Book_weighRowsOf_67 ia_67 (by decide) o6 o7 (aq_67 x1) ?_
    refine a_iload_n (j := 2) d_Book_weighRowsOf_68 rfl rfl ?_
    refine b_iaload (v := M (68 + x1) x2) d_Book_weighRowsOf_69 (ae_67 o6 o7) o8 o9 rfl ?_
    obtain ⟨o12, o13, h⟩ := h
    refine b_iaload (v := M 72 (M (68 + x1) x2)) d_Book_weighRowsOf_70 ia_72 o12 o13 rfl ?_
    refine b_static (dc := 1) [fs_i (M (74 + x1) (M 62 x2)), fs_i (M 72 (M (68 + x1) x2))] [fs_i (M 62 x2), fs_r (74 + x1)] d_Book_weighRowsOf_71 ml_Book_178 k_Math_max_I s_Math_max_I rfl (Nat.le_of_ble_eq_true rfl) rfl (Nat.le_of_ble_eq_true rfl) ?_
    refine fs_Call.mono (fun v M1 hv => ?_) h
    obtain ⟨r1, rfl, h⟩ := hv
    show fs_A2 g m_Book_weighRowsOf 2 74 [(0, fs_r 60), (1, fs_i x1), (2, fs_i x2)] [fs_i r1, fs_i (M 62 x2), fs_r (74 + x1)] M1 K
    refine b_iastore d_Book_weighRowsOf_74 (ae_73 o6 o7) o10 o11 ?_
    refine a_iinc (j := 2) d_Book_weighRowsOf_75 rfl (Nat.le_of_ble_eq_true rfl) [1, 2, 0] rfl ?_
    refine a_goto (tgt := 25) d_Book_weighRowsOf_78 rfl ?_
    exact h
set_option maxRecDepth 8000 in
set_option maxHeartbeats 4000000 in
theorem E_Book_everyHouse {M : fs_M} {K : fs_K} 
    (h : K (some (fs_i (fs_w32 ((fs_shl 1 (M 1 5)) - 1)))) M) :
    fs_C2 g m_Book_everyHouse 1 [fs_r 60] M K := by
  refine b_enter2 (ls := [(0, fs_r 60)]) (plainFor_of_name pn_Book) (Nat.le_of_ble_eq_true rfl) rfl ?_
  refine a_iconst d_Book_everyHouse_0 (by unfold fs_in32; omega) ?_
  refine a_aload_n (j := 0) d_Book_everyHouse_1 rfl rfl ?_
  refine b_getptr (q := 1) d_Book_everyHouse_2 fl_Book_60 io_60 rfl rfl rfl ?_
  refine b_getfield (v := fs_i (M 1 5)) d_Book_everyHouse_5 fl_Book_78 io_1 rfl ?_
  refine a_ishl d_Book_everyHouse_8 ?_
  refine a_iconst d_Book_everyHouse_9 (by unfold fs_in32; omega) ?_
  refine a_isub d_Book_everyHouse_10 ?_
  exact b_ireturn d_Book_everyHouse_11 rfl rfl h
set_option maxRecDepth 8000 in
set_option maxHeartbeats 4000000 in
theorem E_Book_mostWithin {M : fs_M} {K : fs_K} {x1 x2 : Int} 
    (h : fs_A2 g m_Book_mostWithin 2 5 [(0, fs_r 60), (1, fs_i x1), (2, fs_i x2), (3, fs_i 0), (4, fs_i 0)] [] M K) :
    fs_C2 g m_Book_mostWithin 2 [fs_r 60, fs_i x1, fs_i x2] M K := by
  refine b_enter2 (ls := [(0, fs_r 60), (1, fs_i x1), (2, fs_i x2)]) (plainFor_of_name pn_Book) (Nat.le_of_ble_eq_true rfl) rfl ?_
  refine a_iconst d_Book_mostWithin_0 (by unfold fs_in32; omega) ?_
  refine a_istore_n d_Book_mostWithin_1 rfl (Nat.le_of_ble_eq_true rfl) [1, 2, 3, 0] rfl ?_
  refine a_iconst d_Book_mostWithin_2 (by unfold fs_in32; omega) ?_
  refine a_istore d_Book_mostWithin_3 (Nat.le_of_ble_eq_true rfl) [1, 2, 3, 4, 0] rfl ?_
  exact h
set_option maxRecDepth 8000 in
set_option maxHeartbeats 4000000 in
theorem L_Book_mostWithin_5 {M : fs_M} {K : fs_K} {x1 x2 x3 x4 : Int} 
    (h : ((x2 < x4 → K (some (fs_i x3)) M) ∧ (¬ x2 < x4 → ((¬ fs_and x4 (fs_xor x2 (-1)) = 0 → fs_A2 g m_Book_mostWithin 2 5 [(0, fs_r 60), (1, fs_i x1), (2, fs_i x2), (3, fs_i x3), (4, fs_i (fs_w32 (x4 + 1)))] [] M K) ∧ (fs_and x4 (fs_xor x2 (-1)) = 0 → (0 ≤ x1 ∧ x1 < 3 ∧ (0 ≤ x4 ∧ x4 < 64 ∧ (0 ≤ fs_w32 (x1 + 1) ∧ fs_w32 (x1 + 1) < 4 ∧ (0 ≤ fs_and x2 (fs_xor x4 (-1)) ∧ fs_and x2 (fs_xor x4 (-1)) < 64 ∧ fs_C2 g m_Math_max_I 1 [fs_i x3, fs_i (fs_w32 ((M (74 + x1) x4) + (M (78 + (fs_w32 (x1 + 1))) (fs_and x2 (fs_xor x4 (-1))))))] M (fun v M1 => ∃ r1, v = some (fs_i r1) ∧ fs_A2 g m_Book_mostWithin 2 5 [(0, fs_r 60), (1, fs_i x1), (2, fs_i x2), (3, fs_i r1), (4, fs_i (fs_w32 (x4 + 1)))] [] M1 K)))))))))) :
    fs_A2 g m_Book_mostWithin 2 5 [(0, fs_r 60), (1, fs_i x1), (2, fs_i x2), (3, fs_i x3), (4, fs_i x4)] [] M K := by
  refine a_iload (j := 4) d_Book_mostWithin_5 rfl ?_
  refine a_iload_n (j := 2) d_Book_mostWithin_7 rfl rfl ?_
  refine a_icmp_gt (tgt := 56) d_Book_mostWithin_8 rfl (fun c1 => ?_) (fun c1 => ?_)
  · have h := h.1 c1
    refine a_iload_n (j := 3) d_Book_mostWithin_56 rfl rfl ?_
    exact b_ireturn d_Book_mostWithin_57 rfl rfl h
  · have h := h.2 c1
    refine a_iload (j := 4) d_Book_mostWithin_11 rfl ?_
    refine a_iload_n (j := 2) d_Book_mostWithin_13 rfl rfl ?_
    refine a_iconst d_Book_mostWithin_14 (by unfold fs_in32; omega) ?_
    refine a_ixor d_Book_mostWithin_15 ?_
    refine a_iand d_Book_mostWithin_16 ?_
    refine a_if_ne (tgt := 50) d_Book_mostWithin_17 rfl (fun c2 => ?_) (fun c2 => ?_)
    · have h := h.1 c2
      refine a_iinc (j := 4) d_Book_mostWithin_50 rfl (Nat.le_of_ble_eq_true rfl) [1, 2, 3, 4, 0] rfl ?_
      refine a_goto (tgt := 5) d_Book_mostWithin_53 rfl ?_
      exact h
    · have h := h.2 c2
      refine a_iload_n (j := 3) d_Book_mostWithin_20 rfl rfl ?_
      refine a_aload_n (j := 0) d_Book_mostWithin_21 rfl rfl ?_
      refine b_getptr (q := 73) d_Book_mostWithin_22 fl_Book_51 io_60 rfl rfl rfl ?_
      refine a_iload_n (j := 1) d_Book_mostWithin_25 rfl rfl ?_
      obtain ⟨o3, o4, h⟩ := h
      refine b_aaptr (q := 74 + x1) d_Book_mostWithin_26 ia_73 (by decide) o3 o4 (aq_73 x1) ?_
      refine a_iload (j := 4) d_Book_mostWithin_27 rfl ?_
      obtain ⟨o5, o6, h⟩ := h
      refine b_iaload (v := M (74 + x1) x4) d_Book_mostWithin_29 (ae_73 o3 o4) o5 o6 rfl ?_
      refine a_aload_n (j := 0) d_Book_mostWithin_30 rfl rfl ?_
      refine b_getptr (q := 77) d_Book_mostWithin_31 fl_Book_54 io_60 rfl rfl rfl ?_
      refine a_iload_n (j := 1) d_Book_mostWithin_34 rfl rfl ?_
      refine a_iconst d_Book_mostWithin_35 (by unfold fs_in32; omega) ?_
      refine a_iadd d_Book_mostWithin_36 ?_
      obtain ⟨o7, o8, h⟩ := h
      refine b_aaptr (q := 78 + (fs_w32 (x1 + 1))) d_Book_mostWithin_37 ia_77 (by decide) o7 o8 (aq_77 (fs_w32 (x1 + 1))) ?_
      refine a_iload_n (j := 2) d_Book_mostWithin_38 rfl rfl ?_
      refine a_iload (j := 4) d_Book_mostWithin_39 rfl ?_
      refine a_iconst d_Book_mostWithin_41 (by unfold fs_in32; omega) ?_
      refine a_ixor d_Book_mostWithin_42 ?_
      refine a_iand d_Book_mostWithin_43 ?_
      obtain ⟨o9, o10, h⟩ := h
      refine b_iaload (v := M (78 + (fs_w32 (x1 + 1))) (fs_and x2 (fs_xor x4 (-1)))) d_Book_mostWithin_44 (ae_77 o7 o8) o9 o10 rfl ?_
      refine a_iadd d_Book_mostWithin_45 ?_
      refine b_static (dc := 1) [fs_i x3, fs_i (fs_w32 ((M (74 + x1) x4) + (M (78 + (fs_w32 (x1 + 1))) (fs_and x2 (fs_xor x4 (-1))))))] [] d_Book_mostWithin_46 ml_Book_178 k_Math_max_I s_Math_max_I rfl (Nat.le_of_ble_eq_true rfl) rfl (Nat.le_of_ble_eq_true rfl) ?_
      refine fs_Call.mono (fun v M1 hv => ?_) h
      obtain ⟨r1, rfl, h⟩ := hv
      show fs_A2 g m_Book_mostWithin 2 49 [(0, fs_r 60), (1, fs_i x1), (2, fs_i x2), (3, fs_i x3), (4, fs_i x4)] [fs_i r1] M1 K
      refine a_istore_n d_Book_mostWithin_49 rfl (Nat.le_of_ble_eq_true rfl) [1, 2, 3, 0, 4] rfl ?_
      refine a_iinc (j := 4) d_Book_mostWithin_50 rfl (Nat.le_of_ble_eq_true rfl) [1, 2, 3, 4, 0] rfl ?_
      refine a_goto (tgt := 5) d_Book_mostWithin_53 rfl ?_
      exact h
set_option maxRecDepth 8000 in
set_option maxHeartbeats 4000000 in
theorem E_Book_gainByItself {M : fs_M} {K : fs_K} 
    (h : fs_A2 g m_Book_gainByItself 2 4 [(0, fs_r 60), (1, fs_i 0), (2, fs_i 0)] [] M K) :
    fs_C2 g m_Book_gainByItself 2 [fs_r 60] M K := by
  refine b_enter2 (ls := [(0, fs_r 60)]) (plainFor_of_name pn_Book) (Nat.le_of_ble_eq_true rfl) rfl ?_
  refine a_iconst d_Book_gainByItself_0 (by unfold fs_in32; omega) ?_
  refine a_istore_n d_Book_gainByItself_1 rfl (Nat.le_of_ble_eq_true rfl) [1, 0] rfl ?_
  refine a_iconst d_Book_gainByItself_2 (by unfold fs_in32; omega) ?_
  refine a_istore_n d_Book_gainByItself_3 rfl (Nat.le_of_ble_eq_true rfl) [1, 2, 0] rfl ?_
  exact h
set_option maxRecDepth 8000 in
set_option maxHeartbeats 4000000 in
theorem L_Book_gainByItself_4 {M : fs_M} {K : fs_K} {x1 x2 : Int} 
    (h : ((M 1 5 ≤ x2 → K (some (fs_i x1)) M) ∧ (¬ M 1 5 ≤ x2 → fs_C2 g m_Fs_bit 1 [fs_i (M 60 9), fs_i x2] M (fun v M1 => ∃ r1, v = some (fs_i r1) ∧ ((¬ r1 = 1 → fs_A2 g m_Book_gainByItself 2 4 [(0, fs_r 60), (1, fs_i (fs_w32 (x1 + 0))), (2, fs_i (fs_w32 (x2 + 1)))] [] M1 K) ∧ (r1 = 1 → (0 ≤ x2 ∧ x2 < 6 ∧ fs_A2 g m_Book_gainByItself 2 4 [(0, fs_r 60), (1, fs_i (fs_w32 (x1 + (M1 4 x2)))), (2, fs_i (fs_w32 (x2 + 1)))] [] M1 K))))))) :
    fs_A2 g m_Book_gainByItself 2 4 [(0, fs_r 60), (1, fs_i x1), (2, fs_i x2)] [] M K := by
  refine a_iload_n (j := 2) d_Book_gainByItself_4 rfl rfl ?_
  refine a_aload_n (j := 0) d_Book_gainByItself_5 rfl rfl ?_
  refine b_getptr (q := 1) d_Book_gainByItself_6 fl_Book_60 io_60 rfl rfl rfl ?_
  refine b_getfield (v := fs_i (M 1 5)) d_Book_gainByItself_9 fl_Book_78 io_1 rfl ?_
  refine a_icmp_ge (tgt := 49) d_Book_gainByItself_12 rfl (fun c1 => ?_) (fun c1 => ?_)
  · have h := h.1 c1
    refine a_iload_n (j := 1) d_Book_gainByItself_49 rfl rfl ?_
    exact b_ireturn d_Book_gainByItself_50 rfl rfl h
  · have h := h.2 c1
    refine a_iload_n (j := 1) d_Book_gainByItself_15 rfl rfl ?_
    refine a_aload_n (j := 0) d_Book_gainByItself_16 rfl rfl ?_
    refine b_getfield (v := fs_i (M 60 9)) d_Book_gainByItself_17 fl_Book_39 io_60 rfl ?_
    refine a_iload_n (j := 2) d_Book_gainByItself_20 rfl rfl ?_
    refine b_static (dc := 1) [fs_i (M 60 9), fs_i x2] [fs_i x1] d_Book_gainByItself_21 ml_Book_106 k_Fs_bit s_Fs_bit rfl (Nat.le_of_ble_eq_true rfl) rfl (Nat.le_of_ble_eq_true rfl) ?_
    refine fs_Call.mono (fun v M1 hv => ?_) h
    obtain ⟨r1, rfl, h⟩ := hv
    show fs_A2 g m_Book_gainByItself 2 24 [(0, fs_r 60), (1, fs_i x1), (2, fs_i x2)] [fs_i r1, fs_i x1] M1 K
    refine a_iconst d_Book_gainByItself_24 (by unfold fs_in32; omega) ?_
    refine a_icmp_ne (tgt := 40) d_Book_gainByItself_25 rfl (fun c2 => ?_) (fun c2 => ?_)
    · have h := h.1 c2
      refine a_iconst d_Book_gainByItself_40 (by unfold fs_in32; omega) ?_
      refine a_iadd d_Book_gainByItself_41 ?_
      refine a_istore_n d_Book_gainByItself_42 rfl (Nat.le_of_ble_eq_true rfl) [1, 0, 2] rfl ?_
      refine a_iinc (j := 2) d_Book_gainByItself_43 rfl (Nat.le_of_ble_eq_true rfl) [1, 2, 0] rfl ?_
      refine a_goto (tgt := 4) d_Book_gainByItself_46 rfl ?_
      exact h
    · have h := h.2 c2
      refine a_aload_n (j := 0) d_Book_gainByItself_28 rfl rfl ?_
      refine b_getptr (q := 1) d_Book_gainByItself_29 fl_Book_60 io_60 rfl rfl rfl ?_
      refine b_getptr (q := 4) d_Book_gainByItself_32 fl_Book_140 io_1 rfl rfl rfl ?_
      refine a_iload_n (j := 2) d_Book_gainByItself_35 rfl rfl ?_
      obtain ⟨o3, o4, h⟩ := h
      refine b_iaload (v := M1 4 x2) d_Book_gainByItself_36 ia_4 o3 o4 rfl ?_
      refine a_goto (tgt := 41) d_Book_gainByItself_37 rfl ?_
      refine a_iadd d_Book_gainByItself_41 ?_
      refine a_istore_n d_Book_gainByItself_42 rfl (Nat.le_of_ble_eq_true rfl) [1, 0, 2] rfl ?_
      refine a_iinc (j := 2) d_Book_gainByItself_43 rfl (Nat.le_of_ble_eq_true rfl) [1, 2, 0] rfl ?_
      refine a_goto (tgt := 4) d_Book_gainByItself_46 rfl ?_
      exact h
set_option maxRecDepth 8000 in
set_option maxHeartbeats 4000000 in
theorem E_Book_chooseBest {M : fs_M} {K : fs_K} {x1 : Int} 
    (h : fs_C2 g m_Book_weighWorth 3 [fs_r 60] M (fun v M1 => v = none ∧ fs_C2 g m_Book_weighRows 3 [fs_r 60, fs_i x1] M1 (fun v M2 => v = none ∧ fs_C2 g m_Book_everyHouse 1 [fs_r 60] M2 (fun v M3 => ∃ r3, v = some (fs_i r3) ∧ fs_A2 g m_Book_chooseBest 4 16 [(0, fs_r 60), (1, fs_i x1), (2, fs_i r3), (3, fs_i 0)] [] M3 K)))) :
    fs_C2 g m_Book_chooseBest 4 [fs_r 60, fs_i x1] M K := by
  refine b_enter2 (ls := [(0, fs_r 60), (1, fs_i x1)]) (plainFor_of_name pn_Book) (Nat.le_of_ble_eq_true rfl) rfl ?_
  refine a_aload_n (j := 0) d_Book_chooseBest_0 rfl rfl ?_
  refine b_virtual (dc := 3) (ci := 0) (T := fs_T0) (N := 15) [] [] d_Book_chooseBest_1 ml_Book_151 k_Book_weighWorth v_Book_weighWorth rfl io_60 rfl (Nat.le_of_ble_eq_true rfl) rfl (Nat.le_of_ble_eq_true rfl) ?_
  refine fs_Call.mono (fun v M1 hv => ?_) h
  obtain ⟨rfl, h⟩ := hv
  show fs_A2 g m_Book_chooseBest 4 4 [(0, fs_r 60), (1, fs_i x1)] [] M1 K
  refine a_aload_n (j := 0) d_Book_chooseBest_4 rfl rfl ?_
  refine a_iload_n (j := 1) d_Book_chooseBest_5 rfl rfl ?_
  refine b_virtual (dc := 3) (ci := 0) (T := fs_T0) (N := 15) [fs_i x1] [] d_Book_chooseBest_6 ml_Book_154 k_Book_weighRows v_Book_weighRows rfl io_60 rfl (Nat.le_of_ble_eq_true rfl) rfl (Nat.le_of_ble_eq_true rfl) ?_
  refine fs_Call.mono (fun v M2 hv => ?_) h
  obtain ⟨rfl, h⟩ := hv
  show fs_A2 g m_Book_chooseBest 4 9 [(0, fs_r 60), (1, fs_i x1)] [] M2 K
  refine a_aload_n (j := 0) d_Book_chooseBest_9 rfl rfl ?_
  refine b_virtual (dc := 1) (ci := 0) (T := fs_T0) (N := 15) [] [] d_Book_chooseBest_10 ml_Book_158 k_Book_everyHouse v_Book_everyHouse rfl io_60 rfl (Nat.le_of_ble_eq_true rfl) rfl (Nat.le_of_ble_eq_true rfl) ?_
  refine fs_Call.mono (fun v M3 hv => ?_) h
  obtain ⟨r3, rfl, h⟩ := hv
  show fs_A2 g m_Book_chooseBest 4 13 [(0, fs_r 60), (1, fs_i x1)] [fs_i r3] M3 K
  refine a_istore_n d_Book_chooseBest_13 rfl (Nat.le_of_ble_eq_true rfl) [1, 2, 0] rfl ?_
  refine a_iconst d_Book_chooseBest_14 (by unfold fs_in32; omega) ?_
  refine a_istore_n d_Book_chooseBest_15 rfl (Nat.le_of_ble_eq_true rfl) [1, 2, 3, 0] rfl ?_
  exact h
set_option maxRecDepth 8000 in
set_option maxHeartbeats 4000000 in
theorem L_Book_chooseBest_16 {M : fs_M} {K : fs_K} {x1 x2 x3 : Int} 
    (h : ((x1 ≤ x3 → K none M) ∧ (¬ x1 ≤ x3 → fs_C2 g m_Book_firstBest 1 [fs_r 60, fs_i x3, fs_i x2] M (fun v M4 => ∃ r4, v = some (fs_i r4) ∧ (0 ≤ x3 ∧ x3 < 3 ∧ (0 ≤ r4 ∧ r4 < 1957 ∧ fs_A2 g m_Book_chooseBest 4 16 [(0, fs_r 60), (1, fs_i x1), (2, fs_i (fs_and x2 (fs_xor (M4 62 r4) (-1)))), (3, fs_i (fs_w32 (x3 + 1)))] [] (fs_st M4 82 x3 r4) K)))))) :
    fs_A2 g m_Book_chooseBest 4 16 [(0, fs_r 60), (1, fs_i x1), (2, fs_i x2), (3, fs_i x3)] [] M K := by
  refine a_iload_n (j := 3) d_Book_chooseBest_16 rfl rfl ?_
  refine a_iload_n (j := 1) d_Book_chooseBest_17 rfl rfl ?_
  refine a_icmp_ge (tgt := 55) d_Book_chooseBest_18 rfl (fun c1 => ?_) (fun c1 => ?_)
  · have h := h.1 c1
    exact b_return d_Book_chooseBest_55 rfl h
  · have h := h.2 c1
    refine a_aload_n (j := 0) d_Book_chooseBest_21 rfl rfl ?_
    refine b_getptr (q := 82) d_Book_chooseBest_22 fl_Book_57 io_60 rfl rfl rfl ?_
    refine a_iload_n (j := 3) d_Book_chooseBest_25 rfl rfl ?_
    refine a_aload_n (j := 0) d_Book_chooseBest_26 rfl rfl ?_
    refine a_iload_n (j := 3) d_Book_chooseBest_27 rfl rfl ?_
    refine a_iload_n (j := 2) d_Book_chooseBest_28 rfl rfl ?_
    refine b_virtual (dc := 1) (ci := 0) (T := fs_T0) (N := 15) [fs_i x3, fs_i x2] [fs_i x3, fs_r 82] d_Book_chooseBest_29 ml_Book_161 k_Book_firstBest v_Book_firstBest rfl io_60 rfl (Nat.le_of_ble_eq_true rfl) rfl (Nat.le_of_ble_eq_true rfl) ?_
    refine fs_Call.mono (fun v M4 hv => ?_) h
    obtain ⟨r4, rfl, h⟩ := hv
    show fs_A2 g m_Book_chooseBest 4 32 [(0, fs_r 60), (1, fs_i x1), (2, fs_i x2), (3, fs_i x3)] [fs_i r4, fs_i x3, fs_r 82] M4 K
    obtain ⟨o2, o3, h⟩ := h
    refine b_iastore d_Book_chooseBest_32 ia_82 o2 o3 ?_
    refine a_iload_n (j := 2) d_Book_chooseBest_33 rfl rfl ?_
    refine a_aload_n (j := 0) d_Book_chooseBest_34 rfl rfl ?_
    refine b_getptr (q := 62) d_Book_chooseBest_35 fl_Book_15 io_60 rfl rfl rfl ?_
    refine a_aload_n (j := 0) d_Book_chooseBest_38 rfl rfl ?_
    refine b_getptr (q := 82) d_Book_chooseBest_39 fl_Book_57 io_60 rfl rfl rfl ?_
    refine a_iload_n (j := 3) d_Book_chooseBest_42 rfl rfl ?_
    refine b_iaload (v := r4) d_Book_chooseBest_43 ia_82 o2 o3 (fs_st_s) ?_
    obtain ⟨o4, o5, h⟩ := h
    refine b_iaload (v := M4 62 r4) d_Book_chooseBest_44 ia_62 o4 o5 rfl ?_
    refine a_iconst d_Book_chooseBest_45 (by unfold fs_in32; omega) ?_
    refine a_ixor d_Book_chooseBest_46 ?_
    refine a_iand d_Book_chooseBest_47 ?_
    refine a_istore_n d_Book_chooseBest_48 rfl (Nat.le_of_ble_eq_true rfl) [1, 2, 0, 3] rfl ?_
    refine a_iinc (j := 3) d_Book_chooseBest_49 rfl (Nat.le_of_ble_eq_true rfl) [1, 2, 3, 0] rfl ?_
    refine a_goto (tgt := 16) d_Book_chooseBest_52 rfl ?_
    exact h
set_option maxRecDepth 8000 in
set_option maxHeartbeats 4000000 in
theorem E_Book_firstBest {M : fs_M} {K : fs_K} {x1 x2 : Int} 
    (h : fs_A2 g m_Book_firstBest 1 2 [(0, fs_r 60), (1, fs_i x1), (2, fs_i x2), (3, fs_i 0)] [] M K) :
    fs_C2 g m_Book_firstBest 1 [fs_r 60, fs_i x1, fs_i x2] M K := by
  refine b_enter2 (ls := [(0, fs_r 60), (1, fs_i x1), (2, fs_i x2)]) (plainFor_of_name pn_Book) (Nat.le_of_ble_eq_true rfl) rfl ?_
  refine a_iconst d_Book_firstBest_0 (by unfold fs_in32; omega) ?_
  refine a_istore_n d_Book_firstBest_1 rfl (Nat.le_of_ble_eq_true rfl) [1, 2, 3, 0] rfl ?_
  exact h
set_option maxRecDepth 8000 in
set_option maxHeartbeats 4000000 in
theorem L_Book_firstBest_2 {M : fs_M} {K : fs_K} {x1 x2 x3 : Int} 
    (h : ((M 60 2 ≤ x3 → K (some (fs_i 0)) M) ∧ (¬ M 60 2 ≤ x3 → (0 ≤ x3 ∧ x3 < 1957 ∧ ((¬ fs_and (M 62 x3) (fs_xor x2 (-1)) = 0 → fs_A2 g m_Book_firstBest 1 2 [(0, fs_r 60), (1, fs_i x1), (2, fs_i x2), (3, fs_i (fs_w32 (x3 + 1)))] [] M K) ∧ (fs_and (M 62 x3) (fs_xor x2 (-1)) = 0 → (0 ≤ x1 ∧ x1 < 3 ∧ (0 ≤ M (68 + x1) x3 ∧ M (68 + x1) x3 < 64 ∧ (0 ≤ fs_w32 (x1 + 1) ∧ fs_w32 (x1 + 1) < 4 ∧ (0 ≤ fs_and x2 (fs_xor (M 62 x3) (-1)) ∧ fs_and x2 (fs_xor (M 62 x3) (-1)) < 64 ∧ (0 ≤ x2 ∧ x2 < 64 ∧ ((¬ fs_w32 ((M 72 (M (68 + x1) x3)) + (M (78 + (fs_w32 (x1 + 1))) (fs_and x2 (fs_xor (M 62 x3) (-1))))) = M (78 + x1) x2 → fs_A2 g m_Book_firstBest 1 2 [(0, fs_r 60), (1, fs_i x1), (2, fs_i x2), (3, fs_i (fs_w32 (x3 + 1)))] [] M K) ∧ (fs_w32 ((M 72 (M (68 + x1) x3)) + (M (78 + (fs_w32 (x1 + 1))) (fs_and x2 (fs_xor (M 62 x3) (-1))))) = M (78 + x1) x2 → K (some (fs_i x3)) M))))))))))))) :
    fs_A2 g m_Book_firstBest 1 2 [(0, fs_r 60), (1, fs_i x1), (2, fs_i x2), (3, fs_i x3)] [] M K := by
  refine a_iload_n (j := 3) d_Book_firstBest_2 rfl rfl ?_
  refine a_aload_n (j := 0) d_Book_firstBest_3 rfl rfl ?_
  refine b_getfield (v := fs_i (M 60 2)) d_Book_firstBest_4 fl_Book_18 io_60 rfl ?_
  refine a_icmp_ge (tgt := 75) d_Book_firstBest_7 rfl (fun c1 => ?_) (fun c1 => ?_)
  · have h := h.1 c1
    refine a_iconst d_Book_firstBest_75 (by unfold fs_in32; omega) ?_
    exact b_ireturn d_Book_firstBest_76 rfl rfl h
  · have h := h.2 c1
    refine a_aload_n (j := 0) d_Book_firstBest_10 rfl rfl ?_
    refine b_getptr (q := 62) d_Book_firstBest_11 fl_Book_15 io_60 rfl rfl rfl ?_
    refine a_iload_n (j := 3) d_Book_firstBest_14 rfl rfl ?_
    obtain ⟨o2, o3, h⟩ := h
    refine b_iaload (v := M 62 x3) d_Book_firstBest_15 ia_62 o2 o3 rfl ?_
    refine a_istore d_Book_firstBest_16 (Nat.le_of_ble_eq_true rfl) [1, 2, 3, 4, 0] rfl ?_
    refine a_iload (j := 4) d_Book_firstBest_18 rfl ?_
    refine a_iload_n (j := 2) d_Book_firstBest_20 rfl rfl ?_
    refine a_iconst d_Book_firstBest_21 (by unfold fs_in32; omega) ?_
    refine a_ixor d_Book_firstBest_22 ?_
    refine a_iand d_Book_firstBest_23 ?_
    refine a_if_ne (tgt := 69) d_Book_firstBest_24 rfl (fun c4 => ?_) (fun c4 => ?_)
    · have h := h.1 c4
      refine a_iinc (j := 3) d_Book_firstBest_69 rfl (Nat.le_of_ble_eq_true rfl) [1, 2, 3, 0, 4] rfl ?_
      refine a_goto (tgt := 2) d_Book_firstBest_72 rfl ?_
      refine a_sub [0, 1, 2, 3] rfl ?_
      exact h
    · have h := h.2 c4
      refine a_aload_n (j := 0) d_Book_firstBest_27 rfl rfl ?_
      refine b_getptr (q := 72) d_Book_firstBest_28 fl_Book_48 io_60 rfl rfl rfl ?_
      refine a_aload_n (j := 0) d_Book_firstBest_31 rfl rfl ?_
      refine b_getptr (q := 67) d_Book_firstBest_32 fl_Book_29 io_60 rfl rfl rfl ?_
      refine a_iload_n (j := 1) d_Book_firstBest_35 rfl rfl ?_
      obtain ⟨o5, o6, h⟩ := h
      refine b_aaptr (q := 68 + x1) d_Book_firstBest_36 ia_67 (by decide) o5 o6 (aq_67 x1) ?_
      refine a_iload_n (j := 3) d_Book_firstBest_37 rfl rfl ?_
      refine b_iaload (v := M (68 + x1) x3) d_Book_firstBest_38 (ae_67 o5 o6) o2 o3 rfl ?_
      obtain ⟨o7, o8, h⟩ := h
      refine b_iaload (v := M 72 (M (68 + x1) x3)) d_Book_firstBest_39 ia_72 o7 o8 rfl ?_
      refine a_aload_n (j := 0) d_Book_firstBest_40 rfl rfl ?_
      refine b_getptr (q := 77) d_Book_firstBest_41 fl_Book_54 io_60 rfl rfl rfl ?_
      refine a_iload_n (j := 1) d_Book_firstBest_44 rfl rfl ?_
      refine a_iconst d_Book_firstBest_45 (by unfold fs_in32; omega) ?_
      refine a_iadd d_Book_firstBest_46 ?_
      obtain ⟨o9, o10, h⟩ := h
      refine b_aaptr (q := 78 + (fs_w32 (x1 + 1))) d_Book_firstBest_47 ia_77 (by decide) o9 o10 (aq_77 (fs_w32 (x1 + 1))) ?_
      refine a_iload_n (j := 2) d_Book_firstBest_48 rfl rfl ?_
      refine a_iload (j := 4) d_Book_firstBest_49 rfl ?_
      refine a_iconst d_Book_firstBest_51 (by unfold fs_in32; omega) ?_
      refine a_ixor d_Book_firstBest_52 ?_
      refine a_iand d_Book_firstBest_53 ?_
      obtain ⟨o11, o12, h⟩ := h
      refine b_iaload (v := M (78 + (fs_w32 (x1 + 1))) (fs_and x2 (fs_xor (M 62 x3) (-1)))) d_Book_firstBest_54 (ae_77 o9 o10) o11 o12 rfl ?_
      refine a_iadd d_Book_firstBest_55 ?_
      refine a_aload_n (j := 0) d_Book_firstBest_56 rfl rfl ?_
      refine b_getptr (q := 77) d_Book_firstBest_57 fl_Book_54 io_60 rfl rfl rfl ?_
      refine a_iload_n (j := 1) d_Book_firstBest_60 rfl rfl ?_
      refine b_aaptr (q := 78 + x1) d_Book_firstBest_61 ia_77 (by decide) o5 (by have q := o6; omega) (aq_77 x1) ?_
      refine a_iload_n (j := 2) d_Book_firstBest_62 rfl rfl ?_
      obtain ⟨o13, o14, h⟩ := h
      refine b_iaload (v := M (78 + x1) x2) d_Book_firstBest_63 (ae_77 o5 (by have q := o6; omega)) o13 o14 rfl ?_
      refine a_icmp_ne (tgt := 69) d_Book_firstBest_64 rfl (fun c15 => ?_) (fun c15 => ?_)
      · have h := h.1 c15
        refine a_iinc (j := 3) d_Book_firstBest_69 rfl (Nat.le_of_ble_eq_true rfl) [1, 2, 3, 0, 4] rfl ?_
        refine a_goto (tgt := 2) d_Book_firstBest_72 rfl ?_
        refine a_sub [0, 1, 2, 3] rfl ?_
        exact h
      · have h := h.2 c15
        refine a_iload_n (j := 3) d_Book_firstBest_67 rfl rfl ?_
        exact b_ireturn d_Book_firstBest_68 rfl rfl h
set_option maxRecDepth 8000 in
set_option maxHeartbeats 4000000 in
theorem E_Book_houseOf {M : fs_M} {K : fs_K} {x1 x2 : Int} 
    (h : ((6 ≤ x2 → fs_A2 g m_Book_houseOf 1 25 [] [fs_i (-1)] M K) ∧ (¬ 6 ≤ x2 → (0 ≤ x1 ∧ x1 < 1957 ∧ fs_A2 g m_Book_houseOf 1 25 [] [fs_i (fs_w32 ((fs_and (fs_shr (M 61 x1) (fs_w32 (3 * x2))) 7) - 1))] M K)))) :
    fs_C2 g m_Book_houseOf 1 [fs_r 60, fs_i x1, fs_i x2] M K := by
  refine b_enter2 (ls := [(0, fs_r 60), (1, fs_i x1), (2, fs_i x2)]) (plainFor_of_name pn_Book) (Nat.le_of_ble_eq_true rfl) rfl ?_
  refine a_iload_n (j := 2) d_Book_houseOf_0 rfl rfl ?_
  refine a_bipush d_Book_houseOf_1 (by decide) ?_
  refine a_icmp_ge (tgt := 24) d_Book_houseOf_3 rfl (fun c1 => ?_) (fun c1 => ?_)
  · have h := h.1 c1
    refine a_iconst d_Book_houseOf_24 (by unfold fs_in32; omega) ?_
    refine a_sub [] rfl ?_
    exact h
  · have h := h.2 c1
    refine a_aload_n (j := 0) d_Book_houseOf_6 rfl rfl ?_
    refine b_getptr (q := 61) d_Book_houseOf_7 fl_Book_9 io_60 rfl rfl rfl ?_
    refine a_iload_n (j := 1) d_Book_houseOf_10 rfl rfl ?_
    obtain ⟨o2, o3, h⟩ := h
    refine b_iaload (v := M 61 x1) d_Book_houseOf_11 ia_61 o2 o3 rfl ?_
    refine a_iconst d_Book_houseOf_12 (by unfold fs_in32; omega) ?_
    refine a_iload_n (j := 2) d_Book_houseOf_13 rfl rfl ?_
    refine a_imul d_Book_houseOf_14 ?_
    refine a_ishr d_Book_houseOf_15 ?_
    refine a_bipush d_Book_houseOf_16 (by decide) ?_
    refine a_iand d_Book_houseOf_18 ?_
    refine a_iconst d_Book_houseOf_19 (by unfold fs_in32; omega) ?_
    refine a_isub d_Book_houseOf_20 ?_
    refine a_goto (tgt := 25) d_Book_houseOf_21 rfl ?_
    refine a_sub [] rfl ?_
    exact h
set_option maxRecDepth 8000 in
set_option maxHeartbeats 4000000 in
theorem L_Book_houseOf_25 {M : fs_M} {K : fs_K} {x100 : Int} 
    (h : ((¬ x100 = (-1) → K (some (fs_i x100)) M) ∧ (x100 = (-1) → K (some (fs_i (-2))) M))) :
    fs_A2 g m_Book_houseOf 1 25 [] [fs_i x100] M K := by
  refine a_istore_n d_Book_houseOf_25 rfl (Nat.le_of_ble_eq_true rfl) [0] rfl ?_
  refine a_iload_n (j := 0) d_Book_houseOf_26 rfl rfl ?_
  refine a_iconst d_Book_houseOf_27 (by unfold fs_in32; omega) ?_
  refine a_icmp_ne (tgt := 36) d_Book_houseOf_28 rfl (fun c4 => ?_) (fun c4 => ?_)
  · have h := h.1 c4
    refine a_iload_n (j := 0) d_Book_houseOf_36 rfl rfl ?_
    exact b_ireturn d_Book_houseOf_37 rfl rfl h
  · have h := h.2 c4
    refine a_bipush d_Book_houseOf_31 (by decide) ?_
    refine a_goto (tgt := 37) d_Book_houseOf_33 rfl ?_
    exact b_ireturn d_Book_houseOf_37 rfl rfl h
set_option maxRecDepth 8000 in
set_option maxHeartbeats 4000000 in
theorem E_Book_wholeWorth {M : fs_M} {K : fs_K} 
    (h : fs_C2 g m_Book_gainByItself 2 [fs_r 60] M (fun v M1 => ∃ r1, v = some (fs_i r1) ∧ fs_A2 g m_Book_wholeWorth 3 7 [(0, fs_r 60), (1, fs_i r1), (2, fs_i 0)] [] M1 K)) :
    fs_C2 g m_Book_wholeWorth 3 [fs_r 60] M K := by
  refine b_enter2 (ls := [(0, fs_r 60)]) (plainFor_of_name pn_Book) (Nat.le_of_ble_eq_true rfl) rfl ?_
  refine a_aload_n (j := 0) d_Book_wholeWorth_0 rfl rfl ?_
  refine b_virtual (dc := 2) (ci := 0) (T := fs_T0) (N := 15) [] [] d_Book_wholeWorth_1 ml_Book_143 k_Book_gainByItself v_Book_gainByItself rfl io_60 rfl (Nat.le_of_ble_eq_true rfl) rfl (Nat.le_of_ble_eq_true rfl) ?_
  refine fs_Call.mono (fun v M1 hv => ?_) h
  obtain ⟨r1, rfl, h⟩ := hv
  show fs_A2 g m_Book_wholeWorth 3 4 [(0, fs_r 60)] [fs_i r1] M1 K
  refine a_istore_n d_Book_wholeWorth_4 rfl (Nat.le_of_ble_eq_true rfl) [1, 0] rfl ?_
  refine a_iconst d_Book_wholeWorth_5 (by unfold fs_in32; omega) ?_
  refine a_istore_n d_Book_wholeWorth_6 rfl (Nat.le_of_ble_eq_true rfl) [1, 2, 0] rfl ?_
  exact h
set_option maxRecDepth 8000 in
set_option maxHeartbeats 4000000 in
theorem L_Book_wholeWorth_7 {M : fs_M} {K : fs_K} {x1 x2 : Int} 
    (h : ((M 1 5 ≤ x2 → K (some (fs_i x1)) M) ∧ (¬ M 1 5 ≤ x2 → fs_C2 g m_Fs_bit 1 [fs_i (M 60 9), fs_i x2] M (fun v M2 => ∃ r2, v = some (fs_i r2) ∧ ((¬ r2 = 0 → fs_A2 g m_Book_wholeWorth 3 7 [(0, fs_r 60), (1, fs_i (fs_w32 (x1 + 0))), (2, fs_i (fs_w32 (x2 + 1)))] [] M2 K) ∧ (r2 = 0 → fs_C2 g m_Book_worthByDark 2 [fs_r 60, fs_i x2] M2 (fun v M3 => ∃ r3, v = some (fs_i r3) ∧ fs_A2 g m_Book_wholeWorth 3 7 [(0, fs_r 60), (1, fs_i (fs_w32 (x1 + r3))), (2, fs_i (fs_w32 (x2 + 1)))] [] M3 K))))))) :
    fs_A2 g m_Book_wholeWorth 3 7 [(0, fs_r 60), (1, fs_i x1), (2, fs_i x2)] [] M K := by
  refine a_iload_n (j := 2) d_Book_wholeWorth_7 rfl rfl ?_
  refine a_aload_n (j := 0) d_Book_wholeWorth_8 rfl rfl ?_
  refine b_getptr (q := 1) d_Book_wholeWorth_9 fl_Book_60 io_60 rfl rfl rfl ?_
  refine b_getfield (v := fs_i (M 1 5)) d_Book_wholeWorth_12 fl_Book_78 io_1 rfl ?_
  refine a_icmp_ge (tgt := 47) d_Book_wholeWorth_15 rfl (fun c1 => ?_) (fun c1 => ?_)
  · have h := h.1 c1
    refine a_iload_n (j := 1) d_Book_wholeWorth_47 rfl rfl ?_
    exact b_ireturn d_Book_wholeWorth_48 rfl rfl h
  · have h := h.2 c1
    refine a_iload_n (j := 1) d_Book_wholeWorth_18 rfl rfl ?_
    refine a_aload_n (j := 0) d_Book_wholeWorth_19 rfl rfl ?_
    refine b_getfield (v := fs_i (M 60 9)) d_Book_wholeWorth_20 fl_Book_39 io_60 rfl ?_
    refine a_iload_n (j := 2) d_Book_wholeWorth_23 rfl rfl ?_
    refine b_static (dc := 1) [fs_i (M 60 9), fs_i x2] [fs_i x1] d_Book_wholeWorth_24 ml_Book_106 k_Fs_bit s_Fs_bit rfl (Nat.le_of_ble_eq_true rfl) rfl (Nat.le_of_ble_eq_true rfl) ?_
    refine fs_Call.mono (fun v M2 hv => ?_) h
    obtain ⟨r2, rfl, h⟩ := hv
    show fs_A2 g m_Book_wholeWorth 3 27 [(0, fs_r 60), (1, fs_i x1), (2, fs_i x2)] [fs_i r2, fs_i x1] M2 K
    refine a_if_ne (tgt := 38) d_Book_wholeWorth_27 rfl (fun c2 => ?_) (fun c2 => ?_)
    · have h := h.1 c2
      refine a_iconst d_Book_wholeWorth_38 (by unfold fs_in32; omega) ?_
      refine a_iadd d_Book_wholeWorth_39 ?_
      refine a_istore_n d_Book_wholeWorth_40 rfl (Nat.le_of_ble_eq_true rfl) [1, 0, 2] rfl ?_
      refine a_iinc (j := 2) d_Book_wholeWorth_41 rfl (Nat.le_of_ble_eq_true rfl) [1, 2, 0] rfl ?_
      refine a_goto (tgt := 7) d_Book_wholeWorth_44 rfl ?_
      exact h
    · have h := h.2 c2
      refine a_aload_n (j := 0) d_Book_wholeWorth_30 rfl rfl ?_
      refine a_iload_n (j := 2) d_Book_wholeWorth_31 rfl rfl ?_
      refine b_virtual (dc := 2) (ci := 0) (T := fs_T0) (N := 15) [fs_i x2] [fs_i x1] d_Book_wholeWorth_32 ml_Book_147 k_Book_worthByDark v_Book_worthByDark rfl io_60 rfl (Nat.le_of_ble_eq_true rfl) rfl (Nat.le_of_ble_eq_true rfl) ?_
      refine fs_Call.mono (fun v M3 hv => ?_) h
      obtain ⟨r3, rfl, h⟩ := hv
      show fs_A2 g m_Book_wholeWorth 3 35 [(0, fs_r 60), (1, fs_i x1), (2, fs_i x2)] [fs_i r3, fs_i x1] M3 K
      refine a_goto (tgt := 39) d_Book_wholeWorth_35 rfl ?_
      refine a_iadd d_Book_wholeWorth_39 ?_
      refine a_istore_n d_Book_wholeWorth_40 rfl (Nat.le_of_ble_eq_true rfl) [1, 0, 2] rfl ?_
      refine a_iinc (j := 2) d_Book_wholeWorth_41 rfl (Nat.le_of_ble_eq_true rfl) [1, 2, 0] rfl ?_
      refine a_goto (tgt := 7) d_Book_wholeWorth_44 rfl ?_
      exact h
set_option maxRecDepth 8000 in
set_option maxHeartbeats 4000000 in
theorem E_Book_priceOf {M : fs_M} {K : fs_K} {x1 : Int} 
    (h : fs_C2 g m_Book_chooseBest 4 [fs_r 60, fs_i (M 1 9)] M (fun v M1 => v = none ∧ fs_C2 g m_Book_everyHouse 1 [fs_r 60] M1 (fun v M2 => ∃ r2, v = some (fs_i r2) ∧ (0 ≤ r2 ∧ r2 < 64 ∧ fs_A2 g m_Book_priceOf 5 25 [(0, fs_r 60), (1, fs_i x1), (2, fs_i (M2 78 r2)), (3, fs_i 0)] [] M2 K)))) :
    fs_C2 g m_Book_priceOf 5 [fs_r 60, fs_i x1] M K := by
  refine b_enter2 (ls := [(0, fs_r 60), (1, fs_i x1)]) (plainFor_of_name pn_Book) (Nat.le_of_ble_eq_true rfl) rfl ?_
  refine a_aload_n (j := 0) d_Book_priceOf_0 rfl rfl ?_
  refine a_aload_n (j := 0) d_Book_priceOf_1 rfl rfl ?_
  refine b_getptr (q := 1) d_Book_priceOf_2 fl_Book_60 io_60 rfl rfl rfl ?_
  refine b_getfield (v := fs_i (M 1 9)) d_Book_priceOf_5 fl_Book_90 io_1 rfl ?_
  refine b_virtual (dc := 4) (ci := 0) (T := fs_T0) (N := 15) [fs_i (M 1 9)] [] d_Book_priceOf_8 ml_Book_164 k_Book_chooseBest v_Book_chooseBest rfl io_60 rfl (Nat.le_of_ble_eq_true rfl) rfl (Nat.le_of_ble_eq_true rfl) ?_
  refine fs_Call.mono (fun v M1 hv => ?_) h
  obtain ⟨rfl, h⟩ := hv
  show fs_A2 g m_Book_priceOf 5 11 [(0, fs_r 60), (1, fs_i x1)] [] M1 K
  refine a_aload_n (j := 0) d_Book_priceOf_11 rfl rfl ?_
  refine b_getptr (q := 77) d_Book_priceOf_12 fl_Book_54 io_60 rfl rfl rfl ?_
  refine a_iconst d_Book_priceOf_15 (by unfold fs_in32; omega) ?_
  refine b_aaptr (q := 78) d_Book_priceOf_16 ia_77 (by decide) (by decide) (by decide) (aq_77 0) ?_
  refine a_aload_n (j := 0) d_Book_priceOf_17 rfl rfl ?_
  refine b_virtual (dc := 1) (ci := 0) (T := fs_T0) (N := 15) [] [fs_r 78] d_Book_priceOf_18 ml_Book_158 k_Book_everyHouse v_Book_everyHouse rfl io_60 rfl (Nat.le_of_ble_eq_true rfl) rfl (Nat.le_of_ble_eq_true rfl) ?_
  refine fs_Call.mono (fun v M2 hv => ?_) h
  obtain ⟨r2, rfl, h⟩ := hv
  show fs_A2 g m_Book_priceOf 5 21 [(0, fs_r 60), (1, fs_i x1)] [fs_i r2, fs_r 78] M2 K
  obtain ⟨o1, o2, h⟩ := h
  refine b_iaload (v := M2 78 r2) d_Book_priceOf_21 ia_78 o1 o2 rfl ?_
  refine a_istore_n d_Book_priceOf_22 rfl (Nat.le_of_ble_eq_true rfl) [1, 2, 0] rfl ?_
  refine a_iconst d_Book_priceOf_23 (by unfold fs_in32; omega) ?_
  refine a_istore_n d_Book_priceOf_24 rfl (Nat.le_of_ble_eq_true rfl) [1, 2, 3, 0] rfl ?_
  exact h
set_option maxRecDepth 8000 in
set_option maxHeartbeats 4000000 in
theorem L_Book_priceOf_25 {M : fs_M} {K : fs_K} {x1 x2 x3 : Int} 
    (h : ((M 1 9 ≤ x3 → fs_C2 g m_Book_everyHouse 1 [fs_r 60] M (fun v M3 => ∃ r3, v = some (fs_i r3) ∧ (0 ≤ fs_and r3 (fs_xor (fs_shl 1 x1) (-1)) ∧ fs_and r3 (fs_xor (fs_shl 1 x1) (-1)) < 64 ∧ K (some (fs_i (fs_w32 ((M3 78 (fs_and r3 (fs_xor (fs_shl 1 x1) (-1)))) - x2)))) M3))) ∧ (¬ M 1 9 ≤ x3 → (0 ≤ x3 ∧ x3 < 3 ∧ (0 ≤ M 82 x3 ∧ M 82 x3 < 1957 ∧ fs_C2 g m_Fs_bit 1 [fs_i (M (68 + x3) (M 82 x3)), fs_i x1] M (fun v M4 => ∃ r4, v = some (fs_i r4) ∧ ((¬ r4 = 1 → fs_A2 g m_Book_priceOf 5 25 [(0, fs_r 60), (1, fs_i x1), (2, fs_i x2), (3, fs_i (fs_w32 (x3 + 1)))] [] M4 K) ∧ (r4 = 1 → fs_C2 g m_Book_worthByDark 2 [fs_r 60, fs_i x1] M4 (fun v M5 => ∃ r5, v = some (fs_i r5) ∧ fs_A2 g m_Book_priceOf 5 25 [(0, fs_r 60), (1, fs_i x1), (2, fs_i (fs_w32 (x2 - r5))), (3, fs_i (fs_w32 (x3 + 1)))] [] M5 K))))))))) :
    fs_A2 g m_Book_priceOf 5 25 [(0, fs_r 60), (1, fs_i x1), (2, fs_i x2), (3, fs_i x3)] [] M K := by
  refine a_iload_n (j := 3) d_Book_priceOf_25 rfl rfl ?_
  refine a_aload_n (j := 0) d_Book_priceOf_26 rfl rfl ?_
  refine b_getptr (q := 1) d_Book_priceOf_27 fl_Book_60 io_60 rfl rfl rfl ?_
  refine b_getfield (v := fs_i (M 1 9)) d_Book_priceOf_30 fl_Book_90 io_1 rfl ?_
  refine a_icmp_ge (tgt := 71) d_Book_priceOf_33 rfl (fun c3 => ?_) (fun c3 => ?_)
  · have h := h.1 c3
    refine a_aload_n (j := 0) d_Book_priceOf_71 rfl rfl ?_
    refine b_getptr (q := 77) d_Book_priceOf_72 fl_Book_54 io_60 rfl rfl rfl ?_
    refine a_iconst d_Book_priceOf_75 (by unfold fs_in32; omega) ?_
    refine b_aaptr (q := 78) d_Book_priceOf_76 ia_77 (by decide) (by decide) (by decide) (aq_77 0) ?_
    refine a_aload_n (j := 0) d_Book_priceOf_77 rfl rfl ?_
    refine b_virtual (dc := 1) (ci := 0) (T := fs_T0) (N := 15) [] [fs_r 78] d_Book_priceOf_78 ml_Book_158 k_Book_everyHouse v_Book_everyHouse rfl io_60 rfl (Nat.le_of_ble_eq_true rfl) rfl (Nat.le_of_ble_eq_true rfl) ?_
    refine fs_Call.mono (fun v M3 hv => ?_) h
    obtain ⟨r3, rfl, h⟩ := hv
    show fs_A2 g m_Book_priceOf 5 81 [(0, fs_r 60), (1, fs_i x1), (2, fs_i x2), (3, fs_i x3)] [fs_i r3, fs_r 78] M3 K
    refine a_iconst d_Book_priceOf_81 (by unfold fs_in32; omega) ?_
    refine a_iload_n (j := 1) d_Book_priceOf_82 rfl rfl ?_
    refine a_ishl d_Book_priceOf_83 ?_
    refine a_iconst d_Book_priceOf_84 (by unfold fs_in32; omega) ?_
    refine a_ixor d_Book_priceOf_85 ?_
    refine a_iand d_Book_priceOf_86 ?_
    obtain ⟨o4, o5, h⟩ := h
    refine b_iaload (v := M3 78 (fs_and r3 (fs_xor (fs_shl 1 x1) (-1)))) d_Book_priceOf_87 ia_78 o4 o5 rfl ?_
    refine a_iload_n (j := 2) d_Book_priceOf_88 rfl rfl ?_
    refine a_isub d_Book_priceOf_89 ?_
    exact b_ireturn d_Book_priceOf_90 rfl rfl h
  · have h := h.2 c3
    refine a_aload_n (j := 0) d_Book_priceOf_36 rfl rfl ?_
    refine b_getptr (q := 67) d_Book_priceOf_37 fl_Book_29 io_60 rfl rfl rfl ?_
    refine a_iload_n (j := 3) d_Book_priceOf_40 rfl rfl ?_
    obtain ⟨o6, o7, h⟩ := h
    refine b_aaptr (q := 68 + x3) d_Book_priceOf_41 ia_67 (by decide) o6 o7 (aq_67 x3) ?_
    refine a_aload_n (j := 0) d_Book_priceOf_42 rfl rfl ?_
    refine b_getptr (q := 82) d_Book_priceOf_43 fl_Book_57 io_60 rfl rfl rfl ?_
    refine a_iload_n (j := 3) d_Book_priceOf_46 rfl rfl ?_
    refine b_iaload (v := M 82 x3) d_Book_priceOf_47 ia_82 o6 o7 rfl ?_
    obtain ⟨o8, o9, h⟩ := h
    refine b_iaload (v := M (68 + x3) (M 82 x3)) d_Book_priceOf_48 (ae_67 o6 o7) o8 o9 rfl ?_
    refine a_iload_n (j := 1) d_Book_priceOf_49 rfl rfl ?_
    refine b_static (dc := 1) [fs_i (M (68 + x3) (M 82 x3)), fs_i x1] [] d_Book_priceOf_50 ml_Book_106 k_Fs_bit s_Fs_bit rfl (Nat.le_of_ble_eq_true rfl) rfl (Nat.le_of_ble_eq_true rfl) ?_
    refine fs_Call.mono (fun v M4 hv => ?_) h
    obtain ⟨r4, rfl, h⟩ := hv
    show fs_A2 g m_Book_priceOf 5 53 [(0, fs_r 60), (1, fs_i x1), (2, fs_i x2), (3, fs_i x3)] [fs_i r4] M4 K
    refine a_iconst d_Book_priceOf_53 (by unfold fs_in32; omega) ?_
    refine a_icmp_ne (tgt := 65) d_Book_priceOf_54 rfl (fun c10 => ?_) (fun c10 => ?_)
    · have h := h.1 c10
      refine a_iinc (j := 3) d_Book_priceOf_65 rfl (Nat.le_of_ble_eq_true rfl) [1, 2, 3, 0] rfl ?_
      refine a_goto (tgt := 25) d_Book_priceOf_68 rfl ?_
      exact h
    · have h := h.2 c10
      refine a_iload_n (j := 2) d_Book_priceOf_57 rfl rfl ?_
      refine a_aload_n (j := 0) d_Book_priceOf_58 rfl rfl ?_
      refine a_iload_n (j := 1) d_Book_priceOf_59 rfl rfl ?_
      refine b_virtual (dc := 2) (ci := 0) (T := fs_T0) (N := 15) [fs_i x1] [fs_i x2] d_Book_priceOf_60 ml_Book_147 k_Book_worthByDark v_Book_worthByDark rfl io_60 rfl (Nat.le_of_ble_eq_true rfl) rfl (Nat.le_of_ble_eq_true rfl) ?_
      refine fs_Call.mono (fun v M5 hv => ?_) h
      obtain ⟨r5, rfl, h⟩ := hv
      show fs_A2 g m_Book_priceOf 5 63 [(0, fs_r 60), (1, fs_i x1), (2, fs_i x2), (3, fs_i x3)] [fs_i r5, fs_i x2] M5 K
      refine a_isub d_Book_priceOf_63 ?_
      refine a_istore_n d_Book_priceOf_64 rfl (Nat.le_of_ble_eq_true rfl) [1, 2, 0, 3] rfl ?_
      refine a_iinc (j := 3) d_Book_priceOf_65 rfl (Nat.le_of_ble_eq_true rfl) [1, 2, 3, 0] rfl ?_
      refine a_goto (tgt := 25) d_Book_priceOf_68 rfl ?_
      exact h
set_option maxRecDepth 8000 in
set_option maxHeartbeats 4000000 in
theorem E_Book_canDoAll {M : fs_M} {K : fs_K} {x1 : Int} 
    (h : fs_A2 g m_Book_canDoAll 4 11 [(0, fs_r 60), (2, fs_i (fs_and x1 (fs_xor (M 60 9) (-1)))), (3, fs_i 0)] [] M K) :
    fs_C2 g m_Book_canDoAll 4 [fs_r 60, fs_i x1] M K := by
  refine b_enter2 (ls := [(0, fs_r 60), (1, fs_i x1)]) (plainFor_of_name pn_Book) (Nat.le_of_ble_eq_true rfl) rfl ?_
  refine a_iload_n (j := 1) d_Book_canDoAll_0 rfl rfl ?_
  refine a_aload_n (j := 0) d_Book_canDoAll_1 rfl rfl ?_
  refine b_getfield (v := fs_i (M 60 9)) d_Book_canDoAll_2 fl_Book_39 io_60 rfl ?_
  refine a_iconst d_Book_canDoAll_5 (by unfold fs_in32; omega) ?_
  refine a_ixor d_Book_canDoAll_6 ?_
  refine a_iand d_Book_canDoAll_7 ?_
  refine a_istore_n d_Book_canDoAll_8 rfl (Nat.le_of_ble_eq_true rfl) [1, 2, 0] rfl ?_
  refine a_iconst d_Book_canDoAll_9 (by unfold fs_in32; omega) ?_
  refine a_istore_n d_Book_canDoAll_10 rfl (Nat.le_of_ble_eq_true rfl) [1, 2, 3, 0] rfl ?_
  refine a_sub [0, 2, 3] rfl ?_
  exact h
set_option maxRecDepth 8000 in
set_option maxHeartbeats 4000000 in
theorem L_Book_canDoAll_11 {M : fs_M} {K : fs_K} {x2 x3 : Int} 
    (h : ((64 ≤ x3 → fs_C2 g m_Book_weighRows 3 [fs_r 60, fs_i (M 1 9)] M (fun v M1 => v = none ∧ fs_C2 g m_Book_everyHouse 1 [fs_r 60] M1 (fun v M2 => ∃ r2, v = some (fs_i r2) ∧ (0 ≤ r2 ∧ r2 < 64 ∧ fs_C2 g m_Integer_bitCount 1 [fs_i x2] M2 (fun v M3 => ∃ r3, v = some (fs_i r3) ∧ ((¬ M2 78 r2 = r3 → K (some (fs_i 0)) M3) ∧ (M2 78 r2 = r3 → K (some (fs_i 1)) M3))))))) ∧ (¬ 64 ≤ x3 → fs_C2 g m_Integer_bitCount 1 [fs_i (fs_and x3 x2)] M (fun v M4 => ∃ r4, v = some (fs_i r4) ∧ (0 ≤ x3 ∧ fs_A2 g m_Book_canDoAll 4 11 [(0, fs_r 60), (2, fs_i x2), (3, fs_i (fs_w32 (x3 + 1)))] [] (fs_st M4 72 x3 r4) K))))) :
    fs_A2 g m_Book_canDoAll 4 11 [(0, fs_r 60), (2, fs_i x2), (3, fs_i x3)] [] M K := by
  refine a_iload_n (j := 2) d_Book_canDoAll_11 rfl rfl ?_
  refine a_bipush d_Book_canDoAll_12 (by decide) ?_
  refine a_icmp_ge (tgt := 35) d_Book_canDoAll_14 rfl (fun c1 => ?_) (fun c1 => ?_)
  · have h := h.1 c1
    refine a_aload_n (j := 0) d_Book_canDoAll_35 rfl rfl ?_
    refine a_aload_n (j := 0) d_Book_canDoAll_36 rfl rfl ?_
    refine b_getptr (q := 1) d_Book_canDoAll_37 fl_Book_60 io_60 rfl rfl rfl ?_
    refine b_getfield (v := fs_i (M 1 9)) d_Book_canDoAll_40 fl_Book_90 io_1 rfl ?_
    refine b_virtual (dc := 3) (ci := 0) (T := fs_T0) (N := 15) [fs_i (M 1 9)] [] d_Book_canDoAll_43 ml_Book_154 k_Book_weighRows v_Book_weighRows rfl io_60 rfl (Nat.le_of_ble_eq_true rfl) rfl (Nat.le_of_ble_eq_true rfl) ?_
    refine fs_Call.mono (fun v M1 hv => ?_) h
    obtain ⟨rfl, h⟩ := hv
    show fs_A2 g m_Book_canDoAll 4 46 [(0, fs_r 60), (2, fs_i x2), (3, fs_i x3)] [] M1 K
    refine a_aload_n (j := 0) d_Book_canDoAll_46 rfl rfl ?_
    refine b_getptr (q := 77) d_Book_canDoAll_47 fl_Book_54 io_60 rfl rfl rfl ?_
    refine a_iconst d_Book_canDoAll_50 (by unfold fs_in32; omega) ?_
    refine b_aaptr (q := 78) d_Book_canDoAll_51 ia_77 (by decide) (by decide) (by decide) (aq_77 0) ?_
    refine a_aload_n (j := 0) d_Book_canDoAll_52 rfl rfl ?_
    refine b_virtual (dc := 1) (ci := 0) (T := fs_T0) (N := 15) [] [fs_r 78] d_Book_canDoAll_53 ml_Book_158 k_Book_everyHouse v_Book_everyHouse rfl io_60 rfl (Nat.le_of_ble_eq_true rfl) rfl (Nat.le_of_ble_eq_true rfl) ?_
    refine fs_Call.mono (fun v M2 hv => ?_) h
    obtain ⟨r2, rfl, h⟩ := hv
    show fs_A2 g m_Book_canDoAll 4 56 [(0, fs_r 60), (2, fs_i x2), (3, fs_i x3)] [fs_i r2, fs_r 78] M2 K
    obtain ⟨o2, o3, h⟩ := h
    refine b_iaload (v := M2 78 r2) d_Book_canDoAll_56 ia_78 o2 o3 rfl ?_
    refine a_iload_n (j := 1) d_Book_canDoAll_57 rfl rfl ?_
    refine b_static (dc := 1) [fs_i x2] [fs_i (M2 78 r2)] d_Book_canDoAll_58 ml_Book_167 k_Integer_bitCount s_Integer_bitCount rfl (Nat.le_of_ble_eq_true rfl) rfl (Nat.le_of_ble_eq_true rfl) ?_
    refine fs_Call.mono (fun v M3 hv => ?_) h
    obtain ⟨r3, rfl, h⟩ := hv
    show fs_A2 g m_Book_canDoAll 4 61 [(0, fs_r 60), (2, fs_i x2), (3, fs_i x3)] [fs_i r3, fs_i (M2 78 r2)] M3 K
    refine a_icmp_ne (tgt := 68) d_Book_canDoAll_61 rfl (fun c4 => ?_) (fun c4 => ?_)
    · have h := h.1 c4
      refine a_iconst d_Book_canDoAll_68 (by unfold fs_in32; omega) ?_
      exact b_ireturn d_Book_canDoAll_69 rfl (fs_nar01 (Or.inl rfl)) h
    · have h := h.2 c4
      refine a_iconst d_Book_canDoAll_64 (by unfold fs_in32; omega) ?_
      refine a_goto (tgt := 69) d_Book_canDoAll_65 rfl ?_
      exact b_ireturn d_Book_canDoAll_69 rfl (fs_nar01 (Or.inr rfl)) h
  · have h := h.2 c1
    refine a_aload_n (j := 0) d_Book_canDoAll_17 rfl rfl ?_
    refine b_getptr (q := 72) d_Book_canDoAll_18 fl_Book_48 io_60 rfl rfl rfl ?_
    refine a_iload_n (j := 2) d_Book_canDoAll_21 rfl rfl ?_
    refine a_iload_n (j := 2) d_Book_canDoAll_22 rfl rfl ?_
    refine a_iload_n (j := 1) d_Book_canDoAll_23 rfl rfl ?_
    refine a_iand d_Book_canDoAll_24 ?_
    refine b_static (dc := 1) [fs_i (fs_and x3 x2)] [fs_i x3, fs_r 72] d_Book_canDoAll_25 ml_Book_167 k_Integer_bitCount s_Integer_bitCount rfl (Nat.le_of_ble_eq_true rfl) rfl (Nat.le_of_ble_eq_true rfl) ?_
    refine fs_Call.mono (fun v M4 hv => ?_) h
    obtain ⟨r4, rfl, h⟩ := hv
    show fs_A2 g m_Book_canDoAll 4 28 [(0, fs_r 60), (2, fs_i x2), (3, fs_i x3)] [fs_i r4, fs_i x3, fs_r 72] M4 K
    obtain ⟨o5, h⟩ := h
    refine b_iastore d_Book_canDoAll_28 ia_72 o5 (by omega : x3 < 64) ?_
    refine a_iinc (j := 2) d_Book_canDoAll_29 rfl (Nat.le_of_ble_eq_true rfl) [1, 2, 0] rfl ?_
    refine a_goto (tgt := 11) d_Book_canDoAll_32 rfl ?_
    exact h
end WALK
