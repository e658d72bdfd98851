-- ===== printed by program (wip/whole/gen12.py): what must hold at a method's entry, at its labels =====
section WALK
variable {g : fs_G}
set_option maxRecDepth 8000 in
set_option maxHeartbeats 4000000 in
theorem E_Reader_put {M : fs_M} {K : fs_K} {x1 : Int} 
    (h : fs_A2 g m_Reader_put 1 3 [(0, fs_r 29), (1, fs_i x1), (2, fs_i 24)] [] M K) :
    fs_C2 g m_Reader_put 1 [fs_r 29, fs_i x1] M K := by
  refine b_enter2 (ls := [(0, fs_r 29), (1, fs_i x1)]) (plainFor_of_name pn_Reader) (Nat.le_of_ble_eq_true rfl) rfl ?_
  refine a_bipush d_Reader_put_0 (by decide) ?_
  refine a_istore_n d_Reader_put_2 rfl (Nat.le_of_ble_eq_true rfl) [1, 2, 0] rfl ?_
  exact h
set_option maxRecDepth 8000 in
set_option maxHeartbeats 4000000 in
theorem L_Reader_put_3 {M : fs_M} {K : fs_K} {x1 x2 : Int} 
    (h : ((x2 < 0 → K none M) ∧ (¬ x2 < 0 → ((600 ≤ M 29 1 → K none M) ∧ (¬ 600 ≤ M 29 1 → (0 ≤ M 29 1 ∧ fs_A2 g m_Reader_put 1 3 [(0, fs_r 29), (1, fs_i x1), (2, fs_i (fs_w32 (x2 + (-8))))] [] (fs_st (fs_st M 30 (M 29 1) (fs_and (fs_shr x1 x2) 255)) 29 1 (fs_w32 ((M 29 1) + 1))) K)))))) :
    fs_A2 g m_Reader_put 1 3 [(0, fs_r 29), (1, fs_i x1), (2, fs_i x2)] [] M K := by
  refine a_iload_n (j := 2) d_Reader_put_3 rfl rfl ?_
  refine a_if_lt (tgt := 49) d_Reader_put_4 rfl (fun c1 => ?_) (fun c1 => ?_)
  · have h := h.1 c1
    exact b_return d_Reader_put_49 rfl h
  · have h := h.2 c1
    refine a_aload_n (j := 0) d_Reader_put_7 rfl rfl ?_
    refine b_getfield (v := fs_i (M 29 1)) d_Reader_put_8 fl_Reader_15 io_29 rfl ?_
    refine a_sipush d_Reader_put_11 (by decide) ?_
    refine a_icmp_ge (tgt := 49) d_Reader_put_14 rfl (fun c2 => ?_) (fun c2 => ?_)
    · have h := h.1 c2
      exact b_return d_Reader_put_49 rfl h
    · have h := h.2 c2
      refine a_aload_n (j := 0) d_Reader_put_17 rfl rfl ?_
      refine b_getptr (q := 30) d_Reader_put_18 fl_Reader_9 io_29 rfl rfl rfl ?_
      refine a_aload_n (j := 0) d_Reader_put_21 rfl rfl ?_
      refine b_getfield (v := fs_i (M 29 1)) d_Reader_put_22 fl_Reader_15 io_29 rfl ?_
      refine a_iload_n (j := 1) d_Reader_put_25 rfl rfl ?_
      refine a_iload_n (j := 2) d_Reader_put_26 rfl rfl ?_
      refine a_ishr d_Reader_put_27 ?_
      refine a_sipush d_Reader_put_28 (by decide) ?_
      refine a_iand d_Reader_put_31 ?_
      obtain ⟨o3, h⟩ := h
      refine b_iastore d_Reader_put_32 ia_30 o3 (by omega : M 29 1 < 600) ?_
      refine a_aload_n (j := 0) d_Reader_put_33 rfl rfl ?_
      refine a_dup d_Reader_put_34 rfl ?_
      refine b_getfield (v := fs_i (M 29 1)) d_Reader_put_35 fl_Reader_15 io_29 rfl ?_
      refine a_iconst d_Reader_put_38 (by unfold fs_in32; omega) ?_
      refine a_iadd d_Reader_put_39 ?_
      refine b_putfield (x := (fs_w32 ((M 29 1) + 1))) d_Reader_put_40 fl_Reader_15 io_29 rfl rfl fs_nar_int ?_
      refine a_iinc (j := 2) d_Reader_put_43 rfl (Nat.le_of_ble_eq_true rfl) [1, 2, 0] rfl ?_
      refine a_goto (tgt := 3) d_Reader_put_46 rfl ?_
      exact h
set_option maxRecDepth 8000 in
set_option maxHeartbeats 4000000 in
theorem E_Reader_read {M : fs_M} {K : fs_K} {x1 : Int} 
    (h : fs_C2 g m_Script_clear 2 [fs_r 15] M (fun v M1 => v = none ∧ fs_C2 g m_Math_min_I 1 [fs_i x1, fs_i 600] M1 (fun v M2 => ∃ r2, v = some (fs_i r2) ∧ fs_C2 g m_Reader_advance 3 [fs_r 29] (fs_st (fs_st (fs_st (fs_st (fs_st (fs_st M2 29 5 r2) 29 6 0) 29 11 0) 29 1 0) 29 2 0) 29 3 (-1)) (fun v M3 => v = none ∧ fs_A2 g m_Reader_read 156 49 [(0, fs_r 29), (2, fs_i 0)] [] M3 K)))) :
    fs_C2 g m_Reader_read 156 [fs_r 29, fs_i x1] M K := by
  refine b_enter2 (ls := [(0, fs_r 29), (1, fs_i x1)]) (plainFor_of_name pn_Reader) (Nat.le_of_ble_eq_true rfl) rfl ?_
  refine a_aload_n (j := 0) d_Reader_read_0 rfl rfl ?_
  refine b_getptr (q := 15) d_Reader_read_1 fl_Reader_52 io_29 rfl rfl rfl ?_
  refine b_virtual (dc := 2) (ci := 8) (T := fs_T8) (N := 13) [] [] d_Reader_read_4 ml_Reader_56 k_Script_clear v_Script_clear rfl io_15 rfl (Nat.le_of_ble_eq_true rfl) rfl (Nat.le_of_ble_eq_true rfl) ?_
  refine fs_Call.mono (fun v M1 hv => ?_) h
  obtain ⟨rfl, h⟩ := hv
  show fs_A2 g m_Reader_read 156 7 [(0, fs_r 29), (1, fs_i x1)] [] M1 K
  refine a_aload_n (j := 0) d_Reader_read_7 rfl rfl ?_
  refine a_iload_n (j := 1) d_Reader_read_8 rfl rfl ?_
  refine a_sipush d_Reader_read_9 (by decide) ?_
  refine b_static (dc := 1) [fs_i x1, fs_i 600] [fs_r 29] d_Reader_read_12 ml_Reader_61 k_Math_min_I s_Math_min_I rfl (Nat.le_of_ble_eq_true rfl) rfl (Nat.le_of_ble_eq_true rfl) ?_
  refine fs_Call.mono (fun v M2 hv => ?_) h
  obtain ⟨r2, rfl, h⟩ := hv
  show fs_A2 g m_Reader_read 156 15 [(0, fs_r 29), (1, fs_i x1)] [fs_i r2, fs_r 29] M2 K
  refine b_putfield (x := r2) d_Reader_read_15 fl_Reader_25 io_29 rfl rfl fs_nar_int ?_
  refine a_aload_n (j := 0) d_Reader_read_18 rfl rfl ?_
  refine a_iconst d_Reader_read_19 (by unfold fs_in32; omega) ?_
  refine b_putfield (x := 0) d_Reader_read_20 fl_Reader_28 io_29 rfl rfl fs_nar_int ?_
  refine a_aload_n (j := 0) d_Reader_read_23 rfl rfl ?_
  refine a_iconst d_Reader_read_24 (by unfold fs_in32; omega) ?_
  refine b_putfield (x := 0) d_Reader_read_25 fl_Reader_49 io_29 rfl rfl fs_nar_int ?_
  refine a_aload_n (j := 0) d_Reader_read_28 rfl rfl ?_
  refine a_iconst d_Reader_read_29 (by unfold fs_in32; omega) ?_
  refine b_putfield (x := 0) d_Reader_read_30 fl_Reader_15 io_29 rfl rfl fs_nar_int ?_
  refine a_aload_n (j := 0) d_Reader_read_33 rfl rfl ?_
  refine a_iconst d_Reader_read_34 (by unfold fs_in32; omega) ?_
  refine b_putfield (x := 0) d_Reader_read_35 fl_Reader_19 io_29 rfl rfl fs_nar_int ?_
  refine a_aload_n (j := 0) d_Reader_read_38 rfl rfl ?_
  refine a_iconst d_Reader_read_39 (by unfold fs_in32; omega) ?_
  refine b_putfield (x := (-1)) d_Reader_read_40 fl_Reader_22 io_29 rfl rfl fs_nar_int ?_
  refine a_aload_n (j := 0) d_Reader_read_43 rfl rfl ?_
  refine b_virtual (dc := 3) (ci := 7) (T := fs_T7) (N := 12) [] [] d_Reader_read_44 ml_Reader_67 k_Reader_advance v_Reader_advance rfl io_29 rfl (Nat.le_of_ble_eq_true rfl) rfl (Nat.le_of_ble_eq_true rfl) ?_
  refine fs_Call.mono (fun v M3 hv => ?_) h
  obtain ⟨rfl, h⟩ := hv
  show fs_A2 g m_Reader_read 156 47 [(0, fs_r 29), (1, fs_i x1)] [] M3 K
  refine a_iconst d_Reader_read_47 (by unfold fs_in32; omega) ?_
  refine a_istore_n d_Reader_read_48 rfl (Nat.le_of_ble_eq_true rfl) [1, 2, 0] rfl ?_
  refine a_sub [0, 2] rfl ?_
  exact h
set_option maxRecDepth 8000 in
set_option maxHeartbeats 4000000 in
theorem L_Reader_read_49 {M : fs_M} {K : fs_K} {x2 : Int} 
    (h : ((M 29 5 ≤ x2 → K (some (fs_i x2)) M) ∧ (¬ M 29 5 ≤ x2 → (fs_tk (M 29 7) ∧ ((M 29 7 = 1035 → K (some (fs_i x2)) M) ∧ (¬ M 29 7 = 1035 → ((¬ M 29 7 = 1000 → ((¬ M 29 7 = 1001 → ((¬ M 29 7 = 1002 → ((¬ M 29 7 = 1003 → fs_C2 g m_Reader_stumble 1 [fs_r 29, fs_i 1] M (fun v M4 => ∃ r4, v = some (fs_i r4) ∧ fs_A2 g m_Reader_read 156 140 [(0, fs_r 29), (2, fs_i x2)] [fs_i r4] M4 K)) ∧ (M 29 7 = 1003 → fs_C2 g m_Reader_readLaw 155 [fs_r 29] M (fun v M5 => ∃ r5, v = some (fs_i r5) ∧ fs_A2 g m_Reader_read 156 140 [(0, fs_r 29), (2, fs_i x2)] [fs_i r5] M5 K)))) ∧ (M 29 7 = 1002 → fs_C2 g m_Reader_readSeed 5 [fs_r 29] M (fun v M6 => ∃ r6, v = some (fs_i r6) ∧ fs_A2 g m_Reader_read 156 140 [(0, fs_r 29), (2, fs_i x2)] [fs_i r6] M6 K)))) ∧ (M 29 7 = 1001 → fs_C2 g m_Reader_readDark 5 [fs_r 29] M (fun v M7 => ∃ r7, v = some (fs_i r7) ∧ fs_A2 g m_Reader_read 156 140 [(0, fs_r 29), (2, fs_i x2)] [fs_i r7] M7 K)))) ∧ (M 29 7 = 1000 → fs_C2 g m_Reader_readHouse 5 [fs_r 29] M (fun v M8 => ∃ r8, v = some (fs_i r8) ∧ fs_A2 g m_Reader_read 156 140 [(0, fs_r 29), (2, fs_i x2)] [fs_i r8] M8 K))))))))) :
    fs_A2 g m_Reader_read 156 49 [(0, fs_r 29), (2, fs_i x2)] [] M K := by
  refine a_iload_n (j := 1) d_Reader_read_49 rfl rfl ?_
  refine a_aload_n (j := 0) d_Reader_read_50 rfl rfl ?_
  refine b_getfield (v := fs_i (M 29 5)) d_Reader_read_51 fl_Reader_25 io_29 rfl ?_
  refine a_icmp_ge (tgt := 163) d_Reader_read_54 rfl (fun c1 => ?_) (fun c1 => ?_)
  · have h := h.1 c1
    refine a_iload_n (j := 1) d_Reader_read_163 rfl rfl ?_
    exact b_ireturn d_Reader_read_164 rfl rfl h
  · have h := h.2 c1
    refine a_aload_n (j := 0) d_Reader_read_57 rfl rfl ?_
    refine b_getfield (v := fs_r (M 29 7)) d_Reader_read_58 fl_Reader_37 io_29 rfl ?_
    refine a_getstatic (v := fs_r 1035) d_Reader_read_61 gs_Reader_31 (fs_Ztok (i := 35) (by decide) rfl rfl) (by show fs_in32 1035; unfold fs_in32; omega) ?_
    obtain ⟨o2, h⟩ := h
    refine a_acmp_eq (tgt := 163) d_Reader_read_64 rfl (Or.inl o2) (Or.inl tk_1035) (fun c3 => ?_) (fun c3 => ?_)
    · have h := h.1 c3
      refine a_iload_n (j := 1) d_Reader_read_163 rfl rfl ?_
      exact b_ireturn d_Reader_read_164 rfl rfl h
    · have h := h.2 c3
      refine a_aload_n (j := 0) d_Reader_read_67 rfl rfl ?_
      refine b_getfield (v := fs_r (M 29 7)) d_Reader_read_68 fl_Reader_37 io_29 rfl ?_
      refine a_getstatic (v := fs_r 1000) d_Reader_read_71 gs_Reader_70 (fs_Ztok (i := 0) (by decide) rfl rfl) (by show fs_in32 1000; unfold fs_in32; omega) ?_
      refine a_acmp_ne (tgt := 84) d_Reader_read_74 rfl (Or.inl o2) (Or.inl tk_1000) (fun c4 => ?_) (fun c4 => ?_)
      · have h := h.1 c4
        refine a_aload_n (j := 0) d_Reader_read_84 rfl rfl ?_
        refine b_getfield (v := fs_r (M 29 7)) d_Reader_read_85 fl_Reader_37 io_29 rfl ?_
        refine a_getstatic (v := fs_r 1001) d_Reader_read_88 gs_Reader_77 (fs_Ztok (i := 1) (by decide) rfl rfl) (by show fs_in32 1001; unfold fs_in32; omega) ?_
        refine a_acmp_ne (tgt := 101) d_Reader_read_91 rfl (Or.inl o2) (Or.inl tk_1001) (fun c5 => ?_) (fun c5 => ?_)
        · have h := h.1 c5
          refine a_aload_n (j := 0) d_Reader_read_101 rfl rfl ?_
          refine b_getfield (v := fs_r (M 29 7)) d_Reader_read_102 fl_Reader_37 io_29 rfl ?_
          refine a_getstatic (v := fs_r 1002) d_Reader_read_105 gs_Reader_83 (fs_Ztok (i := 2) (by decide) rfl rfl) (by show fs_in32 1002; unfold fs_in32; omega) ?_
          refine a_acmp_ne (tgt := 118) d_Reader_read_108 rfl (Or.inl o2) (Or.inl tk_1002) (fun c6 => ?_) (fun c6 => ?_)
          · have h := h.1 c6
            refine a_aload_n (j := 0) d_Reader_read_118 rfl rfl ?_
            refine b_getfield (v := fs_r (M 29 7)) d_Reader_read_119 fl_Reader_37 io_29 rfl ?_
            refine a_getstatic (v := fs_r 1003) d_Reader_read_122 gs_Reader_89 (fs_Ztok (i := 3) (by decide) rfl rfl) (by show fs_in32 1003; unfold fs_in32; omega) ?_
            refine a_acmp_ne (tgt := 135) d_Reader_read_125 rfl (Or.inl o2) (Or.inl tk_1003) (fun c7 => ?_) (fun c7 => ?_)
            · have h := h.1 c7
              refine a_aload_n (j := 0) d_Reader_read_135 rfl rfl ?_
              refine a_iconst d_Reader_read_136 (by unfold fs_in32; omega) ?_
              refine b_virtual (dc := 1) (ci := 7) (T := fs_T7) (N := 12) [fs_i 1] [] d_Reader_read_137 ml_Reader_95 k_Reader_stumble v_Reader_stumble rfl io_29 rfl (Nat.le_of_ble_eq_true rfl) rfl (Nat.le_of_ble_eq_true rfl) ?_
              refine fs_Call.mono (fun v M4 hv => ?_) h
              obtain ⟨r4, rfl, h⟩ := hv
              show fs_A2 g m_Reader_read 156 140 [(0, fs_r 29), (2, fs_i x2)] [fs_i r4] M4 K
              exact h
            · have h := h.2 c7
              refine a_aload_n (j := 0) d_Reader_read_128 rfl rfl ?_
              refine b_virtual (dc := 155) (ci := 7) (T := fs_T7) (N := 12) [] [] d_Reader_read_129 ml_Reader_92 k_Reader_readLaw v_Reader_readLaw rfl io_29 rfl (Nat.le_of_ble_eq_true rfl) rfl (Nat.le_of_ble_eq_true rfl) ?_
              refine fs_Call.mono (fun v M5 hv => ?_) h
              obtain ⟨r5, rfl, h⟩ := hv
              show fs_A2 g m_Reader_read 156 132 [(0, fs_r 29), (2, fs_i x2)] [fs_i r5] M5 K
              refine a_goto (tgt := 140) d_Reader_read_132 rfl ?_
              exact h
          · have h := h.2 c6
            refine a_aload_n (j := 0) d_Reader_read_111 rfl rfl ?_
            refine b_virtual (dc := 5) (ci := 7) (T := fs_T7) (N := 12) [] [] d_Reader_read_112 ml_Reader_86 k_Reader_readSeed v_Reader_readSeed rfl io_29 rfl (Nat.le_of_ble_eq_true rfl) rfl (Nat.le_of_ble_eq_true rfl) ?_
            refine fs_Call.mono (fun v M6 hv => ?_) h
            obtain ⟨r6, rfl, h⟩ := hv
            show fs_A2 g m_Reader_read 156 115 [(0, fs_r 29), (2, fs_i x2)] [fs_i r6] M6 K
            refine a_goto (tgt := 140) d_Reader_read_115 rfl ?_
            exact h
        · have h := h.2 c5
          refine a_aload_n (j := 0) d_Reader_read_94 rfl rfl ?_
          refine b_virtual (dc := 5) (ci := 7) (T := fs_T7) (N := 12) [] [] d_Reader_read_95 ml_Reader_80 k_Reader_readDark v_Reader_readDark rfl io_29 rfl (Nat.le_of_ble_eq_true rfl) rfl (Nat.le_of_ble_eq_true rfl) ?_
          refine fs_Call.mono (fun v M7 hv => ?_) h
          obtain ⟨r7, rfl, h⟩ := hv
          show fs_A2 g m_Reader_read 156 98 [(0, fs_r 29), (2, fs_i x2)] [fs_i r7] M7 K
          refine a_goto (tgt := 140) d_Reader_read_98 rfl ?_
          exact h
      · have h := h.2 c4
        refine a_aload_n (j := 0) d_Reader_read_77 rfl rfl ?_
        refine b_virtual (dc := 5) (ci := 7) (T := fs_T7) (N := 12) [] [] d_Reader_read_78 ml_Reader_73 k_Reader_readHouse v_Reader_readHouse rfl io_29 rfl (Nat.le_of_ble_eq_true rfl) rfl (Nat.le_of_ble_eq_true rfl) ?_
        refine fs_Call.mono (fun v M8 hv => ?_) h
        obtain ⟨r8, rfl, h⟩ := hv
        show fs_A2 g m_Reader_read 156 81 [(0, fs_r 29), (2, fs_i x2)] [fs_i r8] M8 K
        refine a_goto (tgt := 140) d_Reader_read_81 rfl ?_
        exact h
set_option maxRecDepth 8000 in
set_option maxHeartbeats 4000000 in
theorem L_Reader_read_140 {M : fs_M} {K : fs_K} {x2 x100 : Int} 
    (h : ((x100 = 0 → K (some (fs_i (-1))) M) ∧ (¬ x100 = 0 → fs_C2 g m_Reader_take 4 [fs_r 29, fs_r 1033] M (fun v M9 => ∃ r9, v = some (fs_i r9) ∧ ((¬ r9 = 0 → fs_A2 g m_Reader_read 156 49 [(0, fs_r 29), (2, fs_i (fs_w32 (x2 + 1)))] [] M9 K) ∧ (r9 = 0 → K (some (fs_i (-1))) M9)))))) :
    fs_A2 g m_Reader_read 156 140 [(0, fs_r 29), (2, fs_i x2)] [fs_i x100] M K := by
  refine a_istore_n d_Reader_read_140 rfl (Nat.le_of_ble_eq_true rfl) [1, 2, 0] rfl ?_
  refine a_iload_n (j := 2) d_Reader_read_141 rfl rfl ?_
  refine a_if_eq (tgt := 155) d_Reader_read_142 rfl (fun c8 => ?_) (fun c8 => ?_)
  · have h := h.1 c8
    refine a_iconst d_Reader_read_155 (by unfold fs_in32; omega) ?_
    exact b_ireturn d_Reader_read_156 rfl rfl h
  · have h := h.2 c8
    refine a_aload_n (j := 0) d_Reader_read_145 rfl rfl ?_
    refine a_getstatic (v := fs_r 1033) d_Reader_read_146 gs_Reader_99 (fs_Ztok (i := 33) (by decide) rfl rfl) (by show fs_in32 1033; unfold fs_in32; omega) ?_
    refine b_virtual (dc := 4) (ci := 7) (T := fs_T7) (N := 12) [fs_r 1033] [] d_Reader_read_149 ml_Reader_102 k_Reader_take v_Reader_take rfl io_29 rfl (Nat.le_of_ble_eq_true rfl) rfl (Nat.le_of_ble_eq_true rfl) ?_
    refine fs_Call.mono (fun v M9 hv => ?_) h
    obtain ⟨r9, rfl, h⟩ := hv
    show fs_A2 g m_Reader_read 156 152 [(0, fs_r 29), (2, fs_i x2), (3, fs_i x100)] [fs_i r9] M9 K
    refine a_if_ne (tgt := 157) d_Reader_read_152 rfl (fun c9 => ?_) (fun c9 => ?_)
    · have h := h.1 c9
      refine a_iinc (j := 1) d_Reader_read_157 rfl (Nat.le_of_ble_eq_true rfl) [1, 0, 2] rfl ?_
      refine a_goto (tgt := 49) d_Reader_read_160 rfl ?_
      refine a_sub [0, 1] rfl ?_
      exact h
    · have h := h.2 c9
      refine a_iconst d_Reader_read_155 (by unfold fs_in32; omega) ?_
      exact b_ireturn d_Reader_read_156 rfl rfl h
set_option maxRecDepth 8000 in
set_option maxHeartbeats 4000000 in
theorem E_Reader_advance {M : fs_M} {K : fs_K} 
    (h : ((M 29 5 ≤ M 29 6 → fs_A2 g m_Reader_advance 3 52 [(0, fs_r 29)] [] M K) ∧ (¬ M 29 5 ≤ M 29 6 → (0 ≤ M 29 6 ∧ M 29 6 < 600 ∧ ((M 30 (M 29 6) = 32 → fs_A2 g m_Reader_advance 3 39 [(0, fs_r 29)] [] M K) ∧ (¬ M 30 (M 29 6) = 32 → ((¬ M 30 (M 29 6) = 10 → fs_A2 g m_Reader_advance 3 52 [(0, fs_r 29)] [] M K) ∧ (M 30 (M 29 6) = 10 → fs_A2 g m_Reader_advance 3 39 [(0, fs_r 29)] [] M K)))))))) :
    fs_C2 g m_Reader_advance 3 [fs_r 29] M K := by
  refine b_enter2 (ls := [(0, fs_r 29)]) (plainFor_of_name pn_Reader) (Nat.le_of_ble_eq_true rfl) rfl ?_
  refine a_aload_n (j := 0) d_Reader_advance_0 rfl rfl ?_
  refine b_getfield (v := fs_i (M 29 6)) d_Reader_advance_1 fl_Reader_28 io_29 rfl ?_
  refine a_aload_n (j := 0) d_Reader_advance_4 rfl rfl ?_
  refine b_getfield (v := fs_i (M 29 5)) d_Reader_advance_5 fl_Reader_25 io_29 rfl ?_
  refine a_icmp_ge (tgt := 52) d_Reader_advance_8 rfl (fun c1 => ?_) (fun c1 => ?_)
  · have h := h.1 c1
    exact h
  · have h := h.2 c1
    refine a_aload_n (j := 0) d_Reader_advance_11 rfl rfl ?_
    refine b_getptr (q := 30) d_Reader_advance_12 fl_Reader_9 io_29 rfl rfl rfl ?_
    refine a_aload_n (j := 0) d_Reader_advance_15 rfl rfl ?_
    refine b_getfield (v := fs_i (M 29 6)) d_Reader_advance_16 fl_Reader_28 io_29 rfl ?_
    obtain ⟨o2, o3, h⟩ := h
    refine b_iaload (v := M 30 (M 29 6)) d_Reader_advance_19 ia_30 o2 o3 rfl ?_
    refine a_bipush d_Reader_advance_20 (by decide) ?_
    refine a_icmp_eq (tgt := 39) d_Reader_advance_22 rfl (fun c4 => ?_) (fun c4 => ?_)
    · have h := h.1 c4
      exact h
    · have h := h.2 c4
      refine a_aload_n (j := 0) d_Reader_advance_25 rfl rfl ?_
      refine b_getptr (q := 30) d_Reader_advance_26 fl_Reader_9 io_29 rfl rfl rfl ?_
      refine a_aload_n (j := 0) d_Reader_advance_29 rfl rfl ?_
      refine b_getfield (v := fs_i (M 29 6)) d_Reader_advance_30 fl_Reader_28 io_29 rfl ?_
      refine b_iaload (v := M 30 (M 29 6)) d_Reader_advance_33 ia_30 o2 o3 rfl ?_
      refine a_bipush d_Reader_advance_34 (by decide) ?_
      refine a_icmp_ne (tgt := 52) d_Reader_advance_36 rfl (fun c5 => ?_) (fun c5 => ?_)
      · have h := h.1 c5
        exact h
      · have h := h.2 c5
        exact h
set_option maxRecDepth 8000 in
set_option maxHeartbeats 4000000 in
theorem L_Reader_advance_39 {M : fs_M} {K : fs_K} 
    (h : fs_A2 g m_Reader_advance 3 0 [(0, fs_r 29)] [] (fs_st M 29 6 (fs_w32 ((M 29 6) + 1))) K) :
    fs_A2 g m_Reader_advance 3 39 [(0, fs_r 29)] [] M K := by
  refine a_aload_n (j := 0) d_Reader_advance_39 rfl rfl ?_
  refine a_dup d_Reader_advance_40 rfl ?_
  refine b_getfield (v := fs_i (M 29 6)) d_Reader_advance_41 fl_Reader_28 io_29 rfl ?_
  refine a_iconst d_Reader_advance_44 (by unfold fs_in32; omega) ?_
  refine a_iadd d_Reader_advance_45 ?_
  refine b_putfield (x := (fs_w32 ((M 29 6) + 1))) d_Reader_advance_46 fl_Reader_28 io_29 rfl rfl fs_nar_int ?_
  refine a_goto (tgt := 0) d_Reader_advance_49 rfl ?_
  exact h
set_option maxRecDepth 8000 in
set_option maxHeartbeats 4000000 in
theorem L_Reader_advance_0 {M : fs_M} {K : fs_K} 
    (h : ((M 29 5 ≤ M 29 6 → fs_A2 g m_Reader_advance 3 52 [(0, fs_r 29)] [] M K) ∧ (¬ M 29 5 ≤ M 29 6 → (0 ≤ M 29 6 ∧ M 29 6 < 600 ∧ ((M 30 (M 29 6) = 32 → fs_A2 g m_Reader_advance 3 39 [(0, fs_r 29)] [] M K) ∧ (¬ M 30 (M 29 6) = 32 → ((¬ M 30 (M 29 6) = 10 → fs_A2 g m_Reader_advance 3 52 [(0, fs_r 29)] [] M K) ∧ (M 30 (M 29 6) = 10 → fs_A2 g m_Reader_advance 3 39 [(0, fs_r 29)] [] M K)))))))) :
    fs_A2 g m_Reader_advance 3 0 [(0, fs_r 29)] [] M K := by
  refine a_aload_n (j := 0) d_Reader_advance_0 rfl rfl ?_
  refine b_getfield (v := fs_i (M 29 6)) d_Reader_advance_1 fl_Reader_28 io_29 rfl ?_
  refine a_aload_n (j := 0) d_Reader_advance_4 rfl rfl ?_
  refine b_getfield (v := fs_i (M 29 5)) d_Reader_advance_5 fl_Reader_25 io_29 rfl ?_
  refine a_icmp_ge (tgt := 52) d_Reader_advance_8 rfl (fun c6 => ?_) (fun c6 => ?_)
  · have h := h.1 c6
    exact h
  · have h := h.2 c6
    refine a_aload_n (j := 0) d_Reader_advance_11 rfl rfl ?_
    refine b_getptr (q := 30) d_Reader_advance_12 fl_Reader_9 io_29 rfl rfl rfl ?_
    refine a_aload_n (j := 0) d_Reader_advance_15 rfl rfl ?_
    refine b_getfield (v := fs_i (M 29 6)) d_Reader_advance_16 fl_Reader_28 io_29 rfl ?_
    obtain ⟨o7, o8, h⟩ := h
    refine b_iaload (v := M 30 (M 29 6)) d_Reader_advance_19 ia_30 o7 o8 rfl ?_
    refine a_bipush d_Reader_advance_20 (by decide) ?_
    refine a_icmp_eq (tgt := 39) d_Reader_advance_22 rfl (fun c9 => ?_) (fun c9 => ?_)
    · have h := h.1 c9
      exact h
    · have h := h.2 c9
      refine a_aload_n (j := 0) d_Reader_advance_25 rfl rfl ?_
      refine b_getptr (q := 30) d_Reader_advance_26 fl_Reader_9 io_29 rfl rfl rfl ?_
      refine a_aload_n (j := 0) d_Reader_advance_29 rfl rfl ?_
      refine b_getfield (v := fs_i (M 29 6)) d_Reader_advance_30 fl_Reader_28 io_29 rfl ?_
      refine b_iaload (v := M 30 (M 29 6)) d_Reader_advance_33 ia_30 o7 o8 rfl ?_
      refine a_bipush d_Reader_advance_34 (by decide) ?_
      refine a_icmp_ne (tgt := 52) d_Reader_advance_36 rfl (fun c10 => ?_) (fun c10 => ?_)
      · have h := h.1 c10
        exact h
      · have h := h.2 c10
        exact h
set_option maxRecDepth 8000 in
set_option maxHeartbeats 4000000 in
theorem L_Reader_advance_52 {M : fs_M} {K : fs_K} 
    (h : ((M 29 6 < M 29 5 → (0 ≤ M 29 6 ∧ M 29 6 < 600 ∧ ((M 30 (M 29 6) < 97 → fs_A2 g m_Reader_advance 3 116 [(0, fs_r 29)] [] (fs_st M 29 8 (M 29 6)) K) ∧ (¬ M 30 (M 29 6) < 97 → ((122 < M 30 (M 29 6) → fs_A2 g m_Reader_advance 3 116 [(0, fs_r 29)] [] (fs_st M 29 8 (M 29 6)) K) ∧ (¬ 122 < M 30 (M 29 6) → fs_C2 g m_Reader_readWord 2 [fs_r 29] (fs_st M 29 8 (M 29 6)) (fun v M1 => v = none ∧ K none M1))))))) ∧ (¬ M 29 6 < M 29 5 → K none (fs_st (fs_st M 29 8 (M 29 6)) 29 7 1035)))) :
    fs_A2 g m_Reader_advance 3 52 [(0, fs_r 29)] [] M K := by
  refine a_aload_n (j := 0) d_Reader_advance_52 rfl rfl ?_
  refine a_aload_n (j := 0) d_Reader_advance_53 rfl rfl ?_
  refine b_getfield (v := fs_i (M 29 6)) d_Reader_advance_54 fl_Reader_28 io_29 rfl ?_
  refine b_putfield (x := (M 29 6)) d_Reader_advance_57 fl_Reader_40 io_29 rfl rfl fs_nar_int ?_
  refine a_aload_n (j := 0) d_Reader_advance_60 rfl rfl ?_
  refine b_getfield (v := fs_i (M 29 6)) d_Reader_advance_61 fl_Reader_28 io_29 rfl ?_
  refine a_aload_n (j := 0) d_Reader_advance_64 rfl rfl ?_
  refine b_getfield (v := fs_i (M 29 5)) d_Reader_advance_65 fl_Reader_25 io_29 rfl ?_
  refine a_icmp_lt (tgt := 81) d_Reader_advance_68 rfl (fun c11 => ?_) (fun c11 => ?_)
  · have h := h.1 c11
    refine a_aload_n (j := 0) d_Reader_advance_81 rfl rfl ?_
    refine b_getptr (q := 30) d_Reader_advance_82 fl_Reader_9 io_29 rfl rfl rfl ?_
    refine a_aload_n (j := 0) d_Reader_advance_85 rfl rfl ?_
    refine b_getfield (v := fs_i (M 29 6)) d_Reader_advance_86 fl_Reader_28 io_29 rfl ?_
    obtain ⟨o12, o13, h⟩ := h
    refine b_iaload (v := M 30 (M 29 6)) d_Reader_advance_89 ia_30 o12 o13 rfl ?_
    refine a_bipush d_Reader_advance_90 (by decide) ?_
    refine a_icmp_lt (tgt := 116) d_Reader_advance_92 rfl (fun c14 => ?_) (fun c14 => ?_)
    · have h := h.1 c14
      exact h
    · have h := h.2 c14
      refine a_aload_n (j := 0) d_Reader_advance_95 rfl rfl ?_
      refine b_getptr (q := 30) d_Reader_advance_96 fl_Reader_9 io_29 rfl rfl rfl ?_
      refine a_aload_n (j := 0) d_Reader_advance_99 rfl rfl ?_
      refine b_getfield (v := fs_i (M 29 6)) d_Reader_advance_100 fl_Reader_28 io_29 rfl ?_
      refine b_iaload (v := M 30 (M 29 6)) d_Reader_advance_103 ia_30 o12 o13 rfl ?_
      refine a_bipush d_Reader_advance_104 (by decide) ?_
      refine a_icmp_gt (tgt := 116) d_Reader_advance_106 rfl (fun c15 => ?_) (fun c15 => ?_)
      · have h := h.1 c15
        exact h
      · have h := h.2 c15
        refine a_aload_n (j := 0) d_Reader_advance_109 rfl rfl ?_
        refine b_virtual (dc := 2) (ci := 7) (T := fs_T7) (N := 12) [] [] d_Reader_advance_110 ml_Reader_221 k_Reader_readWord v_Reader_readWord rfl io_29 rfl (Nat.le_of_ble_eq_true rfl) rfl (Nat.le_of_ble_eq_true rfl) ?_
        refine fs_Call.mono (fun v M1 hv => ?_) h
        obtain ⟨rfl, h⟩ := hv
        show fs_A2 g m_Reader_advance 3 113 [(0, fs_r 29)] [] M1 K
        refine a_goto (tgt := 192) d_Reader_advance_113 rfl ?_
        exact b_return d_Reader_advance_192 rfl h
  · have h := h.2 c11
    refine a_aload_n (j := 0) d_Reader_advance_71 rfl rfl ?_
    refine a_getstatic (v := fs_r 1035) d_Reader_advance_72 gs_Reader_31 (fs_Ztok (i := 35) (by decide) rfl rfl) (by show fs_in32 1035; unfold fs_in32; omega) ?_
    refine b_putfield (x := 1035) d_Reader_advance_75 fl_Reader_37 io_29 rfl rfl fs_nar_obj ?_
    refine a_goto (tgt := 192) d_Reader_advance_78 rfl ?_
    exact b_return d_Reader_advance_192 rfl h
set_option maxRecDepth 8000 in
set_option maxHeartbeats 4000000 in
theorem L_Reader_advance_116 {M : fs_M} {K : fs_K} 
    (h : (0 ≤ M 29 6 ∧ M 29 6 < 600 ∧ ((M 30 (M 29 6) < 48 → fs_A2 g m_Reader_advance 3 151 [(0, fs_r 29)] [] M K) ∧ (¬ M 30 (M 29 6) < 48 → ((57 < M 30 (M 29 6) → fs_A2 g m_Reader_advance 3 151 [(0, fs_r 29)] [] M K) ∧ (¬ 57 < M 30 (M 29 6) → fs_C2 g m_Reader_readNumber 2 [fs_r 29] M (fun v M2 => v = none ∧ K none M2))))))) :
    fs_A2 g m_Reader_advance 3 116 [(0, fs_r 29)] [] M K := by
  refine a_aload_n (j := 0) d_Reader_advance_116 rfl rfl ?_
  refine b_getptr (q := 30) d_Reader_advance_117 fl_Reader_9 io_29 rfl rfl rfl ?_
  refine a_aload_n (j := 0) d_Reader_advance_120 rfl rfl ?_
  refine b_getfield (v := fs_i (M 29 6)) d_Reader_advance_121 fl_Reader_28 io_29 rfl ?_
  obtain ⟨o16, o17, h⟩ := h
  refine b_iaload (v := M 30 (M 29 6)) d_Reader_advance_124 ia_30 o16 o17 rfl ?_
  refine a_bipush d_Reader_advance_125 (by decide) ?_
  refine a_icmp_lt (tgt := 151) d_Reader_advance_127 rfl (fun c18 => ?_) (fun c18 => ?_)
  · have h := h.1 c18
    exact h
  · have h := h.2 c18
    refine a_aload_n (j := 0) d_Reader_advance_130 rfl rfl ?_
    refine b_getptr (q := 30) d_Reader_advance_131 fl_Reader_9 io_29 rfl rfl rfl ?_
    refine a_aload_n (j := 0) d_Reader_advance_134 rfl rfl ?_
    refine b_getfield (v := fs_i (M 29 6)) d_Reader_advance_135 fl_Reader_28 io_29 rfl ?_
    refine b_iaload (v := M 30 (M 29 6)) d_Reader_advance_138 ia_30 o16 o17 rfl ?_
    refine a_bipush d_Reader_advance_139 (by decide) ?_
    refine a_icmp_gt (tgt := 151) d_Reader_advance_141 rfl (fun c19 => ?_) (fun c19 => ?_)
    · have h := h.1 c19
      exact h
    · have h := h.2 c19
      refine a_aload_n (j := 0) d_Reader_advance_144 rfl rfl ?_
      refine b_virtual (dc := 2) (ci := 7) (T := fs_T7) (N := 12) [] [] d_Reader_advance_145 ml_Reader_224 k_Reader_readNumber v_Reader_readNumber rfl io_29 rfl (Nat.le_of_ble_eq_true rfl) rfl (Nat.le_of_ble_eq_true rfl) ?_
      refine fs_Call.mono (fun v M2 hv => ?_) h
      obtain ⟨rfl, h⟩ := hv
      show fs_A2 g m_Reader_advance 3 148 [(0, fs_r 29)] [] M2 K
      refine a_goto (tgt := 192) d_Reader_advance_148 rfl ?_
      exact b_return d_Reader_advance_192 rfl h
set_option maxRecDepth 8000 in
set_option maxHeartbeats 4000000 in
theorem L_Reader_advance_151 {M : fs_M} {K : fs_K} 
    (h : (0 ≤ M 29 6 ∧ M 29 6 < 600 ∧ ((M 29 5 ≤ fs_w32 ((M 29 6) + 1) → fs_C2 g m_Reader_readSign 1 [fs_r 29, fs_i (M 30 (M 29 6)), fs_i 0] M (fun v M3 => v = none ∧ K none M3)) ∧ (¬ M 29 5 ≤ fs_w32 ((M 29 6) + 1) → (0 ≤ fs_w32 ((M 29 6) + 1) ∧ fs_w32 ((M 29 6) + 1) < 600 ∧ fs_C2 g m_Reader_readSign 1 [fs_r 29, fs_i (M 30 (M 29 6)), fs_i (M 30 (fs_w32 ((M 29 6) + 1)))] M (fun v M4 => v = none ∧ K none M4)))))) :
    fs_A2 g m_Reader_advance 3 151 [(0, fs_r 29)] [] M K := by
  refine a_aload_n (j := 0) d_Reader_advance_151 rfl rfl ?_
  refine a_aload_n (j := 0) d_Reader_advance_152 rfl rfl ?_
  refine b_getptr (q := 30) d_Reader_advance_153 fl_Reader_9 io_29 rfl rfl rfl ?_
  refine a_aload_n (j := 0) d_Reader_advance_156 rfl rfl ?_
  refine b_getfield (v := fs_i (M 29 6)) d_Reader_advance_157 fl_Reader_28 io_29 rfl ?_
  obtain ⟨o20, o21, h⟩ := h
  refine b_iaload (v := M 30 (M 29 6)) d_Reader_advance_160 ia_30 o20 o21 rfl ?_
  refine a_aload_n (j := 0) d_Reader_advance_161 rfl rfl ?_
  refine b_getfield (v := fs_i (M 29 6)) d_Reader_advance_162 fl_Reader_28 io_29 rfl ?_
  refine a_iconst d_Reader_advance_165 (by unfold fs_in32; omega) ?_
  refine a_iadd d_Reader_advance_166 ?_
  refine a_aload_n (j := 0) d_Reader_advance_167 rfl rfl ?_
  refine b_getfield (v := fs_i (M 29 5)) d_Reader_advance_168 fl_Reader_25 io_29 rfl ?_
  refine a_icmp_ge (tgt := 188) d_Reader_advance_171 rfl (fun c22 => ?_) (fun c22 => ?_)
  · have h := h.1 c22
    refine a_iconst d_Reader_advance_188 (by unfold fs_in32; omega) ?_
    refine b_virtual (dc := 1) (ci := 7) (T := fs_T7) (N := 12) [fs_i (M 30 (M 29 6)), fs_i 0] [] d_Reader_advance_189 ml_Reader_227 k_Reader_readSign v_Reader_readSign rfl io_29 rfl (Nat.le_of_ble_eq_true rfl) rfl (Nat.le_of_ble_eq_true rfl) ?_
    refine fs_Call.mono (fun v M3 hv => ?_) h
    obtain ⟨rfl, h⟩ := hv
    show fs_A2 g m_Reader_advance 3 192 [(0, fs_r 29)] [] M3 K
    exact b_return d_Reader_advance_192 rfl h
  · have h := h.2 c22
    refine a_aload_n (j := 0) d_Reader_advance_174 rfl rfl ?_
    refine b_getptr (q := 30) d_Reader_advance_175 fl_Reader_9 io_29 rfl rfl rfl ?_
    refine a_aload_n (j := 0) d_Reader_advance_178 rfl rfl ?_
    refine b_getfield (v := fs_i (M 29 6)) d_Reader_advance_179 fl_Reader_28 io_29 rfl ?_
    refine a_iconst d_Reader_advance_182 (by unfold fs_in32; omega) ?_
    refine a_iadd d_Reader_advance_183 ?_
    obtain ⟨o23, o24, h⟩ := h
    refine b_iaload (v := M 30 (fs_w32 ((M 29 6) + 1))) d_Reader_advance_184 ia_30 o23 o24 rfl ?_
    refine a_goto (tgt := 189) d_Reader_advance_185 rfl ?_
    refine b_virtual (dc := 1) (ci := 7) (T := fs_T7) (N := 12) [fs_i (M 30 (M 29 6)), fs_i (M 30 (fs_w32 ((M 29 6) + 1)))] [] d_Reader_advance_189 ml_Reader_227 k_Reader_readSign v_Reader_readSign rfl io_29 rfl (Nat.le_of_ble_eq_true rfl) rfl (Nat.le_of_ble_eq_true rfl) ?_
    refine fs_Call.mono (fun v M4 hv => ?_) h
    obtain ⟨rfl, h⟩ := hv
    show fs_A2 g m_Reader_advance 3 192 [(0, fs_r 29)] [] M4 K
    exact b_return d_Reader_advance_192 rfl h
set_option maxRecDepth 8000 in
set_option maxHeartbeats 4000000 in
theorem E_Reader_readWord {M : fs_M} {K : fs_K} 
    (h : fs_A2 g m_Reader_readWord 2 5 [(0, fs_r 29)] [] (fs_st M 29 10 0) K) :
    fs_C2 g m_Reader_readWord 2 [fs_r 29] M K := by
  refine b_enter2 (ls := [(0, fs_r 29)]) (plainFor_of_name pn_Reader) (Nat.le_of_ble_eq_true rfl) rfl ?_
  refine a_aload_n (j := 0) d_Reader_readWord_0 rfl rfl ?_
  refine a_iconst d_Reader_readWord_1 (by unfold fs_in32; omega) ?_
  refine b_putfield (x := 0) d_Reader_readWord_2 fl_Reader_46 io_29 rfl rfl fs_nar_int ?_
  exact h
set_option maxRecDepth 8000 in
set_option maxHeartbeats 4000000 in
theorem L_Reader_readWord_5 {M : fs_M} {K : fs_K} 
    (h : ((M 29 5 ≤ M 29 6 → fs_A2 g m_Reader_readWord 2 86 [(0, fs_r 29)] [] M K) ∧ (¬ M 29 5 ≤ M 29 6 → (0 ≤ M 29 6 ∧ M 29 6 < 600 ∧ ((M 30 (M 29 6) < 97 → fs_A2 g m_Reader_readWord 2 86 [(0, fs_r 29)] [] M K) ∧ (¬ M 30 (M 29 6) < 97 → ((122 < M 30 (M 29 6) → fs_A2 g m_Reader_readWord 2 86 [(0, fs_r 29)] [] M K) ∧ (¬ 122 < M 30 (M 29 6) → fs_C2 g m_Token_withLetter 1 [fs_i (M 29 10), fs_i (fs_w32 ((M 29 6) - (M 29 8))), fs_i (M 30 (M 29 6))] M (fun v M1 => ∃ r1, v = some (fs_i r1) ∧ fs_A2 g m_Reader_readWord 2 5 [(0, fs_r 29)] [] (fs_st (fs_st M1 29 10 r1) 29 6 (fs_w32 ((M1 29 6) + 1))) K))))))))) :
    fs_A2 g m_Reader_readWord 2 5 [(0, fs_r 29)] [] M K := by
  refine a_aload_n (j := 0) d_Reader_readWord_5 rfl rfl ?_
  refine b_getfield (v := fs_i (M 29 6)) d_Reader_readWord_6 fl_Reader_28 io_29 rfl ?_
  refine a_aload_n (j := 0) d_Reader_readWord_9 rfl rfl ?_
  refine b_getfield (v := fs_i (M 29 5)) d_Reader_readWord_10 fl_Reader_25 io_29 rfl ?_
  refine a_icmp_ge (tgt := 86) d_Reader_readWord_13 rfl (fun c1 => ?_) (fun c1 => ?_)
  · have h := h.1 c1
    exact h
  · have h := h.2 c1
    refine a_aload_n (j := 0) d_Reader_readWord_16 rfl rfl ?_
    refine b_getptr (q := 30) d_Reader_readWord_17 fl_Reader_9 io_29 rfl rfl rfl ?_
    refine a_aload_n (j := 0) d_Reader_readWord_20 rfl rfl ?_
    refine b_getfield (v := fs_i (M 29 6)) d_Reader_readWord_21 fl_Reader_28 io_29 rfl ?_
    obtain ⟨o2, o3, h⟩ := h
    refine b_iaload (v := M 30 (M 29 6)) d_Reader_readWord_24 ia_30 o2 o3 rfl ?_
    refine a_bipush d_Reader_readWord_25 (by decide) ?_
    refine a_icmp_lt (tgt := 86) d_Reader_readWord_27 rfl (fun c4 => ?_) (fun c4 => ?_)
    · have h := h.1 c4
      exact h
    · have h := h.2 c4
      refine a_aload_n (j := 0) d_Reader_readWord_30 rfl rfl ?_
      refine b_getptr (q := 30) d_Reader_readWord_31 fl_Reader_9 io_29 rfl rfl rfl ?_
      refine a_aload_n (j := 0) d_Reader_readWord_34 rfl rfl ?_
      refine b_getfield (v := fs_i (M 29 6)) d_Reader_readWord_35 fl_Reader_28 io_29 rfl ?_
      refine b_iaload (v := M 30 (M 29 6)) d_Reader_readWord_38 ia_30 o2 o3 rfl ?_
      refine a_bipush d_Reader_readWord_39 (by decide) ?_
      refine a_icmp_gt (tgt := 86) d_Reader_readWord_41 rfl (fun c5 => ?_) (fun c5 => ?_)
      · have h := h.1 c5
        exact h
      · have h := h.2 c5
        refine a_aload_n (j := 0) d_Reader_readWord_44 rfl rfl ?_
        refine a_aload_n (j := 0) d_Reader_readWord_45 rfl rfl ?_
        refine b_getfield (v := fs_i (M 29 10)) d_Reader_readWord_46 fl_Reader_46 io_29 rfl ?_
        refine a_aload_n (j := 0) d_Reader_readWord_49 rfl rfl ?_
        refine b_getfield (v := fs_i (M 29 6)) d_Reader_readWord_50 fl_Reader_28 io_29 rfl ?_
        refine a_aload_n (j := 0) d_Reader_readWord_53 rfl rfl ?_
        refine b_getfield (v := fs_i (M 29 8)) d_Reader_readWord_54 fl_Reader_40 io_29 rfl ?_
        refine a_isub d_Reader_readWord_57 ?_
        refine a_aload_n (j := 0) d_Reader_readWord_58 rfl rfl ?_
        refine b_getptr (q := 30) d_Reader_readWord_59 fl_Reader_9 io_29 rfl rfl rfl ?_
        refine a_aload_n (j := 0) d_Reader_readWord_62 rfl rfl ?_
        refine b_getfield (v := fs_i (M 29 6)) d_Reader_readWord_63 fl_Reader_28 io_29 rfl ?_
        refine b_iaload (v := M 30 (M 29 6)) d_Reader_readWord_66 ia_30 o2 o3 rfl ?_
        refine b_static (dc := 1) [fs_i (M 29 10), fs_i (fs_w32 ((M 29 6) - (M 29 8))), fs_i (M 30 (M 29 6))] [fs_r 29] d_Reader_readWord_67 ml_Reader_231 k_Token_withLetter s_Token_withLetter rfl (Nat.le_of_ble_eq_true rfl) rfl (Nat.le_of_ble_eq_true rfl) ?_
        refine fs_Call.mono (fun v M1 hv => ?_) h
        obtain ⟨r1, rfl, h⟩ := hv
        show fs_A2 g m_Reader_readWord 2 70 [(0, fs_r 29)] [fs_i r1, fs_r 29] M1 K
        refine b_putfield (x := r1) d_Reader_readWord_70 fl_Reader_46 io_29 rfl rfl fs_nar_int ?_
        refine a_aload_n (j := 0) d_Reader_readWord_73 rfl rfl ?_
        refine a_dup d_Reader_readWord_74 rfl ?_
        refine b_getfield (v := fs_i (M1 29 6)) d_Reader_readWord_75 fl_Reader_28 io_29 rfl ?_
        refine a_iconst d_Reader_readWord_78 (by unfold fs_in32; omega) ?_
        refine a_iadd d_Reader_readWord_79 ?_
        refine b_putfield (x := (fs_w32 ((M1 29 6) + 1))) d_Reader_readWord_80 fl_Reader_28 io_29 rfl rfl fs_nar_int ?_
        refine a_goto (tgt := 5) d_Reader_readWord_83 rfl ?_
        exact h
set_option maxRecDepth 8000 in
set_option maxHeartbeats 4000000 in
theorem L_Reader_readWord_86 {M : fs_M} {K : fs_K} 
    (h : ((fs_w32 ((M 29 6) - (M 29 8)) ≤ 6 → fs_A2 g m_Reader_readWord 2 115 [(0, fs_r 29), (1, fs_i 0)] [] (fs_st M 29 7 1034) K) ∧ (¬ fs_w32 ((M 29 6) - (M 29 8)) ≤ 6 → fs_A2 g m_Reader_readWord 2 115 [(0, fs_r 29), (1, fs_i 0)] [] (fs_st M 29 7 1036) K))) :
    fs_A2 g m_Reader_readWord 2 86 [(0, fs_r 29)] [] M K := by
  refine a_aload_n (j := 0) d_Reader_readWord_86 rfl rfl ?_
  refine a_aload_n (j := 0) d_Reader_readWord_87 rfl rfl ?_
  refine b_getfield (v := fs_i (M 29 6)) d_Reader_readWord_88 fl_Reader_28 io_29 rfl ?_
  refine a_aload_n (j := 0) d_Reader_readWord_91 rfl rfl ?_
  refine b_getfield (v := fs_i (M 29 8)) d_Reader_readWord_92 fl_Reader_40 io_29 rfl ?_
  refine a_isub d_Reader_readWord_95 ?_
  refine a_bipush d_Reader_readWord_96 (by decide) ?_
  refine a_icmp_le (tgt := 107) d_Reader_readWord_98 rfl (fun c6 => ?_) (fun c6 => ?_)
  · have h := h.1 c6
    refine a_getstatic (v := fs_r 1034) d_Reader_readWord_107 gs_Reader_214 (fs_Ztok (i := 34) (by decide) rfl rfl) (by show fs_in32 1034; unfold fs_in32; omega) ?_
    refine b_putfield (x := 1034) d_Reader_readWord_110 fl_Reader_37 io_29 rfl rfl fs_nar_obj ?_
    refine a_iconst d_Reader_readWord_113 (by unfold fs_in32; omega) ?_
    refine a_istore_n d_Reader_readWord_114 rfl (Nat.le_of_ble_eq_true rfl) [1, 0] rfl ?_
    exact h
  · have h := h.2 c6
    refine a_getstatic (v := fs_r 1036) d_Reader_readWord_101 gs_Reader_235 (fs_Ztok (i := 36) (by decide) rfl rfl) (by show fs_in32 1036; unfold fs_in32; omega) ?_
    refine a_goto (tgt := 110) d_Reader_readWord_104 rfl ?_
    refine b_putfield (x := 1036) d_Reader_readWord_110 fl_Reader_37 io_29 rfl rfl fs_nar_obj ?_
    refine a_iconst d_Reader_readWord_113 (by unfold fs_in32; omega) ?_
    refine a_istore_n d_Reader_readWord_114 rfl (Nat.le_of_ble_eq_true rfl) [1, 0] rfl ?_
    exact h
set_option maxRecDepth 8000 in
set_option maxHeartbeats 4000000 in
theorem L_Reader_readWord_115 {M : fs_M} {K : fs_K} {x1 : Int} 
    (h : ((37 ≤ x1 → K none M) ∧ (¬ 37 ≤ x1 → (fs_tk (M 29 7) ∧ ((¬ M 29 7 = 1034 → K none M) ∧ (M 29 7 = 1034 → (0 ≤ x1 ∧ ((¬ fs_lets (1000 + x1) = M 29 10 → fs_A2 g m_Reader_readWord 2 115 [(0, fs_r 29), (1, fs_i (fs_w32 (x1 + 1)))] [] M K) ∧ (fs_lets (1000 + x1) = M 29 10 → fs_A2 g m_Reader_readWord 2 115 [(0, fs_r 29), (1, fs_i (fs_w32 (x1 + 1)))] [] (fs_st M 29 7 (1000 + x1)) K))))))))) :
    fs_A2 g m_Reader_readWord 2 115 [(0, fs_r 29), (1, fs_i x1)] [] M K := by
  refine a_iload_n (j := 1) d_Reader_readWord_115 rfl rfl ?_
  refine a_getstatic (v := fs_r 2000) d_Reader_readWord_116 gs_Reader_238 fs_ZTOK (by show fs_in32 2000; unfold fs_in32; omega) ?_
  refine a_toklen d_Reader_readWord_119 ?_
  refine a_icmp_ge (tgt := 163) d_Reader_readWord_120 rfl (fun c7 => ?_) (fun c7 => ?_)
  · have h := h.1 c7
    exact b_return d_Reader_readWord_163 rfl h
  · have h := h.2 c7
    refine a_aload_n (j := 0) d_Reader_readWord_123 rfl rfl ?_
    refine b_getfield (v := fs_r (M 29 7)) d_Reader_readWord_124 fl_Reader_37 io_29 rfl ?_
    refine a_getstatic (v := fs_r 1034) d_Reader_readWord_127 gs_Reader_214 (fs_Ztok (i := 34) (by decide) rfl rfl) (by show fs_in32 1034; unfold fs_in32; omega) ?_
    obtain ⟨o8, h⟩ := h
    refine a_acmp_ne (tgt := 163) d_Reader_readWord_130 rfl (Or.inl o8) (Or.inl tk_1034) (fun c9 => ?_) (fun c9 => ?_)
    · have h := h.1 c9
      exact b_return d_Reader_readWord_163 rfl h
    · have h := h.2 c9
      refine a_getstatic (v := fs_r 2000) d_Reader_readWord_133 gs_Reader_238 fs_ZTOK (by show fs_in32 2000; unfold fs_in32; omega) ?_
      refine a_iload_n (j := 1) d_Reader_readWord_136 rfl rfl ?_
      obtain ⟨o10, h⟩ := h
      refine a_tokload d_Reader_readWord_137 o10 (by omega : x1 < 37) rfl ?_
      refine a_getOF (v := fs_i (fs_lets (1000 + x1))) d_Reader_readWord_138 gs_Reader_242 ((fs_tkof o10 (by omega : x1 < 37))).1 (fs_OFt (fs_tkof o10 (by omega : x1 < 37)) fs_mF1 rfl) (fs_I_in _) ?_
      refine a_aload_n (j := 0) d_Reader_readWord_141 rfl rfl ?_
      refine b_getfield (v := fs_i (M 29 10)) d_Reader_readWord_142 fl_Reader_46 io_29 rfl ?_
      refine a_icmp_ne (tgt := 157) d_Reader_readWord_145 rfl (fun c11 => ?_) (fun c11 => ?_)
      · have h := h.1 c11
        refine a_iinc (j := 1) d_Reader_readWord_157 rfl (Nat.le_of_ble_eq_true rfl) [1, 0] rfl ?_
        refine a_goto (tgt := 115) d_Reader_readWord_160 rfl ?_
        exact h
      · have h := h.2 c11
        refine a_aload_n (j := 0) d_Reader_readWord_148 rfl rfl ?_
        refine a_getstatic (v := fs_r 2000) d_Reader_readWord_149 gs_Reader_238 fs_ZTOK (by show fs_in32 2000; unfold fs_in32; omega) ?_
        refine a_iload_n (j := 1) d_Reader_readWord_152 rfl rfl ?_
        refine a_tokload d_Reader_readWord_153 o10 (by omega : x1 < 37) rfl ?_
        refine b_putfield (x := (1000 + x1)) d_Reader_readWord_154 fl_Reader_37 io_29 rfl rfl fs_nar_obj ?_
        refine a_iinc (j := 1) d_Reader_readWord_157 rfl (Nat.le_of_ble_eq_true rfl) [1, 0] rfl ?_
        refine a_goto (tgt := 115) d_Reader_readWord_160 rfl ?_
        exact h
set_option maxRecDepth 8000 in
set_option maxHeartbeats 4000000 in
theorem E_Reader_readNumber {M : fs_M} {K : fs_K} 
    (h : fs_A2 g m_Reader_readNumber 2 12 [(0, fs_r 29)] [] (fs_st (fs_st M 29 7 1017) 29 9 0) K) :
    fs_C2 g m_Reader_readNumber 2 [fs_r 29] M K := by
  refine b_enter2 (ls := [(0, fs_r 29)]) (plainFor_of_name pn_Reader) (Nat.le_of_ble_eq_true rfl) rfl ?_
  refine a_aload_n (j := 0) d_Reader_readNumber_0 rfl rfl ?_
  refine a_getstatic (v := fs_r 1017) d_Reader_readNumber_1 gs_Reader_211 (fs_Ztok (i := 17) (by decide) rfl rfl) (by show fs_in32 1017; unfold fs_in32; omega) ?_
  refine b_putfield (x := 1017) d_Reader_readNumber_4 fl_Reader_37 io_29 rfl rfl fs_nar_obj ?_
  refine a_aload_n (j := 0) d_Reader_readNumber_7 rfl rfl ?_
  refine a_iconst d_Reader_readNumber_8 (by unfold fs_in32; omega) ?_
  refine b_putfield (x := 0) d_Reader_readNumber_9 fl_Reader_43 io_29 rfl rfl fs_nar_int ?_
  exact h
set_option maxRecDepth 8000 in
set_option maxHeartbeats 4000000 in
theorem L_Reader_readNumber_12 {M : fs_M} {K : fs_K} 
    (h : ((M 29 5 ≤ M 29 6 → K none M) ∧ (¬ M 29 5 ≤ M 29 6 → (0 ≤ M 29 6 ∧ M 29 6 < 600 ∧ ((M 30 (M 29 6) < 48 → K none M) ∧ (¬ M 30 (M 29 6) < 48 → ((57 < M 30 (M 29 6) → K none M) ∧ (¬ 57 < M 30 (M 29 6) → fs_C2 g m_Math_min_I 1 [fs_i (fs_w32 ((fs_w32 ((fs_w32 ((M 29 9) * 10)) + (M 30 (M 29 6)))) - 48)), fs_i 100000] M (fun v M1 => ∃ r1, v = some (fs_i r1) ∧ fs_A2 g m_Reader_readNumber 2 12 [(0, fs_r 29)] [] (fs_st (fs_st M1 29 9 r1) 29 6 (fs_w32 ((M1 29 6) + 1))) K))))))))) :
    fs_A2 g m_Reader_readNumber 2 12 [(0, fs_r 29)] [] M K := by
  refine a_aload_n (j := 0) d_Reader_readNumber_12 rfl rfl ?_
  refine b_getfield (v := fs_i (M 29 6)) d_Reader_readNumber_13 fl_Reader_28 io_29 rfl ?_
  refine a_aload_n (j := 0) d_Reader_readNumber_16 rfl rfl ?_
  refine b_getfield (v := fs_i (M 29 5)) d_Reader_readNumber_17 fl_Reader_25 io_29 rfl ?_
  refine a_icmp_ge (tgt := 93) d_Reader_readNumber_20 rfl (fun c1 => ?_) (fun c1 => ?_)
  · have h := h.1 c1
    exact b_return d_Reader_readNumber_93 rfl h
  · have h := h.2 c1
    refine a_aload_n (j := 0) d_Reader_readNumber_23 rfl rfl ?_
    refine b_getptr (q := 30) d_Reader_readNumber_24 fl_Reader_9 io_29 rfl rfl rfl ?_
    refine a_aload_n (j := 0) d_Reader_readNumber_27 rfl rfl ?_
    refine b_getfield (v := fs_i (M 29 6)) d_Reader_readNumber_28 fl_Reader_28 io_29 rfl ?_
    obtain ⟨o2, o3, h⟩ := h
    refine b_iaload (v := M 30 (M 29 6)) d_Reader_readNumber_31 ia_30 o2 o3 rfl ?_
    refine a_bipush d_Reader_readNumber_32 (by decide) ?_
    refine a_icmp_lt (tgt := 93) d_Reader_readNumber_34 rfl (fun c4 => ?_) (fun c4 => ?_)
    · have h := h.1 c4
      exact b_return d_Reader_readNumber_93 rfl h
    · have h := h.2 c4
      refine a_aload_n (j := 0) d_Reader_readNumber_37 rfl rfl ?_
      refine b_getptr (q := 30) d_Reader_readNumber_38 fl_Reader_9 io_29 rfl rfl rfl ?_
      refine a_aload_n (j := 0) d_Reader_readNumber_41 rfl rfl ?_
      refine b_getfield (v := fs_i (M 29 6)) d_Reader_readNumber_42 fl_Reader_28 io_29 rfl ?_
      refine b_iaload (v := M 30 (M 29 6)) d_Reader_readNumber_45 ia_30 o2 o3 rfl ?_
      refine a_bipush d_Reader_readNumber_46 (by decide) ?_
      refine a_icmp_gt (tgt := 93) d_Reader_readNumber_48 rfl (fun c5 => ?_) (fun c5 => ?_)
      · have h := h.1 c5
        exact b_return d_Reader_readNumber_93 rfl h
      · have h := h.2 c5
        refine a_aload_n (j := 0) d_Reader_readNumber_51 rfl rfl ?_
        refine a_aload_n (j := 0) d_Reader_readNumber_52 rfl rfl ?_
        refine b_getfield (v := fs_i (M 29 9)) d_Reader_readNumber_53 fl_Reader_43 io_29 rfl ?_
        refine a_bipush d_Reader_readNumber_56 (by decide) ?_
        refine a_imul d_Reader_readNumber_58 ?_
        refine a_aload_n (j := 0) d_Reader_readNumber_59 rfl rfl ?_
        refine b_getptr (q := 30) d_Reader_readNumber_60 fl_Reader_9 io_29 rfl rfl rfl ?_
        refine a_aload_n (j := 0) d_Reader_readNumber_63 rfl rfl ?_
        refine b_getfield (v := fs_i (M 29 6)) d_Reader_readNumber_64 fl_Reader_28 io_29 rfl ?_
        refine b_iaload (v := M 30 (M 29 6)) d_Reader_readNumber_67 ia_30 o2 o3 rfl ?_
        refine a_iadd d_Reader_readNumber_68 ?_
        refine a_bipush d_Reader_readNumber_69 (by decide) ?_
        refine a_isub d_Reader_readNumber_71 ?_
        refine a_ldc d_Reader_readNumber_72 cn_Reader_243 (by unfold fs_in32; omega) ?_
        refine b_static (dc := 1) [fs_i (fs_w32 ((fs_w32 ((fs_w32 ((M 29 9) * 10)) + (M 30 (M 29 6)))) - 48)), fs_i 100000] [fs_r 29] d_Reader_readNumber_74 ml_Reader_61 k_Math_min_I s_Math_min_I rfl (Nat.le_of_ble_eq_true rfl) rfl (Nat.le_of_ble_eq_true rfl) ?_
        refine fs_Call.mono (fun v M1 hv => ?_) h
        obtain ⟨r1, rfl, h⟩ := hv
        show fs_A2 g m_Reader_readNumber 2 77 [(0, fs_r 29)] [fs_i r1, fs_r 29] M1 K
        refine b_putfield (x := r1) d_Reader_readNumber_77 fl_Reader_43 io_29 rfl rfl fs_nar_int ?_
        refine a_aload_n (j := 0) d_Reader_readNumber_80 rfl rfl ?_
        refine a_dup d_Reader_readNumber_81 rfl ?_
        refine b_getfield (v := fs_i (M1 29 6)) d_Reader_readNumber_82 fl_Reader_28 io_29 rfl ?_
        refine a_iconst d_Reader_readNumber_85 (by unfold fs_in32; omega) ?_
        refine a_iadd d_Reader_readNumber_86 ?_
        refine b_putfield (x := (fs_w32 ((M1 29 6) + 1))) d_Reader_readNumber_87 fl_Reader_28 io_29 rfl rfl fs_nar_int ?_
        refine a_goto (tgt := 12) d_Reader_readNumber_90 rfl ?_
        exact h
set_option maxRecDepth 8000 in
set_option maxHeartbeats 4000000 in
theorem E_Reader_readSign {M : fs_M} {K : fs_K} {x1 x2 : Int} 
    (h : ((x1 = 60 → ((x2 = 61 → fs_A2 g m_Reader_readSign 1 125 [(0, fs_r 29), (2, fs_i x2)] [fs_i 2] M K) ∧ (¬ x2 = 61 → ((¬ x2 = 62 → fs_A2 g m_Reader_readSign 1 125 [(0, fs_r 29), (2, fs_i x2)] [fs_i 1] M K) ∧ (x2 = 62 → fs_A2 g m_Reader_readSign 1 125 [(0, fs_r 29), (2, fs_i x2)] [fs_i 2] M K))))) ∧ (x1 = 62 → ((¬ x2 = 61 → fs_A2 g m_Reader_readSign 1 171 [(0, fs_r 29), (2, fs_i x2)] [fs_i 1] M K) ∧ (x2 = 61 → fs_A2 g m_Reader_readSign 1 171 [(0, fs_r 29), (2, fs_i x2)] [fs_i 2] M K))) ∧ (x1 = 61 → fs_A2 g m_Reader_readSign 1 281 [(0, fs_r 29), (3, fs_i 1)] [] (fs_st M 29 7 1023) K) ∧ (x1 = 43 → fs_A2 g m_Reader_readSign 1 281 [(0, fs_r 29), (3, fs_i 1)] [] (fs_st M 29 7 1027) K) ∧ (x1 = 45 → fs_A2 g m_Reader_readSign 1 281 [(0, fs_r 29), (3, fs_i 1)] [] (fs_st M 29 7 1028) K) ∧ (x1 = 42 → fs_A2 g m_Reader_readSign 1 281 [(0, fs_r 29), (3, fs_i 1)] [] (fs_st M 29 7 1029) K) ∧ (x1 = 47 → fs_A2 g m_Reader_readSign 1 281 [(0, fs_r 29), (3, fs_i 1)] [] (fs_st M 29 7 1030) K) ∧ (x1 = 40 → fs_A2 g m_Reader_readSign 1 281 [(0, fs_r 29), (3, fs_i 1)] [] (fs_st M 29 7 1031) K) ∧ (x1 = 41 → fs_A2 g m_Reader_readSign 1 281 [(0, fs_r 29), (3, fs_i 1)] [] (fs_st M 29 7 1032) K) ∧ (x1 = 59 → fs_A2 g m_Reader_readSign 1 281 [(0, fs_r 29), (3, fs_i 1)] [] (fs_st M 29 7 1033) K) ∧ (¬ x1 = 60 ∧ ¬ x1 = 62 ∧ ¬ x1 = 61 ∧ ¬ x1 = 43 ∧ ¬ x1 = 45 ∧ ¬ x1 = 42 ∧ ¬ x1 = 47 ∧ ¬ x1 = 40 ∧ ¬ x1 = 41 ∧ ¬ x1 = 59 → fs_A2 g m_Reader_readSign 1 281 [(0, fs_r 29), (3, fs_i 1)] [] (fs_st M 29 7 1036) K))) :
    fs_C2 g m_Reader_readSign 1 [fs_r 29, fs_i x1, fs_i x2] M K := by
  refine b_enter2 (ls := [(0, fs_r 29), (1, fs_i x1), (2, fs_i x2)]) (plainFor_of_name pn_Reader) (Nat.le_of_ble_eq_true rfl) rfl ?_
  refine a_iconst d_Reader_readSign_0 (by unfold fs_in32; omega) ?_
  refine a_istore_n d_Reader_readSign_1 rfl (Nat.le_of_ble_eq_true rfl) [1, 2, 3, 0] rfl ?_
  refine a_iload_n (j := 1) d_Reader_readSign_2 rfl rfl ?_
  obtain ⟨hs3_0, hs3_1, hs3_2, hs3_3, hs3_4, hs3_5, hs3_6, hs3_7, hs3_8, hs3_9, hs3_10⟩ := h
  by_cases q3_60 : x1 = 60
  · have h := hs3_0 q3_60
    refine a_tableIn (tgt := 108) d_Reader_readSign_3 (by omega) (by omega) (by rw [q3_60]; rfl) rfl ?_
    refine a_iload_n (j := 2) d_Reader_readSign_108 rfl rfl ?_
    refine a_bipush d_Reader_readSign_109 (by decide) ?_
    refine a_icmp_eq (tgt := 120) d_Reader_readSign_111 rfl (fun c1 => ?_) (fun c1 => ?_)
    · have h := h.1 c1
      refine a_iconst d_Reader_readSign_120 (by unfold fs_in32; omega) ?_
      refine a_goto (tgt := 125) d_Reader_readSign_121 rfl ?_
      refine a_sub [0, 2] rfl ?_
      exact h
    · have h := h.2 c1
      refine a_iload_n (j := 2) d_Reader_readSign_114 rfl rfl ?_
      refine a_bipush d_Reader_readSign_115 (by decide) ?_
      refine a_icmp_ne (tgt := 124) d_Reader_readSign_117 rfl (fun c2 => ?_) (fun c2 => ?_)
      · have h := h.1 c2
        refine a_iconst d_Reader_readSign_124 (by unfold fs_in32; omega) ?_
        refine a_sub [0, 2] rfl ?_
        exact h
      · have h := h.2 c2
        refine a_iconst d_Reader_readSign_120 (by unfold fs_in32; omega) ?_
        refine a_goto (tgt := 125) d_Reader_readSign_121 rfl ?_
        refine a_sub [0, 2] rfl ?_
        exact h
  ·
    by_cases q3_62 : x1 = 62
    · have h := hs3_1 q3_62
      refine a_tableIn (tgt := 160) d_Reader_readSign_3 (by omega) (by omega) (by rw [q3_62]; rfl) rfl ?_
      refine a_iload_n (j := 2) d_Reader_readSign_160 rfl rfl ?_
      refine a_bipush d_Reader_readSign_161 (by decide) ?_
      refine a_icmp_ne (tgt := 170) d_Reader_readSign_163 rfl (fun c3 => ?_) (fun c3 => ?_)
      · have h := h.1 c3
        refine a_iconst d_Reader_readSign_170 (by unfold fs_in32; omega) ?_
        refine a_sub [0, 2] rfl ?_
        exact h
      · have h := h.2 c3
        refine a_iconst d_Reader_readSign_166 (by unfold fs_in32; omega) ?_
        refine a_goto (tgt := 171) d_Reader_readSign_167 rfl ?_
        refine a_sub [0, 2] rfl ?_
        exact h
    ·
      by_cases q3_61 : x1 = 61
      · have h := hs3_2 q3_61
        refine a_tableIn (tgt := 194) d_Reader_readSign_3 (by omega) (by omega) (by rw [q3_61]; rfl) rfl ?_
        refine a_aload_n (j := 0) d_Reader_readSign_194 rfl rfl ?_
        refine a_getstatic (v := fs_r 1023) d_Reader_readSign_195 gs_Reader_259 (fs_Ztok (i := 23) (by decide) rfl rfl) (by show fs_in32 1023; unfold fs_in32; omega) ?_
        refine b_putfield (x := 1023) d_Reader_readSign_198 fl_Reader_37 io_29 rfl rfl fs_nar_obj ?_
        refine a_goto (tgt := 281) d_Reader_readSign_201 rfl ?_
        refine a_sub [0, 3] rfl ?_
        exact h
      ·
        by_cases q3_43 : x1 = 43
        · have h := hs3_3 q3_43
          refine a_tableIn (tgt := 204) d_Reader_readSign_3 (by omega) (by omega) (by rw [q3_43]; rfl) rfl ?_
          refine a_aload_n (j := 0) d_Reader_readSign_204 rfl rfl ?_
          refine a_getstatic (v := fs_r 1027) d_Reader_readSign_205 gs_Reader_262 (fs_Ztok (i := 27) (by decide) rfl rfl) (by show fs_in32 1027; unfold fs_in32; omega) ?_
          refine b_putfield (x := 1027) d_Reader_readSign_208 fl_Reader_37 io_29 rfl rfl fs_nar_obj ?_
          refine a_goto (tgt := 281) d_Reader_readSign_211 rfl ?_
          refine a_sub [0, 3] rfl ?_
          exact h
        ·
          by_cases q3_45 : x1 = 45
          · have h := hs3_4 q3_45
            refine a_tableIn (tgt := 214) d_Reader_readSign_3 (by omega) (by omega) (by rw [q3_45]; rfl) rfl ?_
            refine a_aload_n (j := 0) d_Reader_readSign_214 rfl rfl ?_
            refine a_getstatic (v := fs_r 1028) d_Reader_readSign_215 gs_Reader_265 (fs_Ztok (i := 28) (by decide) rfl rfl) (by show fs_in32 1028; unfold fs_in32; omega) ?_
            refine b_putfield (x := 1028) d_Reader_readSign_218 fl_Reader_37 io_29 rfl rfl fs_nar_obj ?_
            refine a_goto (tgt := 281) d_Reader_readSign_221 rfl ?_
            refine a_sub [0, 3] rfl ?_
            exact h
          ·
            by_cases q3_42 : x1 = 42
            · have h := hs3_5 q3_42
              refine a_tableIn (tgt := 224) d_Reader_readSign_3 (by omega) (by omega) (by rw [q3_42]; rfl) rfl ?_
              refine a_aload_n (j := 0) d_Reader_readSign_224 rfl rfl ?_
              refine a_getstatic (v := fs_r 1029) d_Reader_readSign_225 gs_Reader_268 (fs_Ztok (i := 29) (by decide) rfl rfl) (by show fs_in32 1029; unfold fs_in32; omega) ?_
              refine b_putfield (x := 1029) d_Reader_readSign_228 fl_Reader_37 io_29 rfl rfl fs_nar_obj ?_
              refine a_goto (tgt := 281) d_Reader_readSign_231 rfl ?_
              refine a_sub [0, 3] rfl ?_
              exact h
            ·
              by_cases q3_47 : x1 = 47
              · have h := hs3_6 q3_47
                refine a_tableIn (tgt := 234) d_Reader_readSign_3 (by omega) (by omega) (by rw [q3_47]; rfl) rfl ?_
                refine a_aload_n (j := 0) d_Reader_readSign_234 rfl rfl ?_
                refine a_getstatic (v := fs_r 1030) d_Reader_readSign_235 gs_Reader_271 (fs_Ztok (i := 30) (by decide) rfl rfl) (by show fs_in32 1030; unfold fs_in32; omega) ?_
                refine b_putfield (x := 1030) d_Reader_readSign_238 fl_Reader_37 io_29 rfl rfl fs_nar_obj ?_
                refine a_goto (tgt := 281) d_Reader_readSign_241 rfl ?_
                refine a_sub [0, 3] rfl ?_
                exact h
              ·
                by_cases q3_40 : x1 = 40
                · have h := hs3_7 q3_40
                  refine a_tableIn (tgt := 244) d_Reader_readSign_3 (by omega) (by omega) (by rw [q3_40]; rfl) rfl ?_
                  refine a_aload_n (j := 0) d_Reader_readSign_244 rfl rfl ?_
                  refine a_getstatic (v := fs_r 1031) d_Reader_readSign_245 gs_Reader_205 (fs_Ztok (i := 31) (by decide) rfl rfl) (by show fs_in32 1031; unfold fs_in32; omega) ?_
                  refine b_putfield (x := 1031) d_Reader_readSign_248 fl_Reader_37 io_29 rfl rfl fs_nar_obj ?_
                  refine a_goto (tgt := 281) d_Reader_readSign_251 rfl ?_
                  refine a_sub [0, 3] rfl ?_
                  exact h
                ·
                  by_cases q3_41 : x1 = 41
                  · have h := hs3_8 q3_41
                    refine a_tableIn (tgt := 254) d_Reader_readSign_3 (by omega) (by omega) (by rw [q3_41]; rfl) rfl ?_
                    refine a_aload_n (j := 0) d_Reader_readSign_254 rfl rfl ?_
                    refine a_getstatic (v := fs_r 1032) d_Reader_readSign_255 gs_Reader_208 (fs_Ztok (i := 32) (by decide) rfl rfl) (by show fs_in32 1032; unfold fs_in32; omega) ?_
                    refine b_putfield (x := 1032) d_Reader_readSign_258 fl_Reader_37 io_29 rfl rfl fs_nar_obj ?_
                    refine a_goto (tgt := 281) d_Reader_readSign_261 rfl ?_
                    refine a_sub [0, 3] rfl ?_
                    exact h
                  ·
                    by_cases q3_59 : x1 = 59
                    · have h := hs3_9 q3_59
                      refine a_tableIn (tgt := 264) d_Reader_readSign_3 (by omega) (by omega) (by rw [q3_59]; rfl) rfl ?_
                      refine a_aload_n (j := 0) d_Reader_readSign_264 rfl rfl ?_
                      refine a_getstatic (v := fs_r 1033) d_Reader_readSign_265 gs_Reader_99 (fs_Ztok (i := 33) (by decide) rfl rfl) (by show fs_in32 1033; unfold fs_in32; omega) ?_
                      refine b_putfield (x := 1033) d_Reader_readSign_268 fl_Reader_37 io_29 rfl rfl fs_nar_obj ?_
                      refine a_goto (tgt := 281) d_Reader_readSign_271 rfl ?_
                      refine a_sub [0, 3] rfl ?_
                      exact h
                    ·
                      have h := hs3_10 ⟨q3_60, q3_62, q3_61, q3_43, q3_45, q3_42, q3_47, q3_40, q3_41, q3_59⟩
                      by_cases q3_44 : x1 = 44
                      · refine a_tableIn (tgt := 274) d_Reader_readSign_3 (by omega) (by omega) (by rw [q3_44]; rfl) rfl ?_
                        refine a_aload_n (j := 0) d_Reader_readSign_274 rfl rfl ?_
                        refine a_getstatic (v := fs_r 1036) d_Reader_readSign_275 gs_Reader_235 (fs_Ztok (i := 36) (by decide) rfl rfl) (by show fs_in32 1036; unfold fs_in32; omega) ?_
                        refine b_putfield (x := 1036) d_Reader_readSign_278 fl_Reader_37 io_29 rfl rfl fs_nar_obj ?_
                        refine a_sub [0, 3] rfl ?_
                        exact h
                      ·
                        by_cases q3_46 : x1 = 46
                        · refine a_tableIn (tgt := 274) d_Reader_readSign_3 (by omega) (by omega) (by rw [q3_46]; rfl) rfl ?_
                          refine a_aload_n (j := 0) d_Reader_readSign_274 rfl rfl ?_
                          refine a_getstatic (v := fs_r 1036) d_Reader_readSign_275 gs_Reader_235 (fs_Ztok (i := 36) (by decide) rfl rfl) (by show fs_in32 1036; unfold fs_in32; omega) ?_
                          refine b_putfield (x := 1036) d_Reader_readSign_278 fl_Reader_37 io_29 rfl rfl fs_nar_obj ?_
                          refine a_sub [0, 3] rfl ?_
                          exact h
                        ·
                          by_cases q3_48 : x1 = 48
                          · refine a_tableIn (tgt := 274) d_Reader_readSign_3 (by omega) (by omega) (by rw [q3_48]; rfl) rfl ?_
                            refine a_aload_n (j := 0) d_Reader_readSign_274 rfl rfl ?_
                            refine a_getstatic (v := fs_r 1036) d_Reader_readSign_275 gs_Reader_235 (fs_Ztok (i := 36) (by decide) rfl rfl) (by show fs_in32 1036; unfold fs_in32; omega) ?_
                            refine b_putfield (x := 1036) d_Reader_readSign_278 fl_Reader_37 io_29 rfl rfl fs_nar_obj ?_
                            refine a_sub [0, 3] rfl ?_
                            exact h
                          ·
                            by_cases q3_49 : x1 = 49
                            · refine a_tableIn (tgt := 274) d_Reader_readSign_3 (by omega) (by omega) (by rw [q3_49]; rfl) rfl ?_
                              refine a_aload_n (j := 0) d_Reader_readSign_274 rfl rfl ?_
                              refine a_getstatic (v := fs_r 1036) d_Reader_readSign_275 gs_Reader_235 (fs_Ztok (i := 36) (by decide) rfl rfl) (by show fs_in32 1036; unfold fs_in32; omega) ?_
                              refine b_putfield (x := 1036) d_Reader_readSign_278 fl_Reader_37 io_29 rfl rfl fs_nar_obj ?_
                              refine a_sub [0, 3] rfl ?_
                              exact h
                            ·
                              by_cases q3_50 : x1 = 50
                              · refine a_tableIn (tgt := 274) d_Reader_readSign_3 (by omega) (by omega) (by rw [q3_50]; rfl) rfl ?_
                                refine a_aload_n (j := 0) d_Reader_readSign_274 rfl rfl ?_
                                refine a_getstatic (v := fs_r 1036) d_Reader_readSign_275 gs_Reader_235 (fs_Ztok (i := 36) (by decide) rfl rfl) (by show fs_in32 1036; unfold fs_in32; omega) ?_
                                refine b_putfield (x := 1036) d_Reader_readSign_278 fl_Reader_37 io_29 rfl rfl fs_nar_obj ?_
                                refine a_sub [0, 3] rfl ?_
                                exact h
                              ·
                                by_cases q3_51 : x1 = 51
                                · refine a_tableIn (tgt := 274) d_Reader_readSign_3 (by omega) (by omega) (by rw [q3_51]; rfl) rfl ?_
                                  refine a_aload_n (j := 0) d_Reader_readSign_274 rfl rfl ?_
                                  refine a_getstatic (v := fs_r 1036) d_Reader_readSign_275 gs_Reader_235 (fs_Ztok (i := 36) (by decide) rfl rfl) (by show fs_in32 1036; unfold fs_in32; omega) ?_
                                  refine b_putfield (x := 1036) d_Reader_readSign_278 fl_Reader_37 io_29 rfl rfl fs_nar_obj ?_
                                  refine a_sub [0, 3] rfl ?_
                                  exact h
                                ·
                                  by_cases q3_52 : x1 = 52
                                  · refine a_tableIn (tgt := 274) d_Reader_readSign_3 (by omega) (by omega) (by rw [q3_52]; rfl) rfl ?_
                                    refine a_aload_n (j := 0) d_Reader_readSign_274 rfl rfl ?_
                                    refine a_getstatic (v := fs_r 1036) d_Reader_readSign_275 gs_Reader_235 (fs_Ztok (i := 36) (by decide) rfl rfl) (by show fs_in32 1036; unfold fs_in32; omega) ?_
                                    refine b_putfield (x := 1036) d_Reader_readSign_278 fl_Reader_37 io_29 rfl rfl fs_nar_obj ?_
                                    refine a_sub [0, 3] rfl ?_
                                    exact h
                                  ·
                                    by_cases q3_53 : x1 = 53
                                    · refine a_tableIn (tgt := 274) d_Reader_readSign_3 (by omega) (by omega) (by rw [q3_53]; rfl) rfl ?_
                                      refine a_aload_n (j := 0) d_Reader_readSign_274 rfl rfl ?_
                                      refine a_getstatic (v := fs_r 1036) d_Reader_readSign_275 gs_Reader_235 (fs_Ztok (i := 36) (by decide) rfl rfl) (by show fs_in32 1036; unfold fs_in32; omega) ?_
                                      refine b_putfield (x := 1036) d_Reader_readSign_278 fl_Reader_37 io_29 rfl rfl fs_nar_obj ?_
                                      refine a_sub [0, 3] rfl ?_
                                      exact h
                                    ·
                                      by_cases q3_54 : x1 = 54
                                      · refine a_tableIn (tgt := 274) d_Reader_readSign_3 (by omega) (by omega) (by rw [q3_54]; rfl) rfl ?_
                                        refine a_aload_n (j := 0) d_Reader_readSign_274 rfl rfl ?_
                                        refine a_getstatic (v := fs_r 1036) d_Reader_readSign_275 gs_Reader_235 (fs_Ztok (i := 36) (by decide) rfl rfl) (by show fs_in32 1036; unfold fs_in32; omega) ?_
                                        refine b_putfield (x := 1036) d_Reader_readSign_278 fl_Reader_37 io_29 rfl rfl fs_nar_obj ?_
                                        refine a_sub [0, 3] rfl ?_
                                        exact h
                                      ·
                                        by_cases q3_55 : x1 = 55
                                        · refine a_tableIn (tgt := 274) d_Reader_readSign_3 (by omega) (by omega) (by rw [q3_55]; rfl) rfl ?_
                                          refine a_aload_n (j := 0) d_Reader_readSign_274 rfl rfl ?_
                                          refine a_getstatic (v := fs_r 1036) d_Reader_readSign_275 gs_Reader_235 (fs_Ztok (i := 36) (by decide) rfl rfl) (by show fs_in32 1036; unfold fs_in32; omega) ?_
                                          refine b_putfield (x := 1036) d_Reader_readSign_278 fl_Reader_37 io_29 rfl rfl fs_nar_obj ?_
                                          refine a_sub [0, 3] rfl ?_
                                          exact h
                                        ·
                                          by_cases q3_56 : x1 = 56
                                          · refine a_tableIn (tgt := 274) d_Reader_readSign_3 (by omega) (by omega) (by rw [q3_56]; rfl) rfl ?_
                                            refine a_aload_n (j := 0) d_Reader_readSign_274 rfl rfl ?_
                                            refine a_getstatic (v := fs_r 1036) d_Reader_readSign_275 gs_Reader_235 (fs_Ztok (i := 36) (by decide) rfl rfl) (by show fs_in32 1036; unfold fs_in32; omega) ?_
                                            refine b_putfield (x := 1036) d_Reader_readSign_278 fl_Reader_37 io_29 rfl rfl fs_nar_obj ?_
                                            refine a_sub [0, 3] rfl ?_
                                            exact h
                                          ·
                                            by_cases q3_57 : x1 = 57
                                            · refine a_tableIn (tgt := 274) d_Reader_readSign_3 (by omega) (by omega) (by rw [q3_57]; rfl) rfl ?_
                                              refine a_aload_n (j := 0) d_Reader_readSign_274 rfl rfl ?_
                                              refine a_getstatic (v := fs_r 1036) d_Reader_readSign_275 gs_Reader_235 (fs_Ztok (i := 36) (by decide) rfl rfl) (by show fs_in32 1036; unfold fs_in32; omega) ?_
                                              refine b_putfield (x := 1036) d_Reader_readSign_278 fl_Reader_37 io_29 rfl rfl fs_nar_obj ?_
                                              refine a_sub [0, 3] rfl ?_
                                              exact h
                                            ·
                                              by_cases q3_58 : x1 = 58
                                              · refine a_tableIn (tgt := 274) d_Reader_readSign_3 (by omega) (by omega) (by rw [q3_58]; rfl) rfl ?_
                                                refine a_aload_n (j := 0) d_Reader_readSign_274 rfl rfl ?_
                                                refine a_getstatic (v := fs_r 1036) d_Reader_readSign_275 gs_Reader_235 (fs_Ztok (i := 36) (by decide) rfl rfl) (by show fs_in32 1036; unfold fs_in32; omega) ?_
                                                refine b_putfield (x := 1036) d_Reader_readSign_278 fl_Reader_37 io_29 rfl rfl fs_nar_obj ?_
                                                refine a_sub [0, 3] rfl ?_
                                                exact h
                                              ·
                                                refine a_tableOut (tgt := 274) d_Reader_readSign_3 (by omega) rfl ?_
                                                refine a_aload_n (j := 0) d_Reader_readSign_274 rfl rfl ?_
                                                refine a_getstatic (v := fs_r 1036) d_Reader_readSign_275 gs_Reader_235 (fs_Ztok (i := 36) (by decide) rfl rfl) (by show fs_in32 1036; unfold fs_in32; omega) ?_
                                                refine b_putfield (x := 1036) d_Reader_readSign_278 fl_Reader_37 io_29 rfl rfl fs_nar_obj ?_
                                                refine a_sub [0, 3] rfl ?_
                                                exact h
set_option maxRecDepth 8000 in
set_option maxHeartbeats 4000000 in
theorem L_Reader_readSign_281 {M : fs_M} {K : fs_K} {x3 : Int} 
    (h : K none (fs_st M 29 6 (fs_w32 ((M 29 6) + x3)))) :
    fs_A2 g m_Reader_readSign 1 281 [(0, fs_r 29), (3, fs_i x3)] [] M K := by
  refine a_aload_n (j := 0) d_Reader_readSign_281 rfl rfl ?_
  refine a_dup d_Reader_readSign_282 rfl ?_
  refine b_getfield (v := fs_i (M 29 6)) d_Reader_readSign_283 fl_Reader_28 io_29 rfl ?_
  refine a_iload_n (j := 1) d_Reader_readSign_286 rfl rfl ?_
  refine a_iadd d_Reader_readSign_287 ?_
  refine b_putfield (x := (fs_w32 ((M 29 6) + x3))) d_Reader_readSign_288 fl_Reader_28 io_29 rfl rfl fs_nar_int ?_
  exact b_return d_Reader_readSign_291 rfl h
set_option maxRecDepth 8000 in
set_option maxHeartbeats 4000000 in
theorem L_Reader_readSign_171 {M : fs_M} {K : fs_K} {x2 x100 : Int} 
    (h : ((¬ x2 = 61 → fs_A2 g m_Reader_readSign 1 281 [(0, fs_r 29), (3, fs_i x100)] [] (fs_st M 29 7 1026) K) ∧ (x2 = 61 → fs_A2 g m_Reader_readSign 1 281 [(0, fs_r 29), (3, fs_i x100)] [] (fs_st M 29 7 1025) K))) :
    fs_A2 g m_Reader_readSign 1 171 [(0, fs_r 29), (2, fs_i x2)] [fs_i x100] M K := by
  refine a_istore_n d_Reader_readSign_171 rfl (Nat.le_of_ble_eq_true rfl) [1, 2, 0] rfl ?_
  refine a_aload_n (j := 0) d_Reader_readSign_172 rfl rfl ?_
  refine a_iload_n (j := 1) d_Reader_readSign_173 rfl rfl ?_
  refine a_bipush d_Reader_readSign_174 (by decide) ?_
  refine a_icmp_ne (tgt := 185) d_Reader_readSign_176 rfl (fun c4 => ?_) (fun c4 => ?_)
  · have h := h.1 c4
    refine a_getstatic (v := fs_r 1026) d_Reader_readSign_185 gs_Reader_256 (fs_Ztok (i := 26) (by decide) rfl rfl) (by show fs_in32 1026; unfold fs_in32; omega) ?_
    refine b_putfield (x := 1026) d_Reader_readSign_188 fl_Reader_37 io_29 rfl rfl fs_nar_obj ?_
    refine a_goto (tgt := 281) d_Reader_readSign_191 rfl ?_
    refine a_sub [0, 2] rfl ?_
    exact h
  · have h := h.2 c4
    refine a_getstatic (v := fs_r 1025) d_Reader_readSign_179 gs_Reader_253 (fs_Ztok (i := 25) (by decide) rfl rfl) (by show fs_in32 1025; unfold fs_in32; omega) ?_
    refine a_goto (tgt := 188) d_Reader_readSign_182 rfl ?_
    refine b_putfield (x := 1025) d_Reader_readSign_188 fl_Reader_37 io_29 rfl rfl fs_nar_obj ?_
    refine a_goto (tgt := 281) d_Reader_readSign_191 rfl ?_
    refine a_sub [0, 2] rfl ?_
    exact h
set_option maxRecDepth 8000 in
set_option maxHeartbeats 4000000 in
theorem L_Reader_readSign_125 {M : fs_M} {K : fs_K} {x2 x100 : Int} 
    (h : ((¬ x2 = 61 → ((¬ x2 = 62 → fs_A2 g m_Reader_readSign 1 281 [(0, fs_r 29), (3, fs_i x100)] [] (fs_st M 29 7 1021) K) ∧ (x2 = 62 → fs_A2 g m_Reader_readSign 1 281 [(0, fs_r 29), (3, fs_i x100)] [] (fs_st M 29 7 1024) K))) ∧ (x2 = 61 → fs_A2 g m_Reader_readSign 1 281 [(0, fs_r 29), (3, fs_i x100)] [] (fs_st M 29 7 1022) K))) :
    fs_A2 g m_Reader_readSign 1 125 [(0, fs_r 29), (2, fs_i x2)] [fs_i x100] M K := by
  refine a_istore_n d_Reader_readSign_125 rfl (Nat.le_of_ble_eq_true rfl) [1, 2, 0] rfl ?_
  refine a_aload_n (j := 0) d_Reader_readSign_126 rfl rfl ?_
  refine a_iload_n (j := 1) d_Reader_readSign_127 rfl rfl ?_
  refine a_bipush d_Reader_readSign_128 (by decide) ?_
  refine a_icmp_ne (tgt := 139) d_Reader_readSign_130 rfl (fun c5 => ?_) (fun c5 => ?_)
  · have h := h.1 c5
    refine a_iload_n (j := 1) d_Reader_readSign_139 rfl rfl ?_
    refine a_bipush d_Reader_readSign_140 (by decide) ?_
    refine a_icmp_ne (tgt := 151) d_Reader_readSign_142 rfl (fun c6 => ?_) (fun c6 => ?_)
    · have h := h.1 c6
      refine a_getstatic (v := fs_r 1021) d_Reader_readSign_151 gs_Reader_250 (fs_Ztok (i := 21) (by decide) rfl rfl) (by show fs_in32 1021; unfold fs_in32; omega) ?_
      refine b_putfield (x := 1021) d_Reader_readSign_154 fl_Reader_37 io_29 rfl rfl fs_nar_obj ?_
      refine a_goto (tgt := 281) d_Reader_readSign_157 rfl ?_
      refine a_sub [0, 2] rfl ?_
      exact h
    · have h := h.2 c6
      refine a_getstatic (v := fs_r 1024) d_Reader_readSign_145 gs_Reader_247 (fs_Ztok (i := 24) (by decide) rfl rfl) (by show fs_in32 1024; unfold fs_in32; omega) ?_
      refine a_goto (tgt := 154) d_Reader_readSign_148 rfl ?_
      refine b_putfield (x := 1024) d_Reader_readSign_154 fl_Reader_37 io_29 rfl rfl fs_nar_obj ?_
      refine a_goto (tgt := 281) d_Reader_readSign_157 rfl ?_
      refine a_sub [0, 2] rfl ?_
      exact h
  · have h := h.2 c5
    refine a_getstatic (v := fs_r 1022) d_Reader_readSign_133 gs_Reader_244 (fs_Ztok (i := 22) (by decide) rfl rfl) (by show fs_in32 1022; unfold fs_in32; omega) ?_
    refine a_goto (tgt := 154) d_Reader_readSign_136 rfl ?_
    refine b_putfield (x := 1022) d_Reader_readSign_154 fl_Reader_37 io_29 rfl rfl fs_nar_obj ?_
    refine a_goto (tgt := 281) d_Reader_readSign_157 rfl ?_
    refine a_sub [0, 2] rfl ?_
    exact h
set_option maxRecDepth 8000 in
set_option maxHeartbeats 4000000 in
theorem E_Reader_readHouse {M : fs_M} {K : fs_K} 
    (h : ((M 15 5 < 6 → fs_C2 g m_Reader_advance 3 [fs_r 29] M (fun v M1 => v = none ∧ fs_C2 g m_Reader_takeNewName 4 [fs_r 29, fs_r 16, fs_i (M 15 5)] M1 (fun v M2 => ∃ r2, v = some (fs_i r2) ∧ ((¬ r2 = 0 → fs_C2 g m_Reader_takeNumber 4 [fs_r 29, fs_i 0, fs_i 99] M2 (fun v M3 => ∃ r3, v = some (fs_i r3) ∧ (0 ≤ M 15 5 ∧ ((M3 29 2 = 0 → fs_C2 g m_Reader_takeNumber 4 [fs_r 29, fs_i 0, fs_i 99] (fs_st M3 17 (M 15 5) r3) (fun v M4 => ∃ r4, v = some (fs_i r4) ∧ ((M4 29 2 = 0 → (fs_tk (M4 29 7) ∧ ((¬ M4 29 7 = 1004 → fs_A2 g m_Reader_readHouse 5 134 [(0, fs_r 29), (1, fs_i (M 15 5))] [] (fs_st (fs_st M4 18 (M 15 5) r4) 19 (M 15 5) 240) K) ∧ (M4 29 7 = 1004 → fs_C2 g m_Reader_advance 3 [fs_r 29] (fs_st (fs_st M4 18 (M 15 5) r4) 19 (M 15 5) 240) (fun v M5 => v = none ∧ fs_C2 g m_Reader_takeNumber 4 [fs_r 29, fs_i 1, fs_i 240] M5 (fun v M6 => ∃ r6, v = some (fs_i r6) ∧ fs_A2 g m_Reader_readHouse 5 134 [(0, fs_r 29), (1, fs_i (M 15 5))] [] (fs_st M6 19 (M 15 5) r6) K)))))) ∧ (¬ M4 29 2 = 0 → K (some (fs_i 0)) (fs_st M4 18 (M 15 5) r4))))) ∧ (¬ M3 29 2 = 0 → K (some (fs_i 0)) (fs_st M3 17 (M 15 5) r3)))))) ∧ (r2 = 0 → K (some (fs_i 0)) M2))))) ∧ (¬ M 15 5 < 6 → fs_C2 g m_Reader_stumble 1 [fs_r 29, fs_i 2] M (fun v M7 => ∃ r7, v = some (fs_i r7) ∧ ((r7 = 0 ∨ r7 = 1) ∧ K (some (fs_i r7)) M7))))) :
    fs_C2 g m_Reader_readHouse 5 [fs_r 29] M K := by
  refine b_enter2 (ls := [(0, fs_r 29)]) (plainFor_of_name pn_Reader) (Nat.le_of_ble_eq_true rfl) rfl ?_
  refine a_aload_n (j := 0) d_Reader_readHouse_0 rfl rfl ?_
  refine b_getptr (q := 15) d_Reader_readHouse_1 fl_Reader_52 io_29 rfl rfl rfl ?_
  refine b_getfield (v := fs_i (M 15 5)) d_Reader_readHouse_4 fl_Reader_106 io_15 rfl ?_
  refine a_istore_n d_Reader_readHouse_7 rfl (Nat.le_of_ble_eq_true rfl) [1, 0] rfl ?_
  refine a_iload_n (j := 1) d_Reader_readHouse_8 rfl rfl ?_
  refine a_bipush d_Reader_readHouse_9 (by decide) ?_
  refine a_icmp_lt (tgt := 20) d_Reader_readHouse_11 rfl (fun c1 => ?_) (fun c1 => ?_)
  · have h := h.1 c1
    refine a_aload_n (j := 0) d_Reader_readHouse_20 rfl rfl ?_
    refine b_virtual (dc := 3) (ci := 7) (T := fs_T7) (N := 12) [] [] d_Reader_readHouse_21 ml_Reader_67 k_Reader_advance v_Reader_advance rfl io_29 rfl (Nat.le_of_ble_eq_true rfl) rfl (Nat.le_of_ble_eq_true rfl) ?_
    refine fs_Call.mono (fun v M1 hv => ?_) h
    obtain ⟨rfl, h⟩ := hv
    show fs_A2 g m_Reader_readHouse 5 24 [(0, fs_r 29), (1, fs_i (M 15 5))] [] M1 K
    refine a_aload_n (j := 0) d_Reader_readHouse_24 rfl rfl ?_
    refine a_aload_n (j := 0) d_Reader_readHouse_25 rfl rfl ?_
    refine b_getptr (q := 15) d_Reader_readHouse_26 fl_Reader_52 io_29 rfl rfl rfl ?_
    refine b_getptr (q := 16) d_Reader_readHouse_29 fl_Reader_109 io_15 rfl rfl rfl ?_
    refine a_iload_n (j := 1) d_Reader_readHouse_32 rfl rfl ?_
    refine b_virtual (dc := 4) (ci := 7) (T := fs_T7) (N := 12) [fs_r 16, fs_i (M 15 5)] [] d_Reader_readHouse_33 ml_Reader_112 k_Reader_takeNewName v_Reader_takeNewName rfl io_29 rfl (Nat.le_of_ble_eq_true rfl) rfl (Nat.le_of_ble_eq_true rfl) ?_
    refine fs_Call.mono (fun v M2 hv => ?_) h
    obtain ⟨r2, rfl, h⟩ := hv
    show fs_A2 g m_Reader_readHouse 5 36 [(0, fs_r 29), (1, fs_i (M 15 5))] [fs_i r2] M2 K
    refine a_if_ne (tgt := 41) d_Reader_readHouse_36 rfl (fun c2 => ?_) (fun c2 => ?_)
    · have h := h.1 c2
      refine a_aload_n (j := 0) d_Reader_readHouse_41 rfl rfl ?_
      refine b_getptr (q := 15) d_Reader_readHouse_42 fl_Reader_52 io_29 rfl rfl rfl ?_
      refine b_getptr (q := 17) d_Reader_readHouse_45 fl_Reader_116 io_15 rfl rfl rfl ?_
      refine a_iload_n (j := 1) d_Reader_readHouse_48 rfl rfl ?_
      refine a_aload_n (j := 0) d_Reader_readHouse_49 rfl rfl ?_
      refine a_iconst d_Reader_readHouse_50 (by unfold fs_in32; omega) ?_
      refine a_bipush d_Reader_readHouse_51 (by decide) ?_
      refine b_virtual (dc := 4) (ci := 7) (T := fs_T7) (N := 12) [fs_i 0, fs_i 99] [fs_i (M 15 5), fs_r 17] d_Reader_readHouse_53 ml_Reader_119 k_Reader_takeNumber v_Reader_takeNumber rfl io_29 rfl (Nat.le_of_ble_eq_true rfl) rfl (Nat.le_of_ble_eq_true rfl) ?_
      refine fs_Call.mono (fun v M3 hv => ?_) h
      obtain ⟨r3, rfl, h⟩ := hv
      show fs_A2 g m_Reader_readHouse 5 56 [(0, fs_r 29), (1, fs_i (M 15 5))] [fs_i r3, fs_i (M 15 5), fs_r 17] M3 K
      obtain ⟨o3, h⟩ := h
      refine b_iastore d_Reader_readHouse_56 ia_17 o3 c1 ?_
      refine a_aload_n (j := 0) d_Reader_readHouse_57 rfl rfl ?_
      refine b_getfield (v := fs_i (M3 29 2)) d_Reader_readHouse_58 fl_Reader_19 io_29 rfl ?_
      refine a_if_eq (tgt := 66) d_Reader_readHouse_61 rfl (fun c4 => ?_) (fun c4 => ?_)
      · have h := h.1 c4
        refine a_aload_n (j := 0) d_Reader_readHouse_66 rfl rfl ?_
        refine b_getptr (q := 15) d_Reader_readHouse_67 fl_Reader_52 io_29 rfl rfl rfl ?_
        refine b_getptr (q := 18) d_Reader_readHouse_70 fl_Reader_122 io_15 rfl rfl rfl ?_
        refine a_iload_n (j := 1) d_Reader_readHouse_73 rfl rfl ?_
        refine a_aload_n (j := 0) d_Reader_readHouse_74 rfl rfl ?_
        refine a_iconst d_Reader_readHouse_75 (by unfold fs_in32; omega) ?_
        refine a_bipush d_Reader_readHouse_76 (by decide) ?_
        refine b_virtual (dc := 4) (ci := 7) (T := fs_T7) (N := 12) [fs_i 0, fs_i 99] [fs_i (M 15 5), fs_r 18] d_Reader_readHouse_78 ml_Reader_119 k_Reader_takeNumber v_Reader_takeNumber rfl io_29 rfl (Nat.le_of_ble_eq_true rfl) rfl (Nat.le_of_ble_eq_true rfl) ?_
        refine fs_Call.mono (fun v M4 hv => ?_) h
        obtain ⟨r4, rfl, h⟩ := hv
        show fs_A2 g m_Reader_readHouse 5 81 [(0, fs_r 29), (1, fs_i (M 15 5))] [fs_i r4, fs_i (M 15 5), fs_r 18] M4 K
        refine b_iastore d_Reader_readHouse_81 ia_18 o3 c1 ?_
        refine a_aload_n (j := 0) d_Reader_readHouse_82 rfl rfl ?_
        refine b_getfield (v := fs_i (M4 29 2)) d_Reader_readHouse_83 fl_Reader_19 io_29 rfl ?_
        refine a_if_eq (tgt := 91) d_Reader_readHouse_86 rfl (fun c5 => ?_) (fun c5 => ?_)
        · have h := h.1 c5
          refine a_aload_n (j := 0) d_Reader_readHouse_91 rfl rfl ?_
          refine b_getptr (q := 15) d_Reader_readHouse_92 fl_Reader_52 io_29 rfl rfl rfl ?_
          refine b_getptr (q := 19) d_Reader_readHouse_95 fl_Reader_125 io_15 rfl rfl rfl ?_
          refine a_iload_n (j := 1) d_Reader_readHouse_98 rfl rfl ?_
          refine a_sipush d_Reader_readHouse_99 (by decide) ?_
          refine b_iastore d_Reader_readHouse_102 ia_19 o3 c1 ?_
          refine a_aload_n (j := 0) d_Reader_readHouse_103 rfl rfl ?_
          refine b_getfield (v := fs_r (M4 29 7)) d_Reader_readHouse_104 fl_Reader_37 io_29 rfl ?_
          refine a_getstatic (v := fs_r 1004) d_Reader_readHouse_107 gs_Reader_128 (fs_Ztok (i := 4) (by decide) rfl rfl) (by show fs_in32 1004; unfold fs_in32; omega) ?_
          obtain ⟨o6, h⟩ := h
          refine a_acmp_ne (tgt := 134) d_Reader_readHouse_110 rfl (Or.inl o6) (Or.inl tk_1004) (fun c7 => ?_) (fun c7 => ?_)
          · have h := h.1 c7
            exact h
          · have h := h.2 c7
            refine a_aload_n (j := 0) d_Reader_readHouse_113 rfl rfl ?_
            refine b_virtual (dc := 3) (ci := 7) (T := fs_T7) (N := 12) [] [] d_Reader_readHouse_114 ml_Reader_67 k_Reader_advance v_Reader_advance rfl io_29 rfl (Nat.le_of_ble_eq_true rfl) rfl (Nat.le_of_ble_eq_true rfl) ?_
            refine fs_Call.mono (fun v M5 hv => ?_) h
            obtain ⟨rfl, h⟩ := hv
            show fs_A2 g m_Reader_readHouse 5 117 [(0, fs_r 29), (1, fs_i (M 15 5))] [] M5 K
            refine a_aload_n (j := 0) d_Reader_readHouse_117 rfl rfl ?_
            refine b_getptr (q := 15) d_Reader_readHouse_118 fl_Reader_52 io_29 rfl rfl rfl ?_
            refine b_getptr (q := 19) d_Reader_readHouse_121 fl_Reader_125 io_15 rfl rfl rfl ?_
            refine a_iload_n (j := 1) d_Reader_readHouse_124 rfl rfl ?_
            refine a_aload_n (j := 0) d_Reader_readHouse_125 rfl rfl ?_
            refine a_iconst d_Reader_readHouse_126 (by unfold fs_in32; omega) ?_
            refine a_sipush d_Reader_readHouse_127 (by decide) ?_
            refine b_virtual (dc := 4) (ci := 7) (T := fs_T7) (N := 12) [fs_i 1, fs_i 240] [fs_i (M 15 5), fs_r 19] d_Reader_readHouse_130 ml_Reader_119 k_Reader_takeNumber v_Reader_takeNumber rfl io_29 rfl (Nat.le_of_ble_eq_true rfl) rfl (Nat.le_of_ble_eq_true rfl) ?_
            refine fs_Call.mono (fun v M6 hv => ?_) h
            obtain ⟨r6, rfl, h⟩ := hv
            show fs_A2 g m_Reader_readHouse 5 133 [(0, fs_r 29), (1, fs_i (M 15 5))] [fs_i r6, fs_i (M 15 5), fs_r 19] M6 K
            refine b_iastore d_Reader_readHouse_133 ia_19 o3 c1 ?_
            exact h
        · have h := h.2 c5
          refine a_iconst d_Reader_readHouse_89 (by unfold fs_in32; omega) ?_
          exact b_ireturn d_Reader_readHouse_90 rfl (fs_nar01 (Or.inl rfl)) h
      · have h := h.2 c4
        refine a_iconst d_Reader_readHouse_64 (by unfold fs_in32; omega) ?_
        exact b_ireturn d_Reader_readHouse_65 rfl (fs_nar01 (Or.inl rfl)) h
    · have h := h.2 c2
      refine a_iconst d_Reader_readHouse_39 (by unfold fs_in32; omega) ?_
      exact b_ireturn d_Reader_readHouse_40 rfl (fs_nar01 (Or.inl rfl)) h
  · have h := h.2 c1
    refine a_aload_n (j := 0) d_Reader_readHouse_14 rfl rfl ?_
    refine a_iconst d_Reader_readHouse_15 (by unfold fs_in32; omega) ?_
    refine b_virtual (dc := 1) (ci := 7) (T := fs_T7) (N := 12) [fs_i 2] [] d_Reader_readHouse_16 ml_Reader_95 k_Reader_stumble v_Reader_stumble rfl io_29 rfl (Nat.le_of_ble_eq_true rfl) rfl (Nat.le_of_ble_eq_true rfl) ?_
    refine fs_Call.mono (fun v M7 hv => ?_) h
    obtain ⟨r7, rfl, h⟩ := hv
    show fs_A2 g m_Reader_readHouse 5 19 [(0, fs_r 29), (1, fs_i (M 15 5))] [fs_i r7] M7 K
    obtain ⟨o8, h⟩ := h
    exact b_ireturn d_Reader_readHouse_19 rfl (fs_nar01 o8) h
set_option maxRecDepth 8000 in
set_option maxHeartbeats 4000000 in
theorem L_Reader_readHouse_134 {M : fs_M} {K : fs_K} {x1 : Int} 
    (h : ((¬ M 29 2 = 0 → fs_A2 g m_Reader_readHouse 5 170 [(0, fs_r 29)] [] M K) ∧ (M 29 2 = 0 → (fs_tk (M 29 7) ∧ ((¬ M 29 7 = 1005 → fs_A2 g m_Reader_readHouse 5 170 [(0, fs_r 29)] [] M K) ∧ (M 29 7 = 1005 → fs_C2 g m_Reader_advance 3 [fs_r 29] M (fun v M8 => v = none ∧ fs_A2 g m_Reader_readHouse 5 170 [(0, fs_r 29)] [] (fs_st M8 15 4 (fs_or (M8 15 4) (fs_shl 1 x1))) K))))))) :
    fs_A2 g m_Reader_readHouse 5 134 [(0, fs_r 29), (1, fs_i x1)] [] M K := by
  refine a_aload_n (j := 0) d_Reader_readHouse_134 rfl rfl ?_
  refine b_getfield (v := fs_i (M 29 2)) d_Reader_readHouse_135 fl_Reader_19 io_29 rfl ?_
  refine a_if_ne (tgt := 170) d_Reader_readHouse_138 rfl (fun c9 => ?_) (fun c9 => ?_)
  · have h := h.1 c9
    refine a_sub [0] rfl ?_
    exact h
  · have h := h.2 c9
    refine a_aload_n (j := 0) d_Reader_readHouse_141 rfl rfl ?_
    refine b_getfield (v := fs_r (M 29 7)) d_Reader_readHouse_142 fl_Reader_37 io_29 rfl ?_
    refine a_getstatic (v := fs_r 1005) d_Reader_readHouse_145 gs_Reader_131 (fs_Ztok (i := 5) (by decide) rfl rfl) (by show fs_in32 1005; unfold fs_in32; omega) ?_
    obtain ⟨o10, h⟩ := h
    refine a_acmp_ne (tgt := 170) d_Reader_readHouse_148 rfl (Or.inl o10) (Or.inl tk_1005) (fun c11 => ?_) (fun c11 => ?_)
    · have h := h.1 c11
      refine a_sub [0] rfl ?_
      exact h
    · have h := h.2 c11
      refine a_aload_n (j := 0) d_Reader_readHouse_151 rfl rfl ?_
      refine b_virtual (dc := 3) (ci := 7) (T := fs_T7) (N := 12) [] [] d_Reader_readHouse_152 ml_Reader_67 k_Reader_advance v_Reader_advance rfl io_29 rfl (Nat.le_of_ble_eq_true rfl) rfl (Nat.le_of_ble_eq_true rfl) ?_
      refine fs_Call.mono (fun v M8 hv => ?_) h
      obtain ⟨rfl, h⟩ := hv
      show fs_A2 g m_Reader_readHouse 5 155 [(0, fs_r 29), (1, fs_i x1)] [] M8 K
      refine a_aload_n (j := 0) d_Reader_readHouse_155 rfl rfl ?_
      refine b_getptr (q := 15) d_Reader_readHouse_156 fl_Reader_52 io_29 rfl rfl rfl ?_
      refine a_dup d_Reader_readHouse_159 rfl ?_
      refine b_getfield (v := fs_i (M8 15 4)) d_Reader_readHouse_160 fl_Reader_134 io_15 rfl ?_
      refine a_iconst d_Reader_readHouse_163 (by unfold fs_in32; omega) ?_
      refine a_iload_n (j := 1) d_Reader_readHouse_164 rfl rfl ?_
      refine a_ishl d_Reader_readHouse_165 ?_
      refine a_ior d_Reader_readHouse_166 ?_
      refine b_putfield (x := (fs_or (M8 15 4) (fs_shl 1 x1))) d_Reader_readHouse_167 fl_Reader_134 io_15 rfl rfl fs_nar_int ?_
      refine a_sub [0] rfl ?_
      exact h
set_option maxRecDepth 8000 in
set_option maxHeartbeats 4000000 in
theorem L_Reader_readHouse_170 {M : fs_M} {K : fs_K} 
    (h : ((¬ M 29 2 = 0 → K (some (fs_i 0)) (fs_st M 15 5 (fs_w32 ((M 15 5) + 1)))) ∧ (M 29 2 = 0 → K (some (fs_i 1)) (fs_st M 15 5 (fs_w32 ((M 15 5) + 1)))))) :
    fs_A2 g m_Reader_readHouse 5 170 [(0, fs_r 29)] [] M K := by
  refine a_aload_n (j := 0) d_Reader_readHouse_170 rfl rfl ?_
  refine b_getptr (q := 15) d_Reader_readHouse_171 fl_Reader_52 io_29 rfl rfl rfl ?_
  refine a_dup d_Reader_readHouse_174 rfl ?_
  refine b_getfield (v := fs_i (M 15 5)) d_Reader_readHouse_175 fl_Reader_106 io_15 rfl ?_
  refine a_iconst d_Reader_readHouse_178 (by unfold fs_in32; omega) ?_
  refine a_iadd d_Reader_readHouse_179 ?_
  refine b_putfield (x := (fs_w32 ((M 15 5) + 1))) d_Reader_readHouse_180 fl_Reader_106 io_15 rfl rfl fs_nar_int ?_
  refine a_aload_n (j := 0) d_Reader_readHouse_183 rfl rfl ?_
  refine b_getfield (v := fs_i (M 29 2)) d_Reader_readHouse_184 fl_Reader_19 io_29 rfl ?_
  refine a_if_ne (tgt := 194) d_Reader_readHouse_187 rfl (fun c12 => ?_) (fun c12 => ?_)
  · have h := h.1 c12
    refine a_iconst d_Reader_readHouse_194 (by unfold fs_in32; omega) ?_
    exact b_ireturn d_Reader_readHouse_195 rfl (fs_nar01 (Or.inl rfl)) h
  · have h := h.2 c12
    refine a_iconst d_Reader_readHouse_190 (by unfold fs_in32; omega) ?_
    refine a_goto (tgt := 195) d_Reader_readHouse_191 rfl ?_
    exact b_ireturn d_Reader_readHouse_195 rfl (fs_nar01 (Or.inr rfl)) h
set_option maxRecDepth 8000 in
set_option maxHeartbeats 4000000 in
theorem E_Reader_stumble {M : fs_M} {K : fs_K} {x1 : Int} 
    (h : K (some (fs_i 0)) (fs_st (fs_st M 29 2 x1) 29 3 (M 29 8))) :
    fs_C2 g m_Reader_stumble 1 [fs_r 29, fs_i x1] M K := by
  refine b_enter2 (ls := [(0, fs_r 29), (1, fs_i x1)]) (plainFor_of_name pn_Reader) (Nat.le_of_ble_eq_true rfl) rfl ?_
  refine a_aload_n (j := 0) d_Reader_stumble_0 rfl rfl ?_
  refine a_iload_n (j := 1) d_Reader_stumble_1 rfl rfl ?_
  refine b_putfield (x := x1) d_Reader_stumble_2 fl_Reader_19 io_29 rfl rfl fs_nar_int ?_
  refine a_aload_n (j := 0) d_Reader_stumble_5 rfl rfl ?_
  refine a_aload_n (j := 0) d_Reader_stumble_6 rfl rfl ?_
  refine b_getfield (v := fs_i (M 29 8)) d_Reader_stumble_7 fl_Reader_40 io_29 rfl ?_
  refine b_putfield (x := (M 29 8)) d_Reader_stumble_10 fl_Reader_22 io_29 rfl rfl fs_nar_int ?_
  refine a_iconst d_Reader_stumble_13 (by unfold fs_in32; omega) ?_
  exact b_ireturn d_Reader_stumble_14 rfl (fs_nar01 (Or.inl rfl)) h
set_option maxRecDepth 8000 in
set_option maxHeartbeats 4000000 in
theorem E_Reader_takeNewName {M : fs_M} {K : fs_K} {x1 x2 : Int} {n1 : Nat} (h1 : fs_isA 0 n1 x1) 
    (h : (fs_tk (M 29 7) ∧ ((M 29 7 = 1034 → fs_C2 g m_Fs_indexOf 1 [fs_r x1, fs_i x2, fs_i (M 29 10)] M (fun v M1 => ∃ r1, v = some (fs_i r1) ∧ ((r1 = (-1) → (0 ≤ x2 ∧ x2 < n1 ∧ fs_C2 g m_Reader_advance 3 [fs_r 29] (fs_st M1 x1 x2 (M1 29 10)) (fun v M2 => v = none ∧ K (some (fs_i 1)) M2))) ∧ (¬ r1 = (-1) → fs_C2 g m_Reader_stumble 1 [fs_r 29, fs_i 3] M1 (fun v M3 => ∃ r3, v = some (fs_i r3) ∧ ((r3 = 0 ∨ r3 = 1) ∧ K (some (fs_i r3)) M3)))))) ∧ (¬ M 29 7 = 1034 → fs_C2 g m_Reader_stumble 1 [fs_r 29, fs_i 1] M (fun v M4 => ∃ r4, v = some (fs_i r4) ∧ ((r4 = 0 ∨ r4 = 1) ∧ K (some (fs_i r4)) M4)))))) :
    fs_C2 g m_Reader_takeNewName 4 [fs_r 29, fs_r x1, fs_i x2] M K := by
  refine b_enter2 (ls := [(0, fs_r 29), (1, fs_r x1), (2, fs_i x2)]) (plainFor_of_name pn_Reader) (Nat.le_of_ble_eq_true rfl) rfl ?_
  refine a_aload_n (j := 0) d_Reader_takeNewName_0 rfl rfl ?_
  refine b_getfield (v := fs_r (M 29 7)) d_Reader_takeNewName_1 fl_Reader_37 io_29 rfl ?_
  refine a_getstatic (v := fs_r 1034) d_Reader_takeNewName_4 gs_Reader_214 (fs_Ztok (i := 34) (by decide) rfl rfl) (by show fs_in32 1034; unfold fs_in32; omega) ?_
  obtain ⟨o1, h⟩ := h
  refine a_acmp_eq (tgt := 16) d_Reader_takeNewName_7 rfl (Or.inl o1) (Or.inl tk_1034) (fun c2 => ?_) (fun c2 => ?_)
  · have h := h.1 c2
    refine a_aload_n (j := 1) d_Reader_takeNewName_16 rfl rfl ?_
    refine a_iload_n (j := 2) d_Reader_takeNewName_17 rfl rfl ?_
    refine a_aload_n (j := 0) d_Reader_takeNewName_18 rfl rfl ?_
    refine b_getfield (v := fs_i (M 29 10)) d_Reader_takeNewName_19 fl_Reader_46 io_29 rfl ?_
    refine b_static (dc := 1) [fs_r x1, fs_i x2, fs_i (M 29 10)] [] d_Reader_takeNewName_22 ml_Reader_217 k_Fs_indexOf s_Fs_indexOf rfl (Nat.le_of_ble_eq_true rfl) rfl (Nat.le_of_ble_eq_true rfl) ?_
    refine fs_Call.mono (fun v M1 hv => ?_) h
    obtain ⟨r1, rfl, h⟩ := hv
    show fs_A2 g m_Reader_takeNewName 4 25 [(0, fs_r 29), (1, fs_r x1), (2, fs_i x2)] [fs_i r1] M1 K
    refine a_iconst d_Reader_takeNewName_25 (by unfold fs_in32; omega) ?_
    refine a_icmp_eq (tgt := 35) d_Reader_takeNewName_26 rfl (fun c3 => ?_) (fun c3 => ?_)
    · have h := h.1 c3
      refine a_aload_n (j := 1) d_Reader_takeNewName_35 rfl rfl ?_
      refine a_iload_n (j := 2) d_Reader_takeNewName_36 rfl rfl ?_
      refine a_aload_n (j := 0) d_Reader_takeNewName_37 rfl rfl ?_
      refine b_getfield (v := fs_i (M1 29 10)) d_Reader_takeNewName_38 fl_Reader_46 io_29 rfl ?_
      obtain ⟨o4, o5, h⟩ := h
      refine b_iastore d_Reader_takeNewName_41 h1 o4 o5 ?_
      refine a_aload_n (j := 0) d_Reader_takeNewName_42 rfl rfl ?_
      refine b_virtual (dc := 3) (ci := 7) (T := fs_T7) (N := 12) [] [] d_Reader_takeNewName_43 ml_Reader_67 k_Reader_advance v_Reader_advance rfl io_29 rfl (Nat.le_of_ble_eq_true rfl) rfl (Nat.le_of_ble_eq_true rfl) ?_
      refine fs_Call.mono (fun v M2 hv => ?_) h
      obtain ⟨rfl, h⟩ := hv
      show fs_A2 g m_Reader_takeNewName 4 46 [(0, fs_r 29), (1, fs_r x1), (2, fs_i x2)] [] M2 K
      refine a_iconst d_Reader_takeNewName_46 (by unfold fs_in32; omega) ?_
      exact b_ireturn d_Reader_takeNewName_47 rfl (fs_nar01 (Or.inr rfl)) h
    · have h := h.2 c3
      refine a_aload_n (j := 0) d_Reader_takeNewName_29 rfl rfl ?_
      refine a_iconst d_Reader_takeNewName_30 (by unfold fs_in32; omega) ?_
      refine b_virtual (dc := 1) (ci := 7) (T := fs_T7) (N := 12) [fs_i 3] [] d_Reader_takeNewName_31 ml_Reader_95 k_Reader_stumble v_Reader_stumble rfl io_29 rfl (Nat.le_of_ble_eq_true rfl) rfl (Nat.le_of_ble_eq_true rfl) ?_
      refine fs_Call.mono (fun v M3 hv => ?_) h
      obtain ⟨r3, rfl, h⟩ := hv
      show fs_A2 g m_Reader_takeNewName 4 34 [(0, fs_r 29), (1, fs_r x1), (2, fs_i x2)] [fs_i r3] M3 K
      obtain ⟨o6, h⟩ := h
      exact b_ireturn d_Reader_takeNewName_34 rfl (fs_nar01 o6) h
  · have h := h.2 c2
    refine a_aload_n (j := 0) d_Reader_takeNewName_10 rfl rfl ?_
    refine a_iconst d_Reader_takeNewName_11 (by unfold fs_in32; omega) ?_
    refine b_virtual (dc := 1) (ci := 7) (T := fs_T7) (N := 12) [fs_i 1] [] d_Reader_takeNewName_12 ml_Reader_95 k_Reader_stumble v_Reader_stumble rfl io_29 rfl (Nat.le_of_ble_eq_true rfl) rfl (Nat.le_of_ble_eq_true rfl) ?_
    refine fs_Call.mono (fun v M4 hv => ?_) h
    obtain ⟨r4, rfl, h⟩ := hv
    show fs_A2 g m_Reader_takeNewName 4 15 [(0, fs_r 29), (1, fs_r x1), (2, fs_i x2)] [fs_i r4] M4 K
    obtain ⟨o7, h⟩ := h
    exact b_ireturn d_Reader_takeNewName_15 rfl (fs_nar01 o7) h
set_option maxRecDepth 8000 in
set_option maxHeartbeats 4000000 in
theorem E_Reader_takeNumber {M : fs_M} {K : fs_K} {x1 x2 : Int} 
    (h : (fs_tk (M 29 7) ∧ ((M 29 7 = 1017 → ((M 29 9 < x1 → fs_C2 g m_Reader_stumble 1 [fs_r 29, fs_i 2] M (fun v M1 => ∃ r1, v = some (fs_i r1) ∧ K (some (fs_i 0)) M1)) ∧ (¬ M 29 9 < x1 → ((M 29 9 ≤ x2 → fs_C2 g m_Reader_advance 3 [fs_r 29] M (fun v M2 => v = none ∧ K (some (fs_i (M 29 9))) M2)) ∧ (¬ M 29 9 ≤ x2 → fs_C2 g m_Reader_stumble 1 [fs_r 29, fs_i 2] M (fun v M3 => ∃ r3, v = some (fs_i r3) ∧ K (some (fs_i 0)) M3)))))) ∧ (¬ M 29 7 = 1017 → fs_C2 g m_Reader_stumble 1 [fs_r 29, fs_i 1] M (fun v M4 => ∃ r4, v = some (fs_i r4) ∧ K (some (fs_i 0)) M4))))) :
    fs_C2 g m_Reader_takeNumber 4 [fs_r 29, fs_i x1, fs_i x2] M K := by
  refine b_enter2 (ls := [(0, fs_r 29), (1, fs_i x1), (2, fs_i x2)]) (plainFor_of_name pn_Reader) (Nat.le_of_ble_eq_true rfl) rfl ?_
  refine a_aload_n (j := 0) d_Reader_takeNumber_0 rfl rfl ?_
  refine b_getfield (v := fs_r (M 29 7)) d_Reader_takeNumber_1 fl_Reader_37 io_29 rfl ?_
  refine a_getstatic (v := fs_r 1017) d_Reader_takeNumber_4 gs_Reader_211 (fs_Ztok (i := 17) (by decide) rfl rfl) (by show fs_in32 1017; unfold fs_in32; omega) ?_
  obtain ⟨o1, h⟩ := h
  refine a_acmp_eq (tgt := 18) d_Reader_takeNumber_7 rfl (Or.inl o1) (Or.inl tk_1017) (fun c2 => ?_) (fun c2 => ?_)
  · have h := h.1 c2
    refine a_aload_n (j := 0) d_Reader_takeNumber_18 rfl rfl ?_
    refine b_getfield (v := fs_i (M 29 9)) d_Reader_takeNumber_19 fl_Reader_43 io_29 rfl ?_
    refine a_iload_n (j := 1) d_Reader_takeNumber_22 rfl rfl ?_
    refine a_icmp_lt (tgt := 34) d_Reader_takeNumber_23 rfl (fun c3 => ?_) (fun c3 => ?_)
    · have h := h.1 c3
      refine a_aload_n (j := 0) d_Reader_takeNumber_34 rfl rfl ?_
      refine a_iconst d_Reader_takeNumber_35 (by unfold fs_in32; omega) ?_
      refine b_virtual (dc := 1) (ci := 7) (T := fs_T7) (N := 12) [fs_i 2] [] d_Reader_takeNumber_36 ml_Reader_95 k_Reader_stumble v_Reader_stumble rfl io_29 rfl (Nat.le_of_ble_eq_true rfl) rfl (Nat.le_of_ble_eq_true rfl) ?_
      refine fs_Call.mono (fun v M1 hv => ?_) h
      obtain ⟨r1, rfl, h⟩ := hv
      show fs_A2 g m_Reader_takeNumber 4 39 [(0, fs_r 29), (1, fs_i x1), (2, fs_i x2)] [fs_i r1] M1 K
      refine a_pop d_Reader_takeNumber_39 rfl ?_
      refine a_iconst d_Reader_takeNumber_40 (by unfold fs_in32; omega) ?_
      exact b_ireturn d_Reader_takeNumber_41 rfl rfl h
    · have h := h.2 c3
      refine a_aload_n (j := 0) d_Reader_takeNumber_26 rfl rfl ?_
      refine b_getfield (v := fs_i (M 29 9)) d_Reader_takeNumber_27 fl_Reader_43 io_29 rfl ?_
      refine a_iload_n (j := 2) d_Reader_takeNumber_30 rfl rfl ?_
      refine a_icmp_le (tgt := 42) d_Reader_takeNumber_31 rfl (fun c4 => ?_) (fun c4 => ?_)
      · have h := h.1 c4
        refine a_aload_n (j := 0) d_Reader_takeNumber_42 rfl rfl ?_
        refine b_getfield (v := fs_i (M 29 9)) d_Reader_takeNumber_43 fl_Reader_43 io_29 rfl ?_
        refine a_istore_n d_Reader_takeNumber_46 rfl (Nat.le_of_ble_eq_true rfl) [1, 2, 3, 0] rfl ?_
        refine a_aload_n (j := 0) d_Reader_takeNumber_47 rfl rfl ?_
        refine b_virtual (dc := 3) (ci := 7) (T := fs_T7) (N := 12) [] [] d_Reader_takeNumber_48 ml_Reader_67 k_Reader_advance v_Reader_advance rfl io_29 rfl (Nat.le_of_ble_eq_true rfl) rfl (Nat.le_of_ble_eq_true rfl) ?_
        refine fs_Call.mono (fun v M2 hv => ?_) h
        obtain ⟨rfl, h⟩ := hv
        show fs_A2 g m_Reader_takeNumber 4 51 [(0, fs_r 29), (1, fs_i x1), (2, fs_i x2), (3, fs_i (M 29 9))] [] M2 K
        refine a_iload_n (j := 3) d_Reader_takeNumber_51 rfl rfl ?_
        exact b_ireturn d_Reader_takeNumber_52 rfl rfl h
      · have h := h.2 c4
        refine a_aload_n (j := 0) d_Reader_takeNumber_34 rfl rfl ?_
        refine a_iconst d_Reader_takeNumber_35 (by unfold fs_in32; omega) ?_
        refine b_virtual (dc := 1) (ci := 7) (T := fs_T7) (N := 12) [fs_i 2] [] d_Reader_takeNumber_36 ml_Reader_95 k_Reader_stumble v_Reader_stumble rfl io_29 rfl (Nat.le_of_ble_eq_true rfl) rfl (Nat.le_of_ble_eq_true rfl) ?_
        refine fs_Call.mono (fun v M3 hv => ?_) h
        obtain ⟨r3, rfl, h⟩ := hv
        show fs_A2 g m_Reader_takeNumber 4 39 [(0, fs_r 29), (1, fs_i x1), (2, fs_i x2)] [fs_i r3] M3 K
        refine a_pop d_Reader_takeNumber_39 rfl ?_
        refine a_iconst d_Reader_takeNumber_40 (by unfold fs_in32; omega) ?_
        exact b_ireturn d_Reader_takeNumber_41 rfl rfl h
  · have h := h.2 c2
    refine a_aload_n (j := 0) d_Reader_takeNumber_10 rfl rfl ?_
    refine a_iconst d_Reader_takeNumber_11 (by unfold fs_in32; omega) ?_
    refine b_virtual (dc := 1) (ci := 7) (T := fs_T7) (N := 12) [fs_i 1] [] d_Reader_takeNumber_12 ml_Reader_95 k_Reader_stumble v_Reader_stumble rfl io_29 rfl (Nat.le_of_ble_eq_true rfl) rfl (Nat.le_of_ble_eq_true rfl) ?_
    refine fs_Call.mono (fun v M4 hv => ?_) h
    obtain ⟨r4, rfl, h⟩ := hv
    show fs_A2 g m_Reader_takeNumber 4 15 [(0, fs_r 29), (1, fs_i x1), (2, fs_i x2)] [fs_i r4] M4 K
    refine a_pop d_Reader_takeNumber_15 rfl ?_
    refine a_iconst d_Reader_takeNumber_16 (by unfold fs_in32; omega) ?_
    exact b_ireturn d_Reader_takeNumber_17 rfl rfl h
set_option maxRecDepth 8000 in
set_option maxHeartbeats 4000000 in
theorem E_Reader_readDark {M : fs_M} {K : fs_K} 
    (h : ((M 15 9 < 3 → fs_C2 g m_Reader_advance 3 [fs_r 29] M (fun v M1 => v = none ∧ fs_C2 g m_Reader_takeNewName 4 [fs_r 29, fs_r 20, fs_i (M 15 9)] M1 (fun v M2 => ∃ r2, v = some (fs_i r2) ∧ ((¬ r2 = 0 → fs_C2 g m_Reader_takeNumber 4 [fs_r 29, fs_i 0, fs_i 99] M2 (fun v M3 => ∃ r3, v = some (fs_i r3) ∧ (0 ≤ M 15 9 ∧ ((M3 29 2 = 0 → fs_C2 g m_Reader_takeNumber 4 [fs_r 29, fs_i 0, fs_i 9] (fs_st M3 21 (M 15 9) r3) (fun v M4 => ∃ r4, v = some (fs_i r4) ∧ ((¬ M4 29 2 = 0 → K (some (fs_i 0)) (fs_st (fs_st M4 22 (M 15 9) r4) 15 9 (fs_w32 ((M4 15 9) + 1)))) ∧ (M4 29 2 = 0 → K (some (fs_i 1)) (fs_st (fs_st M4 22 (M 15 9) r4) 15 9 (fs_w32 ((M4 15 9) + 1))))))) ∧ (¬ M3 29 2 = 0 → K (some (fs_i 0)) (fs_st M3 21 (M 15 9) r3)))))) ∧ (r2 = 0 → K (some (fs_i 0)) M2))))) ∧ (¬ M 15 9 < 3 → fs_C2 g m_Reader_stumble 1 [fs_r 29, fs_i 2] M (fun v M5 => ∃ r5, v = some (fs_i r5) ∧ ((r5 = 0 ∨ r5 = 1) ∧ K (some (fs_i r5)) M5))))) :
    fs_C2 g m_Reader_readDark 5 [fs_r 29] M K := by
  refine b_enter2 (ls := [(0, fs_r 29)]) (plainFor_of_name pn_Reader) (Nat.le_of_ble_eq_true rfl) rfl ?_
  refine a_aload_n (j := 0) d_Reader_readDark_0 rfl rfl ?_
  refine b_getptr (q := 15) d_Reader_readDark_1 fl_Reader_52 io_29 rfl rfl rfl ?_
  refine b_getfield (v := fs_i (M 15 9)) d_Reader_readDark_4 fl_Reader_137 io_15 rfl ?_
  refine a_istore_n d_Reader_readDark_7 rfl (Nat.le_of_ble_eq_true rfl) [1, 0] rfl ?_
  refine a_iload_n (j := 1) d_Reader_readDark_8 rfl rfl ?_
  refine a_iconst d_Reader_readDark_9 (by unfold fs_in32; omega) ?_
  refine a_icmp_lt (tgt := 19) d_Reader_readDark_10 rfl (fun c1 => ?_) (fun c1 => ?_)
  · have h := h.1 c1
    refine a_aload_n (j := 0) d_Reader_readDark_19 rfl rfl ?_
    refine b_virtual (dc := 3) (ci := 7) (T := fs_T7) (N := 12) [] [] d_Reader_readDark_20 ml_Reader_67 k_Reader_advance v_Reader_advance rfl io_29 rfl (Nat.le_of_ble_eq_true rfl) rfl (Nat.le_of_ble_eq_true rfl) ?_
    refine fs_Call.mono (fun v M1 hv => ?_) h
    obtain ⟨rfl, h⟩ := hv
    show fs_A2 g m_Reader_readDark 5 23 [(0, fs_r 29), (1, fs_i (M 15 9))] [] M1 K
    refine a_aload_n (j := 0) d_Reader_readDark_23 rfl rfl ?_
    refine a_aload_n (j := 0) d_Reader_readDark_24 rfl rfl ?_
    refine b_getptr (q := 15) d_Reader_readDark_25 fl_Reader_52 io_29 rfl rfl rfl ?_
    refine b_getptr (q := 20) d_Reader_readDark_28 fl_Reader_140 io_15 rfl rfl rfl ?_
    refine a_iload_n (j := 1) d_Reader_readDark_31 rfl rfl ?_
    refine b_virtual (dc := 4) (ci := 7) (T := fs_T7) (N := 12) [fs_r 20, fs_i (M 15 9)] [] d_Reader_readDark_32 ml_Reader_112 k_Reader_takeNewName v_Reader_takeNewName rfl io_29 rfl (Nat.le_of_ble_eq_true rfl) rfl (Nat.le_of_ble_eq_true rfl) ?_
    refine fs_Call.mono (fun v M2 hv => ?_) h
    obtain ⟨r2, rfl, h⟩ := hv
    show fs_A2 g m_Reader_readDark 5 35 [(0, fs_r 29), (1, fs_i (M 15 9))] [fs_i r2] M2 K
    refine a_if_ne (tgt := 40) d_Reader_readDark_35 rfl (fun c2 => ?_) (fun c2 => ?_)
    · have h := h.1 c2
      refine a_aload_n (j := 0) d_Reader_readDark_40 rfl rfl ?_
      refine b_getptr (q := 15) d_Reader_readDark_41 fl_Reader_52 io_29 rfl rfl rfl ?_
      refine b_getptr (q := 21) d_Reader_readDark_44 fl_Reader_143 io_15 rfl rfl rfl ?_
      refine a_iload_n (j := 1) d_Reader_readDark_47 rfl rfl ?_
      refine a_aload_n (j := 0) d_Reader_readDark_48 rfl rfl ?_
      refine a_iconst d_Reader_readDark_49 (by unfold fs_in32; omega) ?_
      refine a_bipush d_Reader_readDark_50 (by decide) ?_
      refine b_virtual (dc := 4) (ci := 7) (T := fs_T7) (N := 12) [fs_i 0, fs_i 99] [fs_i (M 15 9), fs_r 21] d_Reader_readDark_52 ml_Reader_119 k_Reader_takeNumber v_Reader_takeNumber rfl io_29 rfl (Nat.le_of_ble_eq_true rfl) rfl (Nat.le_of_ble_eq_true rfl) ?_
      refine fs_Call.mono (fun v M3 hv => ?_) h
      obtain ⟨r3, rfl, h⟩ := hv
      show fs_A2 g m_Reader_readDark 5 55 [(0, fs_r 29), (1, fs_i (M 15 9))] [fs_i r3, fs_i (M 15 9), fs_r 21] M3 K
      obtain ⟨o3, h⟩ := h
      refine b_iastore d_Reader_readDark_55 ia_21 o3 c1 ?_
      refine a_aload_n (j := 0) d_Reader_readDark_56 rfl rfl ?_
      refine b_getfield (v := fs_i (M3 29 2)) d_Reader_readDark_57 fl_Reader_19 io_29 rfl ?_
      refine a_if_eq (tgt := 65) d_Reader_readDark_60 rfl (fun c4 => ?_) (fun c4 => ?_)
      · have h := h.1 c4
        refine a_aload_n (j := 0) d_Reader_readDark_65 rfl rfl ?_
        refine b_getptr (q := 15) d_Reader_readDark_66 fl_Reader_52 io_29 rfl rfl rfl ?_
        refine b_getptr (q := 22) d_Reader_readDark_69 fl_Reader_146 io_15 rfl rfl rfl ?_
        refine a_iload_n (j := 1) d_Reader_readDark_72 rfl rfl ?_
        refine a_aload_n (j := 0) d_Reader_readDark_73 rfl rfl ?_
        refine a_iconst d_Reader_readDark_74 (by unfold fs_in32; omega) ?_
        refine a_bipush d_Reader_readDark_75 (by decide) ?_
        refine b_virtual (dc := 4) (ci := 7) (T := fs_T7) (N := 12) [fs_i 0, fs_i 9] [fs_i (M 15 9), fs_r 22] d_Reader_readDark_77 ml_Reader_119 k_Reader_takeNumber v_Reader_takeNumber rfl io_29 rfl (Nat.le_of_ble_eq_true rfl) rfl (Nat.le_of_ble_eq_true rfl) ?_
        refine fs_Call.mono (fun v M4 hv => ?_) h
        obtain ⟨r4, rfl, h⟩ := hv
        show fs_A2 g m_Reader_readDark 5 80 [(0, fs_r 29), (1, fs_i (M 15 9))] [fs_i r4, fs_i (M 15 9), fs_r 22] M4 K
        refine b_iastore d_Reader_readDark_80 ia_22 o3 c1 ?_
        refine a_aload_n (j := 0) d_Reader_readDark_81 rfl rfl ?_
        refine b_getptr (q := 15) d_Reader_readDark_82 fl_Reader_52 io_29 rfl rfl rfl ?_
        refine a_dup d_Reader_readDark_85 rfl ?_
        refine b_getfield (v := fs_i (M4 15 9)) d_Reader_readDark_86 fl_Reader_137 io_15 rfl ?_
        refine a_iconst d_Reader_readDark_89 (by unfold fs_in32; omega) ?_
        refine a_iadd d_Reader_readDark_90 ?_
        refine b_putfield (x := (fs_w32 ((M4 15 9) + 1))) d_Reader_readDark_91 fl_Reader_137 io_15 rfl rfl fs_nar_int ?_
        refine a_aload_n (j := 0) d_Reader_readDark_94 rfl rfl ?_
        refine b_getfield (v := fs_i (M4 29 2)) d_Reader_readDark_95 fl_Reader_19 io_29 rfl ?_
        refine a_if_ne (tgt := 105) d_Reader_readDark_98 rfl (fun c5 => ?_) (fun c5 => ?_)
        · have h := h.1 c5
          refine a_iconst d_Reader_readDark_105 (by unfold fs_in32; omega) ?_
          exact b_ireturn d_Reader_readDark_106 rfl (fs_nar01 (Or.inl rfl)) h
        · have h := h.2 c5
          refine a_iconst d_Reader_readDark_101 (by unfold fs_in32; omega) ?_
          refine a_goto (tgt := 106) d_Reader_readDark_102 rfl ?_
          exact b_ireturn d_Reader_readDark_106 rfl (fs_nar01 (Or.inr rfl)) h
      · have h := h.2 c4
        refine a_iconst d_Reader_readDark_63 (by unfold fs_in32; omega) ?_
        exact b_ireturn d_Reader_readDark_64 rfl (fs_nar01 (Or.inl rfl)) h
    · have h := h.2 c2
      refine a_iconst d_Reader_readDark_38 (by unfold fs_in32; omega) ?_
      exact b_ireturn d_Reader_readDark_39 rfl (fs_nar01 (Or.inl rfl)) h
  · have h := h.2 c1
    refine a_aload_n (j := 0) d_Reader_readDark_13 rfl rfl ?_
    refine a_iconst d_Reader_readDark_14 (by unfold fs_in32; omega) ?_
    refine b_virtual (dc := 1) (ci := 7) (T := fs_T7) (N := 12) [fs_i 2] [] d_Reader_readDark_15 ml_Reader_95 k_Reader_stumble v_Reader_stumble rfl io_29 rfl (Nat.le_of_ble_eq_true rfl) rfl (Nat.le_of_ble_eq_true rfl) ?_
    refine fs_Call.mono (fun v M5 hv => ?_) h
    obtain ⟨r5, rfl, h⟩ := hv
    show fs_A2 g m_Reader_readDark 5 18 [(0, fs_r 29), (1, fs_i (M 15 9))] [fs_i r5] M5 K
    obtain ⟨o6, h⟩ := h
    exact b_ireturn d_Reader_readDark_18 rfl (fs_nar01 o6) h
set_option maxRecDepth 8000 in
set_option maxHeartbeats 4000000 in
theorem E_Reader_readSeed {M : fs_M} {K : fs_K} 
    (h : ((M 15 11 = 0 → fs_C2 g m_Reader_advance 3 [fs_r 29] M (fun v M1 => v = none ∧ fs_C2 g m_Reader_takeNumber 4 [fs_r 29, fs_i 0, fs_i 99999] M1 (fun v M2 => ∃ r2, v = some (fs_i r2) ∧ ((¬ M2 29 2 = 0 → K (some (fs_i 0)) (fs_st (fs_st M2 15 10 r2) 15 11 1)) ∧ (M2 29 2 = 0 → K (some (fs_i 1)) (fs_st (fs_st M2 15 10 r2) 15 11 1)))))) ∧ (¬ M 15 11 = 0 → fs_C2 g m_Reader_stumble 1 [fs_r 29, fs_i 3] M (fun v M3 => ∃ r3, v = some (fs_i r3) ∧ ((r3 = 0 ∨ r3 = 1) ∧ K (some (fs_i r3)) M3))))) :
    fs_C2 g m_Reader_readSeed 5 [fs_r 29] M K := by
  refine b_enter2 (ls := [(0, fs_r 29)]) (plainFor_of_name pn_Reader) (Nat.le_of_ble_eq_true rfl) rfl ?_
  refine a_aload_n (j := 0) d_Reader_readSeed_0 rfl rfl ?_
  refine b_getptr (q := 15) d_Reader_readSeed_1 fl_Reader_52 io_29 rfl rfl rfl ?_
  refine b_getfield (v := fs_i (M 15 11)) d_Reader_readSeed_4 fl_Reader_149 io_15 rfl ?_
  refine a_if_eq (tgt := 16) d_Reader_readSeed_7 rfl (fun c1 => ?_) (fun c1 => ?_)
  · have h := h.1 c1
    refine a_aload_n (j := 0) d_Reader_readSeed_16 rfl rfl ?_
    refine b_virtual (dc := 3) (ci := 7) (T := fs_T7) (N := 12) [] [] d_Reader_readSeed_17 ml_Reader_67 k_Reader_advance v_Reader_advance rfl io_29 rfl (Nat.le_of_ble_eq_true rfl) rfl (Nat.le_of_ble_eq_true rfl) ?_
    refine fs_Call.mono (fun v M1 hv => ?_) h
    obtain ⟨rfl, h⟩ := hv
    show fs_A2 g m_Reader_readSeed 5 20 [(0, fs_r 29)] [] M1 K
    refine a_aload_n (j := 0) d_Reader_readSeed_20 rfl rfl ?_
    refine b_getptr (q := 15) d_Reader_readSeed_21 fl_Reader_52 io_29 rfl rfl rfl ?_
    refine a_aload_n (j := 0) d_Reader_readSeed_24 rfl rfl ?_
    refine a_iconst d_Reader_readSeed_25 (by unfold fs_in32; omega) ?_
    refine a_ldc d_Reader_readSeed_26 cn_Reader_153 (by unfold fs_in32; omega) ?_
    refine b_virtual (dc := 4) (ci := 7) (T := fs_T7) (N := 12) [fs_i 0, fs_i 99999] [fs_r 15] d_Reader_readSeed_28 ml_Reader_119 k_Reader_takeNumber v_Reader_takeNumber rfl io_29 rfl (Nat.le_of_ble_eq_true rfl) rfl (Nat.le_of_ble_eq_true rfl) ?_
    refine fs_Call.mono (fun v M2 hv => ?_) h
    obtain ⟨r2, rfl, h⟩ := hv
    show fs_A2 g m_Reader_readSeed 5 31 [(0, fs_r 29)] [fs_i r2, fs_r 15] M2 K
    refine b_putfield (x := r2) d_Reader_readSeed_31 fl_Reader_154 io_15 rfl rfl fs_nar_int ?_
    refine a_aload_n (j := 0) d_Reader_readSeed_34 rfl rfl ?_
    refine b_getptr (q := 15) d_Reader_readSeed_35 fl_Reader_52 io_29 rfl rfl rfl ?_
    refine a_iconst d_Reader_readSeed_38 (by unfold fs_in32; omega) ?_
    refine b_putfield (x := 1) d_Reader_readSeed_39 fl_Reader_149 io_15 rfl rfl (fs_nar_bool (Or.inr rfl)) ?_
    refine a_aload_n (j := 0) d_Reader_readSeed_42 rfl rfl ?_
    refine b_getfield (v := fs_i (M2 29 2)) d_Reader_readSeed_43 fl_Reader_19 io_29 rfl ?_
    refine a_if_ne (tgt := 53) d_Reader_readSeed_46 rfl (fun c2 => ?_) (fun c2 => ?_)
    · have h := h.1 c2
      refine a_iconst d_Reader_readSeed_53 (by unfold fs_in32; omega) ?_
      exact b_ireturn d_Reader_readSeed_54 rfl (fs_nar01 (Or.inl rfl)) h
    · have h := h.2 c2
      refine a_iconst d_Reader_readSeed_49 (by unfold fs_in32; omega) ?_
      refine a_goto (tgt := 54) d_Reader_readSeed_50 rfl ?_
      exact b_ireturn d_Reader_readSeed_54 rfl (fs_nar01 (Or.inr rfl)) h
  · have h := h.2 c1
    refine a_aload_n (j := 0) d_Reader_readSeed_10 rfl rfl ?_
    refine a_iconst d_Reader_readSeed_11 (by unfold fs_in32; omega) ?_
    refine b_virtual (dc := 1) (ci := 7) (T := fs_T7) (N := 12) [fs_i 3] [] d_Reader_readSeed_12 ml_Reader_95 k_Reader_stumble v_Reader_stumble rfl io_29 rfl (Nat.le_of_ble_eq_true rfl) rfl (Nat.le_of_ble_eq_true rfl) ?_
    refine fs_Call.mono (fun v M3 hv => ?_) h
    obtain ⟨r3, rfl, h⟩ := hv
    show fs_A2 g m_Reader_readSeed 5 15 [(0, fs_r 29)] [fs_i r3] M3 K
    obtain ⟨o3, h⟩ := h
    exact b_ireturn d_Reader_readSeed_15 rfl (fs_nar01 o3) h
set_option maxRecDepth 8000 in
set_option maxHeartbeats 4000000 in
theorem E_Reader_readLaw {M : fs_M} {K : fs_K} 
    (h : fs_C2 g m_Reader_advance 3 [fs_r 29] M (fun v M1 => v = none ∧ fs_C2 g m_Reader_lawKind 2 [fs_r 29] M1 (fun v M2 => ∃ r2, v = some (fs_i r2) ∧ ((¬ r2 = (-1) → fs_C2 g m_Laws_isTold 1 [fs_r 23, fs_i r2] M2 (fun v M3 => ∃ r3, v = some (fs_i r3) ∧ ((r3 = 0 → fs_C2 g m_Reader_advance 3 [fs_r 29] M3 (fun v M4 => v = none ∧ (0 ≤ r2 ∧ r2 < 4 ∧ fs_C2 g m_Reader_readExpression 154 [fs_r 29, fs_i 1, fs_i 0] (fs_st M4 26 r2 (M4 23 2)) (fun v M5 => ∃ r5, v = some (fs_i r5) ∧ ((r5 = 0 ∨ r5 = 1) ∧ K (some (fs_i r5)) (fs_st M5 27 r2 (M5 23 2))))))) ∧ (¬ r3 = 0 → fs_C2 g m_Reader_stumble 1 [fs_r 29, fs_i 3] M3 (fun v M6 => ∃ r6, v = some (fs_i r6) ∧ ((r6 = 0 ∨ r6 = 1) ∧ K (some (fs_i r6)) M6)))))) ∧ (r2 = (-1) → fs_C2 g m_Reader_stumble 1 [fs_r 29, fs_i 1] M2 (fun v M7 => ∃ r7, v = some (fs_i r7) ∧ ((r7 = 0 ∨ r7 = 1) ∧ K (some (fs_i r7)) M7))))))) :
    fs_C2 g m_Reader_readLaw 155 [fs_r 29] M K := by
  refine b_enter2 (ls := [(0, fs_r 29)]) (plainFor_of_name pn_Reader) (Nat.le_of_ble_eq_true rfl) rfl ?_
  refine a_aload_n (j := 0) d_Reader_readLaw_0 rfl rfl ?_
  refine b_virtual (dc := 3) (ci := 7) (T := fs_T7) (N := 12) [] [] d_Reader_readLaw_1 ml_Reader_67 k_Reader_advance v_Reader_advance rfl io_29 rfl (Nat.le_of_ble_eq_true rfl) rfl (Nat.le_of_ble_eq_true rfl) ?_
  refine fs_Call.mono (fun v M1 hv => ?_) h
  obtain ⟨rfl, h⟩ := hv
  show fs_A2 g m_Reader_readLaw 155 4 [(0, fs_r 29)] [] M1 K
  refine a_aload_n (j := 0) d_Reader_readLaw_4 rfl rfl ?_
  refine b_virtual (dc := 2) (ci := 7) (T := fs_T7) (N := 12) [] [] d_Reader_readLaw_5 ml_Reader_157 k_Reader_lawKind v_Reader_lawKind rfl io_29 rfl (Nat.le_of_ble_eq_true rfl) rfl (Nat.le_of_ble_eq_true rfl) ?_
  refine fs_Call.mono (fun v M2 hv => ?_) h
  obtain ⟨r2, rfl, h⟩ := hv
  show fs_A2 g m_Reader_readLaw 155 8 [(0, fs_r 29)] [fs_i r2] M2 K
  refine a_istore_n d_Reader_readLaw_8 rfl (Nat.le_of_ble_eq_true rfl) [1, 0] rfl ?_
  refine a_iload_n (j := 1) d_Reader_readLaw_9 rfl rfl ?_
  refine a_iconst d_Reader_readLaw_10 (by unfold fs_in32; omega) ?_
  refine a_icmp_ne (tgt := 20) d_Reader_readLaw_11 rfl (fun c1 => ?_) (fun c1 => ?_)
  · have h := h.1 c1
    refine a_aload_n (j := 0) d_Reader_readLaw_20 rfl rfl ?_
    refine b_getptr (q := 15) d_Reader_readLaw_21 fl_Reader_52 io_29 rfl rfl rfl ?_
    refine b_getptr (q := 23) d_Reader_readLaw_24 fl_Reader_161 io_15 rfl rfl rfl ?_
    refine a_iload_n (j := 1) d_Reader_readLaw_27 rfl rfl ?_
    refine b_virtual (dc := 1) (ci := 3) (T := fs_T3) (N := 14) [fs_i r2] [] d_Reader_readLaw_28 ml_Reader_165 k_Laws_isTold v_Laws_isTold rfl io_23 rfl (Nat.le_of_ble_eq_true rfl) rfl (Nat.le_of_ble_eq_true rfl) ?_
    refine fs_Call.mono (fun v M3 hv => ?_) h
    obtain ⟨r3, rfl, h⟩ := hv
    show fs_A2 g m_Reader_readLaw 155 31 [(0, fs_r 29), (1, fs_i r2)] [fs_i r3] M3 K
    refine a_if_eq (tgt := 40) d_Reader_readLaw_31 rfl (fun c2 => ?_) (fun c2 => ?_)
    · have h := h.1 c2
      refine a_aload_n (j := 0) d_Reader_readLaw_40 rfl rfl ?_
      refine b_virtual (dc := 3) (ci := 7) (T := fs_T7) (N := 12) [] [] d_Reader_readLaw_41 ml_Reader_67 k_Reader_advance v_Reader_advance rfl io_29 rfl (Nat.le_of_ble_eq_true rfl) rfl (Nat.le_of_ble_eq_true rfl) ?_
      refine fs_Call.mono (fun v M4 hv => ?_) h
      obtain ⟨rfl, h⟩ := hv
      show fs_A2 g m_Reader_readLaw 155 44 [(0, fs_r 29), (1, fs_i r2)] [] M4 K
      refine a_aload_n (j := 0) d_Reader_readLaw_44 rfl rfl ?_
      refine b_getptr (q := 15) d_Reader_readLaw_45 fl_Reader_52 io_29 rfl rfl rfl ?_
      refine b_getptr (q := 23) d_Reader_readLaw_48 fl_Reader_161 io_15 rfl rfl rfl ?_
      refine b_getptr (q := 26) d_Reader_readLaw_51 fl_Reader_170 io_23 rfl rfl rfl ?_
      refine a_iload_n (j := 1) d_Reader_readLaw_54 rfl rfl ?_
      refine a_aload_n (j := 0) d_Reader_readLaw_55 rfl rfl ?_
      refine b_getptr (q := 15) d_Reader_readLaw_56 fl_Reader_52 io_29 rfl rfl rfl ?_
      refine b_getptr (q := 23) d_Reader_readLaw_59 fl_Reader_161 io_15 rfl rfl rfl ?_
      refine b_getfield (v := fs_i (M4 23 2)) d_Reader_readLaw_62 fl_Reader_173 io_23 rfl ?_
      obtain ⟨o3, o4, h⟩ := h
      refine b_iastore d_Reader_readLaw_65 ia_26 o3 o4 ?_
      refine a_aload_n (j := 0) d_Reader_readLaw_66 rfl rfl ?_
      refine a_iconst d_Reader_readLaw_67 (by unfold fs_in32; omega) ?_
      refine a_iconst d_Reader_readLaw_68 (by unfold fs_in32; omega) ?_
      refine b_virtual (dc := 154) (ci := 7) (T := fs_T7) (N := 12) [fs_i 1, fs_i 0] [] d_Reader_readLaw_69 ml_Reader_174 k_Reader_readExpression v_Reader_readExpression rfl io_29 rfl (Nat.le_of_ble_eq_true rfl) rfl (Nat.le_of_ble_eq_true rfl) ?_
      refine fs_Call.mono (fun v M5 hv => ?_) h
      obtain ⟨r5, rfl, h⟩ := hv
      show fs_A2 g m_Reader_readLaw 155 72 [(0, fs_r 29), (1, fs_i r2)] [fs_i r5] M5 K
      refine a_istore_n d_Reader_readLaw_72 rfl (Nat.le_of_ble_eq_true rfl) [1, 2, 0] rfl ?_
      refine a_aload_n (j := 0) d_Reader_readLaw_73 rfl rfl ?_
      refine b_getptr (q := 15) d_Reader_readLaw_74 fl_Reader_52 io_29 rfl rfl rfl ?_
      refine b_getptr (q := 23) d_Reader_readLaw_77 fl_Reader_161 io_15 rfl rfl rfl ?_
      refine b_getptr (q := 27) d_Reader_readLaw_80 fl_Reader_178 io_23 rfl rfl rfl ?_
      refine a_iload_n (j := 1) d_Reader_readLaw_83 rfl rfl ?_
      refine a_aload_n (j := 0) d_Reader_readLaw_84 rfl rfl ?_
      refine b_getptr (q := 15) d_Reader_readLaw_85 fl_Reader_52 io_29 rfl rfl rfl ?_
      refine b_getptr (q := 23) d_Reader_readLaw_88 fl_Reader_161 io_15 rfl rfl rfl ?_
      refine b_getfield (v := fs_i (M5 23 2)) d_Reader_readLaw_91 fl_Reader_173 io_23 rfl ?_
      refine b_iastore d_Reader_readLaw_94 ia_27 o3 o4 ?_
      refine a_iload_n (j := 2) d_Reader_readLaw_95 rfl rfl ?_
      obtain ⟨o5, h⟩ := h
      exact b_ireturn d_Reader_readLaw_96 rfl (fs_nar01 o5) h
    · have h := h.2 c2
      refine a_aload_n (j := 0) d_Reader_readLaw_34 rfl rfl ?_
      refine a_iconst d_Reader_readLaw_35 (by unfold fs_in32; omega) ?_
      refine b_virtual (dc := 1) (ci := 7) (T := fs_T7) (N := 12) [fs_i 3] [] d_Reader_readLaw_36 ml_Reader_95 k_Reader_stumble v_Reader_stumble rfl io_29 rfl (Nat.le_of_ble_eq_true rfl) rfl (Nat.le_of_ble_eq_true rfl) ?_
      refine fs_Call.mono (fun v M6 hv => ?_) h
      obtain ⟨r6, rfl, h⟩ := hv
      show fs_A2 g m_Reader_readLaw 155 39 [(0, fs_r 29), (1, fs_i r2)] [fs_i r6] M6 K
      obtain ⟨o6, h⟩ := h
      exact b_ireturn d_Reader_readLaw_39 rfl (fs_nar01 o6) h
  · have h := h.2 c1
    refine a_aload_n (j := 0) d_Reader_readLaw_14 rfl rfl ?_
    refine a_iconst d_Reader_readLaw_15 (by unfold fs_in32; omega) ?_
    refine b_virtual (dc := 1) (ci := 7) (T := fs_T7) (N := 12) [fs_i 1] [] d_Reader_readLaw_16 ml_Reader_95 k_Reader_stumble v_Reader_stumble rfl io_29 rfl (Nat.le_of_ble_eq_true rfl) rfl (Nat.le_of_ble_eq_true rfl) ?_
    refine fs_Call.mono (fun v M7 hv => ?_) h
    obtain ⟨r7, rfl, h⟩ := hv
    show fs_A2 g m_Reader_readLaw 155 19 [(0, fs_r 29), (1, fs_i r2)] [fs_i r7] M7 K
    obtain ⟨o7, h⟩ := h
    exact b_ireturn d_Reader_readLaw_19 rfl (fs_nar01 o7) h
set_option maxRecDepth 8000 in
set_option maxHeartbeats 4000000 in
theorem E_Reader_lawKind {M : fs_M} {K : fs_K} 
    (h : (fs_tk (M 29 7) ∧ ((fs_sm (fs_ord (M 29 7)) = 1 → K (some (fs_i 0)) M) ∧ (fs_sm (fs_ord (M 29 7)) = 2 → K (some (fs_i 1)) M) ∧ (fs_sm (fs_ord (M 29 7)) = 3 → K (some (fs_i 2)) M) ∧ (fs_sm (fs_ord (M 29 7)) = 4 → K (some (fs_i 3)) M) ∧ (¬ fs_sm (fs_ord (M 29 7)) = 1 ∧ ¬ fs_sm (fs_ord (M 29 7)) = 2 ∧ ¬ fs_sm (fs_ord (M 29 7)) = 3 ∧ ¬ fs_sm (fs_ord (M 29 7)) = 4 → K (some (fs_i (-1))) M)))) :
    fs_C2 g m_Reader_lawKind 2 [fs_r 29] M K := by
  refine b_enter2 (ls := [(0, fs_r 29)]) (plainFor_of_name pn_Reader) (Nat.le_of_ble_eq_true rfl) rfl ?_
  refine a_getstatic (v := fs_r 2001) d_Reader_lawKind_0 gs_Reader_181 fs_ZSM (by show fs_in32 2001; unfold fs_in32; omega) ?_
  refine a_aload_n (j := 0) d_Reader_lawKind_3 rfl rfl ?_
  refine b_getfield (v := fs_r (M 29 7)) d_Reader_lawKind_4 fl_Reader_37 io_29 rfl ?_
  obtain ⟨o1, h⟩ := h
  refine b_so (dc := 1) [] [fs_r 2001] d_Reader_lawKind_7 or_Reader_186 or_any k_Enum_ordinal v_Enum_ordinal (o1).1 (fs_Otk o1) rfl (Nat.le_of_ble_eq_true rfl) rfl (Nat.le_of_ble_eq_true rfl) ?_
  refine sp_ordinal o1 ?_
  refine a_smload d_Reader_lawKind_10 (fs_ord_in o1).1 (fs_ord_in o1).2 ?_
  obtain ⟨hs11_0, hs11_1, hs11_2, hs11_3, hs11_4⟩ := h
  by_cases q11_1 : fs_sm (fs_ord (M 29 7)) = 1
  · have h := hs11_0 q11_1
    refine a_tableIn (tgt := 40) d_Reader_lawKind_11 (by omega) (by omega) (by rw [q11_1]; rfl) rfl ?_
    refine a_iconst d_Reader_lawKind_40 (by unfold fs_in32; omega) ?_
    exact b_ireturn d_Reader_lawKind_41 rfl rfl h
  ·
    by_cases q11_2 : fs_sm (fs_ord (M 29 7)) = 2
    · have h := hs11_1 q11_2
      refine a_tableIn (tgt := 42) d_Reader_lawKind_11 (by omega) (by omega) (by rw [q11_2]; rfl) rfl ?_
      refine a_iconst d_Reader_lawKind_42 (by unfold fs_in32; omega) ?_
      exact b_ireturn d_Reader_lawKind_43 rfl rfl h
    ·
      by_cases q11_3 : fs_sm (fs_ord (M 29 7)) = 3
      · have h := hs11_2 q11_3
        refine a_tableIn (tgt := 44) d_Reader_lawKind_11 (by omega) (by omega) (by rw [q11_3]; rfl) rfl ?_
        refine a_iconst d_Reader_lawKind_44 (by unfold fs_in32; omega) ?_
        exact b_ireturn d_Reader_lawKind_45 rfl rfl h
      ·
        by_cases q11_4 : fs_sm (fs_ord (M 29 7)) = 4
        · have h := hs11_3 q11_4
          refine a_tableIn (tgt := 46) d_Reader_lawKind_11 (by omega) (by omega) (by rw [q11_4]; rfl) rfl ?_
          refine a_iconst d_Reader_lawKind_46 (by unfold fs_in32; omega) ?_
          exact b_ireturn d_Reader_lawKind_47 rfl rfl h
        ·
          have h := hs11_4 ⟨q11_1, q11_2, q11_3, q11_4⟩
          refine a_tableOut (tgt := 48) d_Reader_lawKind_11 (by omega) rfl ?_
          refine a_iconst d_Reader_lawKind_48 (by unfold fs_in32; omega) ?_
          exact b_ireturn d_Reader_lawKind_49 rfl rfl h
set_option maxRecDepth 8000 in
set_option maxHeartbeats 4000000 in
theorem E_Reader_readExpression {d : Nat} (hd : 4 ≤ d) {M : fs_M} {K : fs_K} {x1 x2 : Int} 
    (h : ((x1 < 6 → ((¬ x1 = 3 → fs_A2 g m_Reader_readExpression (d + 1) 54 [(0, fs_r 29), (1, fs_i x1), (2, fs_i x2), (3, fs_i 0)] [] M K) ∧ (x1 = 3 → fs_A2 g m_Reader_readExpression (d + 1) 19 [(0, fs_r 29), (1, fs_i x1), (2, fs_i x2), (3, fs_i 0)] [] M K))) ∧ (¬ x1 < 6 → fs_C2 g m_Reader_readValue d [fs_r 29, fs_i x2] M (fun v M1 => ∃ r1, v = some (fs_i r1) ∧ ((r1 = 0 ∨ r1 = 1) ∧ K (some (fs_i r1)) M1))))) :
    fs_C2 g m_Reader_readExpression (d + 1) [fs_r 29, fs_i x1, fs_i x2] M K := by
  refine b_enter2 (ls := [(0, fs_r 29), (1, fs_i x1), (2, fs_i x2)]) (plainFor_of_name pn_Reader) (Nat.le_of_ble_eq_true rfl) rfl ?_
  refine a_iload_n (j := 1) d_Reader_readExpression_0 rfl rfl ?_
  refine a_bipush d_Reader_readExpression_1 (by decide) ?_
  refine a_icmp_lt (tgt := 12) d_Reader_readExpression_3 rfl (fun c1 => ?_) (fun c1 => ?_)
  · have h := h.1 c1
    refine a_iconst d_Reader_readExpression_12 (by unfold fs_in32; omega) ?_
    refine a_istore_n d_Reader_readExpression_13 rfl (Nat.le_of_ble_eq_true rfl) [1, 2, 3, 0] rfl ?_
    refine a_iload_n (j := 1) d_Reader_readExpression_14 rfl rfl ?_
    refine a_iconst d_Reader_readExpression_15 (by unfold fs_in32; omega) ?_
    refine a_icmp_ne (tgt := 54) d_Reader_readExpression_16 rfl (fun c2 => ?_) (fun c2 => ?_)
    · have h := h.1 c2
      exact h
    · have h := h.2 c2
      exact h
  · have h := h.2 c1
    refine a_aload_n (j := 0) d_Reader_readExpression_6 rfl rfl ?_
    refine a_iload_n (j := 2) d_Reader_readExpression_7 rfl rfl ?_
    refine b_virtual (dc := d) (ci := 7) (T := fs_T7) (N := 12) [fs_i x2] [] d_Reader_readExpression_8 ml_Reader_189 k_Reader_readValue v_Reader_readValue rfl io_29 rfl (Nat.le_refl _) rfl (Nat.le_of_ble_eq_true rfl) ?_
    refine fs_Call.mono (fun v M1 hv => ?_) h
    obtain ⟨r1, rfl, h⟩ := hv
    show fs_A2 g m_Reader_readExpression (d + 1) 11 [(0, fs_r 29), (1, fs_i x1), (2, fs_i x2)] [fs_i r1] M1 K
    obtain ⟨o3, h⟩ := h
    exact b_ireturn d_Reader_readExpression_11 rfl (fs_nar01 o3) h
set_option maxRecDepth 8000 in
set_option maxHeartbeats 4000000 in
theorem L_Reader_readExpression_19 {d : Nat} (hd : 4 ≤ d) {M : fs_M} {K : fs_K} {x1 x2 x3 : Int} 
    (h : ((64 < x3 → fs_A2 g m_Reader_readExpression (d + 1) 54 [(0, fs_r 29), (1, fs_i x1), (2, fs_i x2), (3, fs_i x3)] [] M K) ∧ (¬ 64 < x3 → (fs_tk (M 29 7) ∧ ((¬ M 29 7 = 1020 → fs_A2 g m_Reader_readExpression (d + 1) 54 [(0, fs_r 29), (1, fs_i x1), (2, fs_i x2), (3, fs_i x3)] [] M K) ∧ (M 29 7 = 1020 → fs_C2 g m_Reader_countKnot 2 [fs_r 29] M (fun v M2 => ∃ r2, v = some (fs_i r2) ∧ ((¬ r2 = 0 → fs_C2 g m_Reader_advance 3 [fs_r 29] M2 (fun v M3 => v = none ∧ fs_A2 g m_Reader_readExpression (d + 1) 19 [(0, fs_r 29), (1, fs_i x1), (2, fs_i x2), (3, fs_i (fs_w32 (x3 + 1)))] [] M3 K)) ∧ (r2 = 0 → K (some (fs_i 0)) M2))))))))) :
    fs_A2 g m_Reader_readExpression (d + 1) 19 [(0, fs_r 29), (1, fs_i x1), (2, fs_i x2), (3, fs_i x3)] [] M K := by
  refine a_iload_n (j := 3) d_Reader_readExpression_19 rfl rfl ?_
  refine a_bipush d_Reader_readExpression_20 (by decide) ?_
  refine a_icmp_gt (tgt := 54) d_Reader_readExpression_22 rfl (fun c4 => ?_) (fun c4 => ?_)
  · have h := h.1 c4
    exact h
  · have h := h.2 c4
    refine a_aload_n (j := 0) d_Reader_readExpression_25 rfl rfl ?_
    refine b_getfield (v := fs_r (M 29 7)) d_Reader_readExpression_26 fl_Reader_37 io_29 rfl ?_
    refine a_getstatic (v := fs_r 1020) d_Reader_readExpression_29 gs_Reader_192 (fs_Ztok (i := 20) (by decide) rfl rfl) (by show fs_in32 1020; unfold fs_in32; omega) ?_
    obtain ⟨o5, h⟩ := h
    refine a_acmp_ne (tgt := 54) d_Reader_readExpression_32 rfl (Or.inl o5) (Or.inl tk_1020) (fun c6 => ?_) (fun c6 => ?_)
    · have h := h.1 c6
      exact h
    · have h := h.2 c6
      refine a_aload_n (j := 0) d_Reader_readExpression_35 rfl rfl ?_
      refine b_virtual (dc := 2) (ci := 7) (T := fs_T7) (N := 12) [] [] d_Reader_readExpression_36 ml_Reader_195 k_Reader_countKnot v_Reader_countKnot rfl io_29 rfl (by omega) rfl (Nat.le_of_ble_eq_true rfl) ?_
      refine fs_Call.mono (fun v M2 hv => ?_) h
      obtain ⟨r2, rfl, h⟩ := hv
      show fs_A2 g m_Reader_readExpression (d + 1) 39 [(0, fs_r 29), (1, fs_i x1), (2, fs_i x2), (3, fs_i x3)] [fs_i r2] M2 K
      refine a_if_ne (tgt := 44) d_Reader_readExpression_39 rfl (fun c7 => ?_) (fun c7 => ?_)
      · have h := h.1 c7
        refine a_aload_n (j := 0) d_Reader_readExpression_44 rfl rfl ?_
        refine b_virtual (dc := 3) (ci := 7) (T := fs_T7) (N := 12) [] [] d_Reader_readExpression_45 ml_Reader_67 k_Reader_advance v_Reader_advance rfl io_29 rfl (by omega) rfl (Nat.le_of_ble_eq_true rfl) ?_
        refine fs_Call.mono (fun v M3 hv => ?_) h
        obtain ⟨rfl, h⟩ := hv
        show fs_A2 g m_Reader_readExpression (d + 1) 48 [(0, fs_r 29), (1, fs_i x1), (2, fs_i x2), (3, fs_i x3)] [] M3 K
        refine a_iinc (j := 3) d_Reader_readExpression_48 rfl (Nat.le_of_ble_eq_true rfl) [1, 2, 3, 0] rfl ?_
        refine a_goto (tgt := 19) d_Reader_readExpression_51 rfl ?_
        exact h
      · have h := h.2 c7
        refine a_iconst d_Reader_readExpression_42 (by unfold fs_in32; omega) ?_
        exact b_ireturn d_Reader_readExpression_43 rfl (fs_nar01 (Or.inl rfl)) h
set_option maxRecDepth 8000 in
set_option maxHeartbeats 4000000 in
theorem L_Reader_readExpression_54 {d : Nat} (hd : 4 ≤ d) {M : fs_M} {K : fs_K} {x1 x2 x3 : Int} 
    (h : fs_C2 g m_Reader_readExpression d [fs_r 29, fs_i (fs_w32 (x1 + 1)), fs_i x2] M (fun v M4 => ∃ r4, v = some (fs_i r4) ∧ ((¬ r4 = 0 → ((¬ x1 = 3 → fs_A2 g m_Reader_readExpression (d + 1) 83 [(0, fs_r 29), (1, fs_i x1), (2, fs_i x2), (3, fs_i x3), (4, fs_i 65), (5, fs_i 0)] [] M4 K) ∧ (x1 = 3 → fs_A2 g m_Reader_readExpression (d + 1) 83 [(0, fs_r 29), (1, fs_i x1), (2, fs_i x2), (3, fs_i x3), (4, fs_i 1), (5, fs_i 0)] [] M4 K))) ∧ (r4 = 0 → K (some (fs_i 0)) M4)))) :
    fs_A2 g m_Reader_readExpression (d + 1) 54 [(0, fs_r 29), (1, fs_i x1), (2, fs_i x2), (3, fs_i x3)] [] M K := by
  refine a_aload_n (j := 0) d_Reader_readExpression_54 rfl rfl ?_
  refine a_iload_n (j := 1) d_Reader_readExpression_55 rfl rfl ?_
  refine a_iconst d_Reader_readExpression_56 (by unfold fs_in32; omega) ?_
  refine a_iadd d_Reader_readExpression_57 ?_
  refine a_iload_n (j := 2) d_Reader_readExpression_58 rfl rfl ?_
  refine b_virtual (dc := d) (ci := 7) (T := fs_T7) (N := 12) [fs_i (fs_w32 (x1 + 1)), fs_i x2] [] d_Reader_readExpression_59 ml_Reader_174 k_Reader_readExpression v_Reader_readExpression rfl io_29 rfl (Nat.le_refl _) rfl (Nat.le_of_ble_eq_true rfl) ?_
  refine fs_Call.mono (fun v M4 hv => ?_) h
  obtain ⟨r4, rfl, h⟩ := hv
  show fs_A2 g m_Reader_readExpression (d + 1) 62 [(0, fs_r 29), (1, fs_i x1), (2, fs_i x2), (3, fs_i x3)] [fs_i r4] M4 K
  refine a_if_ne (tgt := 67) d_Reader_readExpression_62 rfl (fun c8 => ?_) (fun c8 => ?_)
  · have h := h.1 c8
    refine a_iload_n (j := 1) d_Reader_readExpression_67 rfl rfl ?_
    refine a_iconst d_Reader_readExpression_68 (by unfold fs_in32; omega) ?_
    refine a_icmp_ne (tgt := 76) d_Reader_readExpression_69 rfl (fun c9 => ?_) (fun c9 => ?_)
    · have h := h.1 c9
      refine a_bipush d_Reader_readExpression_76 (by decide) ?_
      refine a_istore d_Reader_readExpression_78 (Nat.le_of_ble_eq_true rfl) [1, 2, 3, 4, 0] rfl ?_
      refine a_iconst d_Reader_readExpression_80 (by unfold fs_in32; omega) ?_
      refine a_istore d_Reader_readExpression_81 (Nat.le_of_ble_eq_true rfl) [1, 2, 3, 4, 5, 0] rfl ?_
      exact h
    · have h := h.2 c9
      refine a_iconst d_Reader_readExpression_72 (by unfold fs_in32; omega) ?_
      refine a_goto (tgt := 78) d_Reader_readExpression_73 rfl ?_
      refine a_istore d_Reader_readExpression_78 (Nat.le_of_ble_eq_true rfl) [1, 2, 3, 4, 0] rfl ?_
      refine a_iconst d_Reader_readExpression_80 (by unfold fs_in32; omega) ?_
      refine a_istore d_Reader_readExpression_81 (Nat.le_of_ble_eq_true rfl) [1, 2, 3, 4, 5, 0] rfl ?_
      exact h
  · have h := h.2 c8
    refine a_iconst d_Reader_readExpression_65 (by unfold fs_in32; omega) ?_
    exact b_ireturn d_Reader_readExpression_66 rfl (fs_nar01 (Or.inl rfl)) h
set_option maxRecDepth 8000 in
set_option maxHeartbeats 4000000 in
theorem L_Reader_readExpression_83 {d : Nat} (hd : 4 ≤ d) {M : fs_M} {K : fs_K} {x1 x2 x3 x4 x5 : Int} 
    (h : ((x4 ≤ x5 → fs_A2 g m_Reader_readExpression (d + 1) 155 [(0, fs_r 29), (3, fs_i x3), (5, fs_i 0)] [] M K) ∧ (¬ x4 ≤ x5 → (fs_tk (M 29 7) ∧ ((¬ fs_lev (M 29 7) = x1 → fs_A2 g m_Reader_readExpression (d + 1) 155 [(0, fs_r 29), (3, fs_i x3), (5, fs_i 0)] [] M K) ∧ (fs_lev (M 29 7) = x1 → fs_C2 g m_Reader_countKnot 2 [fs_r 29] M (fun v M5 => ∃ r5, v = some (fs_i r5) ∧ ((¬ r5 = 0 → fs_C2 g m_Reader_advance 3 [fs_r 29] M5 (fun v M6 => v = none ∧ fs_C2 g m_Reader_readExpression d [fs_r 29, fs_i (fs_w32 (x1 + 1)), fs_i x2] M6 (fun v M7 => ∃ r7, v = some (fs_i r7) ∧ ((¬ r7 = 0 → fs_C2 g m_Laws_add 1 [fs_r 23, fs_r (M 29 7), fs_i 0] M7 (fun v M8 => v = none ∧ fs_A2 g m_Reader_readExpression (d + 1) 83 [(0, fs_r 29), (1, fs_i x1), (2, fs_i x2), (3, fs_i x3), (4, fs_i x4), (5, fs_i (fs_w32 (x5 + 1)))] [] M8 K)) ∧ (r7 = 0 → K (some (fs_i 0)) M7))))) ∧ (r5 = 0 → K (some (fs_i 0)) M5))))))))) :
    fs_A2 g m_Reader_readExpression (d + 1) 83 [(0, fs_r 29), (1, fs_i x1), (2, fs_i x2), (3, fs_i x3), (4, fs_i x4), (5, fs_i x5)] [] M K := by
  refine a_iload (j := 5) d_Reader_readExpression_83 rfl ?_
  refine a_iload (j := 4) d_Reader_readExpression_85 rfl ?_
  refine a_icmp_ge (tgt := 152) d_Reader_readExpression_87 rfl (fun c10 => ?_) (fun c10 => ?_)
  · have h := h.1 c10
    refine a_iconst d_Reader_readExpression_152 (by unfold fs_in32; omega) ?_
    refine a_istore d_Reader_readExpression_153 (Nat.le_of_ble_eq_true rfl) [1, 2, 3, 4, 5, 0] rfl ?_
    refine a_sub [0, 3, 5] rfl ?_
    exact h
  · have h := h.2 c10
    refine a_aload_n (j := 0) d_Reader_readExpression_90 rfl rfl ?_
    refine b_getfield (v := fs_r (M 29 7)) d_Reader_readExpression_91 fl_Reader_37 io_29 rfl ?_
    obtain ⟨o11, h⟩ := h
    refine a_getOF (v := fs_i (fs_lev (M 29 7))) d_Reader_readExpression_94 gs_Reader_198 (o11).1 (fs_OFt o11 fs_mF2 rfl) (fs_I_in _) ?_
    refine a_iload_n (j := 1) d_Reader_readExpression_97 rfl rfl ?_
    refine a_icmp_ne (tgt := 152) d_Reader_readExpression_98 rfl (fun c12 => ?_) (fun c12 => ?_)
    · have h := h.1 c12
      refine a_iconst d_Reader_readExpression_152 (by unfold fs_in32; omega) ?_
      refine a_istore d_Reader_readExpression_153 (Nat.le_of_ble_eq_true rfl) [1, 2, 3, 4, 5, 0] rfl ?_
      refine a_sub [0, 3, 5] rfl ?_
      exact h
    · have h := h.2 c12
      refine a_aload_n (j := 0) d_Reader_readExpression_101 rfl rfl ?_
      refine b_getfield (v := fs_r (M 29 7)) d_Reader_readExpression_102 fl_Reader_37 io_29 rfl ?_
      refine a_astore d_Reader_readExpression_105 (Nat.le_of_ble_eq_true rfl) (by have q := (o11).1; omega) [1, 2, 3, 4, 5, 6, 0] rfl ?_
      refine a_aload_n (j := 0) d_Reader_readExpression_107 rfl rfl ?_
      refine b_virtual (dc := 2) (ci := 7) (T := fs_T7) (N := 12) [] [] d_Reader_readExpression_108 ml_Reader_195 k_Reader_countKnot v_Reader_countKnot rfl io_29 rfl (by omega) rfl (Nat.le_of_ble_eq_true rfl) ?_
      refine fs_Call.mono (fun v M5 hv => ?_) h
      obtain ⟨r5, rfl, h⟩ := hv
      show fs_A2 g m_Reader_readExpression (d + 1) 111 [(0, fs_r 29), (1, fs_i x1), (2, fs_i x2), (3, fs_i x3), (4, fs_i x4), (5, fs_i x5), (6, fs_r (M 29 7))] [fs_i r5] M5 K
      refine a_if_ne (tgt := 116) d_Reader_readExpression_111 rfl (fun c13 => ?_) (fun c13 => ?_)
      · have h := h.1 c13
        refine a_aload_n (j := 0) d_Reader_readExpression_116 rfl rfl ?_
        refine b_virtual (dc := 3) (ci := 7) (T := fs_T7) (N := 12) [] [] d_Reader_readExpression_117 ml_Reader_67 k_Reader_advance v_Reader_advance rfl io_29 rfl (by omega) rfl (Nat.le_of_ble_eq_true rfl) ?_
        refine fs_Call.mono (fun v M6 hv => ?_) h
        obtain ⟨rfl, h⟩ := hv
        show fs_A2 g m_Reader_readExpression (d + 1) 120 [(0, fs_r 29), (1, fs_i x1), (2, fs_i x2), (3, fs_i x3), (4, fs_i x4), (5, fs_i x5), (6, fs_r (M 29 7))] [] M6 K
        refine a_aload_n (j := 0) d_Reader_readExpression_120 rfl rfl ?_
        refine a_iload_n (j := 1) d_Reader_readExpression_121 rfl rfl ?_
        refine a_iconst d_Reader_readExpression_122 (by unfold fs_in32; omega) ?_
        refine a_iadd d_Reader_readExpression_123 ?_
        refine a_iload_n (j := 2) d_Reader_readExpression_124 rfl rfl ?_
        refine b_virtual (dc := d) (ci := 7) (T := fs_T7) (N := 12) [fs_i (fs_w32 (x1 + 1)), fs_i x2] [] d_Reader_readExpression_125 ml_Reader_174 k_Reader_readExpression v_Reader_readExpression rfl io_29 rfl (Nat.le_refl _) rfl (Nat.le_of_ble_eq_true rfl) ?_
        refine fs_Call.mono (fun v M7 hv => ?_) h
        obtain ⟨r7, rfl, h⟩ := hv
        show fs_A2 g m_Reader_readExpression (d + 1) 128 [(0, fs_r 29), (1, fs_i x1), (2, fs_i x2), (3, fs_i x3), (4, fs_i x4), (5, fs_i x5), (6, fs_r (M 29 7))] [fs_i r7] M7 K
        refine a_if_ne (tgt := 133) d_Reader_readExpression_128 rfl (fun c14 => ?_) (fun c14 => ?_)
        · have h := h.1 c14
          refine a_aload_n (j := 0) d_Reader_readExpression_133 rfl rfl ?_
          refine b_getptr (q := 15) d_Reader_readExpression_134 fl_Reader_52 io_29 rfl rfl rfl ?_
          refine b_getptr (q := 23) d_Reader_readExpression_137 fl_Reader_161 io_15 rfl rfl rfl ?_
          refine a_aload (j := 6) d_Reader_readExpression_140 rfl ?_
          refine a_iconst d_Reader_readExpression_142 (by unfold fs_in32; omega) ?_
          refine b_virtual (dc := 1) (ci := 3) (T := fs_T3) (N := 14) [fs_r (M 29 7), fs_i 0] [] d_Reader_readExpression_143 ml_Reader_201 k_Laws_add v_Laws_add rfl io_23 rfl (by omega) rfl (Nat.le_of_ble_eq_true rfl) ?_
          refine fs_Call.mono (fun v M8 hv => ?_) h
          obtain ⟨rfl, h⟩ := hv
          show fs_A2 g m_Reader_readExpression (d + 1) 146 [(0, fs_r 29), (1, fs_i x1), (2, fs_i x2), (3, fs_i x3), (4, fs_i x4), (5, fs_i x5), (6, fs_r (M 29 7))] [] M8 K
          refine a_iinc (j := 5) d_Reader_readExpression_146 rfl (Nat.le_of_ble_eq_true rfl) [1, 2, 3, 4, 5, 0, 6] rfl ?_
          refine a_goto (tgt := 83) d_Reader_readExpression_149 rfl ?_
          refine a_sub [0, 1, 2, 3, 4, 5] rfl ?_
          exact h
        · have h := h.2 c14
          refine a_iconst d_Reader_readExpression_131 (by unfold fs_in32; omega) ?_
          exact b_ireturn d_Reader_readExpression_132 rfl (fs_nar01 (Or.inl rfl)) h
      · have h := h.2 c13
        refine a_iconst d_Reader_readExpression_114 (by unfold fs_in32; omega) ?_
        exact b_ireturn d_Reader_readExpression_115 rfl (fs_nar01 (Or.inl rfl)) h
set_option maxRecDepth 8000 in
set_option maxHeartbeats 4000000 in
theorem L_Reader_readExpression_155 {d : Nat} (hd : 4 ≤ d) {M : fs_M} {K : fs_K} {x3 x5 : Int} 
    (h : ((x3 ≤ x5 → K (some (fs_i 1)) M) ∧ (¬ x3 ≤ x5 → fs_C2 g m_Laws_add 1 [fs_r 23, fs_r 1020, fs_i 0] M (fun v M9 => v = none ∧ fs_A2 g m_Reader_readExpression (d + 1) 155 [(0, fs_r 29), (3, fs_i x3), (5, fs_i (fs_w32 (x5 + 1)))] [] M9 K)))) :
    fs_A2 g m_Reader_readExpression (d + 1) 155 [(0, fs_r 29), (3, fs_i x3), (5, fs_i x5)] [] M K := by
  refine a_iload (j := 2) d_Reader_readExpression_155 rfl ?_
  refine a_iload_n (j := 1) d_Reader_readExpression_157 rfl rfl ?_
  refine a_icmp_ge (tgt := 181) d_Reader_readExpression_158 rfl (fun c15 => ?_) (fun c15 => ?_)
  · have h := h.1 c15
    refine a_iconst d_Reader_readExpression_181 (by unfold fs_in32; omega) ?_
    exact b_ireturn d_Reader_readExpression_182 rfl (fs_nar01 (Or.inr rfl)) h
  · have h := h.2 c15
    refine a_aload_n (j := 0) d_Reader_readExpression_161 rfl rfl ?_
    refine b_getptr (q := 15) d_Reader_readExpression_162 fl_Reader_52 io_29 rfl rfl rfl ?_
    refine b_getptr (q := 23) d_Reader_readExpression_165 fl_Reader_161 io_15 rfl rfl rfl ?_
    refine a_getstatic (v := fs_r 1020) d_Reader_readExpression_168 gs_Reader_192 (fs_Ztok (i := 20) (by decide) rfl rfl) (by show fs_in32 1020; unfold fs_in32; omega) ?_
    refine a_iconst d_Reader_readExpression_171 (by unfold fs_in32; omega) ?_
    refine b_virtual (dc := 1) (ci := 3) (T := fs_T3) (N := 14) [fs_r 1020, fs_i 0] [] d_Reader_readExpression_172 ml_Reader_201 k_Laws_add v_Laws_add rfl io_23 rfl (by omega) rfl (Nat.le_of_ble_eq_true rfl) ?_
    refine fs_Call.mono (fun v M9 hv => ?_) h
    obtain ⟨rfl, h⟩ := hv
    show fs_A2 g m_Reader_readExpression (d + 1) 175 [(0, fs_r 29), (3, fs_i x3), (5, fs_i x5)] [] M9 K
    refine a_iinc (j := 2) d_Reader_readExpression_175 rfl (Nat.le_of_ble_eq_true rfl) [1, 2, 0] rfl ?_
    refine a_goto (tgt := 155) d_Reader_readExpression_178 rfl ?_
    exact h
set_option maxRecDepth 8000 in
set_option maxHeartbeats 4000000 in
theorem E_Reader_readValue {d : Nat} (hd : 4 ≤ d) {M : fs_M} {K : fs_K} {x1 : Int} 
    (h : (fs_tk (M 29 7) ∧ ((¬ M 29 7 = 1031 → ((fs_lev (M 29 7) = 6 → ((¬ M 29 7 = 1017 → fs_A2 g m_Reader_readValue (d + 1) 97 [(0, fs_r 29)] [] M K) ∧ (M 29 7 = 1017 → ((M 29 9 ≤ 9999 → fs_A2 g m_Reader_readValue (d + 1) 97 [(0, fs_r 29)] [] M K) ∧ (¬ M 29 9 ≤ 9999 → fs_C2 g m_Reader_stumble 1 [fs_r 29, fs_i 2] M (fun v M1 => ∃ r1, v = some (fs_i r1) ∧ ((r1 = 0 ∨ r1 = 1) ∧ K (some (fs_i r1)) M1))))))) ∧ (¬ fs_lev (M 29 7) = 6 → fs_C2 g m_Reader_stumble 1 [fs_r 29, fs_i 1] M (fun v M2 => ∃ r2, v = some (fs_i r2) ∧ ((r2 = 0 ∨ r2 = 1) ∧ K (some (fs_i r2)) M2))))) ∧ (M 29 7 = 1031 → ((x1 < 8 → fs_C2 g m_Reader_advance 3 [fs_r 29] M (fun v M3 => v = none ∧ fs_C2 g m_Reader_readExpression d [fs_r 29, fs_i 1, fs_i (fs_w32 (x1 + 1))] M3 (fun v M4 => ∃ r4, v = some (fs_i r4) ∧ ((r4 = 0 → K (some (fs_i 0)) M4) ∧ (¬ r4 = 0 → fs_C2 g m_Reader_take 4 [fs_r 29, fs_r 1032] M4 (fun v M5 => ∃ r5, v = some (fs_i r5) ∧ ((r5 = 0 → K (some (fs_i 0)) M5) ∧ (¬ r5 = 0 → K (some (fs_i 1)) M5)))))))) ∧ (¬ x1 < 8 → fs_C2 g m_Reader_stumble 1 [fs_r 29, fs_i 2] M (fun v M6 => ∃ r6, v = some (fs_i r6) ∧ ((r6 = 0 ∨ r6 = 1) ∧ K (some (fs_i r6)) M6)))))))) :
    fs_C2 g m_Reader_readValue (d + 1) [fs_r 29, fs_i x1] M K := by
  refine b_enter2 (ls := [(0, fs_r 29), (1, fs_i x1)]) (plainFor_of_name pn_Reader) (Nat.le_of_ble_eq_true rfl) rfl ?_
  refine a_aload_n (j := 0) d_Reader_readValue_0 rfl rfl ?_
  refine b_getfield (v := fs_r (M 29 7)) d_Reader_readValue_1 fl_Reader_37 io_29 rfl ?_
  refine a_getstatic (v := fs_r 1031) d_Reader_readValue_4 gs_Reader_205 (fs_Ztok (i := 31) (by decide) rfl rfl) (by show fs_in32 1031; unfold fs_in32; omega) ?_
  obtain ⟨o1, h⟩ := h
  refine a_acmp_ne (tgt := 53) d_Reader_readValue_7 rfl (Or.inl o1) (Or.inl tk_1031) (fun c2 => ?_) (fun c2 => ?_)
  · have h := h.1 c2
    refine a_aload_n (j := 0) d_Reader_readValue_53 rfl rfl ?_
    refine b_getfield (v := fs_r (M 29 7)) d_Reader_readValue_54 fl_Reader_37 io_29 rfl ?_
    refine a_getOF (v := fs_i (fs_lev (M 29 7))) d_Reader_readValue_57 gs_Reader_198 (o1).1 (fs_OFt o1 fs_mF2 rfl) (fs_I_in _) ?_
    refine a_bipush d_Reader_readValue_60 (by decide) ?_
    refine a_icmp_eq (tgt := 71) d_Reader_readValue_62 rfl (fun c3 => ?_) (fun c3 => ?_)
    · have h := h.1 c3
      refine a_aload_n (j := 0) d_Reader_readValue_71 rfl rfl ?_
      refine b_getfield (v := fs_r (M 29 7)) d_Reader_readValue_72 fl_Reader_37 io_29 rfl ?_
      refine a_getstatic (v := fs_r 1017) d_Reader_readValue_75 gs_Reader_211 (fs_Ztok (i := 17) (by decide) rfl rfl) (by show fs_in32 1017; unfold fs_in32; omega) ?_
      refine a_acmp_ne (tgt := 97) d_Reader_readValue_78 rfl (Or.inl o1) (Or.inl tk_1017) (fun c4 => ?_) (fun c4 => ?_)
      · have h := h.1 c4
        refine a_sub [0] rfl ?_
        exact h
      · have h := h.2 c4
        refine a_aload_n (j := 0) d_Reader_readValue_81 rfl rfl ?_
        refine b_getfield (v := fs_i (M 29 9)) d_Reader_readValue_82 fl_Reader_43 io_29 rfl ?_
        refine a_sipush d_Reader_readValue_85 (by decide) ?_
        refine a_icmp_le (tgt := 97) d_Reader_readValue_88 rfl (fun c5 => ?_) (fun c5 => ?_)
        · have h := h.1 c5
          refine a_sub [0] rfl ?_
          exact h
        · have h := h.2 c5
          refine a_aload_n (j := 0) d_Reader_readValue_91 rfl rfl ?_
          refine a_iconst d_Reader_readValue_92 (by unfold fs_in32; omega) ?_
          refine b_virtual (dc := 1) (ci := 7) (T := fs_T7) (N := 12) [fs_i 2] [] d_Reader_readValue_93 ml_Reader_95 k_Reader_stumble v_Reader_stumble rfl io_29 rfl (by omega) rfl (Nat.le_of_ble_eq_true rfl) ?_
          refine fs_Call.mono (fun v M1 hv => ?_) h
          obtain ⟨r1, rfl, h⟩ := hv
          show fs_A2 g m_Reader_readValue (d + 1) 96 [(0, fs_r 29), (1, fs_i x1)] [fs_i r1] M1 K
          obtain ⟨o6, h⟩ := h
          exact b_ireturn d_Reader_readValue_96 rfl (fs_nar01 o6) h
    · have h := h.2 c3
      refine a_aload_n (j := 0) d_Reader_readValue_65 rfl rfl ?_
      refine a_iconst d_Reader_readValue_66 (by unfold fs_in32; omega) ?_
      refine b_virtual (dc := 1) (ci := 7) (T := fs_T7) (N := 12) [fs_i 1] [] d_Reader_readValue_67 ml_Reader_95 k_Reader_stumble v_Reader_stumble rfl io_29 rfl (by omega) rfl (Nat.le_of_ble_eq_true rfl) ?_
      refine fs_Call.mono (fun v M2 hv => ?_) h
      obtain ⟨r2, rfl, h⟩ := hv
      show fs_A2 g m_Reader_readValue (d + 1) 70 [(0, fs_r 29), (1, fs_i x1)] [fs_i r2] M2 K
      obtain ⟨o7, h⟩ := h
      exact b_ireturn d_Reader_readValue_70 rfl (fs_nar01 o7) h
  · have h := h.2 c2
    refine a_iload_n (j := 1) d_Reader_readValue_10 rfl rfl ?_
    refine a_bipush d_Reader_readValue_11 (by decide) ?_
    refine a_icmp_lt (tgt := 22) d_Reader_readValue_13 rfl (fun c8 => ?_) (fun c8 => ?_)
    · have h := h.1 c8
      refine a_aload_n (j := 0) d_Reader_readValue_22 rfl rfl ?_
      refine b_virtual (dc := 3) (ci := 7) (T := fs_T7) (N := 12) [] [] d_Reader_readValue_23 ml_Reader_67 k_Reader_advance v_Reader_advance rfl io_29 rfl (by omega) rfl (Nat.le_of_ble_eq_true rfl) ?_
      refine fs_Call.mono (fun v M3 hv => ?_) h
      obtain ⟨rfl, h⟩ := hv
      show fs_A2 g m_Reader_readValue (d + 1) 26 [(0, fs_r 29), (1, fs_i x1)] [] M3 K
      refine a_aload_n (j := 0) d_Reader_readValue_26 rfl rfl ?_
      refine a_iconst d_Reader_readValue_27 (by unfold fs_in32; omega) ?_
      refine a_iload_n (j := 1) d_Reader_readValue_28 rfl rfl ?_
      refine a_iconst d_Reader_readValue_29 (by unfold fs_in32; omega) ?_
      refine a_iadd d_Reader_readValue_30 ?_
      refine b_virtual (dc := d) (ci := 7) (T := fs_T7) (N := 12) [fs_i 1, fs_i (fs_w32 (x1 + 1))] [] d_Reader_readValue_31 ml_Reader_174 k_Reader_readExpression v_Reader_readExpression rfl io_29 rfl (Nat.le_refl _) rfl (Nat.le_of_ble_eq_true rfl) ?_
      refine fs_Call.mono (fun v M4 hv => ?_) h
      obtain ⟨r4, rfl, h⟩ := hv
      show fs_A2 g m_Reader_readValue (d + 1) 34 [(0, fs_r 29), (1, fs_i x1)] [fs_i r4] M4 K
      refine a_if_eq (tgt := 51) d_Reader_readValue_34 rfl (fun c9 => ?_) (fun c9 => ?_)
      · have h := h.1 c9
        refine a_iconst d_Reader_readValue_51 (by unfold fs_in32; omega) ?_
        exact b_ireturn d_Reader_readValue_52 rfl (fs_nar01 (Or.inl rfl)) h
      · have h := h.2 c9
        refine a_aload_n (j := 0) d_Reader_readValue_37 rfl rfl ?_
        refine a_getstatic (v := fs_r 1032) d_Reader_readValue_38 gs_Reader_208 (fs_Ztok (i := 32) (by decide) rfl rfl) (by show fs_in32 1032; unfold fs_in32; omega) ?_
        refine b_virtual (dc := 4) (ci := 7) (T := fs_T7) (N := 12) [fs_r 1032] [] d_Reader_readValue_41 ml_Reader_102 k_Reader_take v_Reader_take rfl io_29 rfl (by omega) rfl (Nat.le_of_ble_eq_true rfl) ?_
        refine fs_Call.mono (fun v M5 hv => ?_) h
        obtain ⟨r5, rfl, h⟩ := hv
        show fs_A2 g m_Reader_readValue (d + 1) 44 [(0, fs_r 29), (1, fs_i x1)] [fs_i r5] M5 K
        refine a_if_eq (tgt := 51) d_Reader_readValue_44 rfl (fun c10 => ?_) (fun c10 => ?_)
        · have h := h.1 c10
          refine a_iconst d_Reader_readValue_51 (by unfold fs_in32; omega) ?_
          exact b_ireturn d_Reader_readValue_52 rfl (fs_nar01 (Or.inl rfl)) h
        · have h := h.2 c10
          refine a_iconst d_Reader_readValue_47 (by unfold fs_in32; omega) ?_
          refine a_goto (tgt := 52) d_Reader_readValue_48 rfl ?_
          exact b_ireturn d_Reader_readValue_52 rfl (fs_nar01 (Or.inr rfl)) h
    · have h := h.2 c8
      refine a_aload_n (j := 0) d_Reader_readValue_16 rfl rfl ?_
      refine a_iconst d_Reader_readValue_17 (by unfold fs_in32; omega) ?_
      refine b_virtual (dc := 1) (ci := 7) (T := fs_T7) (N := 12) [fs_i 2] [] d_Reader_readValue_18 ml_Reader_95 k_Reader_stumble v_Reader_stumble rfl io_29 rfl (by omega) rfl (Nat.le_of_ble_eq_true rfl) ?_
      refine fs_Call.mono (fun v M6 hv => ?_) h
      obtain ⟨r6, rfl, h⟩ := hv
      show fs_A2 g m_Reader_readValue (d + 1) 21 [(0, fs_r 29), (1, fs_i x1)] [fs_i r6] M6 K
      obtain ⟨o11, h⟩ := h
      exact b_ireturn d_Reader_readValue_21 rfl (fs_nar01 o11) h
set_option maxRecDepth 8000 in
set_option maxHeartbeats 4000000 in
theorem L_Reader_readValue_97 {d : Nat} (hd : 4 ≤ d) {M : fs_M} {K : fs_K} 
    (h : fs_C2 g m_Reader_countKnot 2 [fs_r 29] M (fun v M7 => ∃ r7, v = some (fs_i r7) ∧ ((¬ r7 = 0 → fs_C2 g m_Laws_add 1 [fs_r 23, fs_r (M7 29 7), fs_i (M7 29 9)] M7 (fun v M8 => v = none ∧ fs_C2 g m_Reader_advance 3 [fs_r 29] M8 (fun v M9 => v = none ∧ K (some (fs_i 1)) M9))) ∧ (r7 = 0 → K (some (fs_i 0)) M7)))) :
    fs_A2 g m_Reader_readValue (d + 1) 97 [(0, fs_r 29)] [] M K := by
  refine a_aload_n (j := 0) d_Reader_readValue_97 rfl rfl ?_
  refine b_virtual (dc := 2) (ci := 7) (T := fs_T7) (N := 12) [] [] d_Reader_readValue_98 ml_Reader_195 k_Reader_countKnot v_Reader_countKnot rfl io_29 rfl (by omega) rfl (Nat.le_of_ble_eq_true rfl) ?_
  refine fs_Call.mono (fun v M7 hv => ?_) h
  obtain ⟨r7, rfl, h⟩ := hv
  show fs_A2 g m_Reader_readValue (d + 1) 101 [(0, fs_r 29)] [fs_i r7] M7 K
  refine a_if_ne (tgt := 106) d_Reader_readValue_101 rfl (fun c12 => ?_) (fun c12 => ?_)
  · have h := h.1 c12
    refine a_aload_n (j := 0) d_Reader_readValue_106 rfl rfl ?_
    refine b_getptr (q := 15) d_Reader_readValue_107 fl_Reader_52 io_29 rfl rfl rfl ?_
    refine b_getptr (q := 23) d_Reader_readValue_110 fl_Reader_161 io_15 rfl rfl rfl ?_
    refine a_aload_n (j := 0) d_Reader_readValue_113 rfl rfl ?_
    refine b_getfield (v := fs_r (M7 29 7)) d_Reader_readValue_114 fl_Reader_37 io_29 rfl ?_
    refine a_aload_n (j := 0) d_Reader_readValue_117 rfl rfl ?_
    refine b_getfield (v := fs_i (M7 29 9)) d_Reader_readValue_118 fl_Reader_43 io_29 rfl ?_
    refine b_virtual (dc := 1) (ci := 3) (T := fs_T3) (N := 14) [fs_r (M7 29 7), fs_i (M7 29 9)] [] d_Reader_readValue_121 ml_Reader_201 k_Laws_add v_Laws_add rfl io_23 rfl (by omega) rfl (Nat.le_of_ble_eq_true rfl) ?_
    refine fs_Call.mono (fun v M8 hv => ?_) h
    obtain ⟨rfl, h⟩ := hv
    show fs_A2 g m_Reader_readValue (d + 1) 124 [(0, fs_r 29)] [] M8 K
    refine a_aload_n (j := 0) d_Reader_readValue_124 rfl rfl ?_
    refine b_virtual (dc := 3) (ci := 7) (T := fs_T7) (N := 12) [] [] d_Reader_readValue_125 ml_Reader_67 k_Reader_advance v_Reader_advance rfl io_29 rfl (by omega) rfl (Nat.le_of_ble_eq_true rfl) ?_
    refine fs_Call.mono (fun v M9 hv => ?_) h
    obtain ⟨rfl, h⟩ := hv
    show fs_A2 g m_Reader_readValue (d + 1) 128 [(0, fs_r 29)] [] M9 K
    refine a_iconst d_Reader_readValue_128 (by unfold fs_in32; omega) ?_
    exact b_ireturn d_Reader_readValue_129 rfl (fs_nar01 (Or.inr rfl)) h
  · have h := h.2 c12
    refine a_iconst d_Reader_readValue_104 (by unfold fs_in32; omega) ?_
    exact b_ireturn d_Reader_readValue_105 rfl (fs_nar01 (Or.inl rfl)) h
set_option maxRecDepth 8000 in
set_option maxHeartbeats 4000000 in
theorem E_Reader_take {M : fs_M} {K : fs_K} {x1 : Int} (h1 : fs_tk x1) 
    (h : (fs_tk (M 29 7) ∧ ((M 29 7 = x1 → fs_C2 g m_Reader_advance 3 [fs_r 29] M (fun v M1 => v = none ∧ K (some (fs_i 1)) M1)) ∧ (¬ M 29 7 = x1 → fs_C2 g m_Reader_stumble 1 [fs_r 29, fs_i 1] M (fun v M2 => ∃ r2, v = some (fs_i r2) ∧ ((r2 = 0 ∨ r2 = 1) ∧ K (some (fs_i r2)) M2)))))) :
    fs_C2 g m_Reader_take 4 [fs_r 29, fs_r x1] M K := by
  refine b_enter2 (ls := [(0, fs_r 29), (1, fs_r x1)]) (plainFor_of_name pn_Reader) (Nat.le_of_ble_eq_true rfl) rfl ?_
  refine a_aload_n (j := 0) d_Reader_take_0 rfl rfl ?_
  refine b_getfield (v := fs_r (M 29 7)) d_Reader_take_1 fl_Reader_37 io_29 rfl ?_
  refine a_aload_n (j := 1) d_Reader_take_4 rfl rfl ?_
  obtain ⟨o1, h⟩ := h
  refine a_acmp_eq (tgt := 14) d_Reader_take_5 rfl (Or.inl o1) (Or.inl h1) (fun c2 => ?_) (fun c2 => ?_)
  · have h := h.1 c2
    refine a_aload_n (j := 0) d_Reader_take_14 rfl rfl ?_
    refine b_virtual (dc := 3) (ci := 7) (T := fs_T7) (N := 12) [] [] d_Reader_take_15 ml_Reader_67 k_Reader_advance v_Reader_advance rfl io_29 rfl (Nat.le_of_ble_eq_true rfl) rfl (Nat.le_of_ble_eq_true rfl) ?_
    refine fs_Call.mono (fun v M1 hv => ?_) h
    obtain ⟨rfl, h⟩ := hv
    show fs_A2 g m_Reader_take 4 18 [(0, fs_r 29), (1, fs_r x1)] [] M1 K
    refine a_iconst d_Reader_take_18 (by unfold fs_in32; omega) ?_
    exact b_ireturn d_Reader_take_19 rfl (fs_nar01 (Or.inr rfl)) h
  · have h := h.2 c2
    refine a_aload_n (j := 0) d_Reader_take_8 rfl rfl ?_
    refine a_iconst d_Reader_take_9 (by unfold fs_in32; omega) ?_
    refine b_virtual (dc := 1) (ci := 7) (T := fs_T7) (N := 12) [fs_i 1] [] d_Reader_take_10 ml_Reader_95 k_Reader_stumble v_Reader_stumble rfl io_29 rfl (Nat.le_of_ble_eq_true rfl) rfl (Nat.le_of_ble_eq_true rfl) ?_
    refine fs_Call.mono (fun v M2 hv => ?_) h
    obtain ⟨r2, rfl, h⟩ := hv
    show fs_A2 g m_Reader_take 4 13 [(0, fs_r 29), (1, fs_r x1)] [fs_i r2] M2 K
    obtain ⟨o3, h⟩ := h
    exact b_ireturn d_Reader_take_13 rfl (fs_nar01 o3) h
set_option maxRecDepth 8000 in
set_option maxHeartbeats 4000000 in
theorem E_Reader_countKnot {M : fs_M} {K : fs_K} 
    (h : ((M 29 11 < 64 → K (some (fs_i 1)) (fs_st M 29 11 (fs_w32 ((M 29 11) + 1)))) ∧ (¬ M 29 11 < 64 → fs_C2 g m_Reader_stumble 1 [fs_r 29, fs_i 2] M (fun v M1 => ∃ r1, v = some (fs_i r1) ∧ ((r1 = 0 ∨ r1 = 1) ∧ K (some (fs_i r1)) M1))))) :
    fs_C2 g m_Reader_countKnot 2 [fs_r 29] M K := by
  refine b_enter2 (ls := [(0, fs_r 29)]) (plainFor_of_name pn_Reader) (Nat.le_of_ble_eq_true rfl) rfl ?_
  refine a_aload_n (j := 0) d_Reader_countKnot_0 rfl rfl ?_
  refine b_getfield (v := fs_i (M 29 11)) d_Reader_countKnot_1 fl_Reader_49 io_29 rfl ?_
  refine a_bipush d_Reader_countKnot_4 (by decide) ?_
  refine a_icmp_lt (tgt := 15) d_Reader_countKnot_6 rfl (fun c1 => ?_) (fun c1 => ?_)
  · have h := h.1 c1
    refine a_aload_n (j := 0) d_Reader_countKnot_15 rfl rfl ?_
    refine a_dup d_Reader_countKnot_16 rfl ?_
    refine b_getfield (v := fs_i (M 29 11)) d_Reader_countKnot_17 fl_Reader_49 io_29 rfl ?_
    refine a_iconst d_Reader_countKnot_20 (by unfold fs_in32; omega) ?_
    refine a_iadd d_Reader_countKnot_21 ?_
    refine b_putfield (x := (fs_w32 ((M 29 11) + 1))) d_Reader_countKnot_22 fl_Reader_49 io_29 rfl rfl fs_nar_int ?_
    refine a_iconst d_Reader_countKnot_25 (by unfold fs_in32; omega) ?_
    exact b_ireturn d_Reader_countKnot_26 rfl (fs_nar01 (Or.inr rfl)) h
  · have h := h.2 c1
    refine a_aload_n (j := 0) d_Reader_countKnot_9 rfl rfl ?_
    refine a_iconst d_Reader_countKnot_10 (by unfold fs_in32; omega) ?_
    refine b_virtual (dc := 1) (ci := 7) (T := fs_T7) (N := 12) [fs_i 2] [] d_Reader_countKnot_11 ml_Reader_95 k_Reader_stumble v_Reader_stumble rfl io_29 rfl (Nat.le_of_ble_eq_true rfl) rfl (Nat.le_of_ble_eq_true rfl) ?_
    refine fs_Call.mono (fun v M1 hv => ?_) h
    obtain ⟨r1, rfl, h⟩ := hv
    show fs_A2 g m_Reader_countKnot 2 14 [(0, fs_r 29)] [fs_i r1] M1 K
    obtain ⟨o2, h⟩ := h
    exact b_ireturn d_Reader_countKnot_14 rfl (fs_nar01 o2) h
end WALK
