-- ===== printed by program (wip/whole/gen12.py): what must hold at a method's entry, at its labels =====
section WALK
variable {g : fs_G}
set_option maxRecDepth 8000 in
set_option maxHeartbeats 4000000 in
theorem E_Enum_ordinal {M : fs_M} {K : fs_K} {x0 : Int} (h0 : fs_tk x0) 
    (h : K (some (fs_i (fs_ord x0))) M) :
    fs_C2 g m_Enum_ordinal 1 [fs_r x0] M K := by
  refine b_enter2 (ls := [(0, fs_r x0)]) (by decide +kernel) (Nat.le_of_ble_eq_true rfl) rfl ?_
  refine a_aload_n (j := 0) d_Enum_ordinal_0 rfl rfl ?_
  refine a_getOF (v := fs_i (fs_ord x0)) d_Enum_ordinal_1 gs_Enum_7 (h0).1 (fs_OFt h0 fs_mF3 rfl) (fs_I_in _) ?_
  exact b_ireturn d_Enum_ordinal_4 rfl rfl h
set_option maxRecDepth 8000 in
set_option maxHeartbeats 4000000 in
theorem E_Integer_bitCount {M : fs_M} {K : fs_K} {x0 : Int} 
    (h : K (some (fs_i (fs_and (fs_w32 ((fs_w32 ((fs_and (fs_w32 ((fs_w32 ((fs_and (fs_w32 (x0 - (fs_and (fs_ushr x0 1) 1431655765))) 858993459) + (fs_and (fs_ushr (fs_w32 (x0 - (fs_and (fs_ushr x0 1) 1431655765))) 2) 858993459))) + (fs_ushr (fs_w32 ((fs_and (fs_w32 (x0 - (fs_and (fs_ushr x0 1) 1431655765))) 858993459) + (fs_and (fs_ushr (fs_w32 (x0 - (fs_and (fs_ushr x0 1) 1431655765))) 2) 858993459))) 4))) 252645135) + (fs_ushr (fs_and (fs_w32 ((fs_w32 ((fs_and (fs_w32 (x0 - (fs_and (fs_ushr x0 1) 1431655765))) 858993459) + (fs_and (fs_ushr (fs_w32 (x0 - (fs_and (fs_ushr x0 1) 1431655765))) 2) 858993459))) + (fs_ushr (fs_w32 ((fs_and (fs_w32 (x0 - (fs_and (fs_ushr x0 1) 1431655765))) 858993459) + (fs_and (fs_ushr (fs_w32 (x0 - (fs_and (fs_ushr x0 1) 1431655765))) 2) 858993459))) 4))) 252645135) 8))) + (fs_ushr (fs_w32 ((fs_and (fs_w32 ((fs_w32 ((fs_and (fs_w32 (x0 - (fs_and (fs_ushr x0 1) 1431655765))) 858993459) + (fs_and (fs_ushr (fs_w32 (x0 - (fs_and (fs_ushr x0 1) 1431655765))) 2) 858993459))) + (fs_ushr (fs_w32 ((fs_and (fs_w32 (x0 - (fs_and (fs_ushr x0 1) 1431655765))) 858993459) + (fs_and (fs_ushr (fs_w32 (x0 - (fs_and (fs_ushr x0 1) 1431655765))) 2) 858993459))) 4))) 252645135) + (fs_ushr (fs_and (fs_w32 ((fs_w32 ((fs_and (fs_w32 (x0 - (fs_and (fs_ushr x0 1) 1431655765))) 858993459) + (fs_and (fs_ushr (fs_w32 (x0 - (fs_and (fs_ushr x0 1) 1431655765))) 2) 858993459))) + (fs_ushr (fs_w32 ((fs_and (fs_w32 (x0 - (fs_and (fs_ushr x0 1) 1431655765))) 858993459) + (fs_and (fs_ushr (fs_w32 (x0 - (fs_and (fs_ushr x0 1) 1431655765))) 2) 858993459))) 4))) 252645135) 8))) 16))) 63))) M) :
    fs_C2 g m_Integer_bitCount 1 [fs_i x0] M K := by
  refine b_enter2 (ls := [(0, fs_i x0)]) (by decide +kernel) (Nat.le_of_ble_eq_true rfl) rfl ?_
  refine a_iload_n (j := 0) d_Integer_bitCount_0 rfl rfl ?_
  refine a_iload_n (j := 0) d_Integer_bitCount_1 rfl rfl ?_
  refine a_iconst d_Integer_bitCount_2 (by unfold fs_in32; omega) ?_
  refine a_iushr d_Integer_bitCount_3 ?_
  refine a_ldcw d_Integer_bitCount_4 cn_Integer_265 (by unfold fs_in32; omega) ?_
  refine a_iand d_Integer_bitCount_7 ?_
  refine a_isub d_Integer_bitCount_8 ?_
  refine a_istore_n d_Integer_bitCount_9 rfl (Nat.le_of_ble_eq_true rfl) [0] rfl ?_
  refine a_iload_n (j := 0) d_Integer_bitCount_10 rfl rfl ?_
  refine a_ldcw d_Integer_bitCount_11 cn_Integer_266 (by unfold fs_in32; omega) ?_
  refine a_iand d_Integer_bitCount_14 ?_
  refine a_iload_n (j := 0) d_Integer_bitCount_15 rfl rfl ?_
  refine a_iconst d_Integer_bitCount_16 (by unfold fs_in32; omega) ?_
  refine a_iushr d_Integer_bitCount_17 ?_
  refine a_ldcw d_Integer_bitCount_18 cn_Integer_266 (by unfold fs_in32; omega) ?_
  refine a_iand d_Integer_bitCount_21 ?_
  refine a_iadd d_Integer_bitCount_22 ?_
  refine a_istore_n d_Integer_bitCount_23 rfl (Nat.le_of_ble_eq_true rfl) [0] rfl ?_
  refine a_iload_n (j := 0) d_Integer_bitCount_24 rfl rfl ?_
  refine a_iload_n (j := 0) d_Integer_bitCount_25 rfl rfl ?_
  refine a_iconst d_Integer_bitCount_26 (by unfold fs_in32; omega) ?_
  refine a_iushr d_Integer_bitCount_27 ?_
  refine a_iadd d_Integer_bitCount_28 ?_
  refine a_ldcw d_Integer_bitCount_29 cn_Integer_267 (by unfold fs_in32; omega) ?_
  refine a_iand d_Integer_bitCount_32 ?_
  refine a_istore_n d_Integer_bitCount_33 rfl (Nat.le_of_ble_eq_true rfl) [0] rfl ?_
  refine a_iload_n (j := 0) d_Integer_bitCount_34 rfl rfl ?_
  refine a_iload_n (j := 0) d_Integer_bitCount_35 rfl rfl ?_
  refine a_bipush d_Integer_bitCount_36 (by decide) ?_
  refine a_iushr d_Integer_bitCount_38 ?_
  refine a_iadd d_Integer_bitCount_39 ?_
  refine a_istore_n d_Integer_bitCount_40 rfl (Nat.le_of_ble_eq_true rfl) [0] rfl ?_
  refine a_iload_n (j := 0) d_Integer_bitCount_41 rfl rfl ?_
  refine a_iload_n (j := 0) d_Integer_bitCount_42 rfl rfl ?_
  refine a_bipush d_Integer_bitCount_43 (by decide) ?_
  refine a_iushr d_Integer_bitCount_45 ?_
  refine a_iadd d_Integer_bitCount_46 ?_
  refine a_istore_n d_Integer_bitCount_47 rfl (Nat.le_of_ble_eq_true rfl) [0] rfl ?_
  refine a_iload_n (j := 0) d_Integer_bitCount_48 rfl rfl ?_
  refine a_bipush d_Integer_bitCount_49 (by decide) ?_
  refine a_iand d_Integer_bitCount_51 ?_
  exact b_ireturn d_Integer_bitCount_52 rfl rfl h
set_option maxRecDepth 8000 in
set_option maxHeartbeats 4000000 in
theorem E_Math_abs_I {M : fs_M} {K : fs_K} {x0 : Int} 
    (h : ((0 ≤ x0 → K (some (fs_i x0)) M) ∧ (¬ 0 ≤ x0 → K (some (fs_i (fs_w32 (-x0)))) M))) :
    fs_C2 g m_Math_abs_I 1 [fs_i x0] M K := by
  refine b_enter2 (ls := [(0, fs_i x0)]) (by decide +kernel) (Nat.le_of_ble_eq_true rfl) rfl ?_
  refine a_iload_n (j := 0) d_Math_abs_I_0 rfl rfl ?_
  refine a_if_ge (tgt := 9) d_Math_abs_I_1 rfl (fun c1 => ?_) (fun c1 => ?_)
  · have h := h.1 c1
    refine a_iload_n (j := 0) d_Math_abs_I_9 rfl rfl ?_
    exact b_ireturn d_Math_abs_I_10 rfl rfl h
  · have h := h.2 c1
    refine a_iload_n (j := 0) d_Math_abs_I_4 rfl rfl ?_
    refine a_ineg d_Math_abs_I_5 ?_
    refine a_goto (tgt := 10) d_Math_abs_I_6 rfl ?_
    exact b_ireturn d_Math_abs_I_10 rfl rfl h
set_option maxRecDepth 8000 in
set_option maxHeartbeats 4000000 in
theorem E_Math_abs_J {M : fs_M} {K : fs_K} {x0 : Int} 
    (h : ((0 ≤ fs_lcmp x0 0 → K (some (fs_l x0)) M) ∧ (¬ 0 ≤ fs_lcmp x0 0 → K (some (fs_l (fs_w64 (-x0)))) M))) :
    fs_C2 g m_Math_abs_J 1 [fs_l x0] M K := by
  refine b_enter2 (ls := [(0, fs_l x0)]) (by decide +kernel) (Nat.le_of_ble_eq_true rfl) rfl ?_
  refine a_lload_n (j := 0) d_Math_abs_J_0 rfl rfl ?_
  refine a_lconst (v := 0) d_Math_abs_J_1 rfl (by unfold fs_in64; omega) ?_
  refine a_lcmp d_Math_abs_J_2 ?_
  refine a_if_ge (tgt := 11) d_Math_abs_J_3 rfl (fun c1 => ?_) (fun c1 => ?_)
  · have h := h.1 c1
    refine a_lload_n (j := 0) d_Math_abs_J_11 rfl rfl ?_
    exact b_lreturn d_Math_abs_J_12 rfl h
  · have h := h.2 c1
    refine a_lload_n (j := 0) d_Math_abs_J_6 rfl rfl ?_
    refine a_lneg d_Math_abs_J_7 ?_
    refine a_goto (tgt := 12) d_Math_abs_J_8 rfl ?_
    exact b_lreturn d_Math_abs_J_12 rfl h
set_option maxRecDepth 8000 in
set_option maxHeartbeats 4000000 in
theorem E_Math_max_I {M : fs_M} {K : fs_K} {x0 x1 : Int} 
    (h : ((x0 < x1 → K (some (fs_i x1)) M) ∧ (¬ x0 < x1 → K (some (fs_i x0)) M))) :
    fs_C2 g m_Math_max_I 1 [fs_i x0, fs_i x1] M K := by
  refine b_enter2 (ls := [(0, fs_i x0), (1, fs_i x1)]) (by decide +kernel) (Nat.le_of_ble_eq_true rfl) rfl ?_
  refine a_iload_n (j := 0) d_Math_max_I_0 rfl rfl ?_
  refine a_iload_n (j := 1) d_Math_max_I_1 rfl rfl ?_
  refine a_icmp_lt (tgt := 9) d_Math_max_I_2 rfl (fun c1 => ?_) (fun c1 => ?_)
  · have h := h.1 c1
    refine a_iload_n (j := 1) d_Math_max_I_9 rfl rfl ?_
    exact b_ireturn d_Math_max_I_10 rfl rfl h
  · have h := h.2 c1
    refine a_iload_n (j := 0) d_Math_max_I_5 rfl rfl ?_
    refine a_goto (tgt := 10) d_Math_max_I_6 rfl ?_
    exact b_ireturn d_Math_max_I_10 rfl rfl h
set_option maxRecDepth 8000 in
set_option maxHeartbeats 4000000 in
theorem E_Math_max_J {M : fs_M} {K : fs_K} {x0 x2 : Int} 
    (h : ((fs_lcmp x0 x2 < 0 → K (some (fs_l x2)) M) ∧ (¬ fs_lcmp x0 x2 < 0 → K (some (fs_l x0)) M))) :
    fs_C2 g m_Math_max_J 1 [fs_l x0, fs_l x2] M K := by
  refine b_enter2 (ls := [(0, fs_l x0), (2, fs_l x2)]) (by decide +kernel) (Nat.le_of_ble_eq_true rfl) rfl ?_
  refine a_lload_n (j := 0) d_Math_max_J_0 rfl rfl ?_
  refine a_lload_n (j := 1) d_Math_max_J_1 rfl rfl ?_
  refine a_lcmp d_Math_max_J_2 ?_
  refine a_if_lt (tgt := 10) d_Math_max_J_3 rfl (fun c1 => ?_) (fun c1 => ?_)
  · have h := h.1 c1
    refine a_lload_n (j := 1) d_Math_max_J_10 rfl rfl ?_
    exact b_lreturn d_Math_max_J_11 rfl h
  · have h := h.2 c1
    refine a_lload_n (j := 0) d_Math_max_J_6 rfl rfl ?_
    refine a_goto (tgt := 11) d_Math_max_J_7 rfl ?_
    exact b_lreturn d_Math_max_J_11 rfl h
set_option maxRecDepth 8000 in
set_option maxHeartbeats 4000000 in
theorem E_Math_min_I {M : fs_M} {K : fs_K} {x0 x1 : Int} 
    (h : ((x1 < x0 → K (some (fs_i x1)) M) ∧ (¬ x1 < x0 → K (some (fs_i x0)) M))) :
    fs_C2 g m_Math_min_I 1 [fs_i x0, fs_i x1] M K := by
  refine b_enter2 (ls := [(0, fs_i x0), (1, fs_i x1)]) (by decide +kernel) (Nat.le_of_ble_eq_true rfl) rfl ?_
  refine a_iload_n (j := 0) d_Math_min_I_0 rfl rfl ?_
  refine a_iload_n (j := 1) d_Math_min_I_1 rfl rfl ?_
  refine a_icmp_gt (tgt := 9) d_Math_min_I_2 rfl (fun c1 => ?_) (fun c1 => ?_)
  · have h := h.1 c1
    refine a_iload_n (j := 1) d_Math_min_I_9 rfl rfl ?_
    exact b_ireturn d_Math_min_I_10 rfl rfl h
  · have h := h.2 c1
    refine a_iload_n (j := 0) d_Math_min_I_5 rfl rfl ?_
    refine a_goto (tgt := 10) d_Math_min_I_6 rfl ?_
    exact b_ireturn d_Math_min_I_10 rfl rfl h
set_option maxRecDepth 8000 in
set_option maxHeartbeats 4000000 in
theorem E_Math_min_J {M : fs_M} {K : fs_K} {x0 x2 : Int} 
    (h : ((0 < fs_lcmp x0 x2 → K (some (fs_l x2)) M) ∧ (¬ 0 < fs_lcmp x0 x2 → K (some (fs_l x0)) M))) :
    fs_C2 g m_Math_min_J 1 [fs_l x0, fs_l x2] M K := by
  refine b_enter2 (ls := [(0, fs_l x0), (2, fs_l x2)]) (by decide +kernel) (Nat.le_of_ble_eq_true rfl) rfl ?_
  refine a_lload_n (j := 0) d_Math_min_J_0 rfl rfl ?_
  refine a_lload_n (j := 1) d_Math_min_J_1 rfl rfl ?_
  refine a_lcmp d_Math_min_J_2 ?_
  refine a_if_gt (tgt := 10) d_Math_min_J_3 rfl (fun c1 => ?_) (fun c1 => ?_)
  · have h := h.1 c1
    refine a_lload_n (j := 1) d_Math_min_J_10 rfl rfl ?_
    exact b_lreturn d_Math_min_J_11 rfl h
  · have h := h.2 c1
    refine a_lload_n (j := 0) d_Math_min_J_6 rfl rfl ?_
    refine a_goto (tgt := 11) d_Math_min_J_7 rfl ?_
    exact b_lreturn d_Math_min_J_11 rfl h
set_option maxRecDepth 8000 in
set_option maxHeartbeats 4000000 in
theorem E_Pre_checkIndex {M : fs_M} {K : fs_K} {x0 x1 x2 : Int} 
    (h : ((x0 < 0 → False) ∧ (¬ x0 < 0 → ((x0 < x1 → K (some (fs_i x0)) M) ∧ (¬ x0 < x1 → False))))) :
    fs_C2 g m_Pre_checkIndex 1 [fs_i x0, fs_i x1, fs_r x2] M K := by
  refine b_enter2 (ls := [(0, fs_i x0), (1, fs_i x1), (2, fs_r x2)]) (by decide +kernel) (Nat.le_of_ble_eq_true rfl) rfl ?_
  refine a_iload_n (j := 0) d_Pre_checkIndex_0 rfl rfl ?_
  refine a_if_lt (tgt := 9) d_Pre_checkIndex_1 rfl (fun c1 => ?_) (fun c1 => ?_)
  · have h := h.1 c1
    refine a_aload_n (j := 2) d_Pre_checkIndex_9 rfl rfl ?_
    refine a_iload_n (j := 0) d_Pre_checkIndex_10 rfl rfl ?_
    refine a_iload_n (j := 1) d_Pre_checkIndex_11 rfl rfl ?_
    exact h.elim
  · have h := h.2 c1
    refine a_iload_n (j := 0) d_Pre_checkIndex_4 rfl rfl ?_
    refine a_iload_n (j := 1) d_Pre_checkIndex_5 rfl rfl ?_
    refine a_icmp_lt (tgt := 16) d_Pre_checkIndex_6 rfl (fun c2 => ?_) (fun c2 => ?_)
    · have h := h.1 c2
      refine a_iload_n (j := 0) d_Pre_checkIndex_16 rfl rfl ?_
      exact b_ireturn d_Pre_checkIndex_17 rfl rfl h
    · have h := h.2 c2
      refine a_aload_n (j := 2) d_Pre_checkIndex_9 rfl rfl ?_
      refine a_iload_n (j := 0) d_Pre_checkIndex_10 rfl rfl ?_
      refine a_iload_n (j := 1) d_Pre_checkIndex_11 rfl rfl ?_
      exact h.elim
set_option maxRecDepth 8000 in
set_option maxHeartbeats 4000000 in
theorem E_Str_length {M : fs_M} {K : fs_K} 
    (h : fs_C2 g m_Str_coder 1 [fs_r 3001] M (fun v M1 => ∃ r1, v = some (fs_i r1) ∧ K (some (fs_i (fs_shr 92 r1))) M1)) :
    fs_C2 g m_Str_length 2 [fs_r 3001] M K := by
  refine b_enter2 (ls := [(0, fs_r 3001)]) (by decide +kernel) (Nat.le_of_ble_eq_true rfl) rfl ?_
  refine a_aload_n (j := 0) d_Str_length_0 rfl rfl ?_
  refine a_getOF (v := fs_r 3002) d_Str_length_1 gs_Str_9 (by decide) fs_OFsv (by show fs_in32 3002; unfold fs_in32; omega) ?_
  refine a_strlen d_Str_length_4 ?_
  refine a_aload_n (j := 0) d_Str_length_5 rfl rfl ?_
  refine b_str (dc := 1) [] [fs_i 92] d_Str_length_6 ml_Str_335 k_Str_coder v_Str_coder rfl (Nat.le_of_ble_eq_true rfl) rfl (Nat.le_of_ble_eq_true rfl) rfl ?_
  refine fs_Call.mono (fun v M1 hv => ?_) h
  obtain ⟨r1, rfl, h⟩ := hv
  show fs_A2 g m_Str_length 2 9 [(0, fs_r 3001)] [fs_i r1, fs_i 92] M1 K
  refine a_ishr d_Str_length_9 ?_
  exact b_ireturn d_Str_length_10 rfl rfl h
set_option maxRecDepth 8000 in
set_option maxHeartbeats 4000000 in
theorem E_Str_charAt {M : fs_M} {K : fs_K} {x1 : Int} 
    (h : fs_C2 g m_Str_isLatin1 1 [fs_r 3001] M (fun v M1 => ∃ r1, v = some (fs_i r1) ∧ ((r1 = 0 → False) ∧ (¬ r1 = 0 → fs_C2 g m_Lat_charAt 3 [fs_r 3002, fs_i x1] M1 (fun v M2 => ∃ r2, v = some (fs_i r2) ∧ (narrow .char (.int (Int32.ofInt (r2))) = .int (Int32.ofInt (r2)) ∧ K (some (fs_i r2)) M2)))))) :
    fs_C2 g m_Str_charAt 4 [fs_r 3001, fs_i x1] M K := by
  refine b_enter2 (ls := [(0, fs_r 3001), (1, fs_i x1)]) (by decide +kernel) (Nat.le_of_ble_eq_true rfl) rfl ?_
  refine a_aload_n (j := 0) d_Str_charAt_0 rfl rfl ?_
  refine b_str (dc := 1) [] [] d_Str_charAt_1 ml_Str_492 k_Str_isLatin1 v_Str_isLatin1 rfl (Nat.le_of_ble_eq_true rfl) rfl (Nat.le_of_ble_eq_true rfl) rfl ?_
  refine fs_Call.mono (fun v M1 hv => ?_) h
  obtain ⟨r1, rfl, h⟩ := hv
  show fs_A2 g m_Str_charAt 4 4 [(0, fs_r 3001), (1, fs_i x1)] [fs_i r1] M1 K
  refine a_if_eq (tgt := 16) d_Str_charAt_4 rfl (fun c1 => ?_) (fun c1 => ?_)
  · have h := h.1 c1
    refine a_aload_n (j := 0) d_Str_charAt_16 rfl rfl ?_
    refine a_getOF (v := fs_r 3002) d_Str_charAt_17 gs_Str_9 (by decide) fs_OFsv (by show fs_in32 3002; unfold fs_in32; omega) ?_
    refine a_iload_n (j := 1) d_Str_charAt_20 rfl rfl ?_
    exact h.elim
  · have h := h.2 c1
    refine a_aload_n (j := 0) d_Str_charAt_7 rfl rfl ?_
    refine a_getOF (v := fs_r 3002) d_Str_charAt_8 gs_Str_9 (by decide) fs_OFsv (by show fs_in32 3002; unfold fs_in32; omega) ?_
    refine a_iload_n (j := 1) d_Str_charAt_11 rfl rfl ?_
    refine b_static (dc := 3) [fs_r 3002, fs_i x1] [] d_Str_charAt_12 ml_Str_495 k_Lat_charAt s_Lat_charAt rfl (Nat.le_of_ble_eq_true rfl) rfl (Nat.le_of_ble_eq_true rfl) ?_
    refine fs_Call.mono (fun v M2 hv => ?_) h
    obtain ⟨r2, rfl, h⟩ := hv
    show fs_A2 g m_Str_charAt 4 15 [(0, fs_r 3001), (1, fs_i x1)] [fs_i r2] M2 K
    obtain ⟨o2, h⟩ := h
    exact b_ireturn d_Str_charAt_15 rfl o2 h
set_option maxRecDepth 8000 in
set_option maxHeartbeats 4000000 in
theorem E_Str_coder {M : fs_M} {K : fs_K} 
    (h : K (some (fs_i 0)) M) :
    fs_C2 g m_Str_coder 1 [fs_r 3001] M K := by
  refine b_enter2 (ls := [(0, fs_r 3001)]) (by decide +kernel) (Nat.le_of_ble_eq_true rfl) rfl ?_
  refine a_getstatic (v := fs_i 1) d_Str_coder_0 gs_Str_38 fs_ZCS (by show fs_in32 1; unfold fs_in32; omega) ?_
  refine a_if_eq (tgt := 13) d_Str_coder_3 rfl (fun c1 => absurd c1 (by decide)) (fun c1 => ?_)
  refine a_aload_n (j := 0) d_Str_coder_6 rfl rfl ?_
  refine a_getOF (v := fs_i 0) d_Str_coder_7 gs_Str_15 (by decide) fs_OFsc fs_in0 ?_
  refine a_goto (tgt := 14) d_Str_coder_10 rfl ?_
  exact b_ireturn d_Str_coder_14 rfl rfl h
set_option maxRecDepth 8000 in
set_option maxHeartbeats 4000000 in
theorem E_Str_isLatin1 {M : fs_M} {K : fs_K} 
    (h : K (some (fs_i 1)) M) :
    fs_C2 g m_Str_isLatin1 1 [fs_r 3001] M K := by
  refine b_enter2 (ls := [(0, fs_r 3001)]) (by decide +kernel) (Nat.le_of_ble_eq_true rfl) rfl ?_
  refine a_getstatic (v := fs_i 1) d_Str_isLatin1_0 gs_Str_38 fs_ZCS (by show fs_in32 1; unfold fs_in32; omega) ?_
  refine a_if_eq (tgt := 17) d_Str_isLatin1_3 rfl (fun c1 => absurd c1 (by decide)) (fun c1 => ?_)
  refine a_aload_n (j := 0) d_Str_isLatin1_6 rfl rfl ?_
  refine a_getOF (v := fs_i 0) d_Str_isLatin1_7 gs_Str_15 (by decide) fs_OFsc fs_in0 ?_
  refine a_if_ne (tgt := 17) d_Str_isLatin1_10 rfl (fun c2 => absurd c2 (by decide)) (fun c2 => ?_)
  refine a_iconst d_Str_isLatin1_13 (by unfold fs_in32; omega) ?_
  refine a_goto (tgt := 18) d_Str_isLatin1_14 rfl ?_
  exact b_ireturn d_Str_isLatin1_18 rfl (fs_nar01 (Or.inr rfl)) h
set_option maxRecDepth 8000 in
set_option maxHeartbeats 4000000 in
theorem E_Str_checkIndex {M : fs_M} {K : fs_K} {x0 x1 : Int} 
    (h : fs_C2 g m_Pre_checkIndex 1 [fs_i x0, fs_i x1, fs_r (fs_fm g)] M (fun v M1 => ∃ r1, v = some (fs_i r1) ∧ K none M1)) :
    fs_C2 g m_Str_checkIndex 2 [fs_i x0, fs_i x1] M K := by
  refine b_enter2 (ls := [(0, fs_i x0), (1, fs_i x1)]) (by decide +kernel) (Nat.le_of_ble_eq_true rfl) rfl ?_
  refine a_iload_n (j := 0) d_Str_checkIndex_0 rfl rfl ?_
  refine a_iload_n (j := 1) d_Str_checkIndex_1 rfl rfl ?_
  refine a_getstatic (v := fs_r (fs_fm g)) d_Str_checkIndex_2 gs_Str_1053 fs_ZFM (fs_fm_in g) ?_
  refine b_static (dc := 1) [fs_i x0, fs_i x1, fs_r (fs_fm g)] [] d_Str_checkIndex_5 ml_Str_1059 k_Pre_checkIndex s_Pre_checkIndex rfl (Nat.le_of_ble_eq_true rfl) rfl (Nat.le_of_ble_eq_true rfl) ?_
  refine fs_Call.mono (fun v M1 hv => ?_) h
  obtain ⟨r1, rfl, h⟩ := hv
  show fs_A2 g m_Str_checkIndex 2 8 [(0, fs_i x0), (1, fs_i x1)] [fs_i r1] M1 K
  refine a_pop d_Str_checkIndex_8 rfl ?_
  exact b_return d_Str_checkIndex_9 rfl h
set_option maxRecDepth 8000 in
set_option maxHeartbeats 4000000 in
theorem E_Lat_charAt {M : fs_M} {K : fs_K} {x1 : Int} 
    (h : fs_C2 g m_Str_checkIndex 2 [fs_i x1, fs_i 92] M (fun v M1 => v = none ∧ (0 ≤ x1 ∧ x1 < 92 ∧ (narrow .char (.int (Int32.ofInt (fs_i2c (fs_and (fs_wch x1) 255)))) = .int (Int32.ofInt (fs_i2c (fs_and (fs_wch x1) 255))) ∧ K (some (fs_i (fs_i2c (fs_and (fs_wch x1) 255)))) M1)))) :
    fs_C2 g m_Lat_charAt 3 [fs_r 3002, fs_i x1] M K := by
  refine b_enter2 (ls := [(0, fs_r 3002), (1, fs_i x1)]) (by decide +kernel) (Nat.le_of_ble_eq_true rfl) rfl ?_
  refine a_iload_n (j := 1) d_Lat_charAt_0 rfl rfl ?_
  refine a_aload_n (j := 0) d_Lat_charAt_1 rfl rfl ?_
  refine a_strlen d_Lat_charAt_2 ?_
  refine b_static (dc := 2) [fs_i x1, fs_i 92] [] d_Lat_charAt_3 ml_Lat_9 k_Str_checkIndex s_Str_checkIndex rfl (Nat.le_of_ble_eq_true rfl) rfl (Nat.le_of_ble_eq_true rfl) ?_
  refine fs_Call.mono (fun v M1 hv => ?_) h
  obtain ⟨rfl, h⟩ := hv
  show fs_A2 g m_Lat_charAt 3 6 [(0, fs_r 3002), (1, fs_i x1)] [] M1 K
  refine a_aload_n (j := 0) d_Lat_charAt_6 rfl rfl ?_
  refine a_iload_n (j := 1) d_Lat_charAt_7 rfl rfl ?_
  obtain ⟨o1, o2, h⟩ := h
  refine a_strload d_Lat_charAt_8 o1 o2 rfl ?_
  refine a_sipush d_Lat_charAt_9 (by decide) ?_
  refine a_iand d_Lat_charAt_12 ?_
  refine a_i2c d_Lat_charAt_13 ?_
  obtain ⟨o3, h⟩ := h
  exact b_ireturn d_Lat_charAt_14 rfl o3 h
end WALK
