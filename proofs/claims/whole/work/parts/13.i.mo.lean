-- ===== printed by program (wip/whole/gen12.py): what must hold at a method's entry, at its labels =====
section WALK
variable {g : fs_G}
set_option maxRecDepth 8000 in
set_option maxHeartbeats 4000000 in
theorem E_Mo_begins {M : fs_M} {K : fs_K} 
    (h : fs_A2 g m_Mo_begins 1 2 [(0, fs_r 226), (1, fs_i 0)] [] M K) :
    fs_C2 g m_Mo_begins 1 [fs_r 226] M K := by
  refine b_enter2 (ls := [(0, fs_r 226)]) (plainFor_of_name pn_Mo) (Nat.le_of_ble_eq_true rfl) rfl ?_
  refine a_iconst d_Mo_begins_0 (by unfold fs_in32; omega) ?_
  refine a_istore_n d_Mo_begins_1 rfl (Nat.le_of_ble_eq_true rfl) [1, 0] rfl ?_
  exact h
set_option maxRecDepth 8000 in
set_option maxHeartbeats 4000000 in
theorem L_Mo_begins_2 {M : fs_M} {K : fs_K} {x1 : Int} 
    (h : ((3 ≤ x1 → K none (fs_st (fs_st (fs_st (fs_st M 243 0 0) 244 0 0) 245 0 (M 228 2)) 246 0 0)) ∧ (¬ 3 ≤ x1 → (0 ≤ x1 ∧ fs_A2 g m_Mo_begins 1 2 [(0, fs_r 226), (1, fs_i (fs_w32 (x1 + 1)))] [] (fs_st M 242 x1 0) K)))) :
    fs_A2 g m_Mo_begins 1 2 [(0, fs_r 226), (1, fs_i x1)] [] M K := by
  refine a_iload_n (j := 1) d_Mo_begins_2 rfl rfl ?_
  refine a_iconst d_Mo_begins_3 (by unfold fs_in32; omega) ?_
  refine a_icmp_ge (tgt := 20) d_Mo_begins_4 rfl (fun c1 => ?_) (fun c1 => ?_)
  · have h := h.1 c1
    refine a_aload_n (j := 0) d_Mo_begins_20 rfl rfl ?_
    refine b_getptr (q := 243) d_Mo_begins_21 fl_Mo_63 io_226 rfl rfl rfl ?_
    refine a_iconst d_Mo_begins_24 (by unfold fs_in32; omega) ?_
    refine a_iconst d_Mo_begins_25 (by unfold fs_in32; omega) ?_
    refine b_iastore d_Mo_begins_26 ia_243 (by decide) (by decide) ?_
    refine a_aload_n (j := 0) d_Mo_begins_27 rfl rfl ?_
    refine b_getptr (q := 244) d_Mo_begins_28 fl_Mo_66 io_226 rfl rfl rfl ?_
    refine a_iconst d_Mo_begins_31 (by unfold fs_in32; omega) ?_
    refine a_iconst d_Mo_begins_32 (by unfold fs_in32; omega) ?_
    refine b_iastore d_Mo_begins_33 ia_244 (by decide) (by decide) ?_
    refine a_aload_n (j := 0) d_Mo_begins_34 rfl rfl ?_
    refine b_getptr (q := 245) d_Mo_begins_35 fl_Mo_69 io_226 rfl rfl rfl ?_
    refine a_iconst d_Mo_begins_38 (by unfold fs_in32; omega) ?_
    refine a_aload_n (j := 0) d_Mo_begins_39 rfl rfl ?_
    refine b_getptr (q := 228) d_Mo_begins_40 fl_Mo_13 io_226 rfl rfl rfl ?_
    refine a_iconst d_Mo_begins_43 (by unfold fs_in32; omega) ?_
    refine b_iaload (v := M 228 2) d_Mo_begins_44 ia_228 (by decide) (by decide) rfl ?_
    refine b_iastore d_Mo_begins_45 ia_245 (by decide) (by decide) ?_
    refine a_aload_n (j := 0) d_Mo_begins_46 rfl rfl ?_
    refine b_getptr (q := 246) d_Mo_begins_47 fl_Mo_72 io_226 rfl rfl rfl ?_
    refine a_iconst d_Mo_begins_50 (by unfold fs_in32; omega) ?_
    refine a_iconst d_Mo_begins_51 (by unfold fs_in32; omega) ?_
    refine b_iastore d_Mo_begins_52 ia_246 (by decide) (by decide) ?_
    exact b_return d_Mo_begins_53 rfl h
  · have h := h.2 c1
    refine a_aload_n (j := 0) d_Mo_begins_7 rfl rfl ?_
    refine b_getptr (q := 242) d_Mo_begins_8 fl_Mo_60 io_226 rfl rfl rfl ?_
    refine a_iload_n (j := 1) d_Mo_begins_11 rfl rfl ?_
    refine a_iconst d_Mo_begins_12 (by unfold fs_in32; omega) ?_
    obtain ⟨o2, h⟩ := h
    refine b_iastore d_Mo_begins_13 ia_242 o2 (by have q := (by omega : x1 < 3); omega) ?_
    refine a_iinc (j := 1) d_Mo_begins_14 rfl (Nat.le_of_ble_eq_true rfl) [1, 0] rfl ?_
    refine a_goto (tgt := 2) d_Mo_begins_17 rfl ?_
    exact h
set_option maxRecDepth 8000 in
set_option maxHeartbeats 4000000 in
theorem E_Mo_thrown {M : fs_M} {K : fs_K} 
    (h : K (some (fs_i (M 226 0))) M) :
    fs_C2 g m_Mo_thrown 1 [fs_r 226] M K := by
  refine b_enter2 (ls := [(0, fs_r 226)]) (plainFor_of_name pn_Mo) (Nat.le_of_ble_eq_true rfl) rfl ?_
  refine a_aload_n (j := 0) d_Mo_thrown_0 rfl rfl ?_
  refine b_getfield (v := fs_i (M 226 0)) d_Mo_thrown_1 fl_Mo_160 io_226 rfl ?_
  exact b_ireturn d_Mo_thrown_4 rfl rfl h
set_option maxRecDepth 8000 in
set_option maxHeartbeats 4000000 in
theorem E_Mo_feed {M : fs_M} {K : fs_K} {x1 x2 x3 x4 x5 : Int} 
    (h : ((M 226 2 ≤ 580 → fs_A2 g m_Mo_feed 1 20 [(0, fs_r 226), (1, fs_i x1), (2, fs_i x2), (3, fs_i x3), (4, fs_i x4), (5, fs_i x5), (6, fs_i 0)] [] (fs_st M 226 0 0) K) ∧ (¬ M 226 2 ≤ 580 → K (some (fs_i (-1))) (fs_st M 226 0 0)))) :
    fs_C2 g m_Mo_feed 1 [fs_r 226, fs_i x1, fs_i x2, fs_i x3, fs_i x4, fs_i x5] M K := by
  refine b_enter2 (ls := [(0, fs_r 226), (1, fs_i x1), (2, fs_i x2), (3, fs_i x3), (4, fs_i x4), (5, fs_i x5)]) (plainFor_of_name pn_Mo) (Nat.le_of_ble_eq_true rfl) rfl ?_
  refine a_aload_n (j := 0) d_Mo_feed_0 rfl rfl ?_
  refine a_iconst d_Mo_feed_1 (by unfold fs_in32; omega) ?_
  refine b_putfield (x := 0) d_Mo_feed_2 fl_Mo_160 io_226 rfl rfl fs_nar_int ?_
  refine a_aload_n (j := 0) d_Mo_feed_5 rfl rfl ?_
  refine b_getfield (v := fs_i (M 226 2)) d_Mo_feed_6 fl_Mo_163 io_226 rfl ?_
  refine a_sipush d_Mo_feed_9 (by decide) ?_
  refine a_icmp_le (tgt := 17) d_Mo_feed_12 rfl (fun c1 => ?_) (fun c1 => ?_)
  · have h := h.1 c1
    refine a_iconst d_Mo_feed_17 (by unfold fs_in32; omega) ?_
    refine a_istore d_Mo_feed_18 (Nat.le_of_ble_eq_true rfl) [1, 2, 3, 4, 5, 6, 0] rfl ?_
    exact h
  · have h := h.2 c1
    refine a_iconst d_Mo_feed_15 (by unfold fs_in32; omega) ?_
    exact b_ireturn d_Mo_feed_16 rfl rfl h
set_option maxRecDepth 8000 in
set_option maxHeartbeats 4000000 in
theorem L_Mo_feed_20 {M : fs_M} {K : fs_K} {x1 x2 x3 x4 x5 x6 : Int} 
    (h : ((20 ≤ x6 → K (some (fs_i (fs_w32 ((M 226 2) + 20)))) (fs_st M 226 2 (fs_w32 ((M 226 2) + 20)))) ∧ (¬ 20 ≤ x6 → ((4 ≤ x6 → ((8 ≤ x6 → ((12 ≤ x6 → ((16 ≤ x6 → fs_A2 g m_Mo_feed 1 73 [(0, fs_r 226), (1, fs_i x1), (2, fs_i x2), (3, fs_i x3), (4, fs_i x4), (5, fs_i x5), (6, fs_i x6)] [fs_i x5] M K) ∧ (¬ 16 ≤ x6 → fs_A2 g m_Mo_feed 1 73 [(0, fs_r 226), (1, fs_i x1), (2, fs_i x2), (3, fs_i x3), (4, fs_i x4), (5, fs_i x5), (6, fs_i x6)] [fs_i x4] M K))) ∧ (¬ 12 ≤ x6 → fs_A2 g m_Mo_feed 1 73 [(0, fs_r 226), (1, fs_i x1), (2, fs_i x2), (3, fs_i x3), (4, fs_i x4), (5, fs_i x5), (6, fs_i x6)] [fs_i x3] M K))) ∧ (¬ 8 ≤ x6 → fs_A2 g m_Mo_feed 1 73 [(0, fs_r 226), (1, fs_i x1), (2, fs_i x2), (3, fs_i x3), (4, fs_i x4), (5, fs_i x5), (6, fs_i x6)] [fs_i x2] M K))) ∧ (¬ 4 ≤ x6 → fs_A2 g m_Mo_feed 1 73 [(0, fs_r 226), (1, fs_i x1), (2, fs_i x2), (3, fs_i x3), (4, fs_i x4), (5, fs_i x5), (6, fs_i x6)] [fs_i x1] M K))))) :
    fs_A2 g m_Mo_feed 1 20 [(0, fs_r 226), (1, fs_i x1), (2, fs_i x2), (3, fs_i x3), (4, fs_i x4), (5, fs_i x5), (6, fs_i x6)] [] M K := by
  refine a_iload (j := 6) d_Mo_feed_20 rfl ?_
  refine a_bipush d_Mo_feed_22 (by decide) ?_
  refine a_icmp_ge (tgt := 110) d_Mo_feed_24 rfl (fun c2 => ?_) (fun c2 => ?_)
  · have h := h.1 c2
    refine a_aload_n (j := 0) d_Mo_feed_110 rfl rfl ?_
    refine a_dup d_Mo_feed_111 rfl ?_
    refine b_getfield (v := fs_i (M 226 2)) d_Mo_feed_112 fl_Mo_163 io_226 rfl ?_
    refine a_bipush d_Mo_feed_115 (by decide) ?_
    refine a_iadd d_Mo_feed_117 ?_
    refine b_putfield (x := (fs_w32 ((M 226 2) + 20))) d_Mo_feed_118 fl_Mo_163 io_226 rfl rfl fs_nar_int ?_
    refine a_aload_n (j := 0) d_Mo_feed_121 rfl rfl ?_
    refine b_getfield (v := fs_i (fs_w32 ((M 226 2) + 20))) d_Mo_feed_122 fl_Mo_163 io_226 rfl ?_
    exact b_ireturn d_Mo_feed_125 rfl rfl h
  · have h := h.2 c2
    refine a_iload (j := 6) d_Mo_feed_27 rfl ?_
    refine a_iconst d_Mo_feed_29 (by unfold fs_in32; omega) ?_
    refine a_icmp_ge (tgt := 37) d_Mo_feed_30 rfl (fun c3 => ?_) (fun c3 => ?_)
    · have h := h.1 c3
      refine a_iload (j := 6) d_Mo_feed_37 rfl ?_
      refine a_bipush d_Mo_feed_39 (by decide) ?_
      refine a_icmp_ge (tgt := 48) d_Mo_feed_41 rfl (fun c4 => ?_) (fun c4 => ?_)
      · have h := h.1 c4
        refine a_iload (j := 6) d_Mo_feed_48 rfl ?_
        refine a_bipush d_Mo_feed_50 (by decide) ?_
        refine a_icmp_ge (tgt := 59) d_Mo_feed_52 rfl (fun c5 => ?_) (fun c5 => ?_)
        · have h := h.1 c5
          refine a_iload (j := 6) d_Mo_feed_59 rfl ?_
          refine a_bipush d_Mo_feed_61 (by decide) ?_
          refine a_icmp_ge (tgt := 71) d_Mo_feed_63 rfl (fun c6 => ?_) (fun c6 => ?_)
          · have h := h.1 c6
            refine a_iload (j := 5) d_Mo_feed_71 rfl ?_
            exact h
          · have h := h.2 c6
            refine a_iload (j := 4) d_Mo_feed_66 rfl ?_
            refine a_goto (tgt := 73) d_Mo_feed_68 rfl ?_
            exact h
        · have h := h.2 c5
          refine a_iload_n (j := 3) d_Mo_feed_55 rfl rfl ?_
          refine a_goto (tgt := 73) d_Mo_feed_56 rfl ?_
          exact h
      · have h := h.2 c4
        refine a_iload_n (j := 2) d_Mo_feed_44 rfl rfl ?_
        refine a_goto (tgt := 73) d_Mo_feed_45 rfl ?_
        exact h
    · have h := h.2 c3
      refine a_iload_n (j := 1) d_Mo_feed_33 rfl rfl ?_
      refine a_goto (tgt := 73) d_Mo_feed_34 rfl ?_
      exact h
set_option maxRecDepth 8000 in
set_option maxHeartbeats 4000000 in
theorem L_Mo_feed_73 {M : fs_M} {K : fs_K} {x1 x2 x3 x4 x5 x6 x100 : Int} 
    (h : (0 ≤ fs_w32 ((M 226 2) + x6) ∧ fs_w32 ((M 226 2) + x6) < 600 ∧ fs_A2 g m_Mo_feed 1 20 [(0, fs_r 226), (1, fs_i x1), (2, fs_i x2), (3, fs_i x3), (4, fs_i x4), (5, fs_i x5), (6, fs_i (fs_w32 (x6 + 1)))] [] (fs_st M 227 (fs_w32 ((M 226 2) + x6)) (fs_and (fs_shr x100 (fs_w32 (24 - (fs_w32 (8 * (fs_rem x6 4)))))) 255)) K)) :
    fs_A2 g m_Mo_feed 1 73 [(0, fs_r 226), (1, fs_i x1), (2, fs_i x2), (3, fs_i x3), (4, fs_i x4), (5, fs_i x5), (6, fs_i x6)] [fs_i x100] M K := by
  refine a_istore d_Mo_feed_73 (Nat.le_of_ble_eq_true rfl) [1, 2, 3, 4, 5, 6, 7, 0] rfl ?_
  refine a_aload_n (j := 0) d_Mo_feed_75 rfl rfl ?_
  refine b_getptr (q := 227) d_Mo_feed_76 fl_Mo_7 io_226 rfl rfl rfl ?_
  refine a_aload_n (j := 0) d_Mo_feed_79 rfl rfl ?_
  refine b_getfield (v := fs_i (M 226 2)) d_Mo_feed_80 fl_Mo_163 io_226 rfl ?_
  refine a_iload (j := 6) d_Mo_feed_83 rfl ?_
  refine a_iadd d_Mo_feed_85 ?_
  refine a_iload (j := 7) d_Mo_feed_86 rfl ?_
  refine a_bipush d_Mo_feed_88 (by decide) ?_
  refine a_bipush d_Mo_feed_90 (by decide) ?_
  refine a_iload (j := 6) d_Mo_feed_92 rfl ?_
  refine a_iconst d_Mo_feed_94 (by unfold fs_in32; omega) ?_
  refine a_irem d_Mo_feed_95 (by decide) ?_
  refine a_imul d_Mo_feed_96 ?_
  refine a_isub d_Mo_feed_97 ?_
  refine a_ishr d_Mo_feed_98 ?_
  refine a_sipush d_Mo_feed_99 (by decide) ?_
  refine a_iand d_Mo_feed_102 ?_
  obtain ⟨o7, o8, h⟩ := h
  refine b_iastore d_Mo_feed_103 ia_227 o7 o8 ?_
  refine a_iinc (j := 6) d_Mo_feed_104 rfl (Nat.le_of_ble_eq_true rfl) [1, 2, 3, 4, 5, 6, 0, 7] rfl ?_
  refine a_goto (tgt := 20) d_Mo_feed_107 rfl ?_
  refine a_sub [0, 1, 2, 3, 4, 5, 6] rfl ?_
  exact h
set_option maxRecDepth 8000 in
set_option maxHeartbeats 4000000 in
theorem E_Mo_text {M : fs_M} {K : fs_K} {x1 : Int} 
    (h : ((x1 < 0 → K (some (fs_i (-2))) (fs_st M 226 0 0)) ∧ (¬ x1 < 0 → ((x1 ≤ M 226 2 → fs_A2 g m_Mo_text 160 47 [(0, fs_r 226), (2, fs_i 0)] [] (fs_st (fs_st (fs_st (fs_st (fs_st (fs_st M 226 0 0) 226 18 x1) 226 2 0) 226 19 0) 226 23 0) 226 24 (-1)) K) ∧ (¬ x1 ≤ M 226 2 → K (some (fs_i (-2))) (fs_st M 226 0 0)))))) :
    fs_C2 g m_Mo_text 160 [fs_r 226, fs_i x1] M K := by
  refine b_enter2 (ls := [(0, fs_r 226), (1, fs_i x1)]) (plainFor_of_name pn_Mo) (Nat.le_of_ble_eq_true rfl) rfl ?_
  refine a_aload_n (j := 0) d_Mo_text_0 rfl rfl ?_
  refine a_iconst d_Mo_text_1 (by unfold fs_in32; omega) ?_
  refine b_putfield (x := 0) d_Mo_text_2 fl_Mo_160 io_226 rfl rfl fs_nar_int ?_
  refine a_iload_n (j := 1) d_Mo_text_5 rfl rfl ?_
  refine a_if_lt (tgt := 17) d_Mo_text_6 rfl (fun c1 => ?_) (fun c1 => ?_)
  · have h := h.1 c1
    refine a_bipush d_Mo_text_17 (by decide) ?_
    exact b_ireturn d_Mo_text_19 rfl rfl h
  · have h := h.2 c1
    refine a_iload_n (j := 1) d_Mo_text_9 rfl rfl ?_
    refine a_aload_n (j := 0) d_Mo_text_10 rfl rfl ?_
    refine b_getfield (v := fs_i (M 226 2)) d_Mo_text_11 fl_Mo_163 io_226 rfl ?_
    refine a_icmp_le (tgt := 20) d_Mo_text_14 rfl (fun c2 => ?_) (fun c2 => ?_)
    · have h := h.1 c2
      refine a_aload_n (j := 0) d_Mo_text_20 rfl rfl ?_
      refine a_iload_n (j := 1) d_Mo_text_21 rfl rfl ?_
      refine b_putfield (x := x1) d_Mo_text_22 fl_Mo_169 io_226 rfl rfl fs_nar_int ?_
      refine a_aload_n (j := 0) d_Mo_text_25 rfl rfl ?_
      refine a_iconst d_Mo_text_26 (by unfold fs_in32; omega) ?_
      refine b_putfield (x := 0) d_Mo_text_27 fl_Mo_163 io_226 rfl rfl fs_nar_int ?_
      refine a_aload_n (j := 0) d_Mo_text_30 rfl rfl ?_
      refine a_iconst d_Mo_text_31 (by unfold fs_in32; omega) ?_
      refine b_putfield (x := 0) d_Mo_text_32 fl_Mo_166 io_226 rfl rfl fs_nar_int ?_
      refine a_aload_n (j := 0) d_Mo_text_35 rfl rfl ?_
      refine a_iconst d_Mo_text_36 (by unfold fs_in32; omega) ?_
      refine b_putfield (x := 0) d_Mo_text_37 fl_Mo_214 io_226 rfl rfl fs_nar_int ?_
      refine a_aload_n (j := 0) d_Mo_text_40 rfl rfl ?_
      refine a_iconst d_Mo_text_41 (by unfold fs_in32; omega) ?_
      refine b_putfield (x := (-1)) d_Mo_text_42 fl_Mo_217 io_226 rfl rfl fs_nar_int ?_
      refine a_iconst d_Mo_text_45 (by unfold fs_in32; omega) ?_
      refine a_istore_n d_Mo_text_46 rfl (Nat.le_of_ble_eq_true rfl) [1, 2, 0] rfl ?_
      refine a_sub [0, 2] rfl ?_
      exact h
    · have h := h.2 c2
      refine a_bipush d_Mo_text_17 (by decide) ?_
      exact b_ireturn d_Mo_text_19 rfl rfl h
set_option maxRecDepth 8000 in
set_option maxHeartbeats 4000000 in
theorem L_Mo_text_47 {M : fs_M} {K : fs_K} {x2 : Int} 
    (h : ((4 ≤ x2 → fs_A2 g m_Mo_text 160 69 [(0, fs_r 226), (2, fs_i 4)] [] M K) ∧ (¬ 4 ≤ x2 → (0 ≤ fs_w32 (4 + x2) ∧ fs_w32 (4 + x2) < 8 ∧ fs_A2 g m_Mo_text 160 47 [(0, fs_r 226), (2, fs_i (fs_w32 (x2 + 1)))] [] (fs_st M 228 (fs_w32 (4 + x2)) 0) K)))) :
    fs_A2 g m_Mo_text 160 47 [(0, fs_r 226), (2, fs_i x2)] [] M K := by
  refine a_iload_n (j := 1) d_Mo_text_47 rfl rfl ?_
  refine a_iconst d_Mo_text_48 (by unfold fs_in32; omega) ?_
  refine a_icmp_ge (tgt := 67) d_Mo_text_49 rfl (fun c3 => ?_) (fun c3 => ?_)
  · have h := h.1 c3
    refine a_iconst d_Mo_text_67 (by unfold fs_in32; omega) ?_
    refine a_istore_n d_Mo_text_68 rfl (Nat.le_of_ble_eq_true rfl) [1, 0] rfl ?_
    exact h
  · have h := h.2 c3
    refine a_aload_n (j := 0) d_Mo_text_52 rfl rfl ?_
    refine b_getptr (q := 228) d_Mo_text_53 fl_Mo_13 io_226 rfl rfl rfl ?_
    refine a_iconst d_Mo_text_56 (by unfold fs_in32; omega) ?_
    refine a_iload_n (j := 1) d_Mo_text_57 rfl rfl ?_
    refine a_iadd d_Mo_text_58 ?_
    refine a_iconst d_Mo_text_59 (by unfold fs_in32; omega) ?_
    obtain ⟨o4, o5, h⟩ := h
    refine b_iastore d_Mo_text_60 ia_228 o4 o5 ?_
    refine a_iinc (j := 1) d_Mo_text_61 rfl (Nat.le_of_ble_eq_true rfl) [1, 0] rfl ?_
    refine a_goto (tgt := 47) d_Mo_text_64 rfl ?_
    exact h
set_option maxRecDepth 8000 in
set_option maxHeartbeats 4000000 in
theorem L_Mo_text_69 {M : fs_M} {K : fs_K} {x2 : Int} 
    (h : ((8 ≤ x2 → fs_C2 g m_Mo_token 6 [fs_r 226] (fs_st (fs_st (fs_st (fs_st M 226 16 0) 226 17 0) 226 27 0) 226 28 0) (fun v M1 => v = none ∧ fs_A2 g m_Mo_text 160 119 [(0, fs_r 226)] [] M1 K)) ∧ (¬ 8 ≤ x2 → (0 ≤ x2 ∧ fs_A2 g m_Mo_text 160 69 [(0, fs_r 226), (2, fs_i (fs_w32 (x2 + 1)))] [] (fs_st (fs_st M 237 x2 0) 238 x2 0) K)))) :
    fs_A2 g m_Mo_text 160 69 [(0, fs_r 226), (2, fs_i x2)] [] M K := by
  refine a_iload_n (j := 1) d_Mo_text_69 rfl rfl ?_
  refine a_bipush d_Mo_text_70 (by decide) ?_
  refine a_icmp_ge (tgt := 95) d_Mo_text_72 rfl (fun c6 => ?_) (fun c6 => ?_)
  · have h := h.1 c6
    refine a_aload_n (j := 0) d_Mo_text_95 rfl rfl ?_
    refine a_iconst d_Mo_text_96 (by unfold fs_in32; omega) ?_
    refine b_putfield (x := 0) d_Mo_text_97 fl_Mo_234 io_226 rfl rfl fs_nar_int ?_
    refine a_aload_n (j := 0) d_Mo_text_100 rfl rfl ?_
    refine a_iconst d_Mo_text_101 (by unfold fs_in32; omega) ?_
    refine b_putfield (x := 0) d_Mo_text_102 fl_Mo_254 io_226 rfl rfl fs_nar_int ?_
    refine a_aload_n (j := 0) d_Mo_text_105 rfl rfl ?_
    refine a_iconst d_Mo_text_106 (by unfold fs_in32; omega) ?_
    refine b_putfield (x := 0) d_Mo_text_107 fl_Mo_291 io_226 rfl rfl fs_nar_int ?_
    refine a_aload_n (j := 0) d_Mo_text_110 rfl rfl ?_
    refine a_iconst d_Mo_text_111 (by unfold fs_in32; omega) ?_
    refine b_putfield (x := 0) d_Mo_text_112 fl_Mo_263 io_226 rfl rfl fs_nar_int ?_
    refine a_aload_n (j := 0) d_Mo_text_115 rfl rfl ?_
    refine b_virtual (dc := 6) (ci := 11) (T := fs_T11) (N := 78) [] [] d_Mo_text_116 ml_Mo_220 k_Mo_token v_Mo_token rfl io_226 rfl (Nat.le_of_ble_eq_true rfl) rfl (Nat.le_of_ble_eq_true rfl) ?_
    refine fs_Call.mono (fun v M1 hv => ?_) h
    obtain ⟨rfl, h⟩ := hv
    show fs_A2 g m_Mo_text 160 119 [(0, fs_r 226), (2, fs_i x2)] [] M1 K
    refine a_sub [0] rfl ?_
    exact h
  · have h := h.2 c6
    refine a_aload_n (j := 0) d_Mo_text_75 rfl rfl ?_
    refine b_getptr (q := 237) d_Mo_text_76 fl_Mo_41 io_226 rfl rfl rfl ?_
    refine a_iload_n (j := 1) d_Mo_text_79 rfl rfl ?_
    refine a_iconst d_Mo_text_80 (by unfold fs_in32; omega) ?_
    obtain ⟨o7, h⟩ := h
    refine b_iastore d_Mo_text_81 ia_237 o7 (by omega : x2 < 8) ?_
    refine a_aload_n (j := 0) d_Mo_text_82 rfl rfl ?_
    refine b_getptr (q := 238) d_Mo_text_83 fl_Mo_44 io_226 rfl rfl rfl ?_
    refine a_iload_n (j := 1) d_Mo_text_86 rfl rfl ?_
    refine a_iconst d_Mo_text_87 (by unfold fs_in32; omega) ?_
    refine b_iastore d_Mo_text_88 ia_238 o7 (by omega : x2 < 8) ?_
    refine a_iinc (j := 1) d_Mo_text_89 rfl (Nat.le_of_ble_eq_true rfl) [1, 0] rfl ?_
    refine a_goto (tgt := 69) d_Mo_text_92 rfl ?_
    exact h
set_option maxRecDepth 8000 in
set_option maxHeartbeats 4000000 in
theorem L_Mo_text_119 {M : fs_M} {K : fs_K} 
    (h : ((¬ M 226 23 = 0 → fs_A2 g m_Mo_text 160 141 [(0, fs_r 226)] [] M K) ∧ (M 226 23 = 0 → ((M 226 21 = 4 → fs_A2 g m_Mo_text 160 141 [(0, fs_r 226)] [] M K) ∧ (¬ M 226 21 = 4 → fs_C2 g m_Mo_line 159 [fs_r 226] M (fun v M2 => v = none ∧ fs_A2 g m_Mo_text 160 119 [(0, fs_r 226)] [] M2 K)))))) :
    fs_A2 g m_Mo_text 160 119 [(0, fs_r 226)] [] M K := by
  refine a_aload_n (j := 0) d_Mo_text_119 rfl rfl ?_
  refine b_getfield (v := fs_i (M 226 23)) d_Mo_text_120 fl_Mo_214 io_226 rfl ?_
  refine a_if_ne (tgt := 141) d_Mo_text_123 rfl (fun c8 => ?_) (fun c8 => ?_)
  · have h := h.1 c8
    exact h
  · have h := h.2 c8
    refine a_aload_n (j := 0) d_Mo_text_126 rfl rfl ?_
    refine b_getfield (v := fs_i (M 226 21)) d_Mo_text_127 fl_Mo_179 io_226 rfl ?_
    refine a_iconst d_Mo_text_130 (by unfold fs_in32; omega) ?_
    refine a_icmp_eq (tgt := 141) d_Mo_text_131 rfl (fun c9 => ?_) (fun c9 => ?_)
    · have h := h.1 c9
      exact h
    · have h := h.2 c9
      refine a_aload_n (j := 0) d_Mo_text_134 rfl rfl ?_
      refine b_virtual (dc := 159) (ci := 11) (T := fs_T11) (N := 78) [] [] d_Mo_text_135 ml_Mo_294 k_Mo_line v_Mo_line rfl io_226 rfl (Nat.le_of_ble_eq_true rfl) rfl (Nat.le_of_ble_eq_true rfl) ?_
      refine fs_Call.mono (fun v M2 hv => ?_) h
      obtain ⟨rfl, h⟩ := hv
      show fs_A2 g m_Mo_text 160 138 [(0, fs_r 226)] [] M2 K
      refine a_goto (tgt := 119) d_Mo_text_138 rfl ?_
      exact h
set_option maxRecDepth 8000 in
set_option maxHeartbeats 4000000 in
theorem L_Mo_text_141 {M : fs_M} {K : fs_K} 
    (h : ((M 226 23 = 0 → fs_C2 g m_Mo_half 1 [fs_r 228] (fs_st (fs_st M 226 25 (M 226 23)) 226 26 (M 226 24)) (fun v M3 => v = none ∧ fs_C2 g m_Mo_half 1 [fs_r 229] M3 (fun v M4 => v = none ∧ fs_C2 g m_Mo_half 1 [fs_r 230] M4 (fun v M5 => v = none ∧ fs_C2 g m_Mo_half 1 [fs_r 231] M5 (fun v M6 => v = none ∧ fs_C2 g m_Mo_half 1 [fs_r 232] M6 (fun v M7 => v = none ∧ fs_A2 g m_Mo_text 160 203 [(0, fs_r 226), (2, fs_i 0)] [] M7 K)))))) ∧ (¬ M 226 23 = 0 → K (some (fs_i (-1))) (fs_st (fs_st M 226 25 (M 226 23)) 226 26 (M 226 24))))) :
    fs_A2 g m_Mo_text 160 141 [(0, fs_r 226)] [] M K := by
  refine a_aload_n (j := 0) d_Mo_text_141 rfl rfl ?_
  refine a_aload_n (j := 0) d_Mo_text_142 rfl rfl ?_
  refine b_getfield (v := fs_i (M 226 23)) d_Mo_text_143 fl_Mo_214 io_226 rfl ?_
  refine b_putfield (x := (M 226 23)) d_Mo_text_146 fl_Mo_297 io_226 rfl rfl fs_nar_int ?_
  refine a_aload_n (j := 0) d_Mo_text_149 rfl rfl ?_
  refine a_aload_n (j := 0) d_Mo_text_150 rfl rfl ?_
  refine b_getfield (v := fs_i (M 226 24)) d_Mo_text_151 fl_Mo_217 io_226 rfl ?_
  refine b_putfield (x := (M 226 24)) d_Mo_text_154 fl_Mo_53 io_226 rfl rfl fs_nar_int ?_
  refine a_aload_n (j := 0) d_Mo_text_157 rfl rfl ?_
  refine b_getfield (v := fs_i (M 226 23)) d_Mo_text_158 fl_Mo_214 io_226 rfl ?_
  refine a_if_eq (tgt := 166) d_Mo_text_161 rfl (fun c10 => ?_) (fun c10 => ?_)
  · have h := h.1 c10
    refine a_aload_n (j := 0) d_Mo_text_166 rfl rfl ?_
    refine b_getptr (q := 228) d_Mo_text_167 fl_Mo_13 io_226 rfl rfl rfl ?_
    refine b_static (dc := 1) [fs_r 228] [] d_Mo_text_170 ml_Mo_300 k_Mo_half s_Mo_half rfl (Nat.le_of_ble_eq_true rfl) rfl (Nat.le_of_ble_eq_true rfl) ?_
    refine fs_Call.mono (fun v M3 hv => ?_) h
    obtain ⟨rfl, h⟩ := hv
    show fs_A2 g m_Mo_text 160 173 [(0, fs_r 226)] [] M3 K
    refine a_aload_n (j := 0) d_Mo_text_173 rfl rfl ?_
    refine b_getptr (q := 229) d_Mo_text_174 fl_Mo_16 io_226 rfl rfl rfl ?_
    refine b_static (dc := 1) [fs_r 229] [] d_Mo_text_177 ml_Mo_300 k_Mo_half s_Mo_half rfl (Nat.le_of_ble_eq_true rfl) rfl (Nat.le_of_ble_eq_true rfl) ?_
    refine fs_Call.mono (fun v M4 hv => ?_) h
    obtain ⟨rfl, h⟩ := hv
    show fs_A2 g m_Mo_text 160 180 [(0, fs_r 226)] [] M4 K
    refine a_aload_n (j := 0) d_Mo_text_180 rfl rfl ?_
    refine b_getptr (q := 230) d_Mo_text_181 fl_Mo_19 io_226 rfl rfl rfl ?_
    refine b_static (dc := 1) [fs_r 230] [] d_Mo_text_184 ml_Mo_300 k_Mo_half s_Mo_half rfl (Nat.le_of_ble_eq_true rfl) rfl (Nat.le_of_ble_eq_true rfl) ?_
    refine fs_Call.mono (fun v M5 hv => ?_) h
    obtain ⟨rfl, h⟩ := hv
    show fs_A2 g m_Mo_text 160 187 [(0, fs_r 226)] [] M5 K
    refine a_aload_n (j := 0) d_Mo_text_187 rfl rfl ?_
    refine b_getptr (q := 231) d_Mo_text_188 fl_Mo_22 io_226 rfl rfl rfl ?_
    refine b_static (dc := 1) [fs_r 231] [] d_Mo_text_191 ml_Mo_300 k_Mo_half s_Mo_half rfl (Nat.le_of_ble_eq_true rfl) rfl (Nat.le_of_ble_eq_true rfl) ?_
    refine fs_Call.mono (fun v M6 hv => ?_) h
    obtain ⟨rfl, h⟩ := hv
    show fs_A2 g m_Mo_text 160 194 [(0, fs_r 226)] [] M6 K
    refine a_aload_n (j := 0) d_Mo_text_194 rfl rfl ?_
    refine b_getptr (q := 232) d_Mo_text_195 fl_Mo_25 io_226 rfl rfl rfl ?_
    refine b_static (dc := 1) [fs_r 232] [] d_Mo_text_198 ml_Mo_300 k_Mo_half s_Mo_half rfl (Nat.le_of_ble_eq_true rfl) rfl (Nat.le_of_ble_eq_true rfl) ?_
    refine fs_Call.mono (fun v M7 hv => ?_) h
    obtain ⟨rfl, h⟩ := hv
    show fs_A2 g m_Mo_text 160 201 [(0, fs_r 226)] [] M7 K
    refine a_iconst d_Mo_text_201 (by unfold fs_in32; omega) ?_
    refine a_istore_n d_Mo_text_202 rfl (Nat.le_of_ble_eq_true rfl) [1, 0] rfl ?_
    exact h
  · have h := h.2 c10
    refine a_iconst d_Mo_text_164 (by unfold fs_in32; omega) ?_
    exact b_ireturn d_Mo_text_165 rfl rfl h
set_option maxRecDepth 8000 in
set_option maxHeartbeats 4000000 in
theorem L_Mo_text_203 {M : fs_M} {K : fs_K} {x2 : Int} 
    (h : ((6 ≤ x2 → fs_C2 g m_Mo_half 1 [fs_r 234] M (fun v M8 => v = none ∧ fs_C2 g m_Mo_half 1 [fs_r 235] M8 (fun v M9 => v = none ∧ fs_C2 g m_Mo_half 1 [fs_r 236] M9 (fun v M10 => v = none ∧ fs_C2 g m_Mo_half 1 [fs_r 237] M10 (fun v M11 => v = none ∧ fs_C2 g m_Mo_half 1 [fs_r 238] M11 (fun v M12 => v = none ∧ fs_C2 g m_Mo_half 1 [fs_r 239] M12 (fun v M13 => v = none ∧ fs_C2 g m_Mo_half 1 [fs_r 240] M13 (fun v M14 => v = none ∧ fs_C2 g m_Mo_begins 1 [fs_r 226] (fs_st (fs_st (fs_st (fs_st M14 226 68 0) 226 69 (-1)) 226 37 0) 226 38 0) (fun v M15 => v = none ∧ K (some (fs_i (M15 226 17))) M15))))))))) ∧ (¬ 6 ≤ x2 → (0 ≤ fs_w32 (6 + x2) ∧ fs_w32 (6 + x2) < 12 ∧ (0 ≤ x2 ∧ (M 233 (fs_w32 (6 + x2)) = 0 ∨ M 233 (fs_w32 (6 + x2)) = 1) ∧ fs_A2 g m_Mo_text 160 203 [(0, fs_r 226), (2, fs_i (fs_w32 (x2 + 1)))] [] (fs_st M 233 x2 (M 233 (fs_w32 (6 + x2)))) K))))) :
    fs_A2 g m_Mo_text 160 203 [(0, fs_r 226), (2, fs_i x2)] [] M K := by
  refine a_iload_n (j := 1) d_Mo_text_203 rfl rfl ?_
  refine a_bipush d_Mo_text_204 (by decide) ?_
  refine a_icmp_ge (tgt := 230) d_Mo_text_206 rfl (fun c11 => ?_) (fun c11 => ?_)
  · have h := h.1 c11
    refine a_aload_n (j := 0) d_Mo_text_230 rfl rfl ?_
    refine b_getptr (q := 234) d_Mo_text_231 fl_Mo_32 io_226 rfl rfl rfl ?_
    refine b_static (dc := 1) [fs_r 234] [] d_Mo_text_234 ml_Mo_300 k_Mo_half s_Mo_half rfl (Nat.le_of_ble_eq_true rfl) rfl (Nat.le_of_ble_eq_true rfl) ?_
    refine fs_Call.mono (fun v M8 hv => ?_) h
    obtain ⟨rfl, h⟩ := hv
    show fs_A2 g m_Mo_text 160 237 [(0, fs_r 226), (2, fs_i x2)] [] M8 K
    refine a_aload_n (j := 0) d_Mo_text_237 rfl rfl ?_
    refine b_getptr (q := 235) d_Mo_text_238 fl_Mo_35 io_226 rfl rfl rfl ?_
    refine b_static (dc := 1) [fs_r 235] [] d_Mo_text_241 ml_Mo_300 k_Mo_half s_Mo_half rfl (Nat.le_of_ble_eq_true rfl) rfl (Nat.le_of_ble_eq_true rfl) ?_
    refine fs_Call.mono (fun v M9 hv => ?_) h
    obtain ⟨rfl, h⟩ := hv
    show fs_A2 g m_Mo_text 160 244 [(0, fs_r 226), (2, fs_i x2)] [] M9 K
    refine a_aload_n (j := 0) d_Mo_text_244 rfl rfl ?_
    refine b_getptr (q := 236) d_Mo_text_245 fl_Mo_38 io_226 rfl rfl rfl ?_
    refine b_static (dc := 1) [fs_r 236] [] d_Mo_text_248 ml_Mo_300 k_Mo_half s_Mo_half rfl (Nat.le_of_ble_eq_true rfl) rfl (Nat.le_of_ble_eq_true rfl) ?_
    refine fs_Call.mono (fun v M10 hv => ?_) h
    obtain ⟨rfl, h⟩ := hv
    show fs_A2 g m_Mo_text 160 251 [(0, fs_r 226), (2, fs_i x2)] [] M10 K
    refine a_aload_n (j := 0) d_Mo_text_251 rfl rfl ?_
    refine b_getptr (q := 237) d_Mo_text_252 fl_Mo_41 io_226 rfl rfl rfl ?_
    refine b_static (dc := 1) [fs_r 237] [] d_Mo_text_255 ml_Mo_300 k_Mo_half s_Mo_half rfl (Nat.le_of_ble_eq_true rfl) rfl (Nat.le_of_ble_eq_true rfl) ?_
    refine fs_Call.mono (fun v M11 hv => ?_) h
    obtain ⟨rfl, h⟩ := hv
    show fs_A2 g m_Mo_text 160 258 [(0, fs_r 226), (2, fs_i x2)] [] M11 K
    refine a_aload_n (j := 0) d_Mo_text_258 rfl rfl ?_
    refine b_getptr (q := 238) d_Mo_text_259 fl_Mo_44 io_226 rfl rfl rfl ?_
    refine b_static (dc := 1) [fs_r 238] [] d_Mo_text_262 ml_Mo_300 k_Mo_half s_Mo_half rfl (Nat.le_of_ble_eq_true rfl) rfl (Nat.le_of_ble_eq_true rfl) ?_
    refine fs_Call.mono (fun v M12 hv => ?_) h
    obtain ⟨rfl, h⟩ := hv
    show fs_A2 g m_Mo_text 160 265 [(0, fs_r 226), (2, fs_i x2)] [] M12 K
    refine a_aload_n (j := 0) d_Mo_text_265 rfl rfl ?_
    refine b_getptr (q := 239) d_Mo_text_266 fl_Mo_47 io_226 rfl rfl rfl ?_
    refine b_static (dc := 1) [fs_r 239] [] d_Mo_text_269 ml_Mo_300 k_Mo_half s_Mo_half rfl (Nat.le_of_ble_eq_true rfl) rfl (Nat.le_of_ble_eq_true rfl) ?_
    refine fs_Call.mono (fun v M13 hv => ?_) h
    obtain ⟨rfl, h⟩ := hv
    show fs_A2 g m_Mo_text 160 272 [(0, fs_r 226), (2, fs_i x2)] [] M13 K
    refine a_aload_n (j := 0) d_Mo_text_272 rfl rfl ?_
    refine b_getptr (q := 240) d_Mo_text_273 fl_Mo_50 io_226 rfl rfl rfl ?_
    refine b_static (dc := 1) [fs_r 240] [] d_Mo_text_276 ml_Mo_300 k_Mo_half s_Mo_half rfl (Nat.le_of_ble_eq_true rfl) rfl (Nat.le_of_ble_eq_true rfl) ?_
    refine fs_Call.mono (fun v M14 hv => ?_) h
    obtain ⟨rfl, h⟩ := hv
    show fs_A2 g m_Mo_text 160 279 [(0, fs_r 226), (2, fs_i x2)] [] M14 K
    refine a_aload_n (j := 0) d_Mo_text_279 rfl rfl ?_
    refine a_iconst d_Mo_text_280 (by unfold fs_in32; omega) ?_
    refine b_putfield (x := 0) d_Mo_text_281 fl_Mo_304 io_226 rfl rfl fs_nar_int ?_
    refine a_aload_n (j := 0) d_Mo_text_284 rfl rfl ?_
    refine a_iconst d_Mo_text_285 (by unfold fs_in32; omega) ?_
    refine b_putfield (x := (-1)) d_Mo_text_286 fl_Mo_139 io_226 rfl rfl fs_nar_int ?_
    refine a_aload_n (j := 0) d_Mo_text_289 rfl rfl ?_
    refine a_iconst d_Mo_text_290 (by unfold fs_in32; omega) ?_
    refine b_putfield (x := 0) d_Mo_text_291 fl_Mo_307 io_226 rfl rfl (fs_nar_bool (Or.inl rfl)) ?_
    refine a_aload_n (j := 0) d_Mo_text_294 rfl rfl ?_
    refine a_iconst d_Mo_text_295 (by unfold fs_in32; omega) ?_
    refine b_putfield (x := 0) d_Mo_text_296 fl_Mo_311 io_226 rfl rfl fs_nar_int ?_
    refine a_aload_n (j := 0) d_Mo_text_299 rfl rfl ?_
    refine b_virtual (dc := 1) (ci := 11) (T := fs_T11) (N := 78) [] [] d_Mo_text_300 ml_Mo_157 k_Mo_begins v_Mo_begins rfl io_226 rfl (Nat.le_of_ble_eq_true rfl) rfl (Nat.le_of_ble_eq_true rfl) ?_
    refine fs_Call.mono (fun v M15 hv => ?_) h
    obtain ⟨rfl, h⟩ := hv
    show fs_A2 g m_Mo_text 160 303 [(0, fs_r 226), (2, fs_i x2)] [] M15 K
    refine a_aload_n (j := 0) d_Mo_text_303 rfl rfl ?_
    refine b_getfield (v := fs_i (M15 226 17)) d_Mo_text_304 fl_Mo_254 io_226 rfl ?_
    exact b_ireturn d_Mo_text_307 rfl rfl h
  · have h := h.2 c11
    refine a_aload_n (j := 0) d_Mo_text_209 rfl rfl ?_
    refine b_getptr (q := 233) d_Mo_text_210 fl_Mo_28 io_226 rfl rfl rfl ?_
    refine a_iload_n (j := 1) d_Mo_text_213 rfl rfl ?_
    refine a_aload_n (j := 0) d_Mo_text_214 rfl rfl ?_
    refine b_getptr (q := 233) d_Mo_text_215 fl_Mo_28 io_226 rfl rfl rfl ?_
    refine a_bipush d_Mo_text_218 (by decide) ?_
    refine a_iload_n (j := 1) d_Mo_text_220 rfl rfl ?_
    refine a_iadd d_Mo_text_221 ?_
    obtain ⟨o12, o13, h⟩ := h
    refine b_baload (v := M 233 (fs_w32 (6 + x2))) d_Mo_text_222 ia_233 o12 o13 rfl ?_
    obtain ⟨o14, o15, h⟩ := h
    refine b_bastore d_Mo_text_223 ia_233 o14 (by have q := (by omega : x2 < 6); omega) o15 ?_
    refine a_iinc (j := 1) d_Mo_text_224 rfl (Nat.le_of_ble_eq_true rfl) [1, 0] rfl ?_
    refine a_goto (tgt := 203) d_Mo_text_227 rfl ?_
    exact h
set_option maxRecDepth 8000 in
set_option maxHeartbeats 4000000 in
theorem E_Mo_token {M : fs_M} {K : fs_K} 
    (h : fs_C2 g m_Mo_here 1 [fs_r 226] M (fun v M1 => ∃ r1, v = some (fs_i r1) ∧ ((r1 = 10 → fs_A2 g m_Mo_token 6 18 [(0, fs_r 226)] [] M1 K) ∧ (¬ r1 = 10 → fs_C2 g m_Mo_here 1 [fs_r 226] M1 (fun v M2 => ∃ r2, v = some (fs_i r2) ∧ ((¬ r2 = 32 → fs_C2 g m_Mo_here 1 [fs_r 226] (fs_st M2 226 20 (M2 226 19)) (fun v M3 => ∃ r3, v = some (fs_i r3) ∧ ((¬ r3 = (-1) → fs_C2 g m_Mo_isSmall 1 [fs_i r3] M3 (fun v M4 => ∃ r4, v = some (fs_i r4) ∧ ((r4 = 0 → fs_C2 g m_Mo_isDigit 1 [fs_i r3] M4 (fun v M5 => ∃ r5, v = some (fs_i r5) ∧ ((r5 = 0 → fs_C2 g m_Mo_sign 2 [fs_r 226, fs_i r3] M5 (fun v M6 => v = none ∧ K none M6)) ∧ (¬ r5 = 0 → fs_A2 g m_Mo_token 6 162 [(0, fs_r 226)] [] (fs_st (fs_st M5 226 21 2) 226 22 0) K)))) ∧ (¬ r4 = 0 → fs_A2 g m_Mo_token 6 64 [(0, fs_r 226)] [] M4 K)))) ∧ (r3 = (-1) → K none (fs_st M3 226 21 4))))) ∧ (r2 = 32 → fs_A2 g m_Mo_token 6 18 [(0, fs_r 226)] [] M2 K))))))) :
    fs_C2 g m_Mo_token 6 [fs_r 226] M K := by
  refine b_enter2 (ls := [(0, fs_r 226)]) (plainFor_of_name pn_Mo) (Nat.le_of_ble_eq_true rfl) rfl ?_
  refine a_aload_n (j := 0) d_Mo_token_0 rfl rfl ?_
  refine b_virtual (dc := 1) (ci := 11) (T := fs_T11) (N := 78) [] [] d_Mo_token_1 ml_Mo_172 k_Mo_here v_Mo_here rfl io_226 rfl (Nat.le_of_ble_eq_true rfl) rfl (Nat.le_of_ble_eq_true rfl) ?_
  refine fs_Call.mono (fun v M1 hv => ?_) h
  obtain ⟨r1, rfl, h⟩ := hv
  show fs_A2 g m_Mo_token 6 4 [(0, fs_r 226)] [fs_i r1] M1 K
  refine a_bipush d_Mo_token_4 (by decide) ?_
  refine a_icmp_eq (tgt := 18) d_Mo_token_6 rfl (fun c1 => ?_) (fun c1 => ?_)
  · have h := h.1 c1
    exact h
  · have h := h.2 c1
    refine a_aload_n (j := 0) d_Mo_token_9 rfl rfl ?_
    refine b_virtual (dc := 1) (ci := 11) (T := fs_T11) (N := 78) [] [] d_Mo_token_10 ml_Mo_172 k_Mo_here v_Mo_here rfl io_226 rfl (Nat.le_of_ble_eq_true rfl) rfl (Nat.le_of_ble_eq_true rfl) ?_
    refine fs_Call.mono (fun v M2 hv => ?_) h
    obtain ⟨r2, rfl, h⟩ := hv
    show fs_A2 g m_Mo_token 6 13 [(0, fs_r 226)] [fs_i r2] M2 K
    refine a_bipush d_Mo_token_13 (by decide) ?_
    refine a_icmp_ne (tgt := 31) d_Mo_token_15 rfl (fun c2 => ?_) (fun c2 => ?_)
    · have h := h.1 c2
      refine a_aload_n (j := 0) d_Mo_token_31 rfl rfl ?_
      refine a_aload_n (j := 0) d_Mo_token_32 rfl rfl ?_
      refine b_getfield (v := fs_i (M2 226 19)) d_Mo_token_33 fl_Mo_166 io_226 rfl ?_
      refine b_putfield (x := (M2 226 19)) d_Mo_token_36 fl_Mo_176 io_226 rfl rfl fs_nar_int ?_
      refine a_aload_n (j := 0) d_Mo_token_39 rfl rfl ?_
      refine b_virtual (dc := 1) (ci := 11) (T := fs_T11) (N := 78) [] [] d_Mo_token_40 ml_Mo_172 k_Mo_here v_Mo_here rfl io_226 rfl (Nat.le_of_ble_eq_true rfl) rfl (Nat.le_of_ble_eq_true rfl) ?_
      refine fs_Call.mono (fun v M3 hv => ?_) h
      obtain ⟨r3, rfl, h⟩ := hv
      show fs_A2 g m_Mo_token 6 43 [(0, fs_r 226)] [fs_i r3] M3 K
      refine a_istore_n d_Mo_token_43 rfl (Nat.le_of_ble_eq_true rfl) [1, 0] rfl ?_
      refine a_iload_n (j := 1) d_Mo_token_44 rfl rfl ?_
      refine a_iconst d_Mo_token_45 (by unfold fs_in32; omega) ?_
      refine a_icmp_ne (tgt := 57) d_Mo_token_46 rfl (fun c3 => ?_) (fun c3 => ?_)
      · have h := h.1 c3
        refine a_iload_n (j := 1) d_Mo_token_57 rfl rfl ?_
        refine b_static (dc := 1) [fs_i r3] [] d_Mo_token_58 ml_Mo_182 k_Mo_isSmall s_Mo_isSmall rfl (Nat.le_of_ble_eq_true rfl) rfl (Nat.le_of_ble_eq_true rfl) ?_
        refine fs_Call.mono (fun v M4 hv => ?_) h
        obtain ⟨r4, rfl, h⟩ := hv
        show fs_A2 g m_Mo_token 6 61 [(0, fs_r 226), (1, fs_i r3)] [fs_i r4] M4 K
        refine a_if_eq (tgt := 145) d_Mo_token_61 rfl (fun c4 => ?_) (fun c4 => ?_)
        · have h := h.1 c4
          refine a_iload_n (j := 1) d_Mo_token_145 rfl rfl ?_
          refine b_static (dc := 1) [fs_i r3] [] d_Mo_token_146 ml_Mo_195 k_Mo_isDigit s_Mo_isDigit rfl (Nat.le_of_ble_eq_true rfl) rfl (Nat.le_of_ble_eq_true rfl) ?_
          refine fs_Call.mono (fun v M5 hv => ?_) h
          obtain ⟨r5, rfl, h⟩ := hv
          show fs_A2 g m_Mo_token 6 149 [(0, fs_r 226), (1, fs_i r3)] [fs_i r5] M5 K
          refine a_if_eq (tgt := 220) d_Mo_token_149 rfl (fun c5 => ?_) (fun c5 => ?_)
          · have h := h.1 c5
            refine a_aload_n (j := 0) d_Mo_token_220 rfl rfl ?_
            refine a_iload_n (j := 1) d_Mo_token_221 rfl rfl ?_
            refine b_virtual (dc := 2) (ci := 11) (T := fs_T11) (N := 78) [fs_i r3] [] d_Mo_token_222 ml_Mo_199 k_Mo_sign v_Mo_sign rfl io_226 rfl (Nat.le_of_ble_eq_true rfl) rfl (Nat.le_of_ble_eq_true rfl) ?_
            refine fs_Call.mono (fun v M6 hv => ?_) h
            obtain ⟨rfl, h⟩ := hv
            show fs_A2 g m_Mo_token 6 225 [(0, fs_r 226), (1, fs_i r3)] [] M6 K
            exact b_return d_Mo_token_225 rfl h
          · have h := h.2 c5
            refine a_aload_n (j := 0) d_Mo_token_152 rfl rfl ?_
            refine a_iconst d_Mo_token_153 (by unfold fs_in32; omega) ?_
            refine b_putfield (x := 2) d_Mo_token_154 fl_Mo_179 io_226 rfl rfl fs_nar_int ?_
            refine a_aload_n (j := 0) d_Mo_token_157 rfl rfl ?_
            refine a_iconst d_Mo_token_158 (by unfold fs_in32; omega) ?_
            refine b_putfield (x := 0) d_Mo_token_159 fl_Mo_189 io_226 rfl rfl fs_nar_int ?_
            refine a_sub [0] rfl ?_
            exact h
        · have h := h.2 c4
          refine a_sub [0] rfl ?_
          exact h
      · have h := h.2 c3
        refine a_aload_n (j := 0) d_Mo_token_49 rfl rfl ?_
        refine a_iconst d_Mo_token_50 (by unfold fs_in32; omega) ?_
        refine b_putfield (x := 4) d_Mo_token_51 fl_Mo_179 io_226 rfl rfl fs_nar_int ?_
        refine a_goto (tgt := 225) d_Mo_token_54 rfl ?_
        exact b_return d_Mo_token_225 rfl h
    · have h := h.2 c2
      exact h
set_option maxRecDepth 8000 in
set_option maxHeartbeats 4000000 in
theorem L_Mo_token_64 {M : fs_M} {K : fs_K} 
    (h : fs_C2 g m_Mo_here 1 [fs_r 226] M (fun v M7 => ∃ r7, v = some (fs_i r7) ∧ fs_C2 g m_Mo_isSmall 1 [fs_i r7] M7 (fun v M8 => ∃ r8, v = some (fs_i r8) ∧ ((r8 = 0 → fs_C2 g m_Mo_word 5 [fs_r 226] M8 (fun v M9 => ∃ r9, v = some (fs_i r9) ∧ ((r9 = (-1) → ((fs_w32 ((M9 226 19) - (M9 226 20)) ≤ 6 → fs_A2 g m_Mo_token 6 127 [(0, fs_r 226)] [fs_i 1, fs_r 226] (fs_st M9 226 22 r9) K) ∧ (¬ fs_w32 ((M9 226 19) - (M9 226 20)) ≤ 6 → fs_A2 g m_Mo_token 6 127 [(0, fs_r 226)] [fs_i 5, fs_r 226] (fs_st M9 226 22 r9) K))) ∧ (¬ r9 = (-1) → fs_A2 g m_Mo_token 6 127 [(0, fs_r 226)] [fs_i 0, fs_r 226] (fs_st M9 226 22 r9) K)))) ∧ (¬ r8 = 0 → fs_A2 g m_Mo_token 6 64 [(0, fs_r 226)] [] (fs_st M8 226 19 (fs_w32 ((M8 226 19) + 1))) K))))) :
    fs_A2 g m_Mo_token 6 64 [(0, fs_r 226)] [] M K := by
  refine a_aload_n (j := 0) d_Mo_token_64 rfl rfl ?_
  refine b_virtual (dc := 1) (ci := 11) (T := fs_T11) (N := 78) [] [] d_Mo_token_65 ml_Mo_172 k_Mo_here v_Mo_here rfl io_226 rfl (Nat.le_of_ble_eq_true rfl) rfl (Nat.le_of_ble_eq_true rfl) ?_
  refine fs_Call.mono (fun v M7 hv => ?_) h
  obtain ⟨r7, rfl, h⟩ := hv
  show fs_A2 g m_Mo_token 6 68 [(0, fs_r 226)] [fs_i r7] M7 K
  refine b_static (dc := 1) [fs_i r7] [] d_Mo_token_68 ml_Mo_182 k_Mo_isSmall s_Mo_isSmall rfl (Nat.le_of_ble_eq_true rfl) rfl (Nat.le_of_ble_eq_true rfl) ?_
  refine fs_Call.mono (fun v M8 hv => ?_) h
  obtain ⟨r8, rfl, h⟩ := hv
  show fs_A2 g m_Mo_token 6 71 [(0, fs_r 226)] [fs_i r8] M8 K
  refine a_if_eq (tgt := 87) d_Mo_token_71 rfl (fun c6 => ?_) (fun c6 => ?_)
  · have h := h.1 c6
    refine a_aload_n (j := 0) d_Mo_token_87 rfl rfl ?_
    refine a_aload_n (j := 0) d_Mo_token_88 rfl rfl ?_
    refine b_virtual (dc := 5) (ci := 11) (T := fs_T11) (N := 78) [] [fs_r 226] d_Mo_token_89 ml_Mo_186 k_Mo_word v_Mo_word rfl io_226 rfl (Nat.le_of_ble_eq_true rfl) rfl (Nat.le_of_ble_eq_true rfl) ?_
    refine fs_Call.mono (fun v M9 hv => ?_) h
    obtain ⟨r9, rfl, h⟩ := hv
    show fs_A2 g m_Mo_token 6 92 [(0, fs_r 226)] [fs_i r9, fs_r 226] M9 K
    refine b_putfield (x := r9) d_Mo_token_92 fl_Mo_189 io_226 rfl rfl fs_nar_int ?_
    refine a_aload_n (j := 0) d_Mo_token_95 rfl rfl ?_
    refine a_aload_n (j := 0) d_Mo_token_96 rfl rfl ?_
    refine b_getfield (v := fs_i r9) d_Mo_token_97 fl_Mo_189 io_226 rfl ?_
    refine a_iconst d_Mo_token_100 (by unfold fs_in32; omega) ?_
    refine a_icmp_eq (tgt := 108) d_Mo_token_101 rfl (fun c7 => ?_) (fun c7 => ?_)
    · have h := h.1 c7
      refine a_aload_n (j := 0) d_Mo_token_108 rfl rfl ?_
      refine b_getfield (v := fs_i (M9 226 19)) d_Mo_token_109 fl_Mo_166 io_226 rfl ?_
      refine a_aload_n (j := 0) d_Mo_token_112 rfl rfl ?_
      refine b_getfield (v := fs_i (M9 226 20)) d_Mo_token_113 fl_Mo_176 io_226 rfl ?_
      refine a_isub d_Mo_token_116 ?_
      refine a_bipush d_Mo_token_117 (by decide) ?_
      refine a_icmp_le (tgt := 126) d_Mo_token_119 rfl (fun c8 => ?_) (fun c8 => ?_)
      · have h := h.1 c8
        refine a_iconst d_Mo_token_126 (by unfold fs_in32; omega) ?_
        exact h
      · have h := h.2 c8
        refine a_iconst d_Mo_token_122 (by unfold fs_in32; omega) ?_
        refine a_goto (tgt := 127) d_Mo_token_123 rfl ?_
        exact h
    · have h := h.2 c7
      refine a_iconst d_Mo_token_104 (by unfold fs_in32; omega) ?_
      refine a_goto (tgt := 127) d_Mo_token_105 rfl ?_
      exact h
  · have h := h.2 c6
    refine a_aload_n (j := 0) d_Mo_token_74 rfl rfl ?_
    refine a_dup d_Mo_token_75 rfl ?_
    refine b_getfield (v := fs_i (M8 226 19)) d_Mo_token_76 fl_Mo_166 io_226 rfl ?_
    refine a_iconst d_Mo_token_79 (by unfold fs_in32; omega) ?_
    refine a_iadd d_Mo_token_80 ?_
    refine b_putfield (x := (fs_w32 ((M8 226 19) + 1))) d_Mo_token_81 fl_Mo_166 io_226 rfl rfl fs_nar_int ?_
    refine a_goto (tgt := 64) d_Mo_token_84 rfl ?_
    exact h
set_option maxRecDepth 8000 in
set_option maxHeartbeats 4000000 in
theorem L_Mo_token_127 {M : fs_M} {K : fs_K} {x101 : Int} 
    (h : ((¬ x101 = 1 → K none (fs_st M 226 21 x101)) ∧ (x101 = 1 → fs_C2 g m_Mo_name 1 [fs_r 226] (fs_st M 226 21 x101) (fun v M10 => v = none ∧ K none M10)))) :
    fs_A2 g m_Mo_token 6 127 [(0, fs_r 226)] [fs_i x101, fs_r 226] M K := by
  refine b_putfield (x := x101) d_Mo_token_127 fl_Mo_179 io_226 rfl rfl fs_nar_int ?_
  refine a_aload_n (j := 0) d_Mo_token_130 rfl rfl ?_
  refine b_getfield (v := fs_i x101) d_Mo_token_131 fl_Mo_179 io_226 rfl ?_
  refine a_iconst d_Mo_token_134 (by unfold fs_in32; omega) ?_
  refine a_icmp_ne (tgt := 225) d_Mo_token_135 rfl (fun c9 => ?_) (fun c9 => ?_)
  · have h := h.1 c9
    exact b_return d_Mo_token_225 rfl h
  · have h := h.2 c9
    refine a_aload_n (j := 0) d_Mo_token_138 rfl rfl ?_
    refine b_virtual (dc := 1) (ci := 11) (T := fs_T11) (N := 78) [] [] d_Mo_token_139 ml_Mo_192 k_Mo_name v_Mo_name rfl io_226 rfl (Nat.le_of_ble_eq_true rfl) rfl (Nat.le_of_ble_eq_true rfl) ?_
    refine fs_Call.mono (fun v M10 hv => ?_) h
    obtain ⟨rfl, h⟩ := hv
    show fs_A2 g m_Mo_token 6 142 [(0, fs_r 226)] [] M10 K
    refine a_goto (tgt := 225) d_Mo_token_142 rfl ?_
    exact b_return d_Mo_token_225 rfl h
set_option maxRecDepth 8000 in
set_option maxHeartbeats 4000000 in
theorem L_Mo_token_162 {M : fs_M} {K : fs_K} 
    (h : fs_C2 g m_Mo_here 1 [fs_r 226] M (fun v M11 => ∃ r11, v = some (fs_i r11) ∧ fs_C2 g m_Mo_isDigit 1 [fs_i r11] M11 (fun v M12 => ∃ r12, v = some (fs_i r12) ∧ ((r12 = 0 → K none M12) ∧ (¬ r12 = 0 → ((M12 226 22 ≤ 99999 → fs_C2 g m_Mo_here 1 [fs_r 226] M12 (fun v M13 => ∃ r13, v = some (fs_i r13) ∧ fs_A2 g m_Mo_token 6 204 [(0, fs_r 226)] [fs_i (fs_w32 ((fs_w32 ((fs_w32 (10 * (M12 226 22))) + r13)) - 48)), fs_r 226] M13 K)) ∧ (¬ M12 226 22 ≤ 99999 → fs_A2 g m_Mo_token 6 204 [(0, fs_r 226)] [fs_i (M12 226 22), fs_r 226] M12 K))))))) :
    fs_A2 g m_Mo_token 6 162 [(0, fs_r 226)] [] M K := by
  refine a_aload_n (j := 0) d_Mo_token_162 rfl rfl ?_
  refine b_virtual (dc := 1) (ci := 11) (T := fs_T11) (N := 78) [] [] d_Mo_token_163 ml_Mo_172 k_Mo_here v_Mo_here rfl io_226 rfl (Nat.le_of_ble_eq_true rfl) rfl (Nat.le_of_ble_eq_true rfl) ?_
  refine fs_Call.mono (fun v M11 hv => ?_) h
  obtain ⟨r11, rfl, h⟩ := hv
  show fs_A2 g m_Mo_token 6 166 [(0, fs_r 226)] [fs_i r11] M11 K
  refine b_static (dc := 1) [fs_i r11] [] d_Mo_token_166 ml_Mo_195 k_Mo_isDigit s_Mo_isDigit rfl (Nat.le_of_ble_eq_true rfl) rfl (Nat.le_of_ble_eq_true rfl) ?_
  refine fs_Call.mono (fun v M12 hv => ?_) h
  obtain ⟨r12, rfl, h⟩ := hv
  show fs_A2 g m_Mo_token 6 169 [(0, fs_r 226)] [fs_i r12] M12 K
  refine a_if_eq (tgt := 225) d_Mo_token_169 rfl (fun c10 => ?_) (fun c10 => ?_)
  · have h := h.1 c10
    exact b_return d_Mo_token_225 rfl h
  · have h := h.2 c10
    refine a_aload_n (j := 0) d_Mo_token_172 rfl rfl ?_
    refine a_aload_n (j := 0) d_Mo_token_173 rfl rfl ?_
    refine b_getfield (v := fs_i (M12 226 22)) d_Mo_token_174 fl_Mo_189 io_226 rfl ?_
    refine a_ldc d_Mo_token_177 cn_Mo_198 (by unfold fs_in32; omega) ?_
    refine a_icmp_le (tgt := 189) d_Mo_token_179 rfl (fun c11 => ?_) (fun c11 => ?_)
    · have h := h.1 c11
      refine a_bipush d_Mo_token_189 (by decide) ?_
      refine a_aload_n (j := 0) d_Mo_token_191 rfl rfl ?_
      refine b_getfield (v := fs_i (M12 226 22)) d_Mo_token_192 fl_Mo_189 io_226 rfl ?_
      refine a_imul d_Mo_token_195 ?_
      refine a_aload_n (j := 0) d_Mo_token_196 rfl rfl ?_
      refine b_virtual (dc := 1) (ci := 11) (T := fs_T11) (N := 78) [] [fs_i (fs_w32 (10 * (M12 226 22))), fs_r 226] d_Mo_token_197 ml_Mo_172 k_Mo_here v_Mo_here rfl io_226 rfl (Nat.le_of_ble_eq_true rfl) rfl (Nat.le_of_ble_eq_true rfl) ?_
      refine fs_Call.mono (fun v M13 hv => ?_) h
      obtain ⟨r13, rfl, h⟩ := hv
      show fs_A2 g m_Mo_token 6 200 [(0, fs_r 226)] [fs_i r13, fs_i (fs_w32 (10 * (M12 226 22))), fs_r 226] M13 K
      refine a_iadd d_Mo_token_200 ?_
      refine a_bipush d_Mo_token_201 (by decide) ?_
      refine a_isub d_Mo_token_203 ?_
      exact h
    · have h := h.2 c11
      refine a_aload_n (j := 0) d_Mo_token_182 rfl rfl ?_
      refine b_getfield (v := fs_i (M12 226 22)) d_Mo_token_183 fl_Mo_189 io_226 rfl ?_
      refine a_goto (tgt := 204) d_Mo_token_186 rfl ?_
      exact h
set_option maxRecDepth 8000 in
set_option maxHeartbeats 4000000 in
theorem L_Mo_token_204 {M : fs_M} {K : fs_K} {x101 : Int} 
    (h : fs_A2 g m_Mo_token 6 162 [(0, fs_r 226)] [] (fs_st (fs_st M 226 22 x101) 226 19 (fs_w32 ((M 226 19) + 1))) K) :
    fs_A2 g m_Mo_token 6 204 [(0, fs_r 226)] [fs_i x101, fs_r 226] M K := by
  refine b_putfield (x := x101) d_Mo_token_204 fl_Mo_189 io_226 rfl rfl fs_nar_int ?_
  refine a_aload_n (j := 0) d_Mo_token_207 rfl rfl ?_
  refine a_dup d_Mo_token_208 rfl ?_
  refine b_getfield (v := fs_i (M 226 19)) d_Mo_token_209 fl_Mo_166 io_226 rfl ?_
  refine a_iconst d_Mo_token_212 (by unfold fs_in32; omega) ?_
  refine a_iadd d_Mo_token_213 ?_
  refine b_putfield (x := (fs_w32 ((M 226 19) + 1))) d_Mo_token_214 fl_Mo_166 io_226 rfl rfl fs_nar_int ?_
  refine a_goto (tgt := 162) d_Mo_token_217 rfl ?_
  exact h
set_option maxRecDepth 8000 in
set_option maxHeartbeats 4000000 in
theorem L_Mo_token_18 {M : fs_M} {K : fs_K} 
    (h : fs_A2 g m_Mo_token 6 0 [(0, fs_r 226)] [] (fs_st M 226 19 (fs_w32 ((M 226 19) + 1))) K) :
    fs_A2 g m_Mo_token 6 18 [(0, fs_r 226)] [] M K := by
  refine a_aload_n (j := 0) d_Mo_token_18 rfl rfl ?_
  refine a_dup d_Mo_token_19 rfl ?_
  refine b_getfield (v := fs_i (M 226 19)) d_Mo_token_20 fl_Mo_166 io_226 rfl ?_
  refine a_iconst d_Mo_token_23 (by unfold fs_in32; omega) ?_
  refine a_iadd d_Mo_token_24 ?_
  refine b_putfield (x := (fs_w32 ((M 226 19) + 1))) d_Mo_token_25 fl_Mo_166 io_226 rfl rfl fs_nar_int ?_
  refine a_goto (tgt := 0) d_Mo_token_28 rfl ?_
  exact h
set_option maxRecDepth 8000 in
set_option maxHeartbeats 4000000 in
theorem L_Mo_token_0 {M : fs_M} {K : fs_K} 
    (h : fs_C2 g m_Mo_here 1 [fs_r 226] M (fun v M14 => ∃ r14, v = some (fs_i r14) ∧ ((r14 = 10 → fs_A2 g m_Mo_token 6 18 [(0, fs_r 226)] [] M14 K) ∧ (¬ r14 = 10 → fs_C2 g m_Mo_here 1 [fs_r 226] M14 (fun v M15 => ∃ r15, v = some (fs_i r15) ∧ ((¬ r15 = 32 → fs_C2 g m_Mo_here 1 [fs_r 226] (fs_st M15 226 20 (M15 226 19)) (fun v M16 => ∃ r16, v = some (fs_i r16) ∧ ((¬ r16 = (-1) → fs_C2 g m_Mo_isSmall 1 [fs_i r16] M16 (fun v M17 => ∃ r17, v = some (fs_i r17) ∧ ((r17 = 0 → fs_C2 g m_Mo_isDigit 1 [fs_i r16] M17 (fun v M18 => ∃ r18, v = some (fs_i r18) ∧ ((r18 = 0 → fs_C2 g m_Mo_sign 2 [fs_r 226, fs_i r16] M18 (fun v M19 => v = none ∧ K none M19)) ∧ (¬ r18 = 0 → fs_A2 g m_Mo_token 6 162 [(0, fs_r 226)] [] (fs_st (fs_st M18 226 21 2) 226 22 0) K)))) ∧ (¬ r17 = 0 → fs_A2 g m_Mo_token 6 64 [(0, fs_r 226)] [] M17 K)))) ∧ (r16 = (-1) → K none (fs_st M16 226 21 4))))) ∧ (r15 = 32 → fs_A2 g m_Mo_token 6 18 [(0, fs_r 226)] [] M15 K))))))) :
    fs_A2 g m_Mo_token 6 0 [(0, fs_r 226)] [] M K := by
  refine a_aload_n (j := 0) d_Mo_token_0 rfl rfl ?_
  refine b_virtual (dc := 1) (ci := 11) (T := fs_T11) (N := 78) [] [] d_Mo_token_1 ml_Mo_172 k_Mo_here v_Mo_here rfl io_226 rfl (Nat.le_of_ble_eq_true rfl) rfl (Nat.le_of_ble_eq_true rfl) ?_
  refine fs_Call.mono (fun v M14 hv => ?_) h
  obtain ⟨r14, rfl, h⟩ := hv
  show fs_A2 g m_Mo_token 6 4 [(0, fs_r 226)] [fs_i r14] M14 K
  refine a_bipush d_Mo_token_4 (by decide) ?_
  refine a_icmp_eq (tgt := 18) d_Mo_token_6 rfl (fun c12 => ?_) (fun c12 => ?_)
  · have h := h.1 c12
    exact h
  · have h := h.2 c12
    refine a_aload_n (j := 0) d_Mo_token_9 rfl rfl ?_
    refine b_virtual (dc := 1) (ci := 11) (T := fs_T11) (N := 78) [] [] d_Mo_token_10 ml_Mo_172 k_Mo_here v_Mo_here rfl io_226 rfl (Nat.le_of_ble_eq_true rfl) rfl (Nat.le_of_ble_eq_true rfl) ?_
    refine fs_Call.mono (fun v M15 hv => ?_) h
    obtain ⟨r15, rfl, h⟩ := hv
    show fs_A2 g m_Mo_token 6 13 [(0, fs_r 226)] [fs_i r15] M15 K
    refine a_bipush d_Mo_token_13 (by decide) ?_
    refine a_icmp_ne (tgt := 31) d_Mo_token_15 rfl (fun c13 => ?_) (fun c13 => ?_)
    · have h := h.1 c13
      refine a_aload_n (j := 0) d_Mo_token_31 rfl rfl ?_
      refine a_aload_n (j := 0) d_Mo_token_32 rfl rfl ?_
      refine b_getfield (v := fs_i (M15 226 19)) d_Mo_token_33 fl_Mo_166 io_226 rfl ?_
      refine b_putfield (x := (M15 226 19)) d_Mo_token_36 fl_Mo_176 io_226 rfl rfl fs_nar_int ?_
      refine a_aload_n (j := 0) d_Mo_token_39 rfl rfl ?_
      refine b_virtual (dc := 1) (ci := 11) (T := fs_T11) (N := 78) [] [] d_Mo_token_40 ml_Mo_172 k_Mo_here v_Mo_here rfl io_226 rfl (Nat.le_of_ble_eq_true rfl) rfl (Nat.le_of_ble_eq_true rfl) ?_
      refine fs_Call.mono (fun v M16 hv => ?_) h
      obtain ⟨r16, rfl, h⟩ := hv
      show fs_A2 g m_Mo_token 6 43 [(0, fs_r 226)] [fs_i r16] M16 K
      refine a_istore_n d_Mo_token_43 rfl (Nat.le_of_ble_eq_true rfl) [1, 0] rfl ?_
      refine a_iload_n (j := 1) d_Mo_token_44 rfl rfl ?_
      refine a_iconst d_Mo_token_45 (by unfold fs_in32; omega) ?_
      refine a_icmp_ne (tgt := 57) d_Mo_token_46 rfl (fun c14 => ?_) (fun c14 => ?_)
      · have h := h.1 c14
        refine a_iload_n (j := 1) d_Mo_token_57 rfl rfl ?_
        refine b_static (dc := 1) [fs_i r16] [] d_Mo_token_58 ml_Mo_182 k_Mo_isSmall s_Mo_isSmall rfl (Nat.le_of_ble_eq_true rfl) rfl (Nat.le_of_ble_eq_true rfl) ?_
        refine fs_Call.mono (fun v M17 hv => ?_) h
        obtain ⟨r17, rfl, h⟩ := hv
        show fs_A2 g m_Mo_token 6 61 [(0, fs_r 226), (1, fs_i r16)] [fs_i r17] M17 K
        refine a_if_eq (tgt := 145) d_Mo_token_61 rfl (fun c15 => ?_) (fun c15 => ?_)
        · have h := h.1 c15
          refine a_iload_n (j := 1) d_Mo_token_145 rfl rfl ?_
          refine b_static (dc := 1) [fs_i r16] [] d_Mo_token_146 ml_Mo_195 k_Mo_isDigit s_Mo_isDigit rfl (Nat.le_of_ble_eq_true rfl) rfl (Nat.le_of_ble_eq_true rfl) ?_
          refine fs_Call.mono (fun v M18 hv => ?_) h
          obtain ⟨r18, rfl, h⟩ := hv
          show fs_A2 g m_Mo_token 6 149 [(0, fs_r 226), (1, fs_i r16)] [fs_i r18] M18 K
          refine a_if_eq (tgt := 220) d_Mo_token_149 rfl (fun c16 => ?_) (fun c16 => ?_)
          · have h := h.1 c16
            refine a_aload_n (j := 0) d_Mo_token_220 rfl rfl ?_
            refine a_iload_n (j := 1) d_Mo_token_221 rfl rfl ?_
            refine b_virtual (dc := 2) (ci := 11) (T := fs_T11) (N := 78) [fs_i r16] [] d_Mo_token_222 ml_Mo_199 k_Mo_sign v_Mo_sign rfl io_226 rfl (Nat.le_of_ble_eq_true rfl) rfl (Nat.le_of_ble_eq_true rfl) ?_
            refine fs_Call.mono (fun v M19 hv => ?_) h
            obtain ⟨rfl, h⟩ := hv
            show fs_A2 g m_Mo_token 6 225 [(0, fs_r 226), (1, fs_i r16)] [] M19 K
            exact b_return d_Mo_token_225 rfl h
          · have h := h.2 c16
            refine a_aload_n (j := 0) d_Mo_token_152 rfl rfl ?_
            refine a_iconst d_Mo_token_153 (by unfold fs_in32; omega) ?_
            refine b_putfield (x := 2) d_Mo_token_154 fl_Mo_179 io_226 rfl rfl fs_nar_int ?_
            refine a_aload_n (j := 0) d_Mo_token_157 rfl rfl ?_
            refine a_iconst d_Mo_token_158 (by unfold fs_in32; omega) ?_
            refine b_putfield (x := 0) d_Mo_token_159 fl_Mo_189 io_226 rfl rfl fs_nar_int ?_
            refine a_sub [0] rfl ?_
            exact h
        · have h := h.2 c15
          refine a_sub [0] rfl ?_
          exact h
      · have h := h.2 c14
        refine a_aload_n (j := 0) d_Mo_token_49 rfl rfl ?_
        refine a_iconst d_Mo_token_50 (by unfold fs_in32; omega) ?_
        refine b_putfield (x := 4) d_Mo_token_51 fl_Mo_179 io_226 rfl rfl fs_nar_int ?_
        refine a_goto (tgt := 225) d_Mo_token_54 rfl ?_
        exact b_return d_Mo_token_225 rfl h
    · have h := h.2 c13
      exact h
set_option maxRecDepth 8000 in
set_option maxHeartbeats 4000000 in
theorem E_Mo_here {M : fs_M} {K : fs_K} 
    (h : ((M 226 18 ≤ M 226 19 → K (some (fs_i (-1))) M) ∧ (¬ M 226 18 ≤ M 226 19 → (0 ≤ M 226 19 ∧ M 226 19 < 600 ∧ K (some (fs_i (M 227 (M 226 19)))) M)))) :
    fs_C2 g m_Mo_here 1 [fs_r 226] M K := by
  refine b_enter2 (ls := [(0, fs_r 226)]) (plainFor_of_name pn_Mo) (Nat.le_of_ble_eq_true rfl) rfl ?_
  refine a_aload_n (j := 0) d_Mo_here_0 rfl rfl ?_
  refine b_getfield (v := fs_i (M 226 19)) d_Mo_here_1 fl_Mo_166 io_226 rfl ?_
  refine a_aload_n (j := 0) d_Mo_here_4 rfl rfl ?_
  refine b_getfield (v := fs_i (M 226 18)) d_Mo_here_5 fl_Mo_169 io_226 rfl ?_
  refine a_icmp_ge (tgt := 23) d_Mo_here_8 rfl (fun c1 => ?_) (fun c1 => ?_)
  · have h := h.1 c1
    refine a_iconst d_Mo_here_23 (by unfold fs_in32; omega) ?_
    exact b_ireturn d_Mo_here_24 rfl rfl h
  · have h := h.2 c1
    refine a_aload_n (j := 0) d_Mo_here_11 rfl rfl ?_
    refine b_getptr (q := 227) d_Mo_here_12 fl_Mo_7 io_226 rfl rfl rfl ?_
    refine a_aload_n (j := 0) d_Mo_here_15 rfl rfl ?_
    refine b_getfield (v := fs_i (M 226 19)) d_Mo_here_16 fl_Mo_166 io_226 rfl ?_
    obtain ⟨o2, o3, h⟩ := h
    refine b_iaload (v := M 227 (M 226 19)) d_Mo_here_19 ia_227 o2 o3 rfl ?_
    refine a_goto (tgt := 24) d_Mo_here_20 rfl ?_
    exact b_ireturn d_Mo_here_24 rfl rfl h
set_option maxRecDepth 8000 in
set_option maxHeartbeats 4000000 in
theorem E_Mo_isSmall {M : fs_M} {K : fs_K} {x0 : Int} 
    (h : ((x0 < 97 → K (some (fs_i 0)) M) ∧ (¬ x0 < 97 → ((122 < x0 → K (some (fs_i 0)) M) ∧ (¬ 122 < x0 → K (some (fs_i 1)) M))))) :
    fs_C2 g m_Mo_isSmall 1 [fs_i x0] M K := by
  refine b_enter2 (ls := [(0, fs_i x0)]) (plainFor_of_name pn_Mo) (Nat.le_of_ble_eq_true rfl) rfl ?_
  refine a_iload_n (j := 0) d_Mo_isSmall_0 rfl rfl ?_
  refine a_bipush d_Mo_isSmall_1 (by decide) ?_
  refine a_icmp_lt (tgt := 16) d_Mo_isSmall_3 rfl (fun c1 => ?_) (fun c1 => ?_)
  · have h := h.1 c1
    refine a_iconst d_Mo_isSmall_16 (by unfold fs_in32; omega) ?_
    exact b_ireturn d_Mo_isSmall_17 rfl (fs_nar01 (Or.inl rfl)) h
  · have h := h.2 c1
    refine a_iload_n (j := 0) d_Mo_isSmall_6 rfl rfl ?_
    refine a_bipush d_Mo_isSmall_7 (by decide) ?_
    refine a_icmp_gt (tgt := 16) d_Mo_isSmall_9 rfl (fun c2 => ?_) (fun c2 => ?_)
    · have h := h.1 c2
      refine a_iconst d_Mo_isSmall_16 (by unfold fs_in32; omega) ?_
      exact b_ireturn d_Mo_isSmall_17 rfl (fs_nar01 (Or.inl rfl)) h
    · have h := h.2 c2
      refine a_iconst d_Mo_isSmall_12 (by unfold fs_in32; omega) ?_
      refine a_goto (tgt := 17) d_Mo_isSmall_13 rfl ?_
      exact b_ireturn d_Mo_isSmall_17 rfl (fs_nar01 (Or.inr rfl)) h
set_option maxRecDepth 8000 in
set_option maxHeartbeats 4000000 in
theorem E_Mo_word {M : fs_M} {K : fs_K} 
    (h : fs_A2 g m_Mo_word 5 4 [(0, fs_r 226), (1, fs_i 0), (2, fs_i 0)] [] M K) :
    fs_C2 g m_Mo_word 5 [fs_r 226] M K := by
  refine b_enter2 (ls := [(0, fs_r 226)]) (plainFor_of_name pn_Mo) (Nat.le_of_ble_eq_true rfl) rfl ?_
  refine a_iconst d_Mo_word_0 (by unfold fs_in32; omega) ?_
  refine a_istore_n d_Mo_word_1 rfl (Nat.le_of_ble_eq_true rfl) [1, 0] rfl ?_
  refine a_iconst d_Mo_word_2 (by unfold fs_in32; omega) ?_
  refine a_istore_n d_Mo_word_3 rfl (Nat.le_of_ble_eq_true rfl) [1, 2, 0] rfl ?_
  exact h
set_option maxRecDepth 8000 in
set_option maxHeartbeats 4000000 in
theorem L_Mo_word_4 {M : fs_M} {K : fs_K} {x1 x2 : Int} 
    (h : ((92 ≤ x2 → K (some (fs_i (-1))) M) ∧ (¬ 92 ≤ x2 → fs_A2 g m_Mo_word 5 15 [(0, fs_r 226), (1, fs_i x1), (2, fs_i x2), (3, fs_i 0)] [] M K))) :
    fs_A2 g m_Mo_word 5 4 [(0, fs_r 226), (1, fs_i x1), (2, fs_i x2)] [] M K := by
  refine a_iload_n (j := 2) d_Mo_word_4 rfl rfl ?_
  refine a_ldcS (q := 3001) d_Mo_word_5 (by decide) (by decide) (fun s H q => q.2.2.2.2.2.2.1) ?_
  refine b_str (dc := 2) [] [fs_i x2] d_Mo_word_7 ml_Mo_205 k_Str_length v_Str_length rfl (Nat.le_of_ble_eq_true rfl) rfl (Nat.le_of_ble_eq_true rfl) rfl ?_
  refine sp_strlen ?_
  refine a_icmp_ge (tgt := 123) d_Mo_word_10 rfl (fun c1 => ?_) (fun c1 => ?_)
  · have h := h.1 c1
    refine a_iconst d_Mo_word_123 (by unfold fs_in32; omega) ?_
    exact b_ireturn d_Mo_word_124 rfl rfl h
  · have h := h.2 c1
    refine a_iconst d_Mo_word_13 (by unfold fs_in32; omega) ?_
    refine a_istore_n d_Mo_word_14 rfl (Nat.le_of_ble_eq_true rfl) [1, 2, 3, 0] rfl ?_
    exact h
set_option maxRecDepth 8000 in
set_option maxHeartbeats 4000000 in
theorem L_Mo_word_15 {M : fs_M} {K : fs_K} {x1 x2 x3 : Int} 
    (h : (0 ≤ fs_w32 (x2 + x3) ∧ fs_w32 (x2 + x3) < 92 ∧ ((fs_wch (fs_w32 (x2 + x3)) = 32 → fs_A2 g m_Mo_word 5 69 [(0, fs_r 226), (1, fs_i x1), (2, fs_i x2), (3, fs_i x3)] [] M K) ∧ (¬ fs_wch (fs_w32 (x2 + x3)) = 32 → ((M 226 19 ≤ fs_w32 ((M 226 20) + x3) → fs_A2 g m_Mo_word 5 69 [(0, fs_r 226), (1, fs_i x1), (2, fs_i x2), (3, fs_i x3)] [] M K) ∧ (¬ M 226 19 ≤ fs_w32 ((M 226 20) + x3) → (0 ≤ fs_w32 ((M 226 20) + x3) ∧ fs_w32 ((M 226 20) + x3) < 600 ∧ ((¬ M 227 (fs_w32 ((M 226 20) + x3)) = fs_wch (fs_w32 (x2 + x3)) → fs_A2 g m_Mo_word 5 69 [(0, fs_r 226), (1, fs_i x1), (2, fs_i x2), (3, fs_i x3)] [] M K) ∧ (M 227 (fs_w32 ((M 226 20) + x3)) = fs_wch (fs_w32 (x2 + x3)) → fs_A2 g m_Mo_word 5 15 [(0, fs_r 226), (1, fs_i x1), (2, fs_i x2), (3, fs_i (fs_w32 (x3 + 1)))] [] M K))))))))) :
    fs_A2 g m_Mo_word 5 15 [(0, fs_r 226), (1, fs_i x1), (2, fs_i x2), (3, fs_i x3)] [] M K := by
  refine a_ldcS (q := 3001) d_Mo_word_15 (by decide) (by decide) (fun s H q => q.2.2.2.2.2.2.1) ?_
  refine a_iload_n (j := 2) d_Mo_word_17 rfl rfl ?_
  refine a_iload_n (j := 3) d_Mo_word_18 rfl rfl ?_
  refine a_iadd d_Mo_word_19 ?_
  obtain ⟨o2, o3, h⟩ := h
  refine b_str (dc := 4) [fs_i (fs_w32 (x2 + x3))] [] d_Mo_word_20 ml_Mo_210 k_Str_charAt v_Str_charAt rfl (Nat.le_of_ble_eq_true rfl) rfl (Nat.le_of_ble_eq_true rfl) rfl ?_
  refine sp_charAt o2 o3 ?_
  refine a_bipush d_Mo_word_23 (by decide) ?_
  refine a_icmp_eq (tgt := 69) d_Mo_word_25 rfl (fun c4 => ?_) (fun c4 => ?_)
  · have h := h.1 c4
    exact h
  · have h := h.2 c4
    refine a_aload_n (j := 0) d_Mo_word_28 rfl rfl ?_
    refine b_getfield (v := fs_i (M 226 20)) d_Mo_word_29 fl_Mo_176 io_226 rfl ?_
    refine a_iload_n (j := 3) d_Mo_word_32 rfl rfl ?_
    refine a_iadd d_Mo_word_33 ?_
    refine a_aload_n (j := 0) d_Mo_word_34 rfl rfl ?_
    refine b_getfield (v := fs_i (M 226 19)) d_Mo_word_35 fl_Mo_166 io_226 rfl ?_
    refine a_icmp_ge (tgt := 69) d_Mo_word_38 rfl (fun c5 => ?_) (fun c5 => ?_)
    · have h := h.1 c5
      exact h
    · have h := h.2 c5
      refine a_aload_n (j := 0) d_Mo_word_41 rfl rfl ?_
      refine b_getptr (q := 227) d_Mo_word_42 fl_Mo_7 io_226 rfl rfl rfl ?_
      refine a_aload_n (j := 0) d_Mo_word_45 rfl rfl ?_
      refine b_getfield (v := fs_i (M 226 20)) d_Mo_word_46 fl_Mo_176 io_226 rfl ?_
      refine a_iload_n (j := 3) d_Mo_word_49 rfl rfl ?_
      refine a_iadd d_Mo_word_50 ?_
      obtain ⟨o6, o7, h⟩ := h
      refine b_iaload (v := M 227 (fs_w32 ((M 226 20) + x3))) d_Mo_word_51 ia_227 o6 o7 rfl ?_
      refine a_ldcS (q := 3001) d_Mo_word_52 (by decide) (by decide) (fun s H q => q.2.2.2.2.2.2.1) ?_
      refine a_iload_n (j := 2) d_Mo_word_54 rfl rfl ?_
      refine a_iload_n (j := 3) d_Mo_word_55 rfl rfl ?_
      refine a_iadd d_Mo_word_56 ?_
      refine b_str (dc := 4) [fs_i (fs_w32 (x2 + x3))] [fs_i (M 227 (fs_w32 ((M 226 20) + x3)))] d_Mo_word_57 ml_Mo_210 k_Str_charAt v_Str_charAt rfl (Nat.le_of_ble_eq_true rfl) rfl (Nat.le_of_ble_eq_true rfl) rfl ?_
      refine sp_charAt o2 o3 ?_
      refine a_icmp_ne (tgt := 69) d_Mo_word_60 rfl (fun c8 => ?_) (fun c8 => ?_)
      · have h := h.1 c8
        exact h
      · have h := h.2 c8
        refine a_iinc (j := 3) d_Mo_word_63 rfl (Nat.le_of_ble_eq_true rfl) [1, 2, 3, 0] rfl ?_
        refine a_goto (tgt := 15) d_Mo_word_66 rfl ?_
        exact h
set_option maxRecDepth 8000 in
set_option maxHeartbeats 4000000 in
theorem L_Mo_word_69 {M : fs_M} {K : fs_K} {x1 x2 x3 : Int} 
    (h : (0 ≤ fs_w32 (x2 + x3) ∧ fs_w32 (x2 + x3) < 92 ∧ ((¬ fs_wch (fs_w32 (x2 + x3)) = 32 → fs_A2 g m_Mo_word 5 97 [(0, fs_r 226), (1, fs_i x1), (2, fs_i x2)] [] M K) ∧ (fs_wch (fs_w32 (x2 + x3)) = 32 → ((¬ fs_w32 ((M 226 20) + x3) = M 226 19 → fs_A2 g m_Mo_word 5 97 [(0, fs_r 226), (1, fs_i x1), (2, fs_i x2)] [] M K) ∧ (fs_w32 ((M 226 20) + x3) = M 226 19 → K (some (fs_i x1)) M)))))) :
    fs_A2 g m_Mo_word 5 69 [(0, fs_r 226), (1, fs_i x1), (2, fs_i x2), (3, fs_i x3)] [] M K := by
  refine a_ldcS (q := 3001) d_Mo_word_69 (by decide) (by decide) (fun s H q => q.2.2.2.2.2.2.1) ?_
  refine a_iload_n (j := 2) d_Mo_word_71 rfl rfl ?_
  refine a_iload_n (j := 3) d_Mo_word_72 rfl rfl ?_
  refine a_iadd d_Mo_word_73 ?_
  obtain ⟨o9, o10, h⟩ := h
  refine b_str (dc := 4) [fs_i (fs_w32 (x2 + x3))] [] d_Mo_word_74 ml_Mo_210 k_Str_charAt v_Str_charAt rfl (Nat.le_of_ble_eq_true rfl) rfl (Nat.le_of_ble_eq_true rfl) rfl ?_
  refine sp_charAt o9 o10 ?_
  refine a_bipush d_Mo_word_77 (by decide) ?_
  refine a_icmp_ne (tgt := 97) d_Mo_word_79 rfl (fun c11 => ?_) (fun c11 => ?_)
  · have h := h.1 c11
    refine a_sub [0, 1, 2] rfl ?_
    exact h
  · have h := h.2 c11
    refine a_aload_n (j := 0) d_Mo_word_82 rfl rfl ?_
    refine b_getfield (v := fs_i (M 226 20)) d_Mo_word_83 fl_Mo_176 io_226 rfl ?_
    refine a_iload_n (j := 3) d_Mo_word_86 rfl rfl ?_
    refine a_iadd d_Mo_word_87 ?_
    refine a_aload_n (j := 0) d_Mo_word_88 rfl rfl ?_
    refine b_getfield (v := fs_i (M 226 19)) d_Mo_word_89 fl_Mo_166 io_226 rfl ?_
    refine a_icmp_ne (tgt := 97) d_Mo_word_92 rfl (fun c12 => ?_) (fun c12 => ?_)
    · have h := h.1 c12
      refine a_sub [0, 1, 2] rfl ?_
      exact h
    · have h := h.2 c12
      refine a_iload_n (j := 1) d_Mo_word_95 rfl rfl ?_
      exact b_ireturn d_Mo_word_96 rfl rfl h
set_option maxRecDepth 8000 in
set_option maxHeartbeats 4000000 in
theorem L_Mo_word_97 {M : fs_M} {K : fs_K} {x1 x2 : Int} 
    (h : (0 ≤ x2 ∧ x2 < 92 ∧ ((fs_wch x2 = 32 → fs_A2 g m_Mo_word 5 4 [(0, fs_r 226), (1, fs_i (fs_w32 (x1 + 1))), (2, fs_i (fs_w32 (x2 + 1)))] [] M K) ∧ (¬ fs_wch x2 = 32 → fs_A2 g m_Mo_word 5 97 [(0, fs_r 226), (1, fs_i x1), (2, fs_i (fs_w32 (x2 + 1)))] [] M K)))) :
    fs_A2 g m_Mo_word 5 97 [(0, fs_r 226), (1, fs_i x1), (2, fs_i x2)] [] M K := by
  refine a_ldcS (q := 3001) d_Mo_word_97 (by decide) (by decide) (fun s H q => q.2.2.2.2.2.2.1) ?_
  refine a_iload_n (j := 2) d_Mo_word_99 rfl rfl ?_
  obtain ⟨o13, o14, h⟩ := h
  refine b_str (dc := 4) [fs_i x2] [] d_Mo_word_100 ml_Mo_210 k_Str_charAt v_Str_charAt rfl (Nat.le_of_ble_eq_true rfl) rfl (Nat.le_of_ble_eq_true rfl) rfl ?_
  refine sp_charAt o13 o14 ?_
  refine a_bipush d_Mo_word_103 (by decide) ?_
  refine a_icmp_eq (tgt := 114) d_Mo_word_105 rfl (fun c15 => ?_) (fun c15 => ?_)
  · have h := h.1 c15
    refine a_iinc (j := 2) d_Mo_word_114 rfl (Nat.le_of_ble_eq_true rfl) [1, 2, 0] rfl ?_
    refine a_iinc (j := 1) d_Mo_word_117 rfl (Nat.le_of_ble_eq_true rfl) [1, 0, 2] rfl ?_
    refine a_goto (tgt := 4) d_Mo_word_120 rfl ?_
    exact h
  · have h := h.2 c15
    refine a_iinc (j := 2) d_Mo_word_108 rfl (Nat.le_of_ble_eq_true rfl) [1, 2, 0] rfl ?_
    refine a_goto (tgt := 97) d_Mo_word_111 rfl ?_
    exact h
set_option maxRecDepth 8000 in
set_option maxHeartbeats 4000000 in
theorem E_Mo_name {M : fs_M} {K : fs_K} 
    (h : fs_A2 g m_Mo_name 1 7 [(0, fs_r 226), (1, fs_i 0)] [] (fs_st M 226 22 0) K) :
    fs_C2 g m_Mo_name 1 [fs_r 226] M K := by
  refine b_enter2 (ls := [(0, fs_r 226)]) (plainFor_of_name pn_Mo) (Nat.le_of_ble_eq_true rfl) rfl ?_
  refine a_aload_n (j := 0) d_Mo_name_0 rfl rfl ?_
  refine a_iconst d_Mo_name_1 (by unfold fs_in32; omega) ?_
  refine b_putfield (x := 0) d_Mo_name_2 fl_Mo_189 io_226 rfl rfl fs_nar_int ?_
  refine a_iconst d_Mo_name_5 (by unfold fs_in32; omega) ?_
  refine a_istore_n d_Mo_name_6 rfl (Nat.le_of_ble_eq_true rfl) [1, 0] rfl ?_
  exact h
set_option maxRecDepth 8000 in
set_option maxHeartbeats 4000000 in
theorem L_Mo_name_7 {M : fs_M} {K : fs_K} {x1 : Int} 
    (h : ((6 ≤ x1 → K none M) ∧ (¬ 6 ≤ x1 → ((M 226 19 ≤ fs_w32 ((M 226 20) + x1) → fs_A2 g m_Mo_name 1 7 [(0, fs_r 226), (1, fs_i (fs_w32 (x1 + 1)))] [] (fs_st M 226 22 (fs_or (fs_shl (M 226 22) 5) 0)) K) ∧ (¬ M 226 19 ≤ fs_w32 ((M 226 20) + x1) → (0 ≤ fs_w32 ((M 226 20) + x1) ∧ fs_w32 ((M 226 20) + x1) < 600 ∧ fs_A2 g m_Mo_name 1 7 [(0, fs_r 226), (1, fs_i (fs_w32 (x1 + 1)))] [] (fs_st M 226 22 (fs_or (fs_shl (M 226 22) 5) (fs_w32 ((fs_w32 ((M 227 (fs_w32 ((M 226 20) + x1))) - 97)) + 1)))) K)))))) :
    fs_A2 g m_Mo_name 1 7 [(0, fs_r 226), (1, fs_i x1)] [] M K := by
  refine a_iload_n (j := 1) d_Mo_name_7 rfl rfl ?_
  refine a_bipush d_Mo_name_8 (by decide) ?_
  refine a_icmp_ge (tgt := 63) d_Mo_name_10 rfl (fun c1 => ?_) (fun c1 => ?_)
  · have h := h.1 c1
    exact b_return d_Mo_name_63 rfl h
  · have h := h.2 c1
    refine a_aload_n (j := 0) d_Mo_name_13 rfl rfl ?_
    refine a_aload_n (j := 0) d_Mo_name_14 rfl rfl ?_
    refine b_getfield (v := fs_i (M 226 22)) d_Mo_name_15 fl_Mo_189 io_226 rfl ?_
    refine a_iconst d_Mo_name_18 (by unfold fs_in32; omega) ?_
    refine a_ishl d_Mo_name_19 ?_
    refine a_aload_n (j := 0) d_Mo_name_20 rfl rfl ?_
    refine b_getfield (v := fs_i (M 226 20)) d_Mo_name_21 fl_Mo_176 io_226 rfl ?_
    refine a_iload_n (j := 1) d_Mo_name_24 rfl rfl ?_
    refine a_iadd d_Mo_name_25 ?_
    refine a_aload_n (j := 0) d_Mo_name_26 rfl rfl ?_
    refine b_getfield (v := fs_i (M 226 19)) d_Mo_name_27 fl_Mo_166 io_226 rfl ?_
    refine a_icmp_ge (tgt := 52) d_Mo_name_30 rfl (fun c2 => ?_) (fun c2 => ?_)
    · have h := h.1 c2
      refine a_iconst d_Mo_name_52 (by unfold fs_in32; omega) ?_
      refine a_ior d_Mo_name_53 ?_
      refine b_putfield (x := (fs_or (fs_shl (M 226 22) 5) 0)) d_Mo_name_54 fl_Mo_189 io_226 rfl rfl fs_nar_int ?_
      refine a_iinc (j := 1) d_Mo_name_57 rfl (Nat.le_of_ble_eq_true rfl) [1, 0] rfl ?_
      refine a_goto (tgt := 7) d_Mo_name_60 rfl ?_
      exact h
    · have h := h.2 c2
      refine a_aload_n (j := 0) d_Mo_name_33 rfl rfl ?_
      refine b_getptr (q := 227) d_Mo_name_34 fl_Mo_7 io_226 rfl rfl rfl ?_
      refine a_aload_n (j := 0) d_Mo_name_37 rfl rfl ?_
      refine b_getfield (v := fs_i (M 226 20)) d_Mo_name_38 fl_Mo_176 io_226 rfl ?_
      refine a_iload_n (j := 1) d_Mo_name_41 rfl rfl ?_
      refine a_iadd d_Mo_name_42 ?_
      obtain ⟨o3, o4, h⟩ := h
      refine b_iaload (v := M 227 (fs_w32 ((M 226 20) + x1))) d_Mo_name_43 ia_227 o3 o4 rfl ?_
      refine a_bipush d_Mo_name_44 (by decide) ?_
      refine a_isub d_Mo_name_46 ?_
      refine a_iconst d_Mo_name_47 (by unfold fs_in32; omega) ?_
      refine a_iadd d_Mo_name_48 ?_
      refine a_goto (tgt := 53) d_Mo_name_49 rfl ?_
      refine a_ior d_Mo_name_53 ?_
      refine b_putfield (x := (fs_or (fs_shl (M 226 22) 5) (fs_w32 ((fs_w32 ((M 227 (fs_w32 ((M 226 20) + x1))) - 97)) + 1)))) d_Mo_name_54 fl_Mo_189 io_226 rfl rfl fs_nar_int ?_
      refine a_iinc (j := 1) d_Mo_name_57 rfl (Nat.le_of_ble_eq_true rfl) [1, 0] rfl ?_
      refine a_goto (tgt := 7) d_Mo_name_60 rfl ?_
      exact h
set_option maxRecDepth 8000 in
set_option maxHeartbeats 4000000 in
theorem E_Mo_isDigit {M : fs_M} {K : fs_K} {x0 : Int} 
    (h : ((x0 < 48 → K (some (fs_i 0)) M) ∧ (¬ x0 < 48 → ((57 < x0 → K (some (fs_i 0)) M) ∧ (¬ 57 < x0 → K (some (fs_i 1)) M))))) :
    fs_C2 g m_Mo_isDigit 1 [fs_i x0] M K := by
  refine b_enter2 (ls := [(0, fs_i x0)]) (plainFor_of_name pn_Mo) (Nat.le_of_ble_eq_true rfl) rfl ?_
  refine a_iload_n (j := 0) d_Mo_isDigit_0 rfl rfl ?_
  refine a_bipush d_Mo_isDigit_1 (by decide) ?_
  refine a_icmp_lt (tgt := 16) d_Mo_isDigit_3 rfl (fun c1 => ?_) (fun c1 => ?_)
  · have h := h.1 c1
    refine a_iconst d_Mo_isDigit_16 (by unfold fs_in32; omega) ?_
    exact b_ireturn d_Mo_isDigit_17 rfl (fs_nar01 (Or.inl rfl)) h
  · have h := h.2 c1
    refine a_iload_n (j := 0) d_Mo_isDigit_6 rfl rfl ?_
    refine a_bipush d_Mo_isDigit_7 (by decide) ?_
    refine a_icmp_gt (tgt := 16) d_Mo_isDigit_9 rfl (fun c2 => ?_) (fun c2 => ?_)
    · have h := h.1 c2
      refine a_iconst d_Mo_isDigit_16 (by unfold fs_in32; omega) ?_
      exact b_ireturn d_Mo_isDigit_17 rfl (fs_nar01 (Or.inl rfl)) h
    · have h := h.2 c2
      refine a_iconst d_Mo_isDigit_12 (by unfold fs_in32; omega) ?_
      refine a_goto (tgt := 17) d_Mo_isDigit_13 rfl ?_
      exact b_ireturn d_Mo_isDigit_17 rfl (fs_nar01 (Or.inr rfl)) h
set_option maxRecDepth 8000 in
set_option maxHeartbeats 4000000 in
theorem E_Mo_sign {M : fs_M} {K : fs_K} {x1 : Int} 
    (h : ((x1 = 59 → fs_A2 g m_Mo_sign 2 76 [(0, fs_r 226), (1, fs_i x1)] [fs_i 3, fs_r 226] (fs_st M 226 19 (fs_w32 ((M 226 19) + 1))) K) ∧ (¬ x1 = 59 → ((x1 = 40 → fs_A2 g m_Mo_sign 2 76 [(0, fs_r 226), (1, fs_i x1)] [fs_i 3, fs_r 226] (fs_st M 226 19 (fs_w32 ((M 226 19) + 1))) K) ∧ (¬ x1 = 40 → ((x1 = 41 → fs_A2 g m_Mo_sign 2 76 [(0, fs_r 226), (1, fs_i x1)] [fs_i 3, fs_r 226] (fs_st M 226 19 (fs_w32 ((M 226 19) + 1))) K) ∧ (¬ x1 = 41 → ((x1 = 43 → fs_A2 g m_Mo_sign 2 76 [(0, fs_r 226), (1, fs_i x1)] [fs_i 3, fs_r 226] (fs_st M 226 19 (fs_w32 ((M 226 19) + 1))) K) ∧ (¬ x1 = 43 → ((x1 = 45 → fs_A2 g m_Mo_sign 2 76 [(0, fs_r 226), (1, fs_i x1)] [fs_i 3, fs_r 226] (fs_st M 226 19 (fs_w32 ((M 226 19) + 1))) K) ∧ (¬ x1 = 45 → ((x1 = 42 → fs_A2 g m_Mo_sign 2 76 [(0, fs_r 226), (1, fs_i x1)] [fs_i 3, fs_r 226] (fs_st M 226 19 (fs_w32 ((M 226 19) + 1))) K) ∧ (¬ x1 = 42 → ((x1 = 47 → fs_A2 g m_Mo_sign 2 76 [(0, fs_r 226), (1, fs_i x1)] [fs_i 3, fs_r 226] (fs_st M 226 19 (fs_w32 ((M 226 19) + 1))) K) ∧ (¬ x1 = 47 → ((x1 = 60 → fs_A2 g m_Mo_sign 2 76 [(0, fs_r 226), (1, fs_i x1)] [fs_i 3, fs_r 226] (fs_st M 226 19 (fs_w32 ((M 226 19) + 1))) K) ∧ (¬ x1 = 60 → ((x1 = 61 → fs_A2 g m_Mo_sign 2 76 [(0, fs_r 226), (1, fs_i x1)] [fs_i 3, fs_r 226] (fs_st M 226 19 (fs_w32 ((M 226 19) + 1))) K) ∧ (¬ x1 = 61 → ((¬ x1 = 62 → fs_A2 g m_Mo_sign 2 76 [(0, fs_r 226), (1, fs_i x1)] [fs_i 5, fs_r 226] (fs_st M 226 19 (fs_w32 ((M 226 19) + 1))) K) ∧ (x1 = 62 → fs_A2 g m_Mo_sign 2 76 [(0, fs_r 226), (1, fs_i x1)] [fs_i 3, fs_r 226] (fs_st M 226 19 (fs_w32 ((M 226 19) + 1))) K))))))))))))))))))))) :
    fs_C2 g m_Mo_sign 2 [fs_r 226, fs_i x1] M K := by
  refine b_enter2 (ls := [(0, fs_r 226), (1, fs_i x1)]) (plainFor_of_name pn_Mo) (Nat.le_of_ble_eq_true rfl) rfl ?_
  refine a_aload_n (j := 0) d_Mo_sign_0 rfl rfl ?_
  refine a_dup d_Mo_sign_1 rfl ?_
  refine b_getfield (v := fs_i (M 226 19)) d_Mo_sign_2 fl_Mo_166 io_226 rfl ?_
  refine a_iconst d_Mo_sign_5 (by unfold fs_in32; omega) ?_
  refine a_iadd d_Mo_sign_6 ?_
  refine b_putfield (x := (fs_w32 ((M 226 19) + 1))) d_Mo_sign_7 fl_Mo_166 io_226 rfl rfl fs_nar_int ?_
  refine a_aload_n (j := 0) d_Mo_sign_10 rfl rfl ?_
  refine a_iload_n (j := 1) d_Mo_sign_11 rfl rfl ?_
  refine a_bipush d_Mo_sign_12 (by decide) ?_
  refine a_icmp_eq (tgt := 71) d_Mo_sign_14 rfl (fun c1 => ?_) (fun c1 => ?_)
  · have h := h.1 c1
    refine a_iconst d_Mo_sign_71 (by unfold fs_in32; omega) ?_
    refine a_goto (tgt := 76) d_Mo_sign_72 rfl ?_
    exact h
  · have h := h.2 c1
    refine a_iload_n (j := 1) d_Mo_sign_17 rfl rfl ?_
    refine a_bipush d_Mo_sign_18 (by decide) ?_
    refine a_icmp_eq (tgt := 71) d_Mo_sign_20 rfl (fun c2 => ?_) (fun c2 => ?_)
    · have h := h.1 c2
      refine a_iconst d_Mo_sign_71 (by unfold fs_in32; omega) ?_
      refine a_goto (tgt := 76) d_Mo_sign_72 rfl ?_
      exact h
    · have h := h.2 c2
      refine a_iload_n (j := 1) d_Mo_sign_23 rfl rfl ?_
      refine a_bipush d_Mo_sign_24 (by decide) ?_
      refine a_icmp_eq (tgt := 71) d_Mo_sign_26 rfl (fun c3 => ?_) (fun c3 => ?_)
      · have h := h.1 c3
        refine a_iconst d_Mo_sign_71 (by unfold fs_in32; omega) ?_
        refine a_goto (tgt := 76) d_Mo_sign_72 rfl ?_
        exact h
      · have h := h.2 c3
        refine a_iload_n (j := 1) d_Mo_sign_29 rfl rfl ?_
        refine a_bipush d_Mo_sign_30 (by decide) ?_
        refine a_icmp_eq (tgt := 71) d_Mo_sign_32 rfl (fun c4 => ?_) (fun c4 => ?_)
        · have h := h.1 c4
          refine a_iconst d_Mo_sign_71 (by unfold fs_in32; omega) ?_
          refine a_goto (tgt := 76) d_Mo_sign_72 rfl ?_
          exact h
        · have h := h.2 c4
          refine a_iload_n (j := 1) d_Mo_sign_35 rfl rfl ?_
          refine a_bipush d_Mo_sign_36 (by decide) ?_
          refine a_icmp_eq (tgt := 71) d_Mo_sign_38 rfl (fun c5 => ?_) (fun c5 => ?_)
          · have h := h.1 c5
            refine a_iconst d_Mo_sign_71 (by unfold fs_in32; omega) ?_
            refine a_goto (tgt := 76) d_Mo_sign_72 rfl ?_
            exact h
          · have h := h.2 c5
            refine a_iload_n (j := 1) d_Mo_sign_41 rfl rfl ?_
            refine a_bipush d_Mo_sign_42 (by decide) ?_
            refine a_icmp_eq (tgt := 71) d_Mo_sign_44 rfl (fun c6 => ?_) (fun c6 => ?_)
            · have h := h.1 c6
              refine a_iconst d_Mo_sign_71 (by unfold fs_in32; omega) ?_
              refine a_goto (tgt := 76) d_Mo_sign_72 rfl ?_
              exact h
            · have h := h.2 c6
              refine a_iload_n (j := 1) d_Mo_sign_47 rfl rfl ?_
              refine a_bipush d_Mo_sign_48 (by decide) ?_
              refine a_icmp_eq (tgt := 71) d_Mo_sign_50 rfl (fun c7 => ?_) (fun c7 => ?_)
              · have h := h.1 c7
                refine a_iconst d_Mo_sign_71 (by unfold fs_in32; omega) ?_
                refine a_goto (tgt := 76) d_Mo_sign_72 rfl ?_
                exact h
              · have h := h.2 c7
                refine a_iload_n (j := 1) d_Mo_sign_53 rfl rfl ?_
                refine a_bipush d_Mo_sign_54 (by decide) ?_
                refine a_icmp_eq (tgt := 71) d_Mo_sign_56 rfl (fun c8 => ?_) (fun c8 => ?_)
                · have h := h.1 c8
                  refine a_iconst d_Mo_sign_71 (by unfold fs_in32; omega) ?_
                  refine a_goto (tgt := 76) d_Mo_sign_72 rfl ?_
                  exact h
                · have h := h.2 c8
                  refine a_iload_n (j := 1) d_Mo_sign_59 rfl rfl ?_
                  refine a_bipush d_Mo_sign_60 (by decide) ?_
                  refine a_icmp_eq (tgt := 71) d_Mo_sign_62 rfl (fun c9 => ?_) (fun c9 => ?_)
                  · have h := h.1 c9
                    refine a_iconst d_Mo_sign_71 (by unfold fs_in32; omega) ?_
                    refine a_goto (tgt := 76) d_Mo_sign_72 rfl ?_
                    exact h
                  · have h := h.2 c9
                    refine a_iload_n (j := 1) d_Mo_sign_65 rfl rfl ?_
                    refine a_bipush d_Mo_sign_66 (by decide) ?_
                    refine a_icmp_ne (tgt := 75) d_Mo_sign_68 rfl (fun c10 => ?_) (fun c10 => ?_)
                    · have h := h.1 c10
                      refine a_iconst d_Mo_sign_75 (by unfold fs_in32; omega) ?_
                      exact h
                    · have h := h.2 c10
                      refine a_iconst d_Mo_sign_71 (by unfold fs_in32; omega) ?_
                      refine a_goto (tgt := 76) d_Mo_sign_72 rfl ?_
                      exact h
set_option maxRecDepth 8000 in
set_option maxHeartbeats 4000000 in
theorem L_Mo_sign_76 {M : fs_M} {K : fs_K} {x1 x101 : Int} 
    (h : ((¬ x1 = 60 → fs_A2 g m_Mo_sign 2 106 [(0, fs_r 226), (1, fs_i x1)] [] (fs_st (fs_st M 226 21 x101) 226 22 x1) K) ∧ (x1 = 60 → fs_C2 g m_Mo_here 1 [fs_r 226] (fs_st (fs_st M 226 21 x101) 226 22 x1) (fun v M1 => ∃ r1, v = some (fs_i r1) ∧ ((¬ r1 = 61 → fs_A2 g m_Mo_sign 2 106 [(0, fs_r 226), (1, fs_i x1)] [] M1 K) ∧ (r1 = 61 → fs_A2 g m_Mo_sign 2 106 [(0, fs_r 226), (1, fs_i x1)] [] (fs_st M1 226 22 256) K)))))) :
    fs_A2 g m_Mo_sign 2 76 [(0, fs_r 226), (1, fs_i x1)] [fs_i x101, fs_r 226] M K := by
  refine b_putfield (x := x101) d_Mo_sign_76 fl_Mo_179 io_226 rfl rfl fs_nar_int ?_
  refine a_aload_n (j := 0) d_Mo_sign_79 rfl rfl ?_
  refine a_iload_n (j := 1) d_Mo_sign_80 rfl rfl ?_
  refine b_putfield (x := x1) d_Mo_sign_81 fl_Mo_189 io_226 rfl rfl fs_nar_int ?_
  refine a_iload_n (j := 1) d_Mo_sign_84 rfl rfl ?_
  refine a_bipush d_Mo_sign_85 (by decide) ?_
  refine a_icmp_ne (tgt := 106) d_Mo_sign_87 rfl (fun c11 => ?_) (fun c11 => ?_)
  · have h := h.1 c11
    exact h
  · have h := h.2 c11
    refine a_aload_n (j := 0) d_Mo_sign_90 rfl rfl ?_
    refine b_virtual (dc := 1) (ci := 11) (T := fs_T11) (N := 78) [] [] d_Mo_sign_91 ml_Mo_172 k_Mo_here v_Mo_here rfl io_226 rfl (Nat.le_of_ble_eq_true rfl) rfl (Nat.le_of_ble_eq_true rfl) ?_
    refine fs_Call.mono (fun v M1 hv => ?_) h
    obtain ⟨r1, rfl, h⟩ := hv
    show fs_A2 g m_Mo_sign 2 94 [(0, fs_r 226), (1, fs_i x1)] [fs_i r1] M1 K
    refine a_bipush d_Mo_sign_94 (by decide) ?_
    refine a_icmp_ne (tgt := 106) d_Mo_sign_96 rfl (fun c12 => ?_) (fun c12 => ?_)
    · have h := h.1 c12
      exact h
    · have h := h.2 c12
      refine a_aload_n (j := 0) d_Mo_sign_99 rfl rfl ?_
      refine a_sipush d_Mo_sign_100 (by decide) ?_
      refine b_putfield (x := 256) d_Mo_sign_103 fl_Mo_189 io_226 rfl rfl fs_nar_int ?_
      exact h
set_option maxRecDepth 8000 in
set_option maxHeartbeats 4000000 in
theorem L_Mo_sign_106 {M : fs_M} {K : fs_K} {x1 : Int} 
    (h : ((¬ x1 = 60 → fs_A2 g m_Mo_sign 2 128 [(0, fs_r 226), (1, fs_i x1)] [] M K) ∧ (x1 = 60 → fs_C2 g m_Mo_here 1 [fs_r 226] M (fun v M2 => ∃ r2, v = some (fs_i r2) ∧ ((¬ r2 = 62 → fs_A2 g m_Mo_sign 2 128 [(0, fs_r 226), (1, fs_i x1)] [] M2 K) ∧ (r2 = 62 → fs_A2 g m_Mo_sign 2 128 [(0, fs_r 226), (1, fs_i x1)] [] (fs_st M2 226 22 257) K)))))) :
    fs_A2 g m_Mo_sign 2 106 [(0, fs_r 226), (1, fs_i x1)] [] M K := by
  refine a_iload_n (j := 1) d_Mo_sign_106 rfl rfl ?_
  refine a_bipush d_Mo_sign_107 (by decide) ?_
  refine a_icmp_ne (tgt := 128) d_Mo_sign_109 rfl (fun c13 => ?_) (fun c13 => ?_)
  · have h := h.1 c13
    exact h
  · have h := h.2 c13
    refine a_aload_n (j := 0) d_Mo_sign_112 rfl rfl ?_
    refine b_virtual (dc := 1) (ci := 11) (T := fs_T11) (N := 78) [] [] d_Mo_sign_113 ml_Mo_172 k_Mo_here v_Mo_here rfl io_226 rfl (Nat.le_of_ble_eq_true rfl) rfl (Nat.le_of_ble_eq_true rfl) ?_
    refine fs_Call.mono (fun v M2 hv => ?_) h
    obtain ⟨r2, rfl, h⟩ := hv
    show fs_A2 g m_Mo_sign 2 116 [(0, fs_r 226), (1, fs_i x1)] [fs_i r2] M2 K
    refine a_bipush d_Mo_sign_116 (by decide) ?_
    refine a_icmp_ne (tgt := 128) d_Mo_sign_118 rfl (fun c14 => ?_) (fun c14 => ?_)
    · have h := h.1 c14
      exact h
    · have h := h.2 c14
      refine a_aload_n (j := 0) d_Mo_sign_121 rfl rfl ?_
      refine a_sipush d_Mo_sign_122 (by decide) ?_
      refine b_putfield (x := 257) d_Mo_sign_125 fl_Mo_189 io_226 rfl rfl fs_nar_int ?_
      exact h
set_option maxRecDepth 8000 in
set_option maxHeartbeats 4000000 in
theorem L_Mo_sign_128 {M : fs_M} {K : fs_K} {x1 : Int} 
    (h : ((¬ x1 = 62 → fs_A2 g m_Mo_sign 2 150 [(0, fs_r 226)] [] M K) ∧ (x1 = 62 → fs_C2 g m_Mo_here 1 [fs_r 226] M (fun v M3 => ∃ r3, v = some (fs_i r3) ∧ ((¬ r3 = 61 → fs_A2 g m_Mo_sign 2 150 [(0, fs_r 226)] [] M3 K) ∧ (r3 = 61 → fs_A2 g m_Mo_sign 2 150 [(0, fs_r 226)] [] (fs_st M3 226 22 258) K)))))) :
    fs_A2 g m_Mo_sign 2 128 [(0, fs_r 226), (1, fs_i x1)] [] M K := by
  refine a_iload_n (j := 1) d_Mo_sign_128 rfl rfl ?_
  refine a_bipush d_Mo_sign_129 (by decide) ?_
  refine a_icmp_ne (tgt := 150) d_Mo_sign_131 rfl (fun c15 => ?_) (fun c15 => ?_)
  · have h := h.1 c15
    refine a_sub [0] rfl ?_
    exact h
  · have h := h.2 c15
    refine a_aload_n (j := 0) d_Mo_sign_134 rfl rfl ?_
    refine b_virtual (dc := 1) (ci := 11) (T := fs_T11) (N := 78) [] [] d_Mo_sign_135 ml_Mo_172 k_Mo_here v_Mo_here rfl io_226 rfl (Nat.le_of_ble_eq_true rfl) rfl (Nat.le_of_ble_eq_true rfl) ?_
    refine fs_Call.mono (fun v M3 hv => ?_) h
    obtain ⟨r3, rfl, h⟩ := hv
    show fs_A2 g m_Mo_sign 2 138 [(0, fs_r 226), (1, fs_i x1)] [fs_i r3] M3 K
    refine a_bipush d_Mo_sign_138 (by decide) ?_
    refine a_icmp_ne (tgt := 150) d_Mo_sign_140 rfl (fun c16 => ?_) (fun c16 => ?_)
    · have h := h.1 c16
      refine a_sub [0] rfl ?_
      exact h
    · have h := h.2 c16
      refine a_aload_n (j := 0) d_Mo_sign_143 rfl rfl ?_
      refine a_sipush d_Mo_sign_144 (by decide) ?_
      refine b_putfield (x := 258) d_Mo_sign_147 fl_Mo_189 io_226 rfl rfl fs_nar_int ?_
      refine a_sub [0] rfl ?_
      exact h
set_option maxRecDepth 8000 in
set_option maxHeartbeats 4000000 in
theorem L_Mo_sign_150 {M : fs_M} {K : fs_K} 
    (h : ((M 226 22 < 256 → K none M) ∧ (¬ M 226 22 < 256 → K none (fs_st M 226 19 (fs_w32 ((M 226 19) + 1)))))) :
    fs_A2 g m_Mo_sign 2 150 [(0, fs_r 226)] [] M K := by
  refine a_aload_n (j := 0) d_Mo_sign_150 rfl rfl ?_
  refine b_getfield (v := fs_i (M 226 22)) d_Mo_sign_151 fl_Mo_189 io_226 rfl ?_
  refine a_sipush d_Mo_sign_154 (by decide) ?_
  refine a_icmp_lt (tgt := 170) d_Mo_sign_157 rfl (fun c17 => ?_) (fun c17 => ?_)
  · have h := h.1 c17
    exact b_return d_Mo_sign_170 rfl h
  · have h := h.2 c17
    refine a_aload_n (j := 0) d_Mo_sign_160 rfl rfl ?_
    refine a_dup d_Mo_sign_161 rfl ?_
    refine b_getfield (v := fs_i (M 226 19)) d_Mo_sign_162 fl_Mo_166 io_226 rfl ?_
    refine a_iconst d_Mo_sign_165 (by unfold fs_in32; omega) ?_
    refine a_iadd d_Mo_sign_166 ?_
    refine b_putfield (x := (fs_w32 ((M 226 19) + 1))) d_Mo_sign_167 fl_Mo_166 io_226 rfl rfl fs_nar_int ?_
    exact b_return d_Mo_sign_170 rfl h
set_option maxRecDepth 8000 in
set_option maxHeartbeats 4000000 in
theorem E_Mo_line {M : fs_M} {K : fs_K} 
    (h : ((¬ M 226 21 = 0 → fs_C2 g m_Mo_wrong 1 [fs_r 226, fs_i 1] M (fun v M1 => v = none ∧ K none M1)) ∧ (M 226 21 = 0 → ((M 226 22 ≤ 3 → ((¬ M 226 22 = 0 → fs_A2 g m_Mo_line 159 40 [(0, fs_r 226), (1, fs_i (M 226 22))] [] M K) ∧ (M 226 22 = 0 → fs_C2 g m_Mo_fresher 1 [fs_r 226, fs_i 0] M (fun v M2 => ∃ r2, v = some (fs_i r2) ∧ ((r2 = 6 → fs_C2 g m_Mo_wrong 1 [fs_r 226, fs_i 2] M2 (fun v M3 => v = none ∧ fs_A2 g m_Mo_line 159 82 [(0, fs_r 226), (1, fs_i (M 226 22))] [] M3 K)) ∧ (¬ r2 = 6 → fs_A2 g m_Mo_line 159 40 [(0, fs_r 226), (1, fs_i (M 226 22))] [] M2 K)))))) ∧ (¬ M 226 22 ≤ 3 → fs_C2 g m_Mo_wrong 1 [fs_r 226, fs_i 1] M (fun v M4 => v = none ∧ K none M4)))))) :
    fs_C2 g m_Mo_line 159 [fs_r 226] M K := by
  refine b_enter2 (ls := [(0, fs_r 226)]) (plainFor_of_name pn_Mo) (Nat.le_of_ble_eq_true rfl) rfl ?_
  refine a_aload_n (j := 0) d_Mo_line_0 rfl rfl ?_
  refine b_getfield (v := fs_i (M 226 21)) d_Mo_line_1 fl_Mo_179 io_226 rfl ?_
  refine a_if_ne (tgt := 15) d_Mo_line_4 rfl (fun c1 => ?_) (fun c1 => ?_)
  · have h := h.1 c1
    refine a_aload_n (j := 0) d_Mo_line_15 rfl rfl ?_
    refine a_iconst d_Mo_line_16 (by unfold fs_in32; omega) ?_
    refine b_virtual (dc := 1) (ci := 11) (T := fs_T11) (N := 78) [fs_i 1] [] d_Mo_line_17 ml_Mo_223 k_Mo_wrong v_Mo_wrong rfl io_226 rfl (Nat.le_of_ble_eq_true rfl) rfl (Nat.le_of_ble_eq_true rfl) ?_
    refine fs_Call.mono (fun v M1 hv => ?_) h
    obtain ⟨rfl, h⟩ := hv
    show fs_A2 g m_Mo_line 159 20 [(0, fs_r 226)] [] M1 K
    exact b_return d_Mo_line_20 rfl h
  · have h := h.2 c1
    refine a_aload_n (j := 0) d_Mo_line_7 rfl rfl ?_
    refine b_getfield (v := fs_i (M 226 22)) d_Mo_line_8 fl_Mo_189 io_226 rfl ?_
    refine a_iconst d_Mo_line_11 (by unfold fs_in32; omega) ?_
    refine a_icmp_le (tgt := 21) d_Mo_line_12 rfl (fun c2 => ?_) (fun c2 => ?_)
    · have h := h.1 c2
      refine a_aload_n (j := 0) d_Mo_line_21 rfl rfl ?_
      refine b_getfield (v := fs_i (M 226 22)) d_Mo_line_22 fl_Mo_189 io_226 rfl ?_
      refine a_istore_n d_Mo_line_25 rfl (Nat.le_of_ble_eq_true rfl) [1, 0] rfl ?_
      refine a_iload_n (j := 1) d_Mo_line_26 rfl rfl ?_
      refine a_if_ne (tgt := 40) d_Mo_line_27 rfl (fun c3 => ?_) (fun c3 => ?_)
      · have h := h.1 c3
        exact h
      · have h := h.2 c3
        refine a_aload_n (j := 0) d_Mo_line_30 rfl rfl ?_
        refine a_iconst d_Mo_line_31 (by unfold fs_in32; omega) ?_
        refine b_virtual (dc := 1) (ci := 11) (T := fs_T11) (N := 78) [fs_i 0] [] d_Mo_line_32 ml_Mo_230 k_Mo_fresher v_Mo_fresher rfl io_226 rfl (Nat.le_of_ble_eq_true rfl) rfl (Nat.le_of_ble_eq_true rfl) ?_
        refine fs_Call.mono (fun v M2 hv => ?_) h
        obtain ⟨r2, rfl, h⟩ := hv
        show fs_A2 g m_Mo_line 159 35 [(0, fs_r 226), (1, fs_i (M 226 22))] [fs_i r2] M2 K
        refine a_bipush d_Mo_line_35 (by decide) ?_
        refine a_icmp_eq (tgt := 54) d_Mo_line_37 rfl (fun c4 => ?_) (fun c4 => ?_)
        · have h := h.1 c4
          refine a_aload_n (j := 0) d_Mo_line_54 rfl rfl ?_
          refine a_iconst d_Mo_line_55 (by unfold fs_in32; omega) ?_
          refine b_virtual (dc := 1) (ci := 11) (T := fs_T11) (N := 78) [fs_i 2] [] d_Mo_line_56 ml_Mo_223 k_Mo_wrong v_Mo_wrong rfl io_226 rfl (Nat.le_of_ble_eq_true rfl) rfl (Nat.le_of_ble_eq_true rfl) ?_
          refine fs_Call.mono (fun v M3 hv => ?_) h
          obtain ⟨rfl, h⟩ := hv
          show fs_A2 g m_Mo_line 159 59 [(0, fs_r 226), (1, fs_i (M 226 22))] [] M3 K
          refine a_goto (tgt := 82) d_Mo_line_59 rfl ?_
          exact h
        · have h := h.2 c4
          exact h
    · have h := h.2 c2
      refine a_aload_n (j := 0) d_Mo_line_15 rfl rfl ?_
      refine a_iconst d_Mo_line_16 (by unfold fs_in32; omega) ?_
      refine b_virtual (dc := 1) (ci := 11) (T := fs_T11) (N := 78) [fs_i 1] [] d_Mo_line_17 ml_Mo_223 k_Mo_wrong v_Mo_wrong rfl io_226 rfl (Nat.le_of_ble_eq_true rfl) rfl (Nat.le_of_ble_eq_true rfl) ?_
      refine fs_Call.mono (fun v M4 hv => ?_) h
      obtain ⟨rfl, h⟩ := hv
      show fs_A2 g m_Mo_line 159 20 [(0, fs_r 226)] [] M4 K
      exact b_return d_Mo_line_20 rfl h
set_option maxRecDepth 8000 in
set_option maxHeartbeats 4000000 in
theorem L_Mo_line_82 {M : fs_M} {K : fs_K} {x1 : Int} 
    (h : ((M 226 23 = 0 → fs_C2 g m_Mo_token 6 [fs_r 226] M (fun v M5 => v = none ∧ ((x1 = 0 → fs_C2 g m_Mo_fresher 1 [fs_r 226, fs_i 0] M5 (fun v M6 => ∃ r6, v = some (fs_i r6) ∧ fs_C2 g m_Mo_houseLine 8 [fs_r 226, fs_i (fs_w32 (6 + r6))] M6 (fun v M7 => v = none ∧ fs_A2 g m_Mo_line 159 233 [(0, fs_r 226)] [] M7 K))) ∧ (x1 = 1 → fs_C2 g m_Mo_fresher 1 [fs_r 226, fs_i 1] M5 (fun v M8 => ∃ r8, v = some (fs_i r8) ∧ fs_C2 g m_Mo_fresher 1 [fs_r 226, fs_i 1] M8 (fun v M9 => ∃ r9, v = some (fs_i r9) ∧ fs_C2 g m_Mo_fresh 7 [fs_r 226, fs_r 234, fs_i 3, fs_i r9] M9 (fun v M10 => ∃ r10, v = some (fs_i r10) ∧ (0 ≤ fs_w32 (3 + r8) ∧ fs_w32 (3 + r8) < 6 ∧ fs_C2 g m_Mo_numeral 7 [fs_r 226, fs_i 0, fs_i 99] (fs_st M10 234 (fs_w32 (3 + r8)) r10) (fun v M11 => ∃ r11, v = some (fs_i r11) ∧ fs_C2 g m_Mo_numeral 7 [fs_r 226, fs_i 0, fs_i 9] (fs_st M11 235 (fs_w32 (3 + r8)) r11) (fun v M12 => ∃ r12, v = some (fs_i r12) ∧ fs_A2 g m_Mo_line 159 233 [(0, fs_r 226)] [] (fs_st (fs_st M12 236 (fs_w32 (3 + r8)) r12) 228 5 (fs_w32 ((M12 228 5) + 1))) K))))))) ∧ (x1 = 2 → fs_C2 g m_Mo_numeral 7 [fs_r 226, fs_i 0, fs_i 99999] (fs_st M5 226 16 (fs_or (M5 226 16) 1)) (fun v M13 => ∃ r13, v = some (fs_i r13) ∧ fs_A2 g m_Mo_line 159 233 [(0, fs_r 226)] [] (fs_st M13 228 6 r13) K)) ∧ (¬ x1 = 0 ∧ ¬ x1 = 1 ∧ ¬ x1 = 2 → fs_C2 g m_Mo_lawLine 158 [fs_r 226] M5 (fun v M14 => v = none ∧ fs_A2 g m_Mo_line 159 233 [(0, fs_r 226)] [] M14 K))))) ∧ (¬ M 226 23 = 0 → K none M))) :
    fs_A2 g m_Mo_line 159 82 [(0, fs_r 226), (1, fs_i x1)] [] M K := by
  refine a_aload_n (j := 0) d_Mo_line_82 rfl rfl ?_
  refine b_getfield (v := fs_i (M 226 23)) d_Mo_line_83 fl_Mo_214 io_226 rfl ?_
  refine a_if_eq (tgt := 90) d_Mo_line_86 rfl (fun c5 => ?_) (fun c5 => ?_)
  · have h := h.1 c5
    refine a_aload_n (j := 0) d_Mo_line_90 rfl rfl ?_
    refine b_virtual (dc := 6) (ci := 11) (T := fs_T11) (N := 78) [] [] d_Mo_line_91 ml_Mo_220 k_Mo_token v_Mo_token rfl io_226 rfl (Nat.le_of_ble_eq_true rfl) rfl (Nat.le_of_ble_eq_true rfl) ?_
    refine fs_Call.mono (fun v M5 hv => ?_) h
    obtain ⟨rfl, h⟩ := hv
    show fs_A2 g m_Mo_line 159 94 [(0, fs_r 226), (1, fs_i x1)] [] M5 K
    refine a_iload_n (j := 1) d_Mo_line_94 rfl rfl ?_
    obtain ⟨hs95_0, hs95_1, hs95_2, hs95_3⟩ := h
    by_cases q95_0 : x1 = 0
    · have h := hs95_0 q95_0
      refine a_tableIn (tgt := 120) d_Mo_line_95 (by omega) (by omega) (by rw [q95_0]; rfl) rfl ?_
      refine a_aload_n (j := 0) d_Mo_line_120 rfl rfl ?_
      refine a_bipush d_Mo_line_121 (by decide) ?_
      refine a_aload_n (j := 0) d_Mo_line_123 rfl rfl ?_
      refine a_iconst d_Mo_line_124 (by unfold fs_in32; omega) ?_
      refine b_virtual (dc := 1) (ci := 11) (T := fs_T11) (N := 78) [fs_i 0] [fs_i 6, fs_r 226] d_Mo_line_125 ml_Mo_230 k_Mo_fresher v_Mo_fresher rfl io_226 rfl (Nat.le_of_ble_eq_true rfl) rfl (Nat.le_of_ble_eq_true rfl) ?_
      refine fs_Call.mono (fun v M6 hv => ?_) h
      obtain ⟨r6, rfl, h⟩ := hv
      show fs_A2 g m_Mo_line 159 128 [(0, fs_r 226), (1, fs_i x1)] [fs_i r6, fs_i 6, fs_r 226] M6 K
      refine a_iadd d_Mo_line_128 ?_
      refine b_virtual (dc := 8) (ci := 11) (T := fs_T11) (N := 78) [fs_i (fs_w32 (6 + r6))] [] d_Mo_line_129 ml_Mo_237 k_Mo_houseLine v_Mo_houseLine rfl io_226 rfl (Nat.le_of_ble_eq_true rfl) rfl (Nat.le_of_ble_eq_true rfl) ?_
      refine fs_Call.mono (fun v M7 hv => ?_) h
      obtain ⟨rfl, h⟩ := hv
      show fs_A2 g m_Mo_line 159 132 [(0, fs_r 226), (1, fs_i x1)] [] M7 K
      refine a_goto (tgt := 233) d_Mo_line_132 rfl ?_
      refine a_sub [0] rfl ?_
      exact h
    ·
      by_cases q95_1 : x1 = 1
      · have h := hs95_1 q95_1
        refine a_tableIn (tgt := 135) d_Mo_line_95 (by omega) (by omega) (by rw [q95_1]; rfl) rfl ?_
        refine a_iconst d_Mo_line_135 (by unfold fs_in32; omega) ?_
        refine a_aload_n (j := 0) d_Mo_line_136 rfl rfl ?_
        refine a_iconst d_Mo_line_137 (by unfold fs_in32; omega) ?_
        refine b_virtual (dc := 1) (ci := 11) (T := fs_T11) (N := 78) [fs_i 1] [fs_i 3] d_Mo_line_138 ml_Mo_230 k_Mo_fresher v_Mo_fresher rfl io_226 rfl (Nat.le_of_ble_eq_true rfl) rfl (Nat.le_of_ble_eq_true rfl) ?_
        refine fs_Call.mono (fun v M8 hv => ?_) h
        obtain ⟨r8, rfl, h⟩ := hv
        show fs_A2 g m_Mo_line 159 141 [(0, fs_r 226), (1, fs_i x1)] [fs_i r8, fs_i 3] M8 K
        refine a_iadd d_Mo_line_141 ?_
        refine a_istore_n d_Mo_line_142 rfl (Nat.le_of_ble_eq_true rfl) [1, 2, 0] rfl ?_
        refine a_aload_n (j := 0) d_Mo_line_143 rfl rfl ?_
        refine b_getptr (q := 234) d_Mo_line_144 fl_Mo_32 io_226 rfl rfl rfl ?_
        refine a_iload_n (j := 2) d_Mo_line_147 rfl rfl ?_
        refine a_aload_n (j := 0) d_Mo_line_148 rfl rfl ?_
        refine a_aload_n (j := 0) d_Mo_line_149 rfl rfl ?_
        refine b_getptr (q := 234) d_Mo_line_150 fl_Mo_32 io_226 rfl rfl rfl ?_
        refine a_iconst d_Mo_line_153 (by unfold fs_in32; omega) ?_
        refine a_aload_n (j := 0) d_Mo_line_154 rfl rfl ?_
        refine a_iconst d_Mo_line_155 (by unfold fs_in32; omega) ?_
        refine b_virtual (dc := 1) (ci := 11) (T := fs_T11) (N := 78) [fs_i 1] [fs_i 3, fs_r 234, fs_r 226, fs_i (fs_w32 (3 + r8)), fs_r 234] d_Mo_line_156 ml_Mo_230 k_Mo_fresher v_Mo_fresher rfl io_226 rfl (Nat.le_of_ble_eq_true rfl) rfl (Nat.le_of_ble_eq_true rfl) ?_
        refine fs_Call.mono (fun v M9 hv => ?_) h
        obtain ⟨r9, rfl, h⟩ := hv
        show fs_A2 g m_Mo_line 159 159 [(0, fs_r 226), (1, fs_i x1), (2, fs_i (fs_w32 (3 + r8)))] [fs_i r9, fs_i 3, fs_r 234, fs_r 226, fs_i (fs_w32 (3 + r8)), fs_r 234] M9 K
        refine b_virtual (dc := 7) (ci := 11) (T := fs_T11) (N := 78) [fs_r 234, fs_i 3, fs_i r9] [fs_i (fs_w32 (3 + r8)), fs_r 234] d_Mo_line_159 ml_Mo_240 k_Mo_fresh v_Mo_fresh rfl io_226 rfl (Nat.le_of_ble_eq_true rfl) rfl (Nat.le_of_ble_eq_true rfl) ?_
        refine fs_Call.mono (fun v M10 hv => ?_) h
        obtain ⟨r10, rfl, h⟩ := hv
        show fs_A2 g m_Mo_line 159 162 [(0, fs_r 226), (1, fs_i x1), (2, fs_i (fs_w32 (3 + r8)))] [fs_i r10, fs_i (fs_w32 (3 + r8)), fs_r 234] M10 K
        obtain ⟨o6, o7, h⟩ := h
        refine b_iastore d_Mo_line_162 ia_234 o6 o7 ?_
        refine a_aload_n (j := 0) d_Mo_line_163 rfl rfl ?_
        refine b_getptr (q := 235) d_Mo_line_164 fl_Mo_35 io_226 rfl rfl rfl ?_
        refine a_iload_n (j := 2) d_Mo_line_167 rfl rfl ?_
        refine a_aload_n (j := 0) d_Mo_line_168 rfl rfl ?_
        refine a_iconst d_Mo_line_169 (by unfold fs_in32; omega) ?_
        refine a_bipush d_Mo_line_170 (by decide) ?_
        refine b_virtual (dc := 7) (ci := 11) (T := fs_T11) (N := 78) [fs_i 0, fs_i 99] [fs_i (fs_w32 (3 + r8)), fs_r 235] d_Mo_line_172 ml_Mo_244 k_Mo_numeral v_Mo_numeral rfl io_226 rfl (Nat.le_of_ble_eq_true rfl) rfl (Nat.le_of_ble_eq_true rfl) ?_
        refine fs_Call.mono (fun v M11 hv => ?_) h
        obtain ⟨r11, rfl, h⟩ := hv
        show fs_A2 g m_Mo_line 159 175 [(0, fs_r 226), (1, fs_i x1), (2, fs_i (fs_w32 (3 + r8)))] [fs_i r11, fs_i (fs_w32 (3 + r8)), fs_r 235] M11 K
        refine b_iastore d_Mo_line_175 ia_235 o6 o7 ?_
        refine a_aload_n (j := 0) d_Mo_line_176 rfl rfl ?_
        refine b_getptr (q := 236) d_Mo_line_177 fl_Mo_38 io_226 rfl rfl rfl ?_
        refine a_iload_n (j := 2) d_Mo_line_180 rfl rfl ?_
        refine a_aload_n (j := 0) d_Mo_line_181 rfl rfl ?_
        refine a_iconst d_Mo_line_182 (by unfold fs_in32; omega) ?_
        refine a_bipush d_Mo_line_183 (by decide) ?_
        refine b_virtual (dc := 7) (ci := 11) (T := fs_T11) (N := 78) [fs_i 0, fs_i 9] [fs_i (fs_w32 (3 + r8)), fs_r 236] d_Mo_line_185 ml_Mo_244 k_Mo_numeral v_Mo_numeral rfl io_226 rfl (Nat.le_of_ble_eq_true rfl) rfl (Nat.le_of_ble_eq_true rfl) ?_
        refine fs_Call.mono (fun v M12 hv => ?_) h
        obtain ⟨r12, rfl, h⟩ := hv
        show fs_A2 g m_Mo_line 159 188 [(0, fs_r 226), (1, fs_i x1), (2, fs_i (fs_w32 (3 + r8)))] [fs_i r12, fs_i (fs_w32 (3 + r8)), fs_r 236] M12 K
        refine b_iastore d_Mo_line_188 ia_236 o6 o7 ?_
        refine a_aload_n (j := 0) d_Mo_line_189 rfl rfl ?_
        refine b_getptr (q := 228) d_Mo_line_190 fl_Mo_13 io_226 rfl rfl rfl ?_
        refine a_iconst d_Mo_line_193 (by unfold fs_in32; omega) ?_
        refine a_dup2 d_Mo_line_194 rfl rfl ?_
        refine b_iaload (v := M12 228 5) d_Mo_line_195 ia_228 (by decide) (by decide) rfl ?_
        refine a_iconst d_Mo_line_196 (by unfold fs_in32; omega) ?_
        refine a_iadd d_Mo_line_197 ?_
        refine b_iastore d_Mo_line_198 ia_228 (by decide) (by decide) ?_
        refine a_goto (tgt := 233) d_Mo_line_199 rfl ?_
        refine a_sub [0] rfl ?_
        exact h
      ·
        by_cases q95_2 : x1 = 2
        · have h := hs95_2 q95_2
          refine a_tableIn (tgt := 202) d_Mo_line_95 (by omega) (by omega) (by rw [q95_2]; rfl) rfl ?_
          refine a_aload_n (j := 0) d_Mo_line_202 rfl rfl ?_
          refine a_dup d_Mo_line_203 rfl ?_
          refine b_getfield (v := fs_i (M5 226 16)) d_Mo_line_204 fl_Mo_234 io_226 rfl ?_
          refine a_iconst d_Mo_line_207 (by unfold fs_in32; omega) ?_
          refine a_ior d_Mo_line_208 ?_
          refine b_putfield (x := (fs_or (M5 226 16) 1)) d_Mo_line_209 fl_Mo_234 io_226 rfl rfl fs_nar_int ?_
          refine a_aload_n (j := 0) d_Mo_line_212 rfl rfl ?_
          refine b_getptr (q := 228) d_Mo_line_213 fl_Mo_13 io_226 rfl rfl rfl ?_
          refine a_bipush d_Mo_line_216 (by decide) ?_
          refine a_aload_n (j := 0) d_Mo_line_218 rfl rfl ?_
          refine a_iconst d_Mo_line_219 (by unfold fs_in32; omega) ?_
          refine a_ldc d_Mo_line_220 cn_Mo_198 (by unfold fs_in32; omega) ?_
          refine b_virtual (dc := 7) (ci := 11) (T := fs_T11) (N := 78) [fs_i 0, fs_i 99999] [fs_i 6, fs_r 228] d_Mo_line_222 ml_Mo_244 k_Mo_numeral v_Mo_numeral rfl io_226 rfl (Nat.le_of_ble_eq_true rfl) rfl (Nat.le_of_ble_eq_true rfl) ?_
          refine fs_Call.mono (fun v M13 hv => ?_) h
          obtain ⟨r13, rfl, h⟩ := hv
          show fs_A2 g m_Mo_line 159 225 [(0, fs_r 226), (1, fs_i x1)] [fs_i r13, fs_i 6, fs_r 228] M13 K
          refine b_iastore d_Mo_line_225 ia_228 (by decide) (by decide) ?_
          refine a_goto (tgt := 233) d_Mo_line_226 rfl ?_
          refine a_sub [0] rfl ?_
          exact h
        ·
          have h := hs95_3 ⟨q95_0, q95_1, q95_2⟩
          refine a_tableOut (tgt := 229) d_Mo_line_95 (by omega) rfl ?_
          refine a_aload_n (j := 0) d_Mo_line_229 rfl rfl ?_
          refine b_virtual (dc := 158) (ci := 11) (T := fs_T11) (N := 78) [] [] d_Mo_line_230 ml_Mo_248 k_Mo_lawLine v_Mo_lawLine rfl io_226 rfl (Nat.le_of_ble_eq_true rfl) rfl (Nat.le_of_ble_eq_true rfl) ?_
          refine fs_Call.mono (fun v M14 hv => ?_) h
          obtain ⟨rfl, h⟩ := hv
          show fs_A2 g m_Mo_line 159 233 [(0, fs_r 226), (1, fs_i x1)] [] M14 K
          refine a_sub [0] rfl ?_
          exact h
  · have h := h.2 c5
    exact b_return d_Mo_line_89 rfl h
set_option maxRecDepth 8000 in
set_option maxHeartbeats 4000000 in
theorem L_Mo_line_233 {M : fs_M} {K : fs_K} 
    (h : ((M 226 23 = 0 → fs_C2 g m_Mo_isSign 1 [fs_r 226, fs_i 59] M (fun v M15 => ∃ r15, v = some (fs_i r15) ∧ ((¬ r15 = 0 → fs_C2 g m_Mo_token 6 [fs_r 226] M15 (fun v M16 => v = none ∧ fs_A2 g m_Mo_line 159 262 [(0, fs_r 226)] [] M16 K)) ∧ (r15 = 0 → fs_C2 g m_Mo_wrong 1 [fs_r 226, fs_i 1] M15 (fun v M17 => v = none ∧ fs_A2 g m_Mo_line 159 262 [(0, fs_r 226)] [] M17 K))))) ∧ (¬ M 226 23 = 0 → K none M))) :
    fs_A2 g m_Mo_line 159 233 [(0, fs_r 226)] [] M K := by
  refine a_aload_n (j := 0) d_Mo_line_233 rfl rfl ?_
  refine b_getfield (v := fs_i (M 226 23)) d_Mo_line_234 fl_Mo_214 io_226 rfl ?_
  refine a_if_eq (tgt := 241) d_Mo_line_237 rfl (fun c8 => ?_) (fun c8 => ?_)
  · have h := h.1 c8
    refine a_aload_n (j := 0) d_Mo_line_241 rfl rfl ?_
    refine a_bipush d_Mo_line_242 (by decide) ?_
    refine b_virtual (dc := 1) (ci := 11) (T := fs_T11) (N := 78) [fs_i 59] [] d_Mo_line_244 ml_Mo_251 k_Mo_isSign v_Mo_isSign rfl io_226 rfl (Nat.le_of_ble_eq_true rfl) rfl (Nat.le_of_ble_eq_true rfl) ?_
    refine fs_Call.mono (fun v M15 hv => ?_) h
    obtain ⟨r15, rfl, h⟩ := hv
    show fs_A2 g m_Mo_line 159 247 [(0, fs_r 226)] [fs_i r15] M15 K
    refine a_if_ne (tgt := 258) d_Mo_line_247 rfl (fun c9 => ?_) (fun c9 => ?_)
    · have h := h.1 c9
      refine a_aload_n (j := 0) d_Mo_line_258 rfl rfl ?_
      refine b_virtual (dc := 6) (ci := 11) (T := fs_T11) (N := 78) [] [] d_Mo_line_259 ml_Mo_220 k_Mo_token v_Mo_token rfl io_226 rfl (Nat.le_of_ble_eq_true rfl) rfl (Nat.le_of_ble_eq_true rfl) ?_
      refine fs_Call.mono (fun v M16 hv => ?_) h
      obtain ⟨rfl, h⟩ := hv
      show fs_A2 g m_Mo_line 159 262 [(0, fs_r 226)] [] M16 K
      exact h
    · have h := h.2 c9
      refine a_aload_n (j := 0) d_Mo_line_250 rfl rfl ?_
      refine a_iconst d_Mo_line_251 (by unfold fs_in32; omega) ?_
      refine b_virtual (dc := 1) (ci := 11) (T := fs_T11) (N := 78) [fs_i 1] [] d_Mo_line_252 ml_Mo_223 k_Mo_wrong v_Mo_wrong rfl io_226 rfl (Nat.le_of_ble_eq_true rfl) rfl (Nat.le_of_ble_eq_true rfl) ?_
      refine fs_Call.mono (fun v M17 hv => ?_) h
      obtain ⟨rfl, h⟩ := hv
      show fs_A2 g m_Mo_line 159 255 [(0, fs_r 226)] [] M17 K
      refine a_goto (tgt := 262) d_Mo_line_255 rfl ?_
      exact h
  · have h := h.2 c8
    exact b_return d_Mo_line_240 rfl h
set_option maxRecDepth 8000 in
set_option maxHeartbeats 4000000 in
theorem L_Mo_line_262 {M : fs_M} {K : fs_K} 
    (h : K none (fs_st M 226 17 (fs_w32 ((M 226 17) + 1)))) :
    fs_A2 g m_Mo_line 159 262 [(0, fs_r 226)] [] M K := by
  refine a_aload_n (j := 0) d_Mo_line_262 rfl rfl ?_
  refine a_dup d_Mo_line_263 rfl ?_
  refine b_getfield (v := fs_i (M 226 17)) d_Mo_line_264 fl_Mo_254 io_226 rfl ?_
  refine a_iconst d_Mo_line_267 (by unfold fs_in32; omega) ?_
  refine a_iadd d_Mo_line_268 ?_
  refine b_putfield (x := (fs_w32 ((M 226 17) + 1))) d_Mo_line_269 fl_Mo_254 io_226 rfl rfl fs_nar_int ?_
  exact b_return d_Mo_line_272 rfl h
set_option maxRecDepth 8000 in
set_option maxHeartbeats 4000000 in
theorem L_Mo_line_40 {M : fs_M} {K : fs_K} {x1 : Int} 
    (h : ((¬ x1 = 1 → fs_A2 g m_Mo_line 159 62 [(0, fs_r 226), (1, fs_i x1)] [] M K) ∧ (x1 = 1 → fs_C2 g m_Mo_fresher 1 [fs_r 226, fs_i 1] M (fun v M18 => ∃ r18, v = some (fs_i r18) ∧ ((¬ r18 = 3 → fs_A2 g m_Mo_line 159 62 [(0, fs_r 226), (1, fs_i x1)] [] M18 K) ∧ (r18 = 3 → fs_C2 g m_Mo_wrong 1 [fs_r 226, fs_i 2] M18 (fun v M19 => v = none ∧ fs_A2 g m_Mo_line 159 82 [(0, fs_r 226), (1, fs_i x1)] [] M19 K))))))) :
    fs_A2 g m_Mo_line 159 40 [(0, fs_r 226), (1, fs_i x1)] [] M K := by
  refine a_iload_n (j := 1) d_Mo_line_40 rfl rfl ?_
  refine a_iconst d_Mo_line_41 (by unfold fs_in32; omega) ?_
  refine a_icmp_ne (tgt := 62) d_Mo_line_42 rfl (fun c10 => ?_) (fun c10 => ?_)
  · have h := h.1 c10
    exact h
  · have h := h.2 c10
    refine a_aload_n (j := 0) d_Mo_line_45 rfl rfl ?_
    refine a_iconst d_Mo_line_46 (by unfold fs_in32; omega) ?_
    refine b_virtual (dc := 1) (ci := 11) (T := fs_T11) (N := 78) [fs_i 1] [] d_Mo_line_47 ml_Mo_230 k_Mo_fresher v_Mo_fresher rfl io_226 rfl (Nat.le_of_ble_eq_true rfl) rfl (Nat.le_of_ble_eq_true rfl) ?_
    refine fs_Call.mono (fun v M18 hv => ?_) h
    obtain ⟨r18, rfl, h⟩ := hv
    show fs_A2 g m_Mo_line 159 50 [(0, fs_r 226), (1, fs_i x1)] [fs_i r18] M18 K
    refine a_iconst d_Mo_line_50 (by unfold fs_in32; omega) ?_
    refine a_icmp_ne (tgt := 62) d_Mo_line_51 rfl (fun c11 => ?_) (fun c11 => ?_)
    · have h := h.1 c11
      exact h
    · have h := h.2 c11
      refine a_aload_n (j := 0) d_Mo_line_54 rfl rfl ?_
      refine a_iconst d_Mo_line_55 (by unfold fs_in32; omega) ?_
      refine b_virtual (dc := 1) (ci := 11) (T := fs_T11) (N := 78) [fs_i 2] [] d_Mo_line_56 ml_Mo_223 k_Mo_wrong v_Mo_wrong rfl io_226 rfl (Nat.le_of_ble_eq_true rfl) rfl (Nat.le_of_ble_eq_true rfl) ?_
      refine fs_Call.mono (fun v M19 hv => ?_) h
      obtain ⟨rfl, h⟩ := hv
      show fs_A2 g m_Mo_line 159 59 [(0, fs_r 226), (1, fs_i x1)] [] M19 K
      refine a_goto (tgt := 82) d_Mo_line_59 rfl ?_
      exact h
set_option maxRecDepth 8000 in
set_option maxHeartbeats 4000000 in
theorem L_Mo_line_62 {M : fs_M} {K : fs_K} {x1 : Int} 
    (h : ((¬ x1 = 2 → fs_A2 g m_Mo_line 159 82 [(0, fs_r 226), (1, fs_i x1)] [] M K) ∧ (x1 = 2 → ((¬ fs_and (M 226 16) 1 = 1 → fs_A2 g m_Mo_line 159 82 [(0, fs_r 226), (1, fs_i x1)] [] M K) ∧ (fs_and (M 226 16) 1 = 1 → fs_C2 g m_Mo_wrong 1 [fs_r 226, fs_i 3] M (fun v M20 => v = none ∧ fs_A2 g m_Mo_line 159 82 [(0, fs_r 226), (1, fs_i x1)] [] M20 K)))))) :
    fs_A2 g m_Mo_line 159 62 [(0, fs_r 226), (1, fs_i x1)] [] M K := by
  refine a_iload_n (j := 1) d_Mo_line_62 rfl rfl ?_
  refine a_iconst d_Mo_line_63 (by unfold fs_in32; omega) ?_
  refine a_icmp_ne (tgt := 82) d_Mo_line_64 rfl (fun c12 => ?_) (fun c12 => ?_)
  · have h := h.1 c12
    exact h
  · have h := h.2 c12
    refine a_aload_n (j := 0) d_Mo_line_67 rfl rfl ?_
    refine b_getfield (v := fs_i (M 226 16)) d_Mo_line_68 fl_Mo_234 io_226 rfl ?_
    refine a_iconst d_Mo_line_71 (by unfold fs_in32; omega) ?_
    refine a_iand d_Mo_line_72 ?_
    refine a_iconst d_Mo_line_73 (by unfold fs_in32; omega) ?_
    refine a_icmp_ne (tgt := 82) d_Mo_line_74 rfl (fun c13 => ?_) (fun c13 => ?_)
    · have h := h.1 c13
      exact h
    · have h := h.2 c13
      refine a_aload_n (j := 0) d_Mo_line_77 rfl rfl ?_
      refine a_iconst d_Mo_line_78 (by unfold fs_in32; omega) ?_
      refine b_virtual (dc := 1) (ci := 11) (T := fs_T11) (N := 78) [fs_i 3] [] d_Mo_line_79 ml_Mo_223 k_Mo_wrong v_Mo_wrong rfl io_226 rfl (Nat.le_of_ble_eq_true rfl) rfl (Nat.le_of_ble_eq_true rfl) ?_
      refine fs_Call.mono (fun v M20 hv => ?_) h
      obtain ⟨rfl, h⟩ := hv
      show fs_A2 g m_Mo_line 159 82 [(0, fs_r 226), (1, fs_i x1)] [] M20 K
      exact h
set_option maxRecDepth 8000 in
set_option maxHeartbeats 4000000 in
theorem E_Mo_wrong {M : fs_M} {K : fs_K} {x1 : Int} 
    (h : ((M 226 23 = 0 → K none (fs_st (fs_st M 226 23 x1) 226 24 (M 226 20))) ∧ (¬ M 226 23 = 0 → K none M))) :
    fs_C2 g m_Mo_wrong 1 [fs_r 226, fs_i x1] M K := by
  refine b_enter2 (ls := [(0, fs_r 226), (1, fs_i x1)]) (plainFor_of_name pn_Mo) (Nat.le_of_ble_eq_true rfl) rfl ?_
  refine a_aload_n (j := 0) d_Mo_wrong_0 rfl rfl ?_
  refine b_getfield (v := fs_i (M 226 23)) d_Mo_wrong_1 fl_Mo_214 io_226 rfl ?_
  refine a_if_eq (tgt := 8) d_Mo_wrong_4 rfl (fun c1 => ?_) (fun c1 => ?_)
  · have h := h.1 c1
    refine a_aload_n (j := 0) d_Mo_wrong_8 rfl rfl ?_
    refine a_iload_n (j := 1) d_Mo_wrong_9 rfl rfl ?_
    refine b_putfield (x := x1) d_Mo_wrong_10 fl_Mo_214 io_226 rfl rfl fs_nar_int ?_
    refine a_aload_n (j := 0) d_Mo_wrong_13 rfl rfl ?_
    refine a_aload_n (j := 0) d_Mo_wrong_14 rfl rfl ?_
    refine b_getfield (v := fs_i (M 226 20)) d_Mo_wrong_15 fl_Mo_176 io_226 rfl ?_
    refine b_putfield (x := (M 226 20)) d_Mo_wrong_18 fl_Mo_217 io_226 rfl rfl fs_nar_int ?_
    exact b_return d_Mo_wrong_21 rfl h
  · have h := h.2 c1
    exact b_return d_Mo_wrong_7 rfl h
set_option maxRecDepth 8000 in
set_option maxHeartbeats 4000000 in
theorem E_Mo_fresher {M : fs_M} {K : fs_K} {x1 : Int} 
    (h : (0 ≤ fs_w32 (4 + x1) ∧ fs_w32 (4 + x1) < 8 ∧ K (some (fs_i (M 228 (fs_w32 (4 + x1))))) M)) :
    fs_C2 g m_Mo_fresher 1 [fs_r 226, fs_i x1] M K := by
  refine b_enter2 (ls := [(0, fs_r 226), (1, fs_i x1)]) (plainFor_of_name pn_Mo) (Nat.le_of_ble_eq_true rfl) rfl ?_
  refine a_aload_n (j := 0) d_Mo_fresher_0 rfl rfl ?_
  refine b_getptr (q := 228) d_Mo_fresher_1 fl_Mo_13 io_226 rfl rfl rfl ?_
  refine a_iconst d_Mo_fresher_4 (by unfold fs_in32; omega) ?_
  refine a_iload_n (j := 1) d_Mo_fresher_5 rfl rfl ?_
  refine a_iadd d_Mo_fresher_6 ?_
  obtain ⟨o1, o2, h⟩ := h
  refine b_iaload (v := M 228 (fs_w32 (4 + x1))) d_Mo_fresher_7 ia_228 o1 o2 rfl ?_
  exact b_ireturn d_Mo_fresher_8 rfl rfl h
set_option maxRecDepth 8000 in
set_option maxHeartbeats 4000000 in
theorem E_Mo_houseLine {M : fs_M} {K : fs_K} {x1 : Int} 
    (h : fs_C2 g m_Mo_fresher 1 [fs_r 226, fs_i 0] M (fun v M1 => ∃ r1, v = some (fs_i r1) ∧ fs_C2 g m_Mo_fresh 7 [fs_r 226, fs_r 229, fs_i 6, fs_i r1] M1 (fun v M2 => ∃ r2, v = some (fs_i r2) ∧ (0 ≤ x1 ∧ x1 < 12 ∧ fs_C2 g m_Mo_numeral 7 [fs_r 226, fs_i 0, fs_i 99] (fs_st M2 229 x1 r2) (fun v M3 => ∃ r3, v = some (fs_i r3) ∧ fs_C2 g m_Mo_numeral 7 [fs_r 226, fs_i 0, fs_i 99] (fs_st M3 230 x1 r3) (fun v M4 => ∃ r4, v = some (fs_i r4) ∧ fs_C2 g m_Mo_isWord 1 [fs_r 226, fs_i 4] (fs_st (fs_st M4 231 x1 r4) 232 x1 240) (fun v M5 => ∃ r5, v = some (fs_i r5) ∧ ((r5 = 0 → fs_A2 g m_Mo_houseLine 8 82 [(0, fs_r 226), (1, fs_i x1)] [] M5 K) ∧ (¬ r5 = 0 → fs_C2 g m_Mo_token 6 [fs_r 226] M5 (fun v M6 => v = none ∧ fs_C2 g m_Mo_numeral 7 [fs_r 226, fs_i 1, fs_i 240] M6 (fun v M7 => ∃ r7, v = some (fs_i r7) ∧ fs_A2 g m_Mo_houseLine 8 82 [(0, fs_r 226), (1, fs_i x1)] [] (fs_st M7 232 x1 r7) K))))))))))) :
    fs_C2 g m_Mo_houseLine 8 [fs_r 226, fs_i x1] M K := by
  refine b_enter2 (ls := [(0, fs_r 226), (1, fs_i x1)]) (plainFor_of_name pn_Mo) (Nat.le_of_ble_eq_true rfl) rfl ?_
  refine a_aload_n (j := 0) d_Mo_houseLine_0 rfl rfl ?_
  refine b_getptr (q := 229) d_Mo_houseLine_1 fl_Mo_16 io_226 rfl rfl rfl ?_
  refine a_iload_n (j := 1) d_Mo_houseLine_4 rfl rfl ?_
  refine a_aload_n (j := 0) d_Mo_houseLine_5 rfl rfl ?_
  refine a_aload_n (j := 0) d_Mo_houseLine_6 rfl rfl ?_
  refine b_getptr (q := 229) d_Mo_houseLine_7 fl_Mo_16 io_226 rfl rfl rfl ?_
  refine a_bipush d_Mo_houseLine_10 (by decide) ?_
  refine a_aload_n (j := 0) d_Mo_houseLine_12 rfl rfl ?_
  refine a_iconst d_Mo_houseLine_13 (by unfold fs_in32; omega) ?_
  refine b_virtual (dc := 1) (ci := 11) (T := fs_T11) (N := 78) [fs_i 0] [fs_i 6, fs_r 229, fs_r 226, fs_i x1, fs_r 229] d_Mo_houseLine_14 ml_Mo_230 k_Mo_fresher v_Mo_fresher rfl io_226 rfl (Nat.le_of_ble_eq_true rfl) rfl (Nat.le_of_ble_eq_true rfl) ?_
  refine fs_Call.mono (fun v M1 hv => ?_) h
  obtain ⟨r1, rfl, h⟩ := hv
  show fs_A2 g m_Mo_houseLine 8 17 [(0, fs_r 226), (1, fs_i x1)] [fs_i r1, fs_i 6, fs_r 229, fs_r 226, fs_i x1, fs_r 229] M1 K
  refine b_virtual (dc := 7) (ci := 11) (T := fs_T11) (N := 78) [fs_r 229, fs_i 6, fs_i r1] [fs_i x1, fs_r 229] d_Mo_houseLine_17 ml_Mo_240 k_Mo_fresh v_Mo_fresh rfl io_226 rfl (Nat.le_of_ble_eq_true rfl) rfl (Nat.le_of_ble_eq_true rfl) ?_
  refine fs_Call.mono (fun v M2 hv => ?_) h
  obtain ⟨r2, rfl, h⟩ := hv
  show fs_A2 g m_Mo_houseLine 8 20 [(0, fs_r 226), (1, fs_i x1)] [fs_i r2, fs_i x1, fs_r 229] M2 K
  obtain ⟨o1, o2, h⟩ := h
  refine b_iastore d_Mo_houseLine_20 ia_229 o1 o2 ?_
  refine a_aload_n (j := 0) d_Mo_houseLine_21 rfl rfl ?_
  refine b_getptr (q := 230) d_Mo_houseLine_22 fl_Mo_19 io_226 rfl rfl rfl ?_
  refine a_iload_n (j := 1) d_Mo_houseLine_25 rfl rfl ?_
  refine a_aload_n (j := 0) d_Mo_houseLine_26 rfl rfl ?_
  refine a_iconst d_Mo_houseLine_27 (by unfold fs_in32; omega) ?_
  refine a_bipush d_Mo_houseLine_28 (by decide) ?_
  refine b_virtual (dc := 7) (ci := 11) (T := fs_T11) (N := 78) [fs_i 0, fs_i 99] [fs_i x1, fs_r 230] d_Mo_houseLine_30 ml_Mo_244 k_Mo_numeral v_Mo_numeral rfl io_226 rfl (Nat.le_of_ble_eq_true rfl) rfl (Nat.le_of_ble_eq_true rfl) ?_
  refine fs_Call.mono (fun v M3 hv => ?_) h
  obtain ⟨r3, rfl, h⟩ := hv
  show fs_A2 g m_Mo_houseLine 8 33 [(0, fs_r 226), (1, fs_i x1)] [fs_i r3, fs_i x1, fs_r 230] M3 K
  refine b_iastore d_Mo_houseLine_33 ia_230 o1 o2 ?_
  refine a_aload_n (j := 0) d_Mo_houseLine_34 rfl rfl ?_
  refine b_getptr (q := 231) d_Mo_houseLine_35 fl_Mo_22 io_226 rfl rfl rfl ?_
  refine a_iload_n (j := 1) d_Mo_houseLine_38 rfl rfl ?_
  refine a_aload_n (j := 0) d_Mo_houseLine_39 rfl rfl ?_
  refine a_iconst d_Mo_houseLine_40 (by unfold fs_in32; omega) ?_
  refine a_bipush d_Mo_houseLine_41 (by decide) ?_
  refine b_virtual (dc := 7) (ci := 11) (T := fs_T11) (N := 78) [fs_i 0, fs_i 99] [fs_i x1, fs_r 231] d_Mo_houseLine_43 ml_Mo_244 k_Mo_numeral v_Mo_numeral rfl io_226 rfl (Nat.le_of_ble_eq_true rfl) rfl (Nat.le_of_ble_eq_true rfl) ?_
  refine fs_Call.mono (fun v M4 hv => ?_) h
  obtain ⟨r4, rfl, h⟩ := hv
  show fs_A2 g m_Mo_houseLine 8 46 [(0, fs_r 226), (1, fs_i x1)] [fs_i r4, fs_i x1, fs_r 231] M4 K
  refine b_iastore d_Mo_houseLine_46 ia_231 o1 o2 ?_
  refine a_aload_n (j := 0) d_Mo_houseLine_47 rfl rfl ?_
  refine b_getptr (q := 232) d_Mo_houseLine_48 fl_Mo_25 io_226 rfl rfl rfl ?_
  refine a_iload_n (j := 1) d_Mo_houseLine_51 rfl rfl ?_
  refine a_sipush d_Mo_houseLine_52 (by decide) ?_
  refine b_iastore d_Mo_houseLine_55 ia_232 o1 o2 ?_
  refine a_aload_n (j := 0) d_Mo_houseLine_56 rfl rfl ?_
  refine a_iconst d_Mo_houseLine_57 (by unfold fs_in32; omega) ?_
  refine b_virtual (dc := 1) (ci := 11) (T := fs_T11) (N := 78) [fs_i 4] [] d_Mo_houseLine_58 ml_Mo_257 k_Mo_isWord v_Mo_isWord rfl io_226 rfl (Nat.le_of_ble_eq_true rfl) rfl (Nat.le_of_ble_eq_true rfl) ?_
  refine fs_Call.mono (fun v M5 hv => ?_) h
  obtain ⟨r5, rfl, h⟩ := hv
  show fs_A2 g m_Mo_houseLine 8 61 [(0, fs_r 226), (1, fs_i x1)] [fs_i r5] M5 K
  refine a_if_eq (tgt := 82) d_Mo_houseLine_61 rfl (fun c3 => ?_) (fun c3 => ?_)
  · have h := h.1 c3
    exact h
  · have h := h.2 c3
    refine a_aload_n (j := 0) d_Mo_houseLine_64 rfl rfl ?_
    refine b_virtual (dc := 6) (ci := 11) (T := fs_T11) (N := 78) [] [] d_Mo_houseLine_65 ml_Mo_220 k_Mo_token v_Mo_token rfl io_226 rfl (Nat.le_of_ble_eq_true rfl) rfl (Nat.le_of_ble_eq_true rfl) ?_
    refine fs_Call.mono (fun v M6 hv => ?_) h
    obtain ⟨rfl, h⟩ := hv
    show fs_A2 g m_Mo_houseLine 8 68 [(0, fs_r 226), (1, fs_i x1)] [] M6 K
    refine a_aload_n (j := 0) d_Mo_houseLine_68 rfl rfl ?_
    refine b_getptr (q := 232) d_Mo_houseLine_69 fl_Mo_25 io_226 rfl rfl rfl ?_
    refine a_iload_n (j := 1) d_Mo_houseLine_72 rfl rfl ?_
    refine a_aload_n (j := 0) d_Mo_houseLine_73 rfl rfl ?_
    refine a_iconst d_Mo_houseLine_74 (by unfold fs_in32; omega) ?_
    refine a_sipush d_Mo_houseLine_75 (by decide) ?_
    refine b_virtual (dc := 7) (ci := 11) (T := fs_T11) (N := 78) [fs_i 1, fs_i 240] [fs_i x1, fs_r 232] d_Mo_houseLine_78 ml_Mo_244 k_Mo_numeral v_Mo_numeral rfl io_226 rfl (Nat.le_of_ble_eq_true rfl) rfl (Nat.le_of_ble_eq_true rfl) ?_
    refine fs_Call.mono (fun v M7 hv => ?_) h
    obtain ⟨r7, rfl, h⟩ := hv
    show fs_A2 g m_Mo_houseLine 8 81 [(0, fs_r 226), (1, fs_i x1)] [fs_i r7, fs_i x1, fs_r 232] M7 K
    refine b_iastore d_Mo_houseLine_81 ia_232 o1 o2 ?_
    exact h
set_option maxRecDepth 8000 in
set_option maxHeartbeats 4000000 in
theorem L_Mo_houseLine_82 {M : fs_M} {K : fs_K} {x1 : Int} 
    (h : fs_C2 g m_Mo_isWord 1 [fs_r 226, fs_i 5] M (fun v M8 => ∃ r8, v = some (fs_i r8) ∧ (0 ≤ x1 ∧ x1 < 12 ∧ (r8 = 0 ∨ r8 = 1) ∧ ((r8 = 0 → fs_A2 g m_Mo_houseLine 8 106 [(0, fs_r 226)] [] (fs_st M8 233 x1 r8) K) ∧ (¬ r8 = 0 → fs_C2 g m_Mo_token 6 [fs_r 226] (fs_st M8 233 x1 r8) (fun v M9 => v = none ∧ fs_A2 g m_Mo_houseLine 8 106 [(0, fs_r 226)] [] M9 K)))))) :
    fs_A2 g m_Mo_houseLine 8 82 [(0, fs_r 226), (1, fs_i x1)] [] M K := by
  refine a_aload_n (j := 0) d_Mo_houseLine_82 rfl rfl ?_
  refine b_getptr (q := 233) d_Mo_houseLine_83 fl_Mo_28 io_226 rfl rfl rfl ?_
  refine a_iload_n (j := 1) d_Mo_houseLine_86 rfl rfl ?_
  refine a_aload_n (j := 0) d_Mo_houseLine_87 rfl rfl ?_
  refine a_iconst d_Mo_houseLine_88 (by unfold fs_in32; omega) ?_
  refine b_virtual (dc := 1) (ci := 11) (T := fs_T11) (N := 78) [fs_i 5] [fs_i x1, fs_r 233] d_Mo_houseLine_89 ml_Mo_257 k_Mo_isWord v_Mo_isWord rfl io_226 rfl (Nat.le_of_ble_eq_true rfl) rfl (Nat.le_of_ble_eq_true rfl) ?_
  refine fs_Call.mono (fun v M8 hv => ?_) h
  obtain ⟨r8, rfl, h⟩ := hv
  show fs_A2 g m_Mo_houseLine 8 92 [(0, fs_r 226), (1, fs_i x1)] [fs_i r8, fs_i x1, fs_r 233] M8 K
  obtain ⟨o4, o5, o6, h⟩ := h
  refine b_bastore d_Mo_houseLine_92 ia_233 o4 o5 o6 ?_
  refine a_aload_n (j := 0) d_Mo_houseLine_93 rfl rfl ?_
  refine b_getptr (q := 233) d_Mo_houseLine_94 fl_Mo_28 io_226 rfl rfl rfl ?_
  refine a_iload_n (j := 1) d_Mo_houseLine_97 rfl rfl ?_
  refine b_baload (v := r8) d_Mo_houseLine_98 ia_233 o4 o5 (fs_st_s) ?_
  refine a_if_eq (tgt := 106) d_Mo_houseLine_99 rfl (fun c7 => ?_) (fun c7 => ?_)
  · have h := h.1 c7
    refine a_sub [0] rfl ?_
    exact h
  · have h := h.2 c7
    refine a_aload_n (j := 0) d_Mo_houseLine_102 rfl rfl ?_
    refine b_virtual (dc := 6) (ci := 11) (T := fs_T11) (N := 78) [] [] d_Mo_houseLine_103 ml_Mo_220 k_Mo_token v_Mo_token rfl io_226 rfl (Nat.le_of_ble_eq_true rfl) rfl (Nat.le_of_ble_eq_true rfl) ?_
    refine fs_Call.mono (fun v M9 hv => ?_) h
    obtain ⟨rfl, h⟩ := hv
    show fs_A2 g m_Mo_houseLine 8 106 [(0, fs_r 226), (1, fs_i x1)] [] M9 K
    refine a_sub [0] rfl ?_
    exact h
set_option maxRecDepth 8000 in
set_option maxHeartbeats 4000000 in
theorem L_Mo_houseLine_106 {M : fs_M} {K : fs_K} 
    (h : K none (fs_st M 228 4 (fs_w32 ((M 228 4) + 1)))) :
    fs_A2 g m_Mo_houseLine 8 106 [(0, fs_r 226)] [] M K := by
  refine a_aload_n (j := 0) d_Mo_houseLine_106 rfl rfl ?_
  refine b_getptr (q := 228) d_Mo_houseLine_107 fl_Mo_13 io_226 rfl rfl rfl ?_
  refine a_iconst d_Mo_houseLine_110 (by unfold fs_in32; omega) ?_
  refine a_dup2 d_Mo_houseLine_111 rfl rfl ?_
  refine b_iaload (v := M 228 4) d_Mo_houseLine_112 ia_228 (by decide) (by decide) rfl ?_
  refine a_iconst d_Mo_houseLine_113 (by unfold fs_in32; omega) ?_
  refine a_iadd d_Mo_houseLine_114 ?_
  refine b_iastore d_Mo_houseLine_115 ia_228 (by decide) (by decide) ?_
  exact b_return d_Mo_houseLine_116 rfl h
set_option maxRecDepth 8000 in
set_option maxHeartbeats 4000000 in
theorem E_Mo_fresh {M : fs_M} {K : fs_K} {x1 x2 x3 : Int} {n1 : Nat} (h1 : fs_isA 0 n1 x1) 
    (h : ((M 226 23 = 0 → ((M 226 21 = 1 → fs_C2 g m_Mo_found 1 [fs_r x1, fs_i x2, fs_i x3, fs_i (M 226 22)] M (fun v M1 => ∃ r1, v = some (fs_i r1) ∧ ((r1 = (-1) → fs_A2 g m_Mo_fresh 7 44 [(0, fs_r 226)] [] M1 K) ∧ (¬ r1 = (-1) → fs_C2 g m_Mo_wrong 1 [fs_r 226, fs_i 3] M1 (fun v M2 => v = none ∧ fs_A2 g m_Mo_fresh 7 44 [(0, fs_r 226)] [] M2 K))))) ∧ (¬ M 226 21 = 1 → fs_C2 g m_Mo_wrong 1 [fs_r 226, fs_i 1] M (fun v M3 => v = none ∧ fs_A2 g m_Mo_fresh 7 44 [(0, fs_r 226)] [] M3 K)))) ∧ (¬ M 226 23 = 0 → K (some (fs_i 0)) M))) :
    fs_C2 g m_Mo_fresh 7 [fs_r 226, fs_r x1, fs_i x2, fs_i x3] M K := by
  refine b_enter2 (ls := [(0, fs_r 226), (1, fs_r x1), (2, fs_i x2), (3, fs_i x3)]) (plainFor_of_name pn_Mo) (Nat.le_of_ble_eq_true rfl) rfl ?_
  refine a_aload_n (j := 0) d_Mo_fresh_0 rfl rfl ?_
  refine b_getfield (v := fs_i (M 226 23)) d_Mo_fresh_1 fl_Mo_214 io_226 rfl ?_
  refine a_if_eq (tgt := 9) d_Mo_fresh_4 rfl (fun c1 => ?_) (fun c1 => ?_)
  · have h := h.1 c1
    refine a_aload_n (j := 0) d_Mo_fresh_9 rfl rfl ?_
    refine b_getfield (v := fs_i (M 226 21)) d_Mo_fresh_10 fl_Mo_179 io_226 rfl ?_
    refine a_iconst d_Mo_fresh_13 (by unfold fs_in32; omega) ?_
    refine a_icmp_eq (tgt := 25) d_Mo_fresh_14 rfl (fun c2 => ?_) (fun c2 => ?_)
    · have h := h.1 c2
      refine a_aload_n (j := 1) d_Mo_fresh_25 rfl rfl ?_
      refine a_iload_n (j := 2) d_Mo_fresh_26 rfl rfl ?_
      refine a_iload_n (j := 3) d_Mo_fresh_27 rfl rfl ?_
      refine a_aload_n (j := 0) d_Mo_fresh_28 rfl rfl ?_
      refine b_getfield (v := fs_i (M 226 22)) d_Mo_fresh_29 fl_Mo_189 io_226 rfl ?_
      refine b_static (dc := 1) [fs_r x1, fs_i x2, fs_i x3, fs_i (M 226 22)] [] d_Mo_fresh_32 ml_Mo_226 k_Mo_found s_Mo_found rfl (Nat.le_of_ble_eq_true rfl) rfl (Nat.le_of_ble_eq_true rfl) ?_
      refine fs_Call.mono (fun v M1 hv => ?_) h
      obtain ⟨r1, rfl, h⟩ := hv
      show fs_A2 g m_Mo_fresh 7 35 [(0, fs_r 226), (1, fs_r x1), (2, fs_i x2), (3, fs_i x3)] [fs_i r1] M1 K
      refine a_iconst d_Mo_fresh_35 (by unfold fs_in32; omega) ?_
      refine a_icmp_eq (tgt := 44) d_Mo_fresh_36 rfl (fun c3 => ?_) (fun c3 => ?_)
      · have h := h.1 c3
        refine a_sub [0] rfl ?_
        exact h
      · have h := h.2 c3
        refine a_aload_n (j := 0) d_Mo_fresh_39 rfl rfl ?_
        refine a_iconst d_Mo_fresh_40 (by unfold fs_in32; omega) ?_
        refine b_virtual (dc := 1) (ci := 11) (T := fs_T11) (N := 78) [fs_i 3] [] d_Mo_fresh_41 ml_Mo_223 k_Mo_wrong v_Mo_wrong rfl io_226 rfl (Nat.le_of_ble_eq_true rfl) rfl (Nat.le_of_ble_eq_true rfl) ?_
        refine fs_Call.mono (fun v M2 hv => ?_) h
        obtain ⟨rfl, h⟩ := hv
        show fs_A2 g m_Mo_fresh 7 44 [(0, fs_r 226), (1, fs_r x1), (2, fs_i x2), (3, fs_i x3)] [] M2 K
        refine a_sub [0] rfl ?_
        exact h
    · have h := h.2 c2
      refine a_aload_n (j := 0) d_Mo_fresh_17 rfl rfl ?_
      refine a_iconst d_Mo_fresh_18 (by unfold fs_in32; omega) ?_
      refine b_virtual (dc := 1) (ci := 11) (T := fs_T11) (N := 78) [fs_i 1] [] d_Mo_fresh_19 ml_Mo_223 k_Mo_wrong v_Mo_wrong rfl io_226 rfl (Nat.le_of_ble_eq_true rfl) rfl (Nat.le_of_ble_eq_true rfl) ?_
      refine fs_Call.mono (fun v M3 hv => ?_) h
      obtain ⟨rfl, h⟩ := hv
      show fs_A2 g m_Mo_fresh 7 22 [(0, fs_r 226), (1, fs_r x1), (2, fs_i x2), (3, fs_i x3)] [] M3 K
      refine a_goto (tgt := 44) d_Mo_fresh_22 rfl ?_
      refine a_sub [0] rfl ?_
      exact h
  · have h := h.2 c1
    refine a_iconst d_Mo_fresh_7 (by unfold fs_in32; omega) ?_
    exact b_ireturn d_Mo_fresh_8 rfl rfl h
set_option maxRecDepth 8000 in
set_option maxHeartbeats 4000000 in
theorem L_Mo_fresh_44 {M : fs_M} {K : fs_K} 
    (h : ((M 226 23 = 0 → fs_C2 g m_Mo_token 6 [fs_r 226] M (fun v M4 => v = none ∧ K (some (fs_i (M 226 22))) M4)) ∧ (¬ M 226 23 = 0 → K (some (fs_i 0)) M))) :
    fs_A2 g m_Mo_fresh 7 44 [(0, fs_r 226)] [] M K := by
  refine a_aload_n (j := 0) d_Mo_fresh_44 rfl rfl ?_
  refine b_getfield (v := fs_i (M 226 23)) d_Mo_fresh_45 fl_Mo_214 io_226 rfl ?_
  refine a_if_eq (tgt := 53) d_Mo_fresh_48 rfl (fun c4 => ?_) (fun c4 => ?_)
  · have h := h.1 c4
    refine a_aload_n (j := 0) d_Mo_fresh_53 rfl rfl ?_
    refine b_getfield (v := fs_i (M 226 22)) d_Mo_fresh_54 fl_Mo_189 io_226 rfl ?_
    refine a_istore d_Mo_fresh_57 (Nat.le_of_ble_eq_true rfl) [1, 0] rfl ?_
    refine a_aload_n (j := 0) d_Mo_fresh_59 rfl rfl ?_
    refine b_virtual (dc := 6) (ci := 11) (T := fs_T11) (N := 78) [] [] d_Mo_fresh_60 ml_Mo_220 k_Mo_token v_Mo_token rfl io_226 rfl (Nat.le_of_ble_eq_true rfl) rfl (Nat.le_of_ble_eq_true rfl) ?_
    refine fs_Call.mono (fun v M4 hv => ?_) h
    obtain ⟨rfl, h⟩ := hv
    show fs_A2 g m_Mo_fresh 7 63 [(0, fs_r 226), (4, fs_i (M 226 22))] [] M4 K
    refine a_iload (j := 1) d_Mo_fresh_63 rfl ?_
    exact b_ireturn d_Mo_fresh_65 rfl rfl h
  · have h := h.2 c4
    refine a_iconst d_Mo_fresh_51 (by unfold fs_in32; omega) ?_
    exact b_ireturn d_Mo_fresh_52 rfl rfl h
set_option maxRecDepth 8000 in
set_option maxHeartbeats 4000000 in
theorem E_Mo_found {M : fs_M} {K : fs_K} {x0 x1 x2 x3 : Int} {n0 : Nat} (h0 : fs_isA 0 n0 x0) 
    (h : fs_A2 g m_Mo_found 1 3 [(0, fs_r x0), (1, fs_i x1), (2, fs_i x2), (3, fs_i x3), (4, fs_i 0)] [] M K) :
    fs_C2 g m_Mo_found 1 [fs_r x0, fs_i x1, fs_i x2, fs_i x3] M K := by
  refine b_enter2 (ls := [(0, fs_r x0), (1, fs_i x1), (2, fs_i x2), (3, fs_i x3)]) (plainFor_of_name pn_Mo) (Nat.le_of_ble_eq_true rfl) rfl ?_
  refine a_iconst d_Mo_found_0 (by unfold fs_in32; omega) ?_
  refine a_istore d_Mo_found_1 (Nat.le_of_ble_eq_true rfl) [1, 2, 3, 4, 0] rfl ?_
  exact h
set_option maxRecDepth 8000 in
set_option maxHeartbeats 4000000 in
theorem L_Mo_found_3 {M : fs_M} {K : fs_K} {x0 x1 x2 x3 x4 : Int} {n0 : Nat} (h0 : fs_isA 0 n0 x0) 
    (h : ((x2 ≤ x4 → K (some (fs_i (-1))) M) ∧ (¬ x2 ≤ x4 → (0 ≤ fs_w32 (x1 + x4) ∧ fs_w32 (x1 + x4) < n0 ∧ ((¬ M x0 (fs_w32 (x1 + x4)) = x3 → fs_A2 g m_Mo_found 1 3 [(0, fs_r x0), (1, fs_i x1), (2, fs_i x2), (3, fs_i x3), (4, fs_i (fs_w32 (x4 + 1)))] [] M K) ∧ (M x0 (fs_w32 (x1 + x4)) = x3 → K (some (fs_i x4)) M)))))) :
    fs_A2 g m_Mo_found 1 3 [(0, fs_r x0), (1, fs_i x1), (2, fs_i x2), (3, fs_i x3), (4, fs_i x4)] [] M K := by
  refine a_iload (j := 4) d_Mo_found_3 rfl ?_
  refine a_iload_n (j := 2) d_Mo_found_5 rfl rfl ?_
  refine a_icmp_ge (tgt := 28) d_Mo_found_6 rfl (fun c1 => ?_) (fun c1 => ?_)
  · have h := h.1 c1
    refine a_iconst d_Mo_found_28 (by unfold fs_in32; omega) ?_
    exact b_ireturn d_Mo_found_29 rfl rfl h
  · have h := h.2 c1
    refine a_aload_n (j := 0) d_Mo_found_9 rfl rfl ?_
    refine a_iload_n (j := 1) d_Mo_found_10 rfl rfl ?_
    refine a_iload (j := 4) d_Mo_found_11 rfl ?_
    refine a_iadd d_Mo_found_13 ?_
    obtain ⟨o2, o3, h⟩ := h
    refine b_iaload (v := M x0 (fs_w32 (x1 + x4))) d_Mo_found_14 h0 o2 o3 rfl ?_
    refine a_iload_n (j := 3) d_Mo_found_15 rfl rfl ?_
    refine a_icmp_ne (tgt := 22) d_Mo_found_16 rfl (fun c4 => ?_) (fun c4 => ?_)
    · have h := h.1 c4
      refine a_iinc (j := 4) d_Mo_found_22 rfl (Nat.le_of_ble_eq_true rfl) [1, 2, 3, 4, 0] rfl ?_
      refine a_goto (tgt := 3) d_Mo_found_25 rfl ?_
      exact h
    · have h := h.2 c4
      refine a_iload (j := 4) d_Mo_found_19 rfl ?_
      exact b_ireturn d_Mo_found_21 rfl rfl h
set_option maxRecDepth 8000 in
set_option maxHeartbeats 4000000 in
theorem E_Mo_numeral {M : fs_M} {K : fs_K} {x1 x2 : Int} 
    (h : ((M 226 23 = 0 → ((M 226 21 = 2 → ((M 226 22 < x1 → fs_C2 g m_Mo_wrong 1 [fs_r 226, fs_i 2] M (fun v M1 => v = none ∧ fs_A2 g m_Mo_numeral 7 46 [(0, fs_r 226), (1, fs_i x1)] [] M1 K)) ∧ (¬ M 226 22 < x1 → ((M 226 22 ≤ x2 → fs_A2 g m_Mo_numeral 7 46 [(0, fs_r 226), (1, fs_i x1)] [] M K) ∧ (¬ M 226 22 ≤ x2 → fs_C2 g m_Mo_wrong 1 [fs_r 226, fs_i 2] M (fun v M2 => v = none ∧ fs_A2 g m_Mo_numeral 7 46 [(0, fs_r 226), (1, fs_i x1)] [] M2 K)))))) ∧ (¬ M 226 21 = 2 → fs_C2 g m_Mo_wrong 1 [fs_r 226, fs_i 1] M (fun v M3 => v = none ∧ fs_A2 g m_Mo_numeral 7 46 [(0, fs_r 226), (1, fs_i x1)] [] M3 K)))) ∧ (¬ M 226 23 = 0 → K (some (fs_i x1)) M))) :
    fs_C2 g m_Mo_numeral 7 [fs_r 226, fs_i x1, fs_i x2] M K := by
  refine b_enter2 (ls := [(0, fs_r 226), (1, fs_i x1), (2, fs_i x2)]) (plainFor_of_name pn_Mo) (Nat.le_of_ble_eq_true rfl) rfl ?_
  refine a_aload_n (j := 0) d_Mo_numeral_0 rfl rfl ?_
  refine b_getfield (v := fs_i (M 226 23)) d_Mo_numeral_1 fl_Mo_214 io_226 rfl ?_
  refine a_if_eq (tgt := 9) d_Mo_numeral_4 rfl (fun c1 => ?_) (fun c1 => ?_)
  · have h := h.1 c1
    refine a_aload_n (j := 0) d_Mo_numeral_9 rfl rfl ?_
    refine b_getfield (v := fs_i (M 226 21)) d_Mo_numeral_10 fl_Mo_179 io_226 rfl ?_
    refine a_iconst d_Mo_numeral_13 (by unfold fs_in32; omega) ?_
    refine a_icmp_eq (tgt := 25) d_Mo_numeral_14 rfl (fun c2 => ?_) (fun c2 => ?_)
    · have h := h.1 c2
      refine a_aload_n (j := 0) d_Mo_numeral_25 rfl rfl ?_
      refine b_getfield (v := fs_i (M 226 22)) d_Mo_numeral_26 fl_Mo_189 io_226 rfl ?_
      refine a_iload_n (j := 1) d_Mo_numeral_29 rfl rfl ?_
      refine a_icmp_lt (tgt := 41) d_Mo_numeral_30 rfl (fun c3 => ?_) (fun c3 => ?_)
      · have h := h.1 c3
        refine a_aload_n (j := 0) d_Mo_numeral_41 rfl rfl ?_
        refine a_iconst d_Mo_numeral_42 (by unfold fs_in32; omega) ?_
        refine b_virtual (dc := 1) (ci := 11) (T := fs_T11) (N := 78) [fs_i 2] [] d_Mo_numeral_43 ml_Mo_223 k_Mo_wrong v_Mo_wrong rfl io_226 rfl (Nat.le_of_ble_eq_true rfl) rfl (Nat.le_of_ble_eq_true rfl) ?_
        refine fs_Call.mono (fun v M1 hv => ?_) h
        obtain ⟨rfl, h⟩ := hv
        show fs_A2 g m_Mo_numeral 7 46 [(0, fs_r 226), (1, fs_i x1), (2, fs_i x2)] [] M1 K
        refine a_sub [0, 1] rfl ?_
        exact h
      · have h := h.2 c3
        refine a_aload_n (j := 0) d_Mo_numeral_33 rfl rfl ?_
        refine b_getfield (v := fs_i (M 226 22)) d_Mo_numeral_34 fl_Mo_189 io_226 rfl ?_
        refine a_iload_n (j := 2) d_Mo_numeral_37 rfl rfl ?_
        refine a_icmp_le (tgt := 46) d_Mo_numeral_38 rfl (fun c4 => ?_) (fun c4 => ?_)
        · have h := h.1 c4
          refine a_sub [0, 1] rfl ?_
          exact h
        · have h := h.2 c4
          refine a_aload_n (j := 0) d_Mo_numeral_41 rfl rfl ?_
          refine a_iconst d_Mo_numeral_42 (by unfold fs_in32; omega) ?_
          refine b_virtual (dc := 1) (ci := 11) (T := fs_T11) (N := 78) [fs_i 2] [] d_Mo_numeral_43 ml_Mo_223 k_Mo_wrong v_Mo_wrong rfl io_226 rfl (Nat.le_of_ble_eq_true rfl) rfl (Nat.le_of_ble_eq_true rfl) ?_
          refine fs_Call.mono (fun v M2 hv => ?_) h
          obtain ⟨rfl, h⟩ := hv
          show fs_A2 g m_Mo_numeral 7 46 [(0, fs_r 226), (1, fs_i x1), (2, fs_i x2)] [] M2 K
          refine a_sub [0, 1] rfl ?_
          exact h
    · have h := h.2 c2
      refine a_aload_n (j := 0) d_Mo_numeral_17 rfl rfl ?_
      refine a_iconst d_Mo_numeral_18 (by unfold fs_in32; omega) ?_
      refine b_virtual (dc := 1) (ci := 11) (T := fs_T11) (N := 78) [fs_i 1] [] d_Mo_numeral_19 ml_Mo_223 k_Mo_wrong v_Mo_wrong rfl io_226 rfl (Nat.le_of_ble_eq_true rfl) rfl (Nat.le_of_ble_eq_true rfl) ?_
      refine fs_Call.mono (fun v M3 hv => ?_) h
      obtain ⟨rfl, h⟩ := hv
      show fs_A2 g m_Mo_numeral 7 22 [(0, fs_r 226), (1, fs_i x1), (2, fs_i x2)] [] M3 K
      refine a_goto (tgt := 46) d_Mo_numeral_22 rfl ?_
      refine a_sub [0, 1] rfl ?_
      exact h
  · have h := h.2 c1
    refine a_iload_n (j := 1) d_Mo_numeral_7 rfl rfl ?_
    exact b_ireturn d_Mo_numeral_8 rfl rfl h
set_option maxRecDepth 8000 in
set_option maxHeartbeats 4000000 in
theorem L_Mo_numeral_46 {M : fs_M} {K : fs_K} {x1 : Int} 
    (h : ((M 226 23 = 0 → fs_C2 g m_Mo_token 6 [fs_r 226] M (fun v M4 => v = none ∧ K (some (fs_i (M 226 22))) M4)) ∧ (¬ M 226 23 = 0 → K (some (fs_i x1)) M))) :
    fs_A2 g m_Mo_numeral 7 46 [(0, fs_r 226), (1, fs_i x1)] [] M K := by
  refine a_aload_n (j := 0) d_Mo_numeral_46 rfl rfl ?_
  refine b_getfield (v := fs_i (M 226 23)) d_Mo_numeral_47 fl_Mo_214 io_226 rfl ?_
  refine a_if_eq (tgt := 55) d_Mo_numeral_50 rfl (fun c5 => ?_) (fun c5 => ?_)
  · have h := h.1 c5
    refine a_aload_n (j := 0) d_Mo_numeral_55 rfl rfl ?_
    refine b_getfield (v := fs_i (M 226 22)) d_Mo_numeral_56 fl_Mo_189 io_226 rfl ?_
    refine a_istore_n d_Mo_numeral_59 rfl (Nat.le_of_ble_eq_true rfl) [1, 2, 0] rfl ?_
    refine a_aload_n (j := 0) d_Mo_numeral_60 rfl rfl ?_
    refine b_virtual (dc := 6) (ci := 11) (T := fs_T11) (N := 78) [] [] d_Mo_numeral_61 ml_Mo_220 k_Mo_token v_Mo_token rfl io_226 rfl (Nat.le_of_ble_eq_true rfl) rfl (Nat.le_of_ble_eq_true rfl) ?_
    refine fs_Call.mono (fun v M4 hv => ?_) h
    obtain ⟨rfl, h⟩ := hv
    show fs_A2 g m_Mo_numeral 7 64 [(0, fs_r 226), (1, fs_i x1), (3, fs_i (M 226 22))] [] M4 K
    refine a_iload_n (j := 2) d_Mo_numeral_64 rfl rfl ?_
    exact b_ireturn d_Mo_numeral_65 rfl rfl h
  · have h := h.2 c5
    refine a_iload_n (j := 1) d_Mo_numeral_53 rfl rfl ?_
    exact b_ireturn d_Mo_numeral_54 rfl rfl h
set_option maxRecDepth 8000 in
set_option maxHeartbeats 4000000 in
theorem E_Mo_isWord {M : fs_M} {K : fs_K} {x1 : Int} 
    (h : ((¬ M 226 23 = 0 → K (some (fs_i 0)) M) ∧ (M 226 23 = 0 → ((¬ M 226 21 = 0 → K (some (fs_i 0)) M) ∧ (M 226 21 = 0 → ((¬ M 226 22 = x1 → K (some (fs_i 0)) M) ∧ (M 226 22 = x1 → K (some (fs_i 1)) M))))))) :
    fs_C2 g m_Mo_isWord 1 [fs_r 226, fs_i x1] M K := by
  refine b_enter2 (ls := [(0, fs_r 226), (1, fs_i x1)]) (plainFor_of_name pn_Mo) (Nat.le_of_ble_eq_true rfl) rfl ?_
  refine a_aload_n (j := 0) d_Mo_isWord_0 rfl rfl ?_
  refine b_getfield (v := fs_i (M 226 23)) d_Mo_isWord_1 fl_Mo_214 io_226 rfl ?_
  refine a_if_ne (tgt := 26) d_Mo_isWord_4 rfl (fun c1 => ?_) (fun c1 => ?_)
  · have h := h.1 c1
    refine a_iconst d_Mo_isWord_26 (by unfold fs_in32; omega) ?_
    exact b_ireturn d_Mo_isWord_27 rfl (fs_nar01 (Or.inl rfl)) h
  · have h := h.2 c1
    refine a_aload_n (j := 0) d_Mo_isWord_7 rfl rfl ?_
    refine b_getfield (v := fs_i (M 226 21)) d_Mo_isWord_8 fl_Mo_179 io_226 rfl ?_
    refine a_if_ne (tgt := 26) d_Mo_isWord_11 rfl (fun c2 => ?_) (fun c2 => ?_)
    · have h := h.1 c2
      refine a_iconst d_Mo_isWord_26 (by unfold fs_in32; omega) ?_
      exact b_ireturn d_Mo_isWord_27 rfl (fs_nar01 (Or.inl rfl)) h
    · have h := h.2 c2
      refine a_aload_n (j := 0) d_Mo_isWord_14 rfl rfl ?_
      refine b_getfield (v := fs_i (M 226 22)) d_Mo_isWord_15 fl_Mo_189 io_226 rfl ?_
      refine a_iload_n (j := 1) d_Mo_isWord_18 rfl rfl ?_
      refine a_icmp_ne (tgt := 26) d_Mo_isWord_19 rfl (fun c3 => ?_) (fun c3 => ?_)
      · have h := h.1 c3
        refine a_iconst d_Mo_isWord_26 (by unfold fs_in32; omega) ?_
        exact b_ireturn d_Mo_isWord_27 rfl (fs_nar01 (Or.inl rfl)) h
      · have h := h.2 c3
        refine a_iconst d_Mo_isWord_22 (by unfold fs_in32; omega) ?_
        refine a_goto (tgt := 27) d_Mo_isWord_23 rfl ?_
        exact b_ireturn d_Mo_isWord_27 rfl (fs_nar01 (Or.inr rfl)) h
set_option maxRecDepth 8000 in
set_option maxHeartbeats 4000000 in
theorem E_Mo_lawLine {M : fs_M} {K : fs_K} 
    (h : ((¬ M 226 21 = 0 → fs_C2 g m_Mo_wrong 1 [fs_r 226, fs_i 1] M (fun v M1 => v = none ∧ fs_A2 g m_Mo_lawLine 158 30 [(0, fs_r 226)] [] M1 K)) ∧ (M 226 21 = 0 → ((M 226 22 < 6 → fs_C2 g m_Mo_wrong 1 [fs_r 226, fs_i 1] M (fun v M2 => v = none ∧ fs_A2 g m_Mo_lawLine 158 30 [(0, fs_r 226)] [] M2 K)) ∧ (¬ M 226 22 < 6 → ((M 226 22 ≤ 9 → fs_A2 g m_Mo_lawLine 158 30 [(0, fs_r 226)] [] M K) ∧ (¬ M 226 22 ≤ 9 → fs_C2 g m_Mo_wrong 1 [fs_r 226, fs_i 1] M (fun v M3 => v = none ∧ fs_A2 g m_Mo_lawLine 158 30 [(0, fs_r 226)] [] M3 K)))))))) :
    fs_C2 g m_Mo_lawLine 158 [fs_r 226] M K := by
  refine b_enter2 (ls := [(0, fs_r 226)]) (plainFor_of_name pn_Mo) (Nat.le_of_ble_eq_true rfl) rfl ?_
  refine a_aload_n (j := 0) d_Mo_lawLine_0 rfl rfl ?_
  refine b_getfield (v := fs_i (M 226 21)) d_Mo_lawLine_1 fl_Mo_179 io_226 rfl ?_
  refine a_if_ne (tgt := 25) d_Mo_lawLine_4 rfl (fun c1 => ?_) (fun c1 => ?_)
  · have h := h.1 c1
    refine a_aload_n (j := 0) d_Mo_lawLine_25 rfl rfl ?_
    refine a_iconst d_Mo_lawLine_26 (by unfold fs_in32; omega) ?_
    refine b_virtual (dc := 1) (ci := 11) (T := fs_T11) (N := 78) [fs_i 1] [] d_Mo_lawLine_27 ml_Mo_223 k_Mo_wrong v_Mo_wrong rfl io_226 rfl (Nat.le_of_ble_eq_true rfl) rfl (Nat.le_of_ble_eq_true rfl) ?_
    refine fs_Call.mono (fun v M1 hv => ?_) h
    obtain ⟨rfl, h⟩ := hv
    show fs_A2 g m_Mo_lawLine 158 30 [(0, fs_r 226)] [] M1 K
    exact h
  · have h := h.2 c1
    refine a_aload_n (j := 0) d_Mo_lawLine_7 rfl rfl ?_
    refine b_getfield (v := fs_i (M 226 22)) d_Mo_lawLine_8 fl_Mo_189 io_226 rfl ?_
    refine a_bipush d_Mo_lawLine_11 (by decide) ?_
    refine a_icmp_lt (tgt := 25) d_Mo_lawLine_13 rfl (fun c2 => ?_) (fun c2 => ?_)
    · have h := h.1 c2
      refine a_aload_n (j := 0) d_Mo_lawLine_25 rfl rfl ?_
      refine a_iconst d_Mo_lawLine_26 (by unfold fs_in32; omega) ?_
      refine b_virtual (dc := 1) (ci := 11) (T := fs_T11) (N := 78) [fs_i 1] [] d_Mo_lawLine_27 ml_Mo_223 k_Mo_wrong v_Mo_wrong rfl io_226 rfl (Nat.le_of_ble_eq_true rfl) rfl (Nat.le_of_ble_eq_true rfl) ?_
      refine fs_Call.mono (fun v M2 hv => ?_) h
      obtain ⟨rfl, h⟩ := hv
      show fs_A2 g m_Mo_lawLine 158 30 [(0, fs_r 226)] [] M2 K
      exact h
    · have h := h.2 c2
      refine a_aload_n (j := 0) d_Mo_lawLine_16 rfl rfl ?_
      refine b_getfield (v := fs_i (M 226 22)) d_Mo_lawLine_17 fl_Mo_189 io_226 rfl ?_
      refine a_bipush d_Mo_lawLine_20 (by decide) ?_
      refine a_icmp_le (tgt := 30) d_Mo_lawLine_22 rfl (fun c3 => ?_) (fun c3 => ?_)
      · have h := h.1 c3
        exact h
      · have h := h.2 c3
        refine a_aload_n (j := 0) d_Mo_lawLine_25 rfl rfl ?_
        refine a_iconst d_Mo_lawLine_26 (by unfold fs_in32; omega) ?_
        refine b_virtual (dc := 1) (ci := 11) (T := fs_T11) (N := 78) [fs_i 1] [] d_Mo_lawLine_27 ml_Mo_223 k_Mo_wrong v_Mo_wrong rfl io_226 rfl (Nat.le_of_ble_eq_true rfl) rfl (Nat.le_of_ble_eq_true rfl) ?_
        refine fs_Call.mono (fun v M3 hv => ?_) h
        obtain ⟨rfl, h⟩ := hv
        show fs_A2 g m_Mo_lawLine 158 30 [(0, fs_r 226)] [] M3 K
        exact h
set_option maxRecDepth 8000 in
set_option maxHeartbeats 4000000 in
theorem L_Mo_lawLine_30 {M : fs_M} {K : fs_K} 
    (h : ((¬ M 226 23 = 0 → fs_A2 g m_Mo_lawLine 158 64 [(0, fs_r 226), (1, fs_i (fs_w32 ((M 226 22) - 6)))] [] M K) ∧ (M 226 23 = 0 → ((¬ fs_and (fs_shr (M 226 16) (fs_w32 (1 + (fs_w32 ((M 226 22) - 6))))) 1 = 1 → fs_A2 g m_Mo_lawLine 158 64 [(0, fs_r 226), (1, fs_i (fs_w32 ((M 226 22) - 6)))] [] M K) ∧ (fs_and (fs_shr (M 226 16) (fs_w32 (1 + (fs_w32 ((M 226 22) - 6))))) 1 = 1 → fs_C2 g m_Mo_wrong 1 [fs_r 226, fs_i 3] M (fun v M4 => v = none ∧ fs_A2 g m_Mo_lawLine 158 64 [(0, fs_r 226), (1, fs_i (fs_w32 ((M 226 22) - 6)))] [] M4 K)))))) :
    fs_A2 g m_Mo_lawLine 158 30 [(0, fs_r 226)] [] M K := by
  refine a_aload_n (j := 0) d_Mo_lawLine_30 rfl rfl ?_
  refine b_getfield (v := fs_i (M 226 22)) d_Mo_lawLine_31 fl_Mo_189 io_226 rfl ?_
  refine a_bipush d_Mo_lawLine_34 (by decide) ?_
  refine a_isub d_Mo_lawLine_36 ?_
  refine a_istore_n d_Mo_lawLine_37 rfl (Nat.le_of_ble_eq_true rfl) [1, 0] rfl ?_
  refine a_aload_n (j := 0) d_Mo_lawLine_38 rfl rfl ?_
  refine b_getfield (v := fs_i (M 226 23)) d_Mo_lawLine_39 fl_Mo_214 io_226 rfl ?_
  refine a_if_ne (tgt := 64) d_Mo_lawLine_42 rfl (fun c4 => ?_) (fun c4 => ?_)
  · have h := h.1 c4
    exact h
  · have h := h.2 c4
    refine a_aload_n (j := 0) d_Mo_lawLine_45 rfl rfl ?_
    refine b_getfield (v := fs_i (M 226 16)) d_Mo_lawLine_46 fl_Mo_234 io_226 rfl ?_
    refine a_iconst d_Mo_lawLine_49 (by unfold fs_in32; omega) ?_
    refine a_iload_n (j := 1) d_Mo_lawLine_50 rfl rfl ?_
    refine a_iadd d_Mo_lawLine_51 ?_
    refine a_ishr d_Mo_lawLine_52 ?_
    refine a_iconst d_Mo_lawLine_53 (by unfold fs_in32; omega) ?_
    refine a_iand d_Mo_lawLine_54 ?_
    refine a_iconst d_Mo_lawLine_55 (by unfold fs_in32; omega) ?_
    refine a_icmp_ne (tgt := 64) d_Mo_lawLine_56 rfl (fun c5 => ?_) (fun c5 => ?_)
    · have h := h.1 c5
      exact h
    · have h := h.2 c5
      refine a_aload_n (j := 0) d_Mo_lawLine_59 rfl rfl ?_
      refine a_iconst d_Mo_lawLine_60 (by unfold fs_in32; omega) ?_
      refine b_virtual (dc := 1) (ci := 11) (T := fs_T11) (N := 78) [fs_i 3] [] d_Mo_lawLine_61 ml_Mo_223 k_Mo_wrong v_Mo_wrong rfl io_226 rfl (Nat.le_of_ble_eq_true rfl) rfl (Nat.le_of_ble_eq_true rfl) ?_
      refine fs_Call.mono (fun v M4 hv => ?_) h
      obtain ⟨rfl, h⟩ := hv
      show fs_A2 g m_Mo_lawLine 158 64 [(0, fs_r 226), (1, fs_i (fs_w32 ((M 226 22) - 6)))] [] M4 K
      exact h
set_option maxRecDepth 8000 in
set_option maxHeartbeats 4000000 in
theorem L_Mo_lawLine_64 {M : fs_M} {K : fs_K} {x1 : Int} 
    (h : ((M 226 23 = 0 → fs_C2 g m_Mo_token 6 [fs_r 226] (fs_st M 226 16 (fs_or (M 226 16) (fs_shl 2 x1))) (fun v M5 => v = none ∧ fs_C2 g m_Mo_fresher 1 [fs_r 226, fs_i 3] M5 (fun v M6 => ∃ r6, v = some (fs_i r6) ∧ (0 ≤ fs_w32 (4 + x1) ∧ fs_w32 (4 + x1) < 8 ∧ fs_C2 g m_Mo_expression 157 [fs_r 226] (fs_st M6 237 (fs_w32 (4 + x1)) r6) (fun v M7 => v = none ∧ fs_C2 g m_Mo_fresher 1 [fs_r 226, fs_i 3] M7 (fun v M8 => ∃ r8, v = some (fs_i r8) ∧ K none (fs_st M8 238 (fs_w32 (4 + x1)) r8))))))) ∧ (¬ M 226 23 = 0 → K none M))) :
    fs_A2 g m_Mo_lawLine 158 64 [(0, fs_r 226), (1, fs_i x1)] [] M K := by
  refine a_aload_n (j := 0) d_Mo_lawLine_64 rfl rfl ?_
  refine b_getfield (v := fs_i (M 226 23)) d_Mo_lawLine_65 fl_Mo_214 io_226 rfl ?_
  refine a_if_eq (tgt := 72) d_Mo_lawLine_68 rfl (fun c6 => ?_) (fun c6 => ?_)
  · have h := h.1 c6
    refine a_aload_n (j := 0) d_Mo_lawLine_72 rfl rfl ?_
    refine a_dup d_Mo_lawLine_73 rfl ?_
    refine b_getfield (v := fs_i (M 226 16)) d_Mo_lawLine_74 fl_Mo_234 io_226 rfl ?_
    refine a_iconst d_Mo_lawLine_77 (by unfold fs_in32; omega) ?_
    refine a_iload_n (j := 1) d_Mo_lawLine_78 rfl rfl ?_
    refine a_ishl d_Mo_lawLine_79 ?_
    refine a_ior d_Mo_lawLine_80 ?_
    refine b_putfield (x := (fs_or (M 226 16) (fs_shl 2 x1))) d_Mo_lawLine_81 fl_Mo_234 io_226 rfl rfl fs_nar_int ?_
    refine a_aload_n (j := 0) d_Mo_lawLine_84 rfl rfl ?_
    refine b_virtual (dc := 6) (ci := 11) (T := fs_T11) (N := 78) [] [] d_Mo_lawLine_85 ml_Mo_220 k_Mo_token v_Mo_token rfl io_226 rfl (Nat.le_of_ble_eq_true rfl) rfl (Nat.le_of_ble_eq_true rfl) ?_
    refine fs_Call.mono (fun v M5 hv => ?_) h
    obtain ⟨rfl, h⟩ := hv
    show fs_A2 g m_Mo_lawLine 158 88 [(0, fs_r 226), (1, fs_i x1)] [] M5 K
    refine a_aload_n (j := 0) d_Mo_lawLine_88 rfl rfl ?_
    refine b_getptr (q := 237) d_Mo_lawLine_89 fl_Mo_41 io_226 rfl rfl rfl ?_
    refine a_iconst d_Mo_lawLine_92 (by unfold fs_in32; omega) ?_
    refine a_iload_n (j := 1) d_Mo_lawLine_93 rfl rfl ?_
    refine a_iadd d_Mo_lawLine_94 ?_
    refine a_aload_n (j := 0) d_Mo_lawLine_95 rfl rfl ?_
    refine a_iconst d_Mo_lawLine_96 (by unfold fs_in32; omega) ?_
    refine b_virtual (dc := 1) (ci := 11) (T := fs_T11) (N := 78) [fs_i 3] [fs_i (fs_w32 (4 + x1)), fs_r 237] d_Mo_lawLine_97 ml_Mo_230 k_Mo_fresher v_Mo_fresher rfl io_226 rfl (Nat.le_of_ble_eq_true rfl) rfl (Nat.le_of_ble_eq_true rfl) ?_
    refine fs_Call.mono (fun v M6 hv => ?_) h
    obtain ⟨r6, rfl, h⟩ := hv
    show fs_A2 g m_Mo_lawLine 158 100 [(0, fs_r 226), (1, fs_i x1)] [fs_i r6, fs_i (fs_w32 (4 + x1)), fs_r 237] M6 K
    obtain ⟨o7, o8, h⟩ := h
    refine b_iastore d_Mo_lawLine_100 ia_237 o7 o8 ?_
    refine a_aload_n (j := 0) d_Mo_lawLine_101 rfl rfl ?_
    refine b_virtual (dc := 157) (ci := 11) (T := fs_T11) (N := 78) [] [] d_Mo_lawLine_102 ml_Mo_260 k_Mo_expression v_Mo_expression rfl io_226 rfl (Nat.le_of_ble_eq_true rfl) rfl (Nat.le_of_ble_eq_true rfl) ?_
    refine fs_Call.mono (fun v M7 hv => ?_) h
    obtain ⟨rfl, h⟩ := hv
    show fs_A2 g m_Mo_lawLine 158 105 [(0, fs_r 226), (1, fs_i x1)] [] M7 K
    refine a_aload_n (j := 0) d_Mo_lawLine_105 rfl rfl ?_
    refine b_getptr (q := 238) d_Mo_lawLine_106 fl_Mo_44 io_226 rfl rfl rfl ?_
    refine a_iconst d_Mo_lawLine_109 (by unfold fs_in32; omega) ?_
    refine a_iload_n (j := 1) d_Mo_lawLine_110 rfl rfl ?_
    refine a_iadd d_Mo_lawLine_111 ?_
    refine a_aload_n (j := 0) d_Mo_lawLine_112 rfl rfl ?_
    refine a_iconst d_Mo_lawLine_113 (by unfold fs_in32; omega) ?_
    refine b_virtual (dc := 1) (ci := 11) (T := fs_T11) (N := 78) [fs_i 3] [fs_i (fs_w32 (4 + x1)), fs_r 238] d_Mo_lawLine_114 ml_Mo_230 k_Mo_fresher v_Mo_fresher rfl io_226 rfl (Nat.le_of_ble_eq_true rfl) rfl (Nat.le_of_ble_eq_true rfl) ?_
    refine fs_Call.mono (fun v M8 hv => ?_) h
    obtain ⟨r8, rfl, h⟩ := hv
    show fs_A2 g m_Mo_lawLine 158 117 [(0, fs_r 226), (1, fs_i x1)] [fs_i r8, fs_i (fs_w32 (4 + x1)), fs_r 238] M8 K
    refine b_iastore d_Mo_lawLine_117 ia_238 o7 o8 ?_
    exact b_return d_Mo_lawLine_118 rfl h
  · have h := h.2 c6
    exact b_return d_Mo_lawLine_71 rfl h
set_option maxRecDepth 8000 in
set_option maxHeartbeats 4000000 in
theorem E_Mo_expression {d : Nat} (hd : 7 ≤ d) {M : fs_M} {K : fs_K} 
    (h : fs_C2 g m_Mo_conjunction d [fs_r 226] M (fun v M1 => v = none ∧ fs_A2 g m_Mo_expression (d + 1) 4 [(0, fs_r 226)] [] M1 K)) :
    fs_C2 g m_Mo_expression (d + 1) [fs_r 226] M K := by
  refine b_enter2 (ls := [(0, fs_r 226)]) (plainFor_of_name pn_Mo) (Nat.le_of_ble_eq_true rfl) rfl ?_
  refine a_aload_n (j := 0) d_Mo_expression_0 rfl rfl ?_
  refine b_virtual (dc := d) (ci := 11) (T := fs_T11) (N := 78) [] [] d_Mo_expression_1 ml_Mo_266 k_Mo_conjunction v_Mo_conjunction rfl io_226 rfl (Nat.le_refl _) rfl (Nat.le_of_ble_eq_true rfl) ?_
  refine fs_Call.mono (fun v M1 hv => ?_) h
  obtain ⟨rfl, h⟩ := hv
  show fs_A2 g m_Mo_expression (d + 1) 4 [(0, fs_r 226)] [] M1 K
  exact h
set_option maxRecDepth 8000 in
set_option maxHeartbeats 4000000 in
theorem L_Mo_expression_4 {d : Nat} (hd : 7 ≤ d) {M : fs_M} {K : fs_K} 
    (h : fs_C2 g m_Mo_isWord 1 [fs_r 226, fs_i 10] M (fun v M2 => ∃ r2, v = some (fs_i r2) ∧ ((r2 = 0 → K none M2) ∧ (¬ r2 = 0 → fs_C2 g m_Mo_knot 2 [fs_r 226] M2 (fun v M3 => v = none ∧ fs_C2 g m_Mo_goOn 7 [fs_r 226] M3 (fun v M4 => v = none ∧ fs_C2 g m_Mo_conjunction d [fs_r 226] M4 (fun v M5 => v = none ∧ fs_C2 g m_Mo_puts 2 [fs_r 226, fs_i 2, fs_i 262] M5 (fun v M6 => v = none ∧ fs_A2 g m_Mo_expression (d + 1) 4 [(0, fs_r 226)] [] M6 K)))))))) :
    fs_A2 g m_Mo_expression (d + 1) 4 [(0, fs_r 226)] [] M K := by
  refine a_aload_n (j := 0) d_Mo_expression_4 rfl rfl ?_
  refine a_bipush d_Mo_expression_5 (by decide) ?_
  refine b_virtual (dc := 1) (ci := 11) (T := fs_T11) (N := 78) [fs_i 10] [] d_Mo_expression_7 ml_Mo_257 k_Mo_isWord v_Mo_isWord rfl io_226 rfl (by omega) rfl (Nat.le_of_ble_eq_true rfl) ?_
  refine fs_Call.mono (fun v M2 hv => ?_) h
  obtain ⟨r2, rfl, h⟩ := hv
  show fs_A2 g m_Mo_expression (d + 1) 10 [(0, fs_r 226)] [fs_i r2] M2 K
  refine a_if_eq (tgt := 36) d_Mo_expression_10 rfl (fun c1 => ?_) (fun c1 => ?_)
  · have h := h.1 c1
    exact b_return d_Mo_expression_36 rfl h
  · have h := h.2 c1
    refine a_aload_n (j := 0) d_Mo_expression_13 rfl rfl ?_
    refine b_virtual (dc := 2) (ci := 11) (T := fs_T11) (N := 78) [] [] d_Mo_expression_14 ml_Mo_269 k_Mo_knot v_Mo_knot rfl io_226 rfl (by omega) rfl (Nat.le_of_ble_eq_true rfl) ?_
    refine fs_Call.mono (fun v M3 hv => ?_) h
    obtain ⟨rfl, h⟩ := hv
    show fs_A2 g m_Mo_expression (d + 1) 17 [(0, fs_r 226)] [] M3 K
    refine a_aload_n (j := 0) d_Mo_expression_17 rfl rfl ?_
    refine b_virtual (dc := 7) (ci := 11) (T := fs_T11) (N := 78) [] [] d_Mo_expression_18 ml_Mo_272 k_Mo_goOn v_Mo_goOn rfl io_226 rfl (by omega) rfl (Nat.le_of_ble_eq_true rfl) ?_
    refine fs_Call.mono (fun v M4 hv => ?_) h
    obtain ⟨rfl, h⟩ := hv
    show fs_A2 g m_Mo_expression (d + 1) 21 [(0, fs_r 226)] [] M4 K
    refine a_aload_n (j := 0) d_Mo_expression_21 rfl rfl ?_
    refine b_virtual (dc := d) (ci := 11) (T := fs_T11) (N := 78) [] [] d_Mo_expression_22 ml_Mo_266 k_Mo_conjunction v_Mo_conjunction rfl io_226 rfl (Nat.le_refl _) rfl (Nat.le_of_ble_eq_true rfl) ?_
    refine fs_Call.mono (fun v M5 hv => ?_) h
    obtain ⟨rfl, h⟩ := hv
    show fs_A2 g m_Mo_expression (d + 1) 25 [(0, fs_r 226)] [] M5 K
    refine a_aload_n (j := 0) d_Mo_expression_25 rfl rfl ?_
    refine a_iconst d_Mo_expression_26 (by unfold fs_in32; omega) ?_
    refine a_sipush d_Mo_expression_27 (by decide) ?_
    refine b_virtual (dc := 2) (ci := 11) (T := fs_T11) (N := 78) [fs_i 2, fs_i 262] [] d_Mo_expression_30 ml_Mo_275 k_Mo_puts v_Mo_puts rfl io_226 rfl (by omega) rfl (Nat.le_of_ble_eq_true rfl) ?_
    refine fs_Call.mono (fun v M6 hv => ?_) h
    obtain ⟨rfl, h⟩ := hv
    show fs_A2 g m_Mo_expression (d + 1) 33 [(0, fs_r 226)] [] M6 K
    refine a_goto (tgt := 4) d_Mo_expression_33 rfl ?_
    exact h
set_option maxRecDepth 8000 in
set_option maxHeartbeats 4000000 in
theorem E_Mo_conjunction {d : Nat} (hd : 7 ≤ d) {M : fs_M} {K : fs_K} 
    (h : fs_C2 g m_Mo_negation d [fs_r 226] M (fun v M1 => v = none ∧ fs_A2 g m_Mo_conjunction (d + 1) 4 [(0, fs_r 226)] [] M1 K)) :
    fs_C2 g m_Mo_conjunction (d + 1) [fs_r 226] M K := by
  refine b_enter2 (ls := [(0, fs_r 226)]) (plainFor_of_name pn_Mo) (Nat.le_of_ble_eq_true rfl) rfl ?_
  refine a_aload_n (j := 0) d_Mo_conjunction_0 rfl rfl ?_
  refine b_virtual (dc := d) (ci := 11) (T := fs_T11) (N := 78) [] [] d_Mo_conjunction_1 ml_Mo_279 k_Mo_negation v_Mo_negation rfl io_226 rfl (Nat.le_refl _) rfl (Nat.le_of_ble_eq_true rfl) ?_
  refine fs_Call.mono (fun v M1 hv => ?_) h
  obtain ⟨rfl, h⟩ := hv
  show fs_A2 g m_Mo_conjunction (d + 1) 4 [(0, fs_r 226)] [] M1 K
  exact h
set_option maxRecDepth 8000 in
set_option maxHeartbeats 4000000 in
theorem L_Mo_conjunction_4 {d : Nat} (hd : 7 ≤ d) {M : fs_M} {K : fs_K} 
    (h : fs_C2 g m_Mo_isWord 1 [fs_r 226, fs_i 11] M (fun v M2 => ∃ r2, v = some (fs_i r2) ∧ ((r2 = 0 → K none M2) ∧ (¬ r2 = 0 → fs_C2 g m_Mo_knot 2 [fs_r 226] M2 (fun v M3 => v = none ∧ fs_C2 g m_Mo_goOn 7 [fs_r 226] M3 (fun v M4 => v = none ∧ fs_C2 g m_Mo_negation d [fs_r 226] M4 (fun v M5 => v = none ∧ fs_C2 g m_Mo_puts 2 [fs_r 226, fs_i 2, fs_i 261] M5 (fun v M6 => v = none ∧ fs_A2 g m_Mo_conjunction (d + 1) 4 [(0, fs_r 226)] [] M6 K)))))))) :
    fs_A2 g m_Mo_conjunction (d + 1) 4 [(0, fs_r 226)] [] M K := by
  refine a_aload_n (j := 0) d_Mo_conjunction_4 rfl rfl ?_
  refine a_bipush d_Mo_conjunction_5 (by decide) ?_
  refine b_virtual (dc := 1) (ci := 11) (T := fs_T11) (N := 78) [fs_i 11] [] d_Mo_conjunction_7 ml_Mo_257 k_Mo_isWord v_Mo_isWord rfl io_226 rfl (by omega) rfl (Nat.le_of_ble_eq_true rfl) ?_
  refine fs_Call.mono (fun v M2 hv => ?_) h
  obtain ⟨r2, rfl, h⟩ := hv
  show fs_A2 g m_Mo_conjunction (d + 1) 10 [(0, fs_r 226)] [fs_i r2] M2 K
  refine a_if_eq (tgt := 36) d_Mo_conjunction_10 rfl (fun c1 => ?_) (fun c1 => ?_)
  · have h := h.1 c1
    exact b_return d_Mo_conjunction_36 rfl h
  · have h := h.2 c1
    refine a_aload_n (j := 0) d_Mo_conjunction_13 rfl rfl ?_
    refine b_virtual (dc := 2) (ci := 11) (T := fs_T11) (N := 78) [] [] d_Mo_conjunction_14 ml_Mo_269 k_Mo_knot v_Mo_knot rfl io_226 rfl (by omega) rfl (Nat.le_of_ble_eq_true rfl) ?_
    refine fs_Call.mono (fun v M3 hv => ?_) h
    obtain ⟨rfl, h⟩ := hv
    show fs_A2 g m_Mo_conjunction (d + 1) 17 [(0, fs_r 226)] [] M3 K
    refine a_aload_n (j := 0) d_Mo_conjunction_17 rfl rfl ?_
    refine b_virtual (dc := 7) (ci := 11) (T := fs_T11) (N := 78) [] [] d_Mo_conjunction_18 ml_Mo_272 k_Mo_goOn v_Mo_goOn rfl io_226 rfl (by omega) rfl (Nat.le_of_ble_eq_true rfl) ?_
    refine fs_Call.mono (fun v M4 hv => ?_) h
    obtain ⟨rfl, h⟩ := hv
    show fs_A2 g m_Mo_conjunction (d + 1) 21 [(0, fs_r 226)] [] M4 K
    refine a_aload_n (j := 0) d_Mo_conjunction_21 rfl rfl ?_
    refine b_virtual (dc := d) (ci := 11) (T := fs_T11) (N := 78) [] [] d_Mo_conjunction_22 ml_Mo_279 k_Mo_negation v_Mo_negation rfl io_226 rfl (Nat.le_refl _) rfl (Nat.le_of_ble_eq_true rfl) ?_
    refine fs_Call.mono (fun v M5 hv => ?_) h
    obtain ⟨rfl, h⟩ := hv
    show fs_A2 g m_Mo_conjunction (d + 1) 25 [(0, fs_r 226)] [] M5 K
    refine a_aload_n (j := 0) d_Mo_conjunction_25 rfl rfl ?_
    refine a_iconst d_Mo_conjunction_26 (by unfold fs_in32; omega) ?_
    refine a_sipush d_Mo_conjunction_27 (by decide) ?_
    refine b_virtual (dc := 2) (ci := 11) (T := fs_T11) (N := 78) [fs_i 2, fs_i 261] [] d_Mo_conjunction_30 ml_Mo_275 k_Mo_puts v_Mo_puts rfl io_226 rfl (by omega) rfl (Nat.le_of_ble_eq_true rfl) ?_
    refine fs_Call.mono (fun v M6 hv => ?_) h
    obtain ⟨rfl, h⟩ := hv
    show fs_A2 g m_Mo_conjunction (d + 1) 33 [(0, fs_r 226)] [] M6 K
    refine a_goto (tgt := 4) d_Mo_conjunction_33 rfl ?_
    exact h
set_option maxRecDepth 8000 in
set_option maxHeartbeats 4000000 in
theorem E_Mo_negation {d : Nat} (hd : 7 ≤ d) {M : fs_M} {K : fs_K} 
    (h : fs_C2 g m_Mo_isWord 1 [fs_r 226, fs_i 12] M (fun v M1 => ∃ r1, v = some (fs_i r1) ∧ ((r1 = 0 → fs_C2 g m_Mo_sum d [fs_r 226] M1 (fun v M2 => v = none ∧ ((¬ M2 226 23 = 0 → K none M2) ∧ (M2 226 23 = 0 → ((¬ M2 226 21 = 3 → K none M2) ∧ (M2 226 21 = 3 → ((M2 226 22 = 60 → fs_A2 g m_Mo_negation (d + 1) 87 [(0, fs_r 226)] [] M2 K) ∧ (¬ M2 226 22 = 60 → ((M2 226 22 = 62 → fs_A2 g m_Mo_negation (d + 1) 87 [(0, fs_r 226)] [] M2 K) ∧ (¬ M2 226 22 = 62 → ((M2 226 22 = 61 → fs_A2 g m_Mo_negation (d + 1) 87 [(0, fs_r 226)] [] M2 K) ∧ (¬ M2 226 22 = 61 → ((256 ≤ M2 226 22 → fs_A2 g m_Mo_negation (d + 1) 87 [(0, fs_r 226)] [] M2 K) ∧ (¬ 256 ≤ M2 226 22 → K none M2)))))))))))))) ∧ (¬ r1 = 0 → fs_C2 g m_Mo_knot 2 [fs_r 226] M1 (fun v M3 => v = none ∧ fs_C2 g m_Mo_goOn 7 [fs_r 226] M3 (fun v M4 => v = none ∧ fs_C2 g m_Mo_negation d [fs_r 226] M4 (fun v M5 => v = none ∧ fs_C2 g m_Mo_puts 2 [fs_r 226, fs_i 2, fs_i 260] M5 (fun v M6 => v = none ∧ K none M6)))))))) :
    fs_C2 g m_Mo_negation (d + 1) [fs_r 226] M K := by
  refine b_enter2 (ls := [(0, fs_r 226)]) (plainFor_of_name pn_Mo) (Nat.le_of_ble_eq_true rfl) rfl ?_
  refine a_aload_n (j := 0) d_Mo_negation_0 rfl rfl ?_
  refine a_bipush d_Mo_negation_1 (by decide) ?_
  refine b_virtual (dc := 1) (ci := 11) (T := fs_T11) (N := 78) [fs_i 12] [] d_Mo_negation_3 ml_Mo_257 k_Mo_isWord v_Mo_isWord rfl io_226 rfl (by omega) rfl (Nat.le_of_ble_eq_true rfl) ?_
  refine fs_Call.mono (fun v M1 hv => ?_) h
  obtain ⟨r1, rfl, h⟩ := hv
  show fs_A2 g m_Mo_negation (d + 1) 6 [(0, fs_r 226)] [fs_i r1] M1 K
  refine a_if_eq (tgt := 30) d_Mo_negation_6 rfl (fun c1 => ?_) (fun c1 => ?_)
  · have h := h.1 c1
    refine a_aload_n (j := 0) d_Mo_negation_30 rfl rfl ?_
    refine b_virtual (dc := d) (ci := 11) (T := fs_T11) (N := 78) [] [] d_Mo_negation_31 ml_Mo_282 k_Mo_sum v_Mo_sum rfl io_226 rfl (Nat.le_refl _) rfl (Nat.le_of_ble_eq_true rfl) ?_
    refine fs_Call.mono (fun v M2 hv => ?_) h
    obtain ⟨rfl, h⟩ := hv
    show fs_A2 g m_Mo_negation (d + 1) 34 [(0, fs_r 226)] [] M2 K
    refine a_aload_n (j := 0) d_Mo_negation_34 rfl rfl ?_
    refine b_getfield (v := fs_i (M2 226 23)) d_Mo_negation_35 fl_Mo_214 io_226 rfl ?_
    refine a_if_ne (tgt := 86) d_Mo_negation_38 rfl (fun c2 => ?_) (fun c2 => ?_)
    · have h := h.1 c2
      exact b_return d_Mo_negation_86 rfl h
    · have h := h.2 c2
      refine a_aload_n (j := 0) d_Mo_negation_41 rfl rfl ?_
      refine b_getfield (v := fs_i (M2 226 21)) d_Mo_negation_42 fl_Mo_179 io_226 rfl ?_
      refine a_iconst d_Mo_negation_45 (by unfold fs_in32; omega) ?_
      refine a_icmp_ne (tgt := 86) d_Mo_negation_46 rfl (fun c3 => ?_) (fun c3 => ?_)
      · have h := h.1 c3
        exact b_return d_Mo_negation_86 rfl h
      · have h := h.2 c3
        refine a_aload_n (j := 0) d_Mo_negation_49 rfl rfl ?_
        refine b_getfield (v := fs_i (M2 226 22)) d_Mo_negation_50 fl_Mo_189 io_226 rfl ?_
        refine a_bipush d_Mo_negation_53 (by decide) ?_
        refine a_icmp_eq (tgt := 87) d_Mo_negation_55 rfl (fun c4 => ?_) (fun c4 => ?_)
        · have h := h.1 c4
          exact h
        · have h := h.2 c4
          refine a_aload_n (j := 0) d_Mo_negation_58 rfl rfl ?_
          refine b_getfield (v := fs_i (M2 226 22)) d_Mo_negation_59 fl_Mo_189 io_226 rfl ?_
          refine a_bipush d_Mo_negation_62 (by decide) ?_
          refine a_icmp_eq (tgt := 87) d_Mo_negation_64 rfl (fun c5 => ?_) (fun c5 => ?_)
          · have h := h.1 c5
            exact h
          · have h := h.2 c5
            refine a_aload_n (j := 0) d_Mo_negation_67 rfl rfl ?_
            refine b_getfield (v := fs_i (M2 226 22)) d_Mo_negation_68 fl_Mo_189 io_226 rfl ?_
            refine a_bipush d_Mo_negation_71 (by decide) ?_
            refine a_icmp_eq (tgt := 87) d_Mo_negation_73 rfl (fun c6 => ?_) (fun c6 => ?_)
            · have h := h.1 c6
              exact h
            · have h := h.2 c6
              refine a_aload_n (j := 0) d_Mo_negation_76 rfl rfl ?_
              refine b_getfield (v := fs_i (M2 226 22)) d_Mo_negation_77 fl_Mo_189 io_226 rfl ?_
              refine a_sipush d_Mo_negation_80 (by decide) ?_
              refine a_icmp_ge (tgt := 87) d_Mo_negation_83 rfl (fun c7 => ?_) (fun c7 => ?_)
              · have h := h.1 c7
                exact h
              · have h := h.2 c7
                exact b_return d_Mo_negation_86 rfl h
  · have h := h.2 c1
    refine a_aload_n (j := 0) d_Mo_negation_9 rfl rfl ?_
    refine b_virtual (dc := 2) (ci := 11) (T := fs_T11) (N := 78) [] [] d_Mo_negation_10 ml_Mo_269 k_Mo_knot v_Mo_knot rfl io_226 rfl (by omega) rfl (Nat.le_of_ble_eq_true rfl) ?_
    refine fs_Call.mono (fun v M3 hv => ?_) h
    obtain ⟨rfl, h⟩ := hv
    show fs_A2 g m_Mo_negation (d + 1) 13 [(0, fs_r 226)] [] M3 K
    refine a_aload_n (j := 0) d_Mo_negation_13 rfl rfl ?_
    refine b_virtual (dc := 7) (ci := 11) (T := fs_T11) (N := 78) [] [] d_Mo_negation_14 ml_Mo_272 k_Mo_goOn v_Mo_goOn rfl io_226 rfl (by omega) rfl (Nat.le_of_ble_eq_true rfl) ?_
    refine fs_Call.mono (fun v M4 hv => ?_) h
    obtain ⟨rfl, h⟩ := hv
    show fs_A2 g m_Mo_negation (d + 1) 17 [(0, fs_r 226)] [] M4 K
    refine a_aload_n (j := 0) d_Mo_negation_17 rfl rfl ?_
    refine b_virtual (dc := d) (ci := 11) (T := fs_T11) (N := 78) [] [] d_Mo_negation_18 ml_Mo_279 k_Mo_negation v_Mo_negation rfl io_226 rfl (Nat.le_refl _) rfl (Nat.le_of_ble_eq_true rfl) ?_
    refine fs_Call.mono (fun v M5 hv => ?_) h
    obtain ⟨rfl, h⟩ := hv
    show fs_A2 g m_Mo_negation (d + 1) 21 [(0, fs_r 226)] [] M5 K
    refine a_aload_n (j := 0) d_Mo_negation_21 rfl rfl ?_
    refine a_iconst d_Mo_negation_22 (by unfold fs_in32; omega) ?_
    refine a_sipush d_Mo_negation_23 (by decide) ?_
    refine b_virtual (dc := 2) (ci := 11) (T := fs_T11) (N := 78) [fs_i 2, fs_i 260] [] d_Mo_negation_26 ml_Mo_275 k_Mo_puts v_Mo_puts rfl io_226 rfl (by omega) rfl (Nat.le_of_ble_eq_true rfl) ?_
    refine fs_Call.mono (fun v M6 hv => ?_) h
    obtain ⟨rfl, h⟩ := hv
    show fs_A2 g m_Mo_negation (d + 1) 29 [(0, fs_r 226)] [] M6 K
    exact b_return d_Mo_negation_29 rfl h
set_option maxRecDepth 8000 in
set_option maxHeartbeats 4000000 in
theorem L_Mo_negation_87 {d : Nat} (hd : 7 ≤ d) {M : fs_M} {K : fs_K} 
    (h : fs_C2 g m_Mo_knot 2 [fs_r 226] M (fun v M7 => v = none ∧ fs_C2 g m_Mo_goOn 7 [fs_r 226] M7 (fun v M8 => v = none ∧ fs_C2 g m_Mo_sum d [fs_r 226] M8 (fun v M9 => v = none ∧ fs_C2 g m_Mo_puts 2 [fs_r 226, fs_i 2, fs_i (M 226 22)] M9 (fun v M10 => v = none ∧ K none M10))))) :
    fs_A2 g m_Mo_negation (d + 1) 87 [(0, fs_r 226)] [] M K := by
  refine a_aload_n (j := 0) d_Mo_negation_87 rfl rfl ?_
  refine b_getfield (v := fs_i (M 226 22)) d_Mo_negation_88 fl_Mo_189 io_226 rfl ?_
  refine a_istore_n d_Mo_negation_91 rfl (Nat.le_of_ble_eq_true rfl) [1, 0] rfl ?_
  refine a_aload_n (j := 0) d_Mo_negation_92 rfl rfl ?_
  refine b_virtual (dc := 2) (ci := 11) (T := fs_T11) (N := 78) [] [] d_Mo_negation_93 ml_Mo_269 k_Mo_knot v_Mo_knot rfl io_226 rfl (by omega) rfl (Nat.le_of_ble_eq_true rfl) ?_
  refine fs_Call.mono (fun v M7 hv => ?_) h
  obtain ⟨rfl, h⟩ := hv
  show fs_A2 g m_Mo_negation (d + 1) 96 [(0, fs_r 226), (1, fs_i (M 226 22))] [] M7 K
  refine a_aload_n (j := 0) d_Mo_negation_96 rfl rfl ?_
  refine b_virtual (dc := 7) (ci := 11) (T := fs_T11) (N := 78) [] [] d_Mo_negation_97 ml_Mo_272 k_Mo_goOn v_Mo_goOn rfl io_226 rfl (by omega) rfl (Nat.le_of_ble_eq_true rfl) ?_
  refine fs_Call.mono (fun v M8 hv => ?_) h
  obtain ⟨rfl, h⟩ := hv
  show fs_A2 g m_Mo_negation (d + 1) 100 [(0, fs_r 226), (1, fs_i (M 226 22))] [] M8 K
  refine a_aload_n (j := 0) d_Mo_negation_100 rfl rfl ?_
  refine b_virtual (dc := d) (ci := 11) (T := fs_T11) (N := 78) [] [] d_Mo_negation_101 ml_Mo_282 k_Mo_sum v_Mo_sum rfl io_226 rfl (Nat.le_refl _) rfl (Nat.le_of_ble_eq_true rfl) ?_
  refine fs_Call.mono (fun v M9 hv => ?_) h
  obtain ⟨rfl, h⟩ := hv
  show fs_A2 g m_Mo_negation (d + 1) 104 [(0, fs_r 226), (1, fs_i (M 226 22))] [] M9 K
  refine a_aload_n (j := 0) d_Mo_negation_104 rfl rfl ?_
  refine a_iconst d_Mo_negation_105 (by unfold fs_in32; omega) ?_
  refine a_iload_n (j := 1) d_Mo_negation_106 rfl rfl ?_
  refine b_virtual (dc := 2) (ci := 11) (T := fs_T11) (N := 78) [fs_i 2, fs_i (M 226 22)] [] d_Mo_negation_107 ml_Mo_275 k_Mo_puts v_Mo_puts rfl io_226 rfl (by omega) rfl (Nat.le_of_ble_eq_true rfl) ?_
  refine fs_Call.mono (fun v M10 hv => ?_) h
  obtain ⟨rfl, h⟩ := hv
  show fs_A2 g m_Mo_negation (d + 1) 110 [(0, fs_r 226), (1, fs_i (M 226 22))] [] M10 K
  exact b_return d_Mo_negation_110 rfl h
end WALK
