-- ===== printed by program (wip/whole/gen9p.py): the runs of the constructors =====
section CTOR
variable {g : fs_G}
set_option maxRecDepth 8000 in
set_option maxHeartbeats 4000000 in
theorem I_Mo_begins_226 {K : fs_K} (h : K none (fs_Tt 374)) : fs_Call g m_Mo_begins 1 (1, 270, 270, 0, 0) [fs_r 226] (fs_Tt 367) K := by
  refine a_enter2 (ls := [(0, fs_r 226)]) (plainFor_of_name pn_Mo) (Nat.le_of_ble_eq_true rfl) rfl ?_
  show fs_At g m_Mo_begins 1 _ (270, 0, 0) 0 [(0, fs_r 226)] [] (fs_Tt 367) K
  refine a_iconst d_Mo_begins_0 (by unfold fs_in32; omega) ?_
  refine a_istore_n d_Mo_begins_1 rfl (Nat.le_of_ble_eq_true rfl) [1, 0] (ls' := [(0, fs_r 226), (1, fs_i 0)]) rfl ?_
  refine a_iload_n (j := 1) d_Mo_begins_2 rfl rfl ?_
  refine a_iconst d_Mo_begins_3 (by unfold fs_in32; omega) ?_
  refine a_icmp_ge (tgt := 20) d_Mo_begins_4 rfl (fun q => absurd q (by decide)) (fun _ => ?_)
  refine a_aload_n (j := 0) d_Mo_begins_7 rfl rfl ?_
  refine a_getfield (v := fs_r 242) d_Mo_begins_8 fl_Mo_60 ⟨by decide, rfl⟩ (by decide) (p_val (x := 242) (by decide +kernel) rfl) ?_
  refine a_iload_n (j := 1) d_Mo_begins_11 rfl rfl ?_
  refine a_iconst d_Mo_begins_12 (by unfold fs_in32; omega) ?_
  refine p_iast (n := 66) d_Mo_begins_13 ⟨by decide, rfl⟩ (by decide) (by decide) (by decide) rfl ?_
  refine a_iinc (j := 1) d_Mo_begins_14 rfl (Nat.le_of_ble_eq_true rfl) [1, 0] (ls' := [(0, fs_r 226), (1, fs_i 1)]) rfl ?_
  refine a_goto (tgt := 2) d_Mo_begins_17 rfl ?_
  show fs_At g m_Mo_begins 1 _ (270, 0, 0) 2 [(0, fs_r 226), (1, fs_i 1)] [] (fs_Tt 368) K
  refine a_iload_n (j := 1) d_Mo_begins_2 rfl rfl ?_
  refine a_iconst d_Mo_begins_3 (by unfold fs_in32; omega) ?_
  refine a_icmp_ge (tgt := 20) d_Mo_begins_4 rfl (fun q => absurd q (by decide)) (fun _ => ?_)
  refine a_aload_n (j := 0) d_Mo_begins_7 rfl rfl ?_
  refine a_getfield (v := fs_r 242) d_Mo_begins_8 fl_Mo_60 ⟨by decide, rfl⟩ (by decide) (p_val (x := 242) (by decide +kernel) rfl) ?_
  refine a_iload_n (j := 1) d_Mo_begins_11 rfl rfl ?_
  refine a_iconst d_Mo_begins_12 (by unfold fs_in32; omega) ?_
  refine p_iast (n := 66) d_Mo_begins_13 ⟨by decide, rfl⟩ (by decide) (by decide) (by decide) rfl ?_
  refine a_iinc (j := 1) d_Mo_begins_14 rfl (Nat.le_of_ble_eq_true rfl) [1, 0] (ls' := [(0, fs_r 226), (1, fs_i 2)]) rfl ?_
  refine a_goto (tgt := 2) d_Mo_begins_17 rfl ?_
  refine a_iload_n (j := 1) d_Mo_begins_2 rfl rfl ?_
  refine a_iconst d_Mo_begins_3 (by unfold fs_in32; omega) ?_
  show fs_At g m_Mo_begins 1 _ (270, 0, 0) 4 [(0, fs_r 226), (1, fs_i 2)] [fs_i 3, fs_i 2] (fs_Tt 369) K
  refine a_icmp_ge (tgt := 20) d_Mo_begins_4 rfl (fun q => absurd q (by decide)) (fun _ => ?_)
  refine a_aload_n (j := 0) d_Mo_begins_7 rfl rfl ?_
  refine a_getfield (v := fs_r 242) d_Mo_begins_8 fl_Mo_60 ⟨by decide, rfl⟩ (by decide) (p_val (x := 242) (by decide +kernel) rfl) ?_
  refine a_iload_n (j := 1) d_Mo_begins_11 rfl rfl ?_
  refine a_iconst d_Mo_begins_12 (by unfold fs_in32; omega) ?_
  refine p_iast (n := 66) d_Mo_begins_13 ⟨by decide, rfl⟩ (by decide) (by decide) (by decide) rfl ?_
  refine a_iinc (j := 1) d_Mo_begins_14 rfl (Nat.le_of_ble_eq_true rfl) [1, 0] (ls' := [(0, fs_r 226), (1, fs_i 3)]) rfl ?_
  refine a_goto (tgt := 2) d_Mo_begins_17 rfl ?_
  refine a_iload_n (j := 1) d_Mo_begins_2 rfl rfl ?_
  refine a_iconst d_Mo_begins_3 (by unfold fs_in32; omega) ?_
  refine a_icmp_ge (tgt := 20) d_Mo_begins_4 rfl (fun _ => ?_) (fun q => absurd (by decide) q)
  refine a_aload_n (j := 0) d_Mo_begins_20 rfl rfl ?_
  show fs_At g m_Mo_begins 1 _ (270, 0, 0) 21 [(0, fs_r 226), (1, fs_i 3)] [fs_r 226] (fs_Tt 370) K
  refine a_getfield (v := fs_r 243) d_Mo_begins_21 fl_Mo_63 ⟨by decide, rfl⟩ (by decide) (p_val (x := 243) (by decide +kernel) rfl) ?_
  refine a_iconst d_Mo_begins_24 (by unfold fs_in32; omega) ?_
  refine a_iconst d_Mo_begins_25 (by unfold fs_in32; omega) ?_
  refine p_iast (n := 22) d_Mo_begins_26 ⟨by decide, rfl⟩ (by decide) (by decide) (by decide) rfl ?_
  refine a_aload_n (j := 0) d_Mo_begins_27 rfl rfl ?_
  refine a_getfield (v := fs_r 244) d_Mo_begins_28 fl_Mo_66 ⟨by decide, rfl⟩ (by decide) (p_val (x := 244) (by decide +kernel) rfl) ?_
  refine a_iconst d_Mo_begins_31 (by unfold fs_in32; omega) ?_
  refine a_iconst d_Mo_begins_32 (by unfold fs_in32; omega) ?_
  refine p_iast (n := 22) d_Mo_begins_33 ⟨by decide, rfl⟩ (by decide) (by decide) (by decide) rfl ?_
  refine a_aload_n (j := 0) d_Mo_begins_34 rfl rfl ?_
  refine a_getfield (v := fs_r 245) d_Mo_begins_35 fl_Mo_69 ⟨by decide, rfl⟩ (by decide) (p_val (x := 245) (by decide +kernel) rfl) ?_
  refine a_iconst d_Mo_begins_38 (by unfold fs_in32; omega) ?_
  show fs_At g m_Mo_begins 1 _ (270, 0, 0) 39 [(0, fs_r 226), (1, fs_i 3)] [fs_i 0, fs_r 245] (fs_Tt 372) K
  refine a_aload_n (j := 0) d_Mo_begins_39 rfl rfl ?_
  refine a_getfield (v := fs_r 228) d_Mo_begins_40 fl_Mo_13 ⟨by decide, rfl⟩ (by decide) (p_val (x := 228) (by decide +kernel) rfl) ?_
  refine a_iconst d_Mo_begins_43 (by unfold fs_in32; omega) ?_
  refine p_iald (n := 8) (v := 0) d_Mo_begins_44 ⟨by decide, rfl⟩ (by decide) (by decide) (by decide) (by decide +kernel) ?_
  refine p_iast (n := 2) d_Mo_begins_45 ⟨by decide, rfl⟩ (by decide) (by decide) (by decide) rfl ?_
  refine a_aload_n (j := 0) d_Mo_begins_46 rfl rfl ?_
  refine a_getfield (v := fs_r 246) d_Mo_begins_47 fl_Mo_72 ⟨by decide, rfl⟩ (by decide) (p_val (x := 246) (by decide +kernel) rfl) ?_
  refine a_iconst d_Mo_begins_50 (by unfold fs_in32; omega) ?_
  refine a_iconst d_Mo_begins_51 (by unfold fs_in32; omega) ?_
  refine p_iast (n := 2) d_Mo_begins_52 ⟨by decide, rfl⟩ (by decide) (by decide) (by decide) rfl ?_
  exact a_return d_Mo_begins_53 rfl ⟨rfl, by decide, by decide⟩ h
set_option maxRecDepth 8000 in
set_option maxHeartbeats 4000000 in
theorem I_Mo_init_226 {K : fs_K} (h : K none (fs_Tt 374)) : fs_Call g m_Mo_init 3 (1, 227, 270, 43, 1962) [fs_r 226] (fs_Tt 319) K := by
  refine a_enter2 (ls := [(0, fs_r 226)]) (plainFor_of_name pn_Mo) (Nat.le_of_ble_eq_true rfl) rfl ?_
  show fs_At g m_Mo_init 3 _ (227, 0, 0) 0 [(0, fs_r 226)] [] (fs_Tt 319) K
  refine a_aload_n (j := 0) d_Mo_init_0 rfl rfl ?_
  refine p_objinit (idx := 1) d_Mo_init_1 ⟨(fs_inB 1405 (by decide +kernel) rfl), ow_i, ow_c⟩ ⟨by decide, rfl⟩ rfl (by decide) ?_
  refine a_aload_n (j := 0) d_Mo_init_4 rfl rfl ?_
  refine a_sipush d_Mo_init_5 (by decide) ?_
  refine p_newarray (ty := 0) (n := 600) rfl d_Mo_init_8 aw_int (by simp) rfl (by decide) (by decide +kernel) ⟨by decide, by decide⟩ ?_
  show fs_At g m_Mo_init 3 _ (228, 1, 600) 10 [(0, fs_r 226)] [fs_r 227, fs_r 226] (fs_Tt 319) K
  refine p_putF (x := 227) d_Mo_init_10 flF_Mo_7 rfl rfl rfl ⟨by decide, rfl⟩ (by decide) rfl fs_nar_arr rfl ?_
  refine a_aload_n (j := 0) d_Mo_init_13 rfl rfl ?_
  refine a_bipush d_Mo_init_14 (by decide) ?_
  refine p_newarray (ty := 0) (n := 8) rfl d_Mo_init_16 aw_int (by simp) rfl (by decide) (by decide +kernel) ⟨by decide, by decide⟩ ?_
  show fs_At g m_Mo_init 3 _ (229, 2, 608) 18 [(0, fs_r 226)] [fs_r 228, fs_r 226] (fs_Tt 320) K
  refine p_putF (x := 228) d_Mo_init_18 flF_Mo_13 rfl rfl rfl ⟨by decide, rfl⟩ (by decide) rfl fs_nar_arr rfl ?_
  refine a_aload_n (j := 0) d_Mo_init_21 rfl rfl ?_
  refine a_bipush d_Mo_init_22 (by decide) ?_
  refine p_newarray (ty := 0) (n := 12) rfl d_Mo_init_24 aw_int (by simp) rfl (by decide) (by decide +kernel) ⟨by decide, by decide⟩ ?_
  show fs_At g m_Mo_init 3 _ (230, 3, 620) 26 [(0, fs_r 226)] [fs_r 229, fs_r 226] (fs_Tt 321) K
  refine p_putF (x := 229) d_Mo_init_26 flF_Mo_16 rfl rfl rfl ⟨by decide, rfl⟩ (by decide) rfl fs_nar_arr rfl ?_
  refine a_aload_n (j := 0) d_Mo_init_29 rfl rfl ?_
  show fs_At g m_Mo_init 3 _ (230, 3, 620) 30 [(0, fs_r 226)] [fs_r 226] (fs_Tt 322) K
  refine a_bipush d_Mo_init_30 (by decide) ?_
  refine p_newarray (ty := 0) (n := 12) rfl d_Mo_init_32 aw_int (by simp) rfl (by decide) (by decide +kernel) ⟨by decide, by decide⟩ ?_
  show fs_At g m_Mo_init 3 _ (231, 4, 632) 34 [(0, fs_r 226)] [fs_r 230, fs_r 226] (fs_Tt 322) K
  refine p_putF (x := 230) d_Mo_init_34 flF_Mo_19 rfl rfl rfl ⟨by decide, rfl⟩ (by decide) rfl fs_nar_arr rfl ?_
  refine a_aload_n (j := 0) d_Mo_init_37 rfl rfl ?_
  refine a_bipush d_Mo_init_38 (by decide) ?_
  refine p_newarray (ty := 0) (n := 12) rfl d_Mo_init_40 aw_int (by simp) rfl (by decide) (by decide +kernel) ⟨by decide, by decide⟩ ?_
  show fs_At g m_Mo_init 3 _ (232, 5, 644) 42 [(0, fs_r 226)] [fs_r 231, fs_r 226] (fs_Tt 323) K
  refine p_putF (x := 231) d_Mo_init_42 flF_Mo_22 rfl rfl rfl ⟨by decide, rfl⟩ (by decide) rfl fs_nar_arr rfl ?_
  refine a_aload_n (j := 0) d_Mo_init_45 rfl rfl ?_
  refine a_bipush d_Mo_init_46 (by decide) ?_
  refine p_newarray (ty := 0) (n := 12) rfl d_Mo_init_48 aw_int (by simp) rfl (by decide) (by decide +kernel) ⟨by decide, by decide⟩ ?_
  show fs_At g m_Mo_init 3 _ (233, 6, 656) 50 [(0, fs_r 226)] [fs_r 232, fs_r 226] (fs_Tt 324) K
  refine p_putF (x := 232) d_Mo_init_50 flF_Mo_25 rfl rfl rfl ⟨by decide, rfl⟩ (by decide) rfl fs_nar_arr rfl ?_
  refine a_aload_n (j := 0) d_Mo_init_53 rfl rfl ?_
  refine a_bipush d_Mo_init_54 (by decide) ?_
  refine p_newarray (ty := 1) (n := 12) rfl d_Mo_init_56 aw_boolean (by simp) rfl (by decide) (by decide +kernel) ⟨by decide, by decide⟩ ?_
  show fs_At g m_Mo_init 3 _ (234, 7, 668) 58 [(0, fs_r 226)] [fs_r 233, fs_r 226] (fs_Tt 325) K
  refine p_putF (x := 233) d_Mo_init_58 flF_Mo_28 rfl rfl rfl ⟨by decide, rfl⟩ (by decide) rfl fs_nar_arr rfl ?_
  refine a_aload_n (j := 0) d_Mo_init_61 rfl rfl ?_
  show fs_At g m_Mo_init 3 _ (234, 7, 668) 62 [(0, fs_r 226)] [fs_r 226] (fs_Tt 326) K
  refine a_bipush d_Mo_init_62 (by decide) ?_
  refine p_newarray (ty := 0) (n := 6) rfl d_Mo_init_64 aw_int (by simp) rfl (by decide) (by decide +kernel) ⟨by decide, by decide⟩ ?_
  show fs_At g m_Mo_init 3 _ (235, 8, 674) 66 [(0, fs_r 226)] [fs_r 234, fs_r 226] (fs_Tt 326) K
  refine p_putF (x := 234) d_Mo_init_66 flF_Mo_32 rfl rfl rfl ⟨by decide, rfl⟩ (by decide) rfl fs_nar_arr rfl ?_
  refine a_aload_n (j := 0) d_Mo_init_69 rfl rfl ?_
  refine a_bipush d_Mo_init_70 (by decide) ?_
  refine p_newarray (ty := 0) (n := 6) rfl d_Mo_init_72 aw_int (by simp) rfl (by decide) (by decide +kernel) ⟨by decide, by decide⟩ ?_
  show fs_At g m_Mo_init 3 _ (236, 9, 680) 74 [(0, fs_r 226)] [fs_r 235, fs_r 226] (fs_Tt 327) K
  refine p_putF (x := 235) d_Mo_init_74 flF_Mo_35 rfl rfl rfl ⟨by decide, rfl⟩ (by decide) rfl fs_nar_arr rfl ?_
  refine a_aload_n (j := 0) d_Mo_init_77 rfl rfl ?_
  refine a_bipush d_Mo_init_78 (by decide) ?_
  refine p_newarray (ty := 0) (n := 6) rfl d_Mo_init_80 aw_int (by simp) rfl (by decide) (by decide +kernel) ⟨by decide, by decide⟩ ?_
  show fs_At g m_Mo_init 3 _ (237, 10, 686) 82 [(0, fs_r 226)] [fs_r 236, fs_r 226] (fs_Tt 328) K
  refine p_putF (x := 236) d_Mo_init_82 flF_Mo_38 rfl rfl rfl ⟨by decide, rfl⟩ (by decide) rfl fs_nar_arr rfl ?_
  refine a_aload_n (j := 0) d_Mo_init_85 rfl rfl ?_
  refine a_bipush d_Mo_init_86 (by decide) ?_
  refine p_newarray (ty := 0) (n := 8) rfl d_Mo_init_88 aw_int (by simp) rfl (by decide) (by decide +kernel) ⟨by decide, by decide⟩ ?_
  show fs_At g m_Mo_init 3 _ (238, 11, 694) 90 [(0, fs_r 226)] [fs_r 237, fs_r 226] (fs_Tt 329) K
  refine p_putF (x := 237) d_Mo_init_90 flF_Mo_41 rfl rfl rfl ⟨by decide, rfl⟩ (by decide) rfl fs_nar_arr rfl ?_
  refine a_aload_n (j := 0) d_Mo_init_93 rfl rfl ?_
  show fs_At g m_Mo_init 3 _ (238, 11, 694) 94 [(0, fs_r 226)] [fs_r 226] (fs_Tt 330) K
  refine a_bipush d_Mo_init_94 (by decide) ?_
  refine p_newarray (ty := 0) (n := 8) rfl d_Mo_init_96 aw_int (by simp) rfl (by decide) (by decide +kernel) ⟨by decide, by decide⟩ ?_
  show fs_At g m_Mo_init 3 _ (239, 12, 702) 98 [(0, fs_r 226)] [fs_r 238, fs_r 226] (fs_Tt 330) K
  refine p_putF (x := 238) d_Mo_init_98 flF_Mo_44 rfl rfl rfl ⟨by decide, rfl⟩ (by decide) rfl fs_nar_arr rfl ?_
  refine a_aload_n (j := 0) d_Mo_init_101 rfl rfl ?_
  refine a_sipush d_Mo_init_102 (by decide) ?_
  refine p_newarray (ty := 0) (n := 128) rfl d_Mo_init_105 aw_int (by simp) rfl (by decide) (by decide +kernel) ⟨by decide, by decide⟩ ?_
  show fs_At g m_Mo_init 3 _ (240, 13, 830) 107 [(0, fs_r 226)] [fs_r 239, fs_r 226] (fs_Tt 331) K
  refine p_putF (x := 239) d_Mo_init_107 flF_Mo_47 rfl rfl rfl ⟨by decide, rfl⟩ (by decide) rfl fs_nar_arr rfl ?_
  refine a_aload_n (j := 0) d_Mo_init_110 rfl rfl ?_
  refine a_sipush d_Mo_init_111 (by decide) ?_
  refine p_newarray (ty := 0) (n := 128) rfl d_Mo_init_114 aw_int (by simp) rfl (by decide) (by decide +kernel) ⟨by decide, by decide⟩ ?_
  show fs_At g m_Mo_init 3 _ (241, 14, 958) 116 [(0, fs_r 226)] [fs_r 240, fs_r 226] (fs_Tt 332) K
  refine p_putF (x := 240) d_Mo_init_116 flF_Mo_50 rfl rfl rfl ⟨by decide, rfl⟩ (by decide) rfl fs_nar_arr rfl ?_
  refine a_aload_n (j := 0) d_Mo_init_119 rfl rfl ?_
  refine a_iconst d_Mo_init_120 (by unfold fs_in32; omega) ?_
  refine p_put1 (x := (-1)) d_Mo_init_121 fl_Mo_53 rfl ⟨by decide, rfl⟩ (by decide) rfl fs_nar_int rfl ?_
  refine a_aload_n (j := 0) d_Mo_init_124 rfl rfl ?_
  show fs_At g m_Mo_init 3 _ (241, 14, 958) 125 [(0, fs_r 226)] [fs_r 226] (fs_Tt 334) K
  refine a_sipush d_Mo_init_125 (by decide) ?_
  refine p_newarray (ty := 0) (n := 594) rfl d_Mo_init_128 aw_int (by simp) rfl (by decide) (by decide +kernel) ⟨by decide, by decide⟩ ?_
  show fs_At g m_Mo_init 3 _ (242, 15, 1552) 130 [(0, fs_r 226)] [fs_r 241, fs_r 226] (fs_Tt 334) K
  refine p_putF (x := 241) d_Mo_init_130 flF_Mo_57 rfl rfl rfl ⟨by decide, rfl⟩ (by decide) rfl fs_nar_arr rfl ?_
  refine a_aload_n (j := 0) d_Mo_init_133 rfl rfl ?_
  refine a_bipush d_Mo_init_134 (by decide) ?_
  refine p_newarray (ty := 0) (n := 66) rfl d_Mo_init_136 aw_int (by simp) rfl (by decide) (by decide +kernel) ⟨by decide, by decide⟩ ?_
  show fs_At g m_Mo_init 3 _ (243, 16, 1618) 138 [(0, fs_r 226)] [fs_r 242, fs_r 226] (fs_Tt 335) K
  refine p_putF (x := 242) d_Mo_init_138 flF_Mo_60 rfl rfl rfl ⟨by decide, rfl⟩ (by decide) rfl fs_nar_arr rfl ?_
  refine a_aload_n (j := 0) d_Mo_init_141 rfl rfl ?_
  refine a_bipush d_Mo_init_142 (by decide) ?_
  refine p_newarray (ty := 0) (n := 22) rfl d_Mo_init_144 aw_int (by simp) rfl (by decide) (by decide +kernel) ⟨by decide, by decide⟩ ?_
  show fs_At g m_Mo_init 3 _ (244, 17, 1640) 146 [(0, fs_r 226)] [fs_r 243, fs_r 226] (fs_Tt 336) K
  refine p_putF (x := 243) d_Mo_init_146 flF_Mo_63 rfl rfl rfl ⟨by decide, rfl⟩ (by decide) rfl fs_nar_arr rfl ?_
  refine a_aload_n (j := 0) d_Mo_init_149 rfl rfl ?_
  refine a_bipush d_Mo_init_150 (by decide) ?_
  refine p_newarray (ty := 0) (n := 22) rfl d_Mo_init_152 aw_int (by simp) rfl (by decide) (by decide +kernel) ⟨by decide, by decide⟩ ?_
  show fs_At g m_Mo_init 3 _ (245, 18, 1662) 154 [(0, fs_r 226)] [fs_r 244, fs_r 226] (fs_Tt 337) K
  refine p_putF (x := 244) d_Mo_init_154 flF_Mo_66 rfl rfl rfl ⟨by decide, rfl⟩ (by decide) rfl fs_nar_arr rfl ?_
  refine a_aload_n (j := 0) d_Mo_init_157 rfl rfl ?_
  show fs_At g m_Mo_init 3 _ (245, 18, 1662) 158 [(0, fs_r 226)] [fs_r 226] (fs_Tt 338) K
  refine a_iconst d_Mo_init_158 (by unfold fs_in32; omega) ?_
  refine p_newarray (ty := 0) (n := 2) rfl d_Mo_init_159 aw_int (by simp) rfl (by decide) (by decide +kernel) ⟨by decide, by decide⟩ ?_
  show fs_At g m_Mo_init 3 _ (246, 19, 1664) 161 [(0, fs_r 226)] [fs_r 245, fs_r 226] (fs_Tt 338) K
  refine p_putF (x := 245) d_Mo_init_161 flF_Mo_69 rfl rfl rfl ⟨by decide, rfl⟩ (by decide) rfl fs_nar_arr rfl ?_
  refine a_aload_n (j := 0) d_Mo_init_164 rfl rfl ?_
  refine a_iconst d_Mo_init_165 (by unfold fs_in32; omega) ?_
  refine p_newarray (ty := 0) (n := 2) rfl d_Mo_init_166 aw_int (by simp) rfl (by decide) (by decide +kernel) ⟨by decide, by decide⟩ ?_
  show fs_At g m_Mo_init 3 _ (247, 20, 1666) 168 [(0, fs_r 226)] [fs_r 246, fs_r 226] (fs_Tt 339) K
  refine p_putF (x := 246) d_Mo_init_168 flF_Mo_72 rfl rfl rfl ⟨by decide, rfl⟩ (by decide) rfl fs_nar_arr rfl ?_
  refine a_aload_n (j := 0) d_Mo_init_171 rfl rfl ?_
  refine a_bipush d_Mo_init_172 (by decide) ?_
  refine p_newarray (ty := 0) (n := 12) rfl d_Mo_init_174 aw_int (by simp) rfl (by decide) (by decide +kernel) ⟨by decide, by decide⟩ ?_
  show fs_At g m_Mo_init 3 _ (248, 21, 1678) 176 [(0, fs_r 226)] [fs_r 247, fs_r 226] (fs_Tt 340) K
  refine p_putF (x := 247) d_Mo_init_176 flF_Mo_75 rfl rfl rfl ⟨by decide, rfl⟩ (by decide) rfl fs_nar_arr rfl ?_
  refine a_aload_n (j := 0) d_Mo_init_179 rfl rfl ?_
  refine a_bipush d_Mo_init_180 (by decide) ?_
  refine p_newarray (ty := 0) (n := 12) rfl d_Mo_init_182 aw_int (by simp) rfl (by decide) (by decide +kernel) ⟨by decide, by decide⟩ ?_
  show fs_At g m_Mo_init 3 _ (249, 22, 1690) 184 [(0, fs_r 226)] [fs_r 248, fs_r 226] (fs_Tt 341) K
  refine p_putF (x := 248) d_Mo_init_184 flF_Mo_78 rfl rfl rfl ⟨by decide, rfl⟩ (by decide) rfl fs_nar_arr rfl ?_
  refine a_aload_n (j := 0) d_Mo_init_187 rfl rfl ?_
  show fs_At g m_Mo_init 3 _ (249, 22, 1690) 188 [(0, fs_r 226)] [fs_r 226] (fs_Tt 342) K
  refine a_bipush d_Mo_init_188 (by decide) ?_
  refine p_newarray (ty := 2) (n := 7) rfl d_Mo_init_190 aw_long (by simp) rfl (by decide) (by decide +kernel) ⟨by decide, by decide⟩ ?_
  show fs_At g m_Mo_init 3 _ (250, 23, 1697) 192 [(0, fs_r 226)] [fs_r 249, fs_r 226] (fs_Tt 342) K
  refine p_putF (x := 249) d_Mo_init_192 flF_Mo_81 rfl rfl rfl ⟨by decide, rfl⟩ (by decide) rfl fs_nar_arr rfl ?_
  refine a_aload_n (j := 0) d_Mo_init_195 rfl rfl ?_
  refine a_bipush d_Mo_init_196 (by decide) ?_
  refine p_newarray (ty := 2) (n := 64) rfl d_Mo_init_198 aw_long (by simp) rfl (by decide) (by decide +kernel) ⟨by decide, by decide⟩ ?_
  show fs_At g m_Mo_init 3 _ (251, 24, 1761) 200 [(0, fs_r 226)] [fs_r 250, fs_r 226] (fs_Tt 343) K
  refine p_putF (x := 250) d_Mo_init_200 flF_Mo_85 rfl rfl rfl ⟨by decide, rfl⟩ (by decide) rfl fs_nar_arr rfl ?_
  refine a_aload_n (j := 0) d_Mo_init_203 rfl rfl ?_
  refine a_iconst d_Mo_init_204 (by unfold fs_in32; omega) ?_
  refine p_put1 (x := (-1)) d_Mo_init_205 fl_Mo_88 rfl ⟨by decide, rfl⟩ (by decide) rfl fs_nar_int rfl ?_
  refine a_aload_n (j := 0) d_Mo_init_208 rfl rfl ?_
  refine a_iconst d_Mo_init_209 (by unfold fs_in32; omega) ?_
  refine p_put1 (x := (-1)) d_Mo_init_210 fl_Mo_91 rfl ⟨by decide, rfl⟩ (by decide) rfl fs_nar_int rfl ?_
  refine a_aload_n (j := 0) d_Mo_init_213 rfl rfl ?_
  show fs_At g m_Mo_init 3 _ (251, 24, 1761) 214 [(0, fs_r 226)] [fs_r 226] (fs_Tt 346) K
  refine a_iconst d_Mo_init_214 (by unfold fs_in32; omega) ?_
  refine p_put1 (x := (-1)) d_Mo_init_215 fl_Mo_94 rfl ⟨by decide, rfl⟩ (by decide) rfl fs_nar_int rfl ?_
  refine a_aload_n (j := 0) d_Mo_init_218 rfl rfl ?_
  refine a_bipush d_Mo_init_219 (by decide) ?_
  refine p_newarray (ty := 0) (n := 27) rfl d_Mo_init_221 aw_int (by simp) rfl (by decide) (by decide +kernel) ⟨by decide, by decide⟩ ?_
  show fs_At g m_Mo_init 3 _ (252, 25, 1788) 223 [(0, fs_r 226)] [fs_r 251, fs_r 226] (fs_Tt 347) K
  refine p_putF (x := 251) d_Mo_init_223 flF_Mo_97 rfl rfl rfl ⟨by decide, rfl⟩ (by decide) rfl fs_nar_arr rfl ?_
  refine a_aload_n (j := 0) d_Mo_init_226 rfl rfl ?_
  refine a_iconst d_Mo_init_227 (by unfold fs_in32; omega) ?_
  refine p_newarray (ty := 0) (n := 3) rfl d_Mo_init_228 aw_int (by simp) rfl (by decide) (by decide +kernel) ⟨by decide, by decide⟩ ?_
  show fs_At g m_Mo_init 3 _ (253, 26, 1791) 230 [(0, fs_r 226)] [fs_r 252, fs_r 226] (fs_Tt 348) K
  refine p_putF (x := 252) d_Mo_init_230 flF_Mo_100 rfl rfl rfl ⟨by decide, rfl⟩ (by decide) rfl fs_nar_arr rfl ?_
  refine a_aload_n (j := 0) d_Mo_init_233 rfl rfl ?_
  refine a_iconst d_Mo_init_234 (by unfold fs_in32; omega) ?_
  refine p_newarray (ty := 0) (n := 3) rfl d_Mo_init_235 aw_int (by simp) rfl (by decide) (by decide +kernel) ⟨by decide, by decide⟩ ?_
  show fs_At g m_Mo_init 3 _ (254, 27, 1794) 237 [(0, fs_r 226)] [fs_r 253, fs_r 226] (fs_Tt 349) K
  refine p_putF (x := 253) d_Mo_init_237 flF_Mo_103 rfl rfl rfl ⟨by decide, rfl⟩ (by decide) rfl fs_nar_arr rfl ?_
  refine a_aload_n (j := 0) d_Mo_init_240 rfl rfl ?_
  show fs_At g m_Mo_init 3 _ (254, 27, 1794) 241 [(0, fs_r 226)] [fs_r 226] (fs_Tt 350) K
  refine a_iconst d_Mo_init_241 (by unfold fs_in32; omega) ?_
  refine p_newarray (ty := 0) (n := 3) rfl d_Mo_init_242 aw_int (by simp) rfl (by decide) (by decide +kernel) ⟨by decide, by decide⟩ ?_
  show fs_At g m_Mo_init 3 _ (255, 28, 1797) 244 [(0, fs_r 226)] [fs_r 254, fs_r 226] (fs_Tt 350) K
  refine p_putF (x := 254) d_Mo_init_244 flF_Mo_106 rfl rfl rfl ⟨by decide, rfl⟩ (by decide) rfl fs_nar_arr rfl ?_
  refine a_aload_n (j := 0) d_Mo_init_247 rfl rfl ?_
  refine a_iconst d_Mo_init_248 (by unfold fs_in32; omega) ?_
  refine p_newarray (ty := 0) (n := 3) rfl d_Mo_init_249 aw_int (by simp) rfl (by decide) (by decide +kernel) ⟨by decide, by decide⟩ ?_
  show fs_At g m_Mo_init 3 _ (256, 29, 1800) 251 [(0, fs_r 226)] [fs_r 255, fs_r 226] (fs_Tt 351) K
  refine p_putF (x := 255) d_Mo_init_251 flF_Mo_109 rfl rfl rfl ⟨by decide, rfl⟩ (by decide) rfl fs_nar_arr rfl ?_
  refine a_aload_n (j := 0) d_Mo_init_254 rfl rfl ?_
  refine a_iconst d_Mo_init_255 (by unfold fs_in32; omega) ?_
  refine p_newarray (ty := 0) (n := 3) rfl d_Mo_init_256 aw_int (by simp) rfl (by decide) (by decide +kernel) ⟨by decide, by decide⟩ ?_
  show fs_At g m_Mo_init 3 _ (257, 30, 1803) 258 [(0, fs_r 226)] [fs_r 256, fs_r 226] (fs_Tt 352) K
  refine p_putF (x := 256) d_Mo_init_258 flF_Mo_112 rfl rfl rfl ⟨by decide, rfl⟩ (by decide) rfl fs_nar_arr rfl ?_
  refine a_aload_n (j := 0) d_Mo_init_261 rfl rfl ?_
  refine a_iconst d_Mo_init_262 (by unfold fs_in32; omega) ?_
  refine p_newarray (ty := 0) (n := 3) rfl d_Mo_init_263 aw_int (by simp) rfl (by decide) (by decide +kernel) ⟨by decide, by decide⟩ ?_
  show fs_At g m_Mo_init 3 _ (258, 31, 1806) 265 [(0, fs_r 226)] [fs_r 257, fs_r 226] (fs_Tt 353) K
  refine p_putF (x := 257) d_Mo_init_265 flF_Mo_115 rfl rfl rfl ⟨by decide, rfl⟩ (by decide) rfl fs_nar_arr rfl ?_
  refine a_aload_n (j := 0) d_Mo_init_268 rfl rfl ?_
  show fs_At g m_Mo_init 3 _ (258, 31, 1806) 269 [(0, fs_r 226)] [fs_r 226] (fs_Tt 354) K
  refine a_iconst d_Mo_init_269 (by unfold fs_in32; omega) ?_
  refine p_newarray (ty := 0) (n := 3) rfl d_Mo_init_270 aw_int (by simp) rfl (by decide) (by decide +kernel) ⟨by decide, by decide⟩ ?_
  show fs_At g m_Mo_init 3 _ (259, 32, 1809) 272 [(0, fs_r 226)] [fs_r 258, fs_r 226] (fs_Tt 354) K
  refine p_putF (x := 258) d_Mo_init_272 flF_Mo_118 rfl rfl rfl ⟨by decide, rfl⟩ (by decide) rfl fs_nar_arr rfl ?_
  refine a_aload_n (j := 0) d_Mo_init_275 rfl rfl ?_
  refine a_iconst d_Mo_init_276 (by unfold fs_in32; omega) ?_
  refine p_newarray (ty := 0) (n := 3) rfl d_Mo_init_277 aw_int (by simp) rfl (by decide) (by decide +kernel) ⟨by decide, by decide⟩ ?_
  show fs_At g m_Mo_init 3 _ (260, 33, 1812) 279 [(0, fs_r 226)] [fs_r 259, fs_r 226] (fs_Tt 355) K
  refine p_putF (x := 259) d_Mo_init_279 flF_Mo_121 rfl rfl rfl ⟨by decide, rfl⟩ (by decide) rfl fs_nar_arr rfl ?_
  refine a_aload_n (j := 0) d_Mo_init_282 rfl rfl ?_
  refine a_iconst d_Mo_init_283 (by unfold fs_in32; omega) ?_
  refine p_newarray (ty := 0) (n := 3) rfl d_Mo_init_284 aw_int (by simp) rfl (by decide) (by decide +kernel) ⟨by decide, by decide⟩ ?_
  show fs_At g m_Mo_init 3 _ (261, 34, 1815) 286 [(0, fs_r 226)] [fs_r 260, fs_r 226] (fs_Tt 356) K
  refine p_putF (x := 260) d_Mo_init_286 flF_Mo_124 rfl rfl rfl ⟨by decide, rfl⟩ (by decide) rfl fs_nar_arr rfl ?_
  refine a_aload_n (j := 0) d_Mo_init_289 rfl rfl ?_
  refine a_bipush d_Mo_init_290 (by decide) ?_
  refine p_newarray (ty := 0) (n := 6) rfl d_Mo_init_292 aw_int (by simp) rfl (by decide) (by decide +kernel) ⟨by decide, by decide⟩ ?_
  show fs_At g m_Mo_init 3 _ (262, 35, 1821) 294 [(0, fs_r 226)] [fs_r 261, fs_r 226] (fs_Tt 357) K
  refine p_putF (x := 261) d_Mo_init_294 flF_Mo_127 rfl rfl rfl ⟨by decide, rfl⟩ (by decide) rfl fs_nar_arr rfl ?_
  refine a_aload_n (j := 0) d_Mo_init_297 rfl rfl ?_
  show fs_At g m_Mo_init 3 _ (262, 35, 1821) 298 [(0, fs_r 226)] [fs_r 226] (fs_Tt 358) K
  refine a_bipush d_Mo_init_298 (by decide) ?_
  refine p_newarray (ty := 0) (n := 6) rfl d_Mo_init_300 aw_int (by simp) rfl (by decide) (by decide +kernel) ⟨by decide, by decide⟩ ?_
  show fs_At g m_Mo_init 3 _ (263, 36, 1827) 302 [(0, fs_r 226)] [fs_r 262, fs_r 226] (fs_Tt 358) K
  refine p_putF (x := 262) d_Mo_init_302 flF_Mo_130 rfl rfl rfl ⟨by decide, rfl⟩ (by decide) rfl fs_nar_arr rfl ?_
  refine a_aload_n (j := 0) d_Mo_init_305 rfl rfl ?_
  refine a_bipush d_Mo_init_306 (by decide) ?_
  refine p_newarray (ty := 0) (n := 27) rfl d_Mo_init_308 aw_int (by simp) rfl (by decide) (by decide +kernel) ⟨by decide, by decide⟩ ?_
  show fs_At g m_Mo_init 3 _ (264, 37, 1854) 310 [(0, fs_r 226)] [fs_r 263, fs_r 226] (fs_Tt 359) K
  refine p_putF (x := 263) d_Mo_init_310 flF_Mo_133 rfl rfl rfl ⟨by decide, rfl⟩ (by decide) rfl fs_nar_arr rfl ?_
  refine a_aload_n (j := 0) d_Mo_init_313 rfl rfl ?_
  refine a_iconst d_Mo_init_314 (by unfold fs_in32; omega) ?_
  refine p_newarray (ty := 0) (n := 3) rfl d_Mo_init_315 aw_int (by simp) rfl (by decide) (by decide +kernel) ⟨by decide, by decide⟩ ?_
  show fs_At g m_Mo_init 3 _ (265, 38, 1857) 317 [(0, fs_r 226)] [fs_r 264, fs_r 226] (fs_Tt 360) K
  refine p_putF (x := 264) d_Mo_init_317 flF_Mo_136 rfl rfl rfl ⟨by decide, rfl⟩ (by decide) rfl fs_nar_arr rfl ?_
  refine a_aload_n (j := 0) d_Mo_init_320 rfl rfl ?_
  refine a_iconst d_Mo_init_321 (by unfold fs_in32; omega) ?_
  refine p_put1 (x := (-1)) d_Mo_init_322 fl_Mo_139 rfl ⟨by decide, rfl⟩ (by decide) rfl fs_nar_int rfl ?_
  refine a_aload_n (j := 0) d_Mo_init_325 rfl rfl ?_
  show fs_At g m_Mo_init 3 _ (265, 38, 1857) 326 [(0, fs_r 226)] [fs_r 226] (fs_Tt 362) K
  refine a_bipush d_Mo_init_326 (by decide) ?_
  refine p_newarray (ty := 0) (n := 24) rfl d_Mo_init_328 aw_int (by simp) rfl (by decide) (by decide +kernel) ⟨by decide, by decide⟩ ?_
  show fs_At g m_Mo_init 3 _ (266, 39, 1881) 330 [(0, fs_r 226)] [fs_r 265, fs_r 226] (fs_Tt 362) K
  refine p_putF (x := 265) d_Mo_init_330 flF_Mo_142 rfl rfl rfl ⟨by decide, rfl⟩ (by decide) rfl fs_nar_arr rfl ?_
  refine a_aload_n (j := 0) d_Mo_init_333 rfl rfl ?_
  refine a_bipush d_Mo_init_334 (by decide) ?_
  refine p_newarray (ty := 0) (n := 24) rfl d_Mo_init_336 aw_int (by simp) rfl (by decide) (by decide +kernel) ⟨by decide, by decide⟩ ?_
  show fs_At g m_Mo_init 3 _ (267, 40, 1905) 338 [(0, fs_r 226)] [fs_r 266, fs_r 226] (fs_Tt 363) K
  refine p_putF (x := 266) d_Mo_init_338 flF_Mo_145 rfl rfl rfl ⟨by decide, rfl⟩ (by decide) rfl fs_nar_arr rfl ?_
  refine a_aload_n (j := 0) d_Mo_init_341 rfl rfl ?_
  refine a_bipush d_Mo_init_342 (by decide) ?_
  refine p_newarray (ty := 0) (n := 24) rfl d_Mo_init_344 aw_int (by simp) rfl (by decide) (by decide +kernel) ⟨by decide, by decide⟩ ?_
  show fs_At g m_Mo_init 3 _ (268, 41, 1929) 346 [(0, fs_r 226)] [fs_r 267, fs_r 226] (fs_Tt 364) K
  refine p_putF (x := 267) d_Mo_init_346 flF_Mo_148 rfl rfl rfl ⟨by decide, rfl⟩ (by decide) rfl fs_nar_arr rfl ?_
  refine a_aload_n (j := 0) d_Mo_init_349 rfl rfl ?_
  refine a_bipush d_Mo_init_350 (by decide) ?_
  refine p_newarray (ty := 1) (n := 24) rfl d_Mo_init_352 aw_boolean (by simp) rfl (by decide) (by decide +kernel) ⟨by decide, by decide⟩ ?_
  show fs_At g m_Mo_init 3 _ (269, 42, 1953) 354 [(0, fs_r 226)] [fs_r 268, fs_r 226] (fs_Tt 365) K
  refine p_putF (x := 268) d_Mo_init_354 flF_Mo_151 rfl rfl rfl ⟨by decide, rfl⟩ (by decide) rfl fs_nar_arr rfl ?_
  refine a_aload_n (j := 0) d_Mo_init_357 rfl rfl ?_
  show fs_At g m_Mo_init 3 _ (269, 42, 1953) 358 [(0, fs_r 226)] [fs_r 226] (fs_Tt 366) K
  refine a_bipush d_Mo_init_358 (by decide) ?_
  refine p_newarray (ty := 0) (n := 9) rfl d_Mo_init_360 aw_int (by simp) rfl (by decide) (by decide +kernel) ⟨by decide, by decide⟩ ?_
  show fs_At g m_Mo_init 3 _ (270, 43, 1962) 362 [(0, fs_r 226)] [fs_r 269, fs_r 226] (fs_Tt 366) K
  refine p_putF (x := 269) d_Mo_init_362 flF_Mo_154 rfl rfl rfl ⟨by decide, rfl⟩ (by decide) rfl fs_nar_arr rfl ?_
  refine a_aload_n (j := 0) d_Mo_init_365 rfl rfl ?_
  refine a_invokevirtual (dc := 1) (zc := (1, 270, 270, 0, 0)) (o := 226) (ci := 11) (T := fs_T11) (N := 78) [] [] d_Mo_init_366 ml_Mo_157 k_Mo_begins v_Mo_begins rfl ⟨by decide, rfl⟩ (by decide) rfl ⟨by decide, rfl, rfl, by decide, by decide, fun _ => rfl⟩ rfl (Nat.le_of_ble_eq_true rfl) (I_Mo_begins_226 ?_)
  show fs_At g m_Mo_init 3 _ (270, 43, 1962) 369 [(0, fs_r 226)] [] (fs_Tt 374) K
  exact a_return d_Mo_init_369 rfl ⟨rfl, by decide, by decide⟩ h
end CTOR
