-- ===== printed by program (wip/whole/gen9p.py): the runs of the constructors =====
section CTOR
variable {g : fs_G}
set_option maxRecDepth 8000 in
set_option maxHeartbeats 4000000 in
theorem I_Laws_init_9 {K : fs_K} (h : K none (fs_Tt 26)) : fs_Call g m_Laws_init 2 (1, 10, 15, 5, 200) [fs_r 9] (fs_Tt 12) K := by
  refine a_enter2 (ls := [(0, fs_r 9)]) (plainFor_of_name pn_Laws) (Nat.le_of_ble_eq_true rfl) rfl ?_
  show fs_At g m_Laws_init 2 _ (10, 0, 0) 0 [(0, fs_r 9)] [] (fs_Tt 12) K
  refine a_aload_n (j := 0) d_Laws_init_0 rfl rfl ?_
  refine p_objinit (idx := 3) d_Laws_init_1 ⟨(fs_inB 194 (by decide +kernel) rfl), ow_i, ow_c⟩ ⟨by decide, rfl⟩ rfl (by decide) ?_
  refine a_aload_n (j := 0) d_Laws_init_4 rfl rfl ?_
  refine a_bipush d_Laws_init_5 (by decide) ?_
  refine p_anewarray (ty := 7) (n := 64) (C := "FirstSill$Token") rfl d_Laws_init_7 (fs_inB 195 (by decide +kernel) rfl) (by simp) rfl (by decide) (by decide +kernel) ⟨by decide, by decide⟩ ?_
  show fs_At g m_Laws_init 2 _ (11, 1, 64) 10 [(0, fs_r 9)] [fs_r 10, fs_r 9] (fs_Tt 12) K
  refine p_putF (x := 10) d_Laws_init_10 flF_Laws_11 rfl rfl rfl ⟨by decide, rfl⟩ (by decide) rfl fs_nar_arr rfl ?_
  refine a_aload_n (j := 0) d_Laws_init_13 rfl rfl ?_
  refine a_bipush d_Laws_init_14 (by decide) ?_
  refine p_newarray (ty := 0) (n := 64) rfl d_Laws_init_16 aw_int (by simp) rfl (by decide) (by decide +kernel) ⟨by decide, by decide⟩ ?_
  show fs_At g m_Laws_init 2 _ (12, 2, 128) 18 [(0, fs_r 9)] [fs_r 11, fs_r 9] (fs_Tt 13) K
  refine p_putF (x := 11) d_Laws_init_18 flF_Laws_17 rfl rfl rfl ⟨by decide, rfl⟩ (by decide) rfl fs_nar_arr rfl ?_
  refine a_aload_n (j := 0) d_Laws_init_21 rfl rfl ?_
  refine a_iconst d_Laws_init_22 (by unfold fs_in32; omega) ?_
  refine p_put1 (x := 0) d_Laws_init_23 fl_Laws_21 rfl ⟨by decide, rfl⟩ (by decide) rfl fs_nar_int rfl ?_
  refine a_aload_n (j := 0) d_Laws_init_26 rfl rfl ?_
  show fs_At g m_Laws_init 2 _ (12, 2, 128) 27 [(0, fs_r 9)] [fs_r 9] (fs_Tt 15) K
  refine a_iconst d_Laws_init_27 (by unfold fs_in32; omega) ?_
  refine p_newarray (ty := 0) (n := 4) rfl d_Laws_init_28 aw_int (by simp) rfl (by decide) (by decide +kernel) ⟨by decide, by decide⟩ ?_
  show fs_At g m_Laws_init 2 _ (13, 3, 132) 30 [(0, fs_r 9)] [fs_r 12, fs_r 9] (fs_Tt 15) K
  refine p_putF (x := 12) d_Laws_init_30 flF_Laws_25 rfl rfl rfl ⟨by decide, rfl⟩ (by decide) rfl fs_nar_arr rfl ?_
  refine a_aload_n (j := 0) d_Laws_init_33 rfl rfl ?_
  refine a_iconst d_Laws_init_34 (by unfold fs_in32; omega) ?_
  refine p_newarray (ty := 0) (n := 4) rfl d_Laws_init_35 aw_int (by simp) rfl (by decide) (by decide +kernel) ⟨by decide, by decide⟩ ?_
  show fs_At g m_Laws_init 2 _ (14, 4, 136) 37 [(0, fs_r 9)] [fs_r 13, fs_r 9] (fs_Tt 16) K
  refine p_putF (x := 13) d_Laws_init_37 flF_Laws_28 rfl rfl rfl ⟨by decide, rfl⟩ (by decide) rfl fs_nar_arr rfl ?_
  refine a_aload_n (j := 0) d_Laws_init_40 rfl rfl ?_
  refine a_bipush d_Laws_init_41 (by decide) ?_
  refine p_newarray (ty := 2) (n := 64) rfl d_Laws_init_43 aw_long (by simp) rfl (by decide) (by decide +kernel) ⟨by decide, by decide⟩ ?_
  show fs_At g m_Laws_init 2 _ (15, 5, 200) 45 [(0, fs_r 9)] [fs_r 14, fs_r 9] (fs_Tt 17) K
  refine p_putF (x := 14) d_Laws_init_45 flF_Laws_31 rfl rfl rfl ⟨by decide, rfl⟩ (by decide) rfl fs_nar_arr rfl ?_
  refine a_aload_n (j := 0) d_Laws_init_48 rfl rfl ?_
  refine a_lconst (v := 0) d_Laws_init_49 rfl (by unfold fs_in64; omega) ?_
  refine p_put1 (x := 0) d_Laws_init_50 fl_Laws_35 rfl ⟨by decide, rfl⟩ (by decide) rfl fs_nar_long rfl ?_
  refine a_aload_n (j := 0) d_Laws_init_53 rfl rfl ?_
  show fs_At g m_Laws_init 2 _ (15, 5, 200) 54 [(0, fs_r 9)] [fs_r 9] (fs_Tt 19) K
  refine a_iconst d_Laws_init_54 (by unfold fs_in32; omega) ?_
  refine p_put1 (x := 0) d_Laws_init_55 fl_Laws_39 rfl ⟨by decide, rfl⟩ (by decide) rfl fs_nar_int rfl ?_
  refine a_aload_n (j := 0) d_Laws_init_58 rfl rfl ?_
  refine a_iconst d_Laws_init_59 (by unfold fs_in32; omega) ?_
  refine p_put1 (x := 0) d_Laws_init_60 fl_Laws_42 rfl ⟨by decide, rfl⟩ (by decide) rfl fs_nar_int rfl ?_
  refine a_aload_n (j := 0) d_Laws_init_63 rfl rfl ?_
  refine a_iconst d_Laws_init_64 (by unfold fs_in32; omega) ?_
  refine p_put1 (x := 0) d_Laws_init_65 fl_Laws_45 rfl ⟨by decide, rfl⟩ (by decide) rfl fs_nar_int rfl ?_
  refine a_aload_n (j := 0) d_Laws_init_68 rfl rfl ?_
  refine a_iconst d_Laws_init_69 (by unfold fs_in32; omega) ?_
  refine p_put1 (x := 0) d_Laws_init_70 fl_Laws_48 rfl ⟨by decide, rfl⟩ (by decide) rfl fs_nar_int rfl ?_
  refine a_aload_n (j := 0) d_Laws_init_73 rfl rfl ?_
  show fs_At g m_Laws_init 2 _ (15, 5, 200) 74 [(0, fs_r 9)] [fs_r 9] (fs_Tt 23) K
  refine a_iconst d_Laws_init_74 (by unfold fs_in32; omega) ?_
  refine p_put1 (x := 0) d_Laws_init_75 fl_Laws_51 rfl ⟨by decide, rfl⟩ (by decide) rfl fs_nar_int rfl ?_
  refine a_aload_n (j := 0) d_Laws_init_78 rfl rfl ?_
  refine a_iconst d_Laws_init_79 (by unfold fs_in32; omega) ?_
  refine p_put1 (x := 0) d_Laws_init_80 fl_Laws_54 rfl ⟨by decide, rfl⟩ (by decide) rfl fs_nar_int rfl ?_
  refine a_aload_n (j := 0) d_Laws_init_83 rfl rfl ?_
  refine a_iconst d_Laws_init_84 (by unfold fs_in32; omega) ?_
  refine p_put1 (x := 0) d_Laws_init_85 fl_Laws_57 rfl ⟨by decide, rfl⟩ (by decide) rfl fs_nar_int rfl ?_
  exact a_return d_Laws_init_88 rfl ⟨rfl, by decide, by decide⟩ h
set_option maxRecDepth 8000 in
set_option maxHeartbeats 4000000 in
theorem I_Script_init_1 {K : fs_K} (h : K none (fs_Tt 27)) : fs_Call g m_Script_init 3 (1, 2, 15, 13, 247) [fs_r 1] (fs_Tt 0) K := by
  refine a_enter2 (ls := [(0, fs_r 1)]) (plainFor_of_name pn_Script) (Nat.le_of_ble_eq_true rfl) rfl ?_
  show fs_At g m_Script_init 3 _ (2, 0, 0) 0 [(0, fs_r 1)] [] (fs_Tt 0) K
  refine a_aload_n (j := 0) d_Script_init_0 rfl rfl ?_
  refine p_objinit (idx := 3) d_Script_init_1 ⟨(fs_inB 188 (by decide +kernel) rfl), ow_i, ow_c⟩ ⟨by decide, rfl⟩ rfl (by decide) ?_
  refine a_aload_n (j := 0) d_Script_init_4 rfl rfl ?_
  refine a_bipush d_Script_init_5 (by decide) ?_
  refine p_newarray (ty := 0) (n := 6) rfl d_Script_init_7 aw_int (by simp) rfl (by decide) (by decide +kernel) ⟨by decide, by decide⟩ ?_
  show fs_At g m_Script_init 3 _ (3, 1, 6) 9 [(0, fs_r 1)] [fs_r 2, fs_r 1] (fs_Tt 0) K
  refine p_putF (x := 2) d_Script_init_9 flF_Script_9 rfl rfl rfl ⟨by decide, rfl⟩ (by decide) rfl fs_nar_arr rfl ?_
  refine a_aload_n (j := 0) d_Script_init_12 rfl rfl ?_
  refine a_bipush d_Script_init_13 (by decide) ?_
  refine p_newarray (ty := 0) (n := 6) rfl d_Script_init_15 aw_int (by simp) rfl (by decide) (by decide +kernel) ⟨by decide, by decide⟩ ?_
  show fs_At g m_Script_init 3 _ (4, 2, 12) 17 [(0, fs_r 1)] [fs_r 3, fs_r 1] (fs_Tt 1) K
  refine p_putF (x := 3) d_Script_init_17 flF_Script_15 rfl rfl rfl ⟨by decide, rfl⟩ (by decide) rfl fs_nar_arr rfl ?_
  refine a_aload_n (j := 0) d_Script_init_20 rfl rfl ?_
  refine a_bipush d_Script_init_21 (by decide) ?_
  refine p_newarray (ty := 0) (n := 6) rfl d_Script_init_23 aw_int (by simp) rfl (by decide) (by decide +kernel) ⟨by decide, by decide⟩ ?_
  show fs_At g m_Script_init 3 _ (5, 3, 18) 25 [(0, fs_r 1)] [fs_r 4, fs_r 1] (fs_Tt 2) K
  refine p_putF (x := 4) d_Script_init_25 flF_Script_18 rfl rfl rfl ⟨by decide, rfl⟩ (by decide) rfl fs_nar_arr rfl ?_
  refine a_aload_n (j := 0) d_Script_init_28 rfl rfl ?_
  show fs_At g m_Script_init 3 _ (5, 3, 18) 29 [(0, fs_r 1)] [fs_r 1] (fs_Tt 3) K
  refine a_bipush d_Script_init_29 (by decide) ?_
  refine p_newarray (ty := 0) (n := 6) rfl d_Script_init_31 aw_int (by simp) rfl (by decide) (by decide +kernel) ⟨by decide, by decide⟩ ?_
  show fs_At g m_Script_init 3 _ (6, 4, 24) 33 [(0, fs_r 1)] [fs_r 5, fs_r 1] (fs_Tt 3) K
  refine p_putF (x := 5) d_Script_init_33 flF_Script_21 rfl rfl rfl ⟨by decide, rfl⟩ (by decide) rfl fs_nar_arr rfl ?_
  refine a_aload_n (j := 0) d_Script_init_36 rfl rfl ?_
  refine a_iconst d_Script_init_37 (by unfold fs_in32; omega) ?_
  refine p_put1 (x := 0) d_Script_init_38 fl_Script_24 rfl ⟨by decide, rfl⟩ (by decide) rfl fs_nar_int rfl ?_
  refine a_aload_n (j := 0) d_Script_init_41 rfl rfl ?_
  refine a_iconst d_Script_init_42 (by unfold fs_in32; omega) ?_
  refine p_put1 (x := 0) d_Script_init_43 fl_Script_28 rfl ⟨by decide, rfl⟩ (by decide) rfl fs_nar_int rfl ?_
  refine a_aload_n (j := 0) d_Script_init_46 rfl rfl ?_
  refine a_iconst d_Script_init_47 (by unfold fs_in32; omega) ?_
  refine p_newarray (ty := 0) (n := 3) rfl d_Script_init_48 aw_int (by simp) rfl (by decide) (by decide +kernel) ⟨by decide, by decide⟩ ?_
  show fs_At g m_Script_init 3 _ (7, 5, 27) 50 [(0, fs_r 1)] [fs_r 6, fs_r 1] (fs_Tt 6) K
  refine p_putF (x := 6) d_Script_init_50 flF_Script_31 rfl rfl rfl ⟨by decide, rfl⟩ (by decide) rfl fs_nar_arr rfl ?_
  refine a_aload_n (j := 0) d_Script_init_53 rfl rfl ?_
  show fs_At g m_Script_init 3 _ (7, 5, 27) 54 [(0, fs_r 1)] [fs_r 1] (fs_Tt 7) K
  refine a_iconst d_Script_init_54 (by unfold fs_in32; omega) ?_
  refine p_newarray (ty := 0) (n := 3) rfl d_Script_init_55 aw_int (by simp) rfl (by decide) (by decide +kernel) ⟨by decide, by decide⟩ ?_
  show fs_At g m_Script_init 3 _ (8, 6, 30) 57 [(0, fs_r 1)] [fs_r 7, fs_r 1] (fs_Tt 7) K
  refine p_putF (x := 7) d_Script_init_57 flF_Script_34 rfl rfl rfl ⟨by decide, rfl⟩ (by decide) rfl fs_nar_arr rfl ?_
  refine a_aload_n (j := 0) d_Script_init_60 rfl rfl ?_
  refine a_iconst d_Script_init_61 (by unfold fs_in32; omega) ?_
  refine p_newarray (ty := 0) (n := 3) rfl d_Script_init_62 aw_int (by simp) rfl (by decide) (by decide +kernel) ⟨by decide, by decide⟩ ?_
  show fs_At g m_Script_init 3 _ (9, 7, 33) 64 [(0, fs_r 1)] [fs_r 8, fs_r 1] (fs_Tt 8) K
  refine p_putF (x := 8) d_Script_init_64 flF_Script_37 rfl rfl rfl ⟨by decide, rfl⟩ (by decide) rfl fs_nar_arr rfl ?_
  refine a_aload_n (j := 0) d_Script_init_67 rfl rfl ?_
  refine a_iconst d_Script_init_68 (by unfold fs_in32; omega) ?_
  refine p_put1 (x := 0) d_Script_init_69 fl_Script_40 rfl ⟨by decide, rfl⟩ (by decide) rfl fs_nar_int rfl ?_
  refine a_aload_n (j := 0) d_Script_init_72 rfl rfl ?_
  refine a_iconst d_Script_init_73 (by unfold fs_in32; omega) ?_
  refine p_put1 (x := 0) d_Script_init_74 fl_Script_43 rfl ⟨by decide, rfl⟩ (by decide) rfl fs_nar_int rfl ?_
  refine a_aload_n (j := 0) d_Script_init_77 rfl rfl ?_
  show fs_At g m_Script_init 3 _ (9, 7, 33) 78 [(0, fs_r 1)] [fs_r 1] (fs_Tt 11) K
  refine a_iconst d_Script_init_78 (by unfold fs_in32; omega) ?_
  refine p_put1 (x := 0) d_Script_init_79 fl_Script_46 rfl ⟨by decide, rfl⟩ (by decide) rfl (fs_nar_bool (by decide)) rfl ?_
  refine a_aload_n (j := 0) d_Script_init_82 rfl rfl ?_
  refine p_new (idx := 50) (ci := 3) rfl d_Script_init_83 fs_kc3 ⟨(fs_inB 189 (by decide +kernel) rfl), (fs_inB 190 (by decide +kernel) rfl), (fs_inB 150 (by decide +kernel) rfl)⟩ rfl (by decide) (by decide +kernel) ⟨by decide, by decide⟩ ?_
  show fs_At g m_Script_init 3 _ (10, 8, 47) 86 [(0, fs_r 1)] [fs_r 9, fs_r 1] (fs_Tt 12) K
  refine a_dup d_Script_init_86 rfl ?_
  refine a_invokeinit (dc := 2) (zc := (1, 10, 15, 5, 200)) (o := 9) [] [fs_r 9, fs_r 1] d_Script_init_87 ml_Script_52 k_Laws_init v_Laws_init rfl rfl ⟨by decide, rfl⟩ rfl ⟨by decide, rfl, rfl, by decide, by decide, fun _ => rfl⟩ rfl (Nat.le_of_ble_eq_true rfl) (I_Laws_init_9 ?_)
  show fs_At g m_Script_init 3 _ (15, 13, 247) 90 [(0, fs_r 1)] [fs_r 9, fs_r 1] (fs_Tt 26) K
  refine p_putF (x := 9) d_Script_init_90 flF_Script_53 rfl rfl rfl ⟨by decide, rfl⟩ (by decide) rfl fs_nar_obj rfl ?_
  exact a_return d_Script_init_93 rfl ⟨rfl, by decide, by decide⟩ h
set_option maxRecDepth 8000 in
set_option maxHeartbeats 4000000 in
theorem I_Laws_init_23 {K : fs_K} (h : K none (fs_Tt 54)) : fs_Call g m_Laws_init 2 (1, 24, 29, 5, 200) [fs_r 23] (fs_Tt 40) K := by
  refine a_enter2 (ls := [(0, fs_r 23)]) (plainFor_of_name pn_Laws) (Nat.le_of_ble_eq_true rfl) rfl ?_
  show fs_At g m_Laws_init 2 _ (24, 0, 0) 0 [(0, fs_r 23)] [] (fs_Tt 40) K
  refine a_aload_n (j := 0) d_Laws_init_0 rfl rfl ?_
  refine p_objinit (idx := 3) d_Laws_init_1 ⟨(fs_inB 194 (by decide +kernel) rfl), ow_i, ow_c⟩ ⟨by decide, rfl⟩ rfl (by decide) ?_
  refine a_aload_n (j := 0) d_Laws_init_4 rfl rfl ?_
  refine a_bipush d_Laws_init_5 (by decide) ?_
  refine p_anewarray (ty := 7) (n := 64) (C := "FirstSill$Token") rfl d_Laws_init_7 (fs_inB 195 (by decide +kernel) rfl) (by simp) rfl (by decide) (by decide +kernel) ⟨by decide, by decide⟩ ?_
  show fs_At g m_Laws_init 2 _ (25, 1, 64) 10 [(0, fs_r 23)] [fs_r 24, fs_r 23] (fs_Tt 40) K
  refine p_putF (x := 24) d_Laws_init_10 flF_Laws_11 rfl rfl rfl ⟨by decide, rfl⟩ (by decide) rfl fs_nar_arr rfl ?_
  refine a_aload_n (j := 0) d_Laws_init_13 rfl rfl ?_
  refine a_bipush d_Laws_init_14 (by decide) ?_
  refine p_newarray (ty := 0) (n := 64) rfl d_Laws_init_16 aw_int (by simp) rfl (by decide) (by decide +kernel) ⟨by decide, by decide⟩ ?_
  show fs_At g m_Laws_init 2 _ (26, 2, 128) 18 [(0, fs_r 23)] [fs_r 25, fs_r 23] (fs_Tt 41) K
  refine p_putF (x := 25) d_Laws_init_18 flF_Laws_17 rfl rfl rfl ⟨by decide, rfl⟩ (by decide) rfl fs_nar_arr rfl ?_
  refine a_aload_n (j := 0) d_Laws_init_21 rfl rfl ?_
  refine a_iconst d_Laws_init_22 (by unfold fs_in32; omega) ?_
  refine p_put1 (x := 0) d_Laws_init_23 fl_Laws_21 rfl ⟨by decide, rfl⟩ (by decide) rfl fs_nar_int rfl ?_
  refine a_aload_n (j := 0) d_Laws_init_26 rfl rfl ?_
  show fs_At g m_Laws_init 2 _ (26, 2, 128) 27 [(0, fs_r 23)] [fs_r 23] (fs_Tt 43) K
  refine a_iconst d_Laws_init_27 (by unfold fs_in32; omega) ?_
  refine p_newarray (ty := 0) (n := 4) rfl d_Laws_init_28 aw_int (by simp) rfl (by decide) (by decide +kernel) ⟨by decide, by decide⟩ ?_
  show fs_At g m_Laws_init 2 _ (27, 3, 132) 30 [(0, fs_r 23)] [fs_r 26, fs_r 23] (fs_Tt 43) K
  refine p_putF (x := 26) d_Laws_init_30 flF_Laws_25 rfl rfl rfl ⟨by decide, rfl⟩ (by decide) rfl fs_nar_arr rfl ?_
  refine a_aload_n (j := 0) d_Laws_init_33 rfl rfl ?_
  refine a_iconst d_Laws_init_34 (by unfold fs_in32; omega) ?_
  refine p_newarray (ty := 0) (n := 4) rfl d_Laws_init_35 aw_int (by simp) rfl (by decide) (by decide +kernel) ⟨by decide, by decide⟩ ?_
  show fs_At g m_Laws_init 2 _ (28, 4, 136) 37 [(0, fs_r 23)] [fs_r 27, fs_r 23] (fs_Tt 44) K
  refine p_putF (x := 27) d_Laws_init_37 flF_Laws_28 rfl rfl rfl ⟨by decide, rfl⟩ (by decide) rfl fs_nar_arr rfl ?_
  refine a_aload_n (j := 0) d_Laws_init_40 rfl rfl ?_
  refine a_bipush d_Laws_init_41 (by decide) ?_
  refine p_newarray (ty := 2) (n := 64) rfl d_Laws_init_43 aw_long (by simp) rfl (by decide) (by decide +kernel) ⟨by decide, by decide⟩ ?_
  show fs_At g m_Laws_init 2 _ (29, 5, 200) 45 [(0, fs_r 23)] [fs_r 28, fs_r 23] (fs_Tt 45) K
  refine p_putF (x := 28) d_Laws_init_45 flF_Laws_31 rfl rfl rfl ⟨by decide, rfl⟩ (by decide) rfl fs_nar_arr rfl ?_
  refine a_aload_n (j := 0) d_Laws_init_48 rfl rfl ?_
  refine a_lconst (v := 0) d_Laws_init_49 rfl (by unfold fs_in64; omega) ?_
  refine p_put1 (x := 0) d_Laws_init_50 fl_Laws_35 rfl ⟨by decide, rfl⟩ (by decide) rfl fs_nar_long rfl ?_
  refine a_aload_n (j := 0) d_Laws_init_53 rfl rfl ?_
  show fs_At g m_Laws_init 2 _ (29, 5, 200) 54 [(0, fs_r 23)] [fs_r 23] (fs_Tt 47) K
  refine a_iconst d_Laws_init_54 (by unfold fs_in32; omega) ?_
  refine p_put1 (x := 0) d_Laws_init_55 fl_Laws_39 rfl ⟨by decide, rfl⟩ (by decide) rfl fs_nar_int rfl ?_
  refine a_aload_n (j := 0) d_Laws_init_58 rfl rfl ?_
  refine a_iconst d_Laws_init_59 (by unfold fs_in32; omega) ?_
  refine p_put1 (x := 0) d_Laws_init_60 fl_Laws_42 rfl ⟨by decide, rfl⟩ (by decide) rfl fs_nar_int rfl ?_
  refine a_aload_n (j := 0) d_Laws_init_63 rfl rfl ?_
  refine a_iconst d_Laws_init_64 (by unfold fs_in32; omega) ?_
  refine p_put1 (x := 0) d_Laws_init_65 fl_Laws_45 rfl ⟨by decide, rfl⟩ (by decide) rfl fs_nar_int rfl ?_
  refine a_aload_n (j := 0) d_Laws_init_68 rfl rfl ?_
  refine a_iconst d_Laws_init_69 (by unfold fs_in32; omega) ?_
  refine p_put1 (x := 0) d_Laws_init_70 fl_Laws_48 rfl ⟨by decide, rfl⟩ (by decide) rfl fs_nar_int rfl ?_
  refine a_aload_n (j := 0) d_Laws_init_73 rfl rfl ?_
  show fs_At g m_Laws_init 2 _ (29, 5, 200) 74 [(0, fs_r 23)] [fs_r 23] (fs_Tt 51) K
  refine a_iconst d_Laws_init_74 (by unfold fs_in32; omega) ?_
  refine p_put1 (x := 0) d_Laws_init_75 fl_Laws_51 rfl ⟨by decide, rfl⟩ (by decide) rfl fs_nar_int rfl ?_
  refine a_aload_n (j := 0) d_Laws_init_78 rfl rfl ?_
  refine a_iconst d_Laws_init_79 (by unfold fs_in32; omega) ?_
  refine p_put1 (x := 0) d_Laws_init_80 fl_Laws_54 rfl ⟨by decide, rfl⟩ (by decide) rfl fs_nar_int rfl ?_
  refine a_aload_n (j := 0) d_Laws_init_83 rfl rfl ?_
  refine a_iconst d_Laws_init_84 (by unfold fs_in32; omega) ?_
  refine p_put1 (x := 0) d_Laws_init_85 fl_Laws_57 rfl ⟨by decide, rfl⟩ (by decide) rfl fs_nar_int rfl ?_
  exact a_return d_Laws_init_88 rfl ⟨rfl, by decide, by decide⟩ h
set_option maxRecDepth 8000 in
set_option maxHeartbeats 4000000 in
theorem I_Script_init_15 {K : fs_K} (h : K none (fs_Tt 55)) : fs_Call g m_Script_init 3 (1, 16, 29, 13, 247) [fs_r 15] (fs_Tt 28) K := by
  refine a_enter2 (ls := [(0, fs_r 15)]) (plainFor_of_name pn_Script) (Nat.le_of_ble_eq_true rfl) rfl ?_
  show fs_At g m_Script_init 3 _ (16, 0, 0) 0 [(0, fs_r 15)] [] (fs_Tt 28) K
  refine a_aload_n (j := 0) d_Script_init_0 rfl rfl ?_
  refine p_objinit (idx := 3) d_Script_init_1 ⟨(fs_inB 188 (by decide +kernel) rfl), ow_i, ow_c⟩ ⟨by decide, rfl⟩ rfl (by decide) ?_
  refine a_aload_n (j := 0) d_Script_init_4 rfl rfl ?_
  refine a_bipush d_Script_init_5 (by decide) ?_
  refine p_newarray (ty := 0) (n := 6) rfl d_Script_init_7 aw_int (by simp) rfl (by decide) (by decide +kernel) ⟨by decide, by decide⟩ ?_
  show fs_At g m_Script_init 3 _ (17, 1, 6) 9 [(0, fs_r 15)] [fs_r 16, fs_r 15] (fs_Tt 28) K
  refine p_putF (x := 16) d_Script_init_9 flF_Script_9 rfl rfl rfl ⟨by decide, rfl⟩ (by decide) rfl fs_nar_arr rfl ?_
  refine a_aload_n (j := 0) d_Script_init_12 rfl rfl ?_
  refine a_bipush d_Script_init_13 (by decide) ?_
  refine p_newarray (ty := 0) (n := 6) rfl d_Script_init_15 aw_int (by simp) rfl (by decide) (by decide +kernel) ⟨by decide, by decide⟩ ?_
  show fs_At g m_Script_init 3 _ (18, 2, 12) 17 [(0, fs_r 15)] [fs_r 17, fs_r 15] (fs_Tt 29) K
  refine p_putF (x := 17) d_Script_init_17 flF_Script_15 rfl rfl rfl ⟨by decide, rfl⟩ (by decide) rfl fs_nar_arr rfl ?_
  refine a_aload_n (j := 0) d_Script_init_20 rfl rfl ?_
  refine a_bipush d_Script_init_21 (by decide) ?_
  refine p_newarray (ty := 0) (n := 6) rfl d_Script_init_23 aw_int (by simp) rfl (by decide) (by decide +kernel) ⟨by decide, by decide⟩ ?_
  show fs_At g m_Script_init 3 _ (19, 3, 18) 25 [(0, fs_r 15)] [fs_r 18, fs_r 15] (fs_Tt 30) K
  refine p_putF (x := 18) d_Script_init_25 flF_Script_18 rfl rfl rfl ⟨by decide, rfl⟩ (by decide) rfl fs_nar_arr rfl ?_
  refine a_aload_n (j := 0) d_Script_init_28 rfl rfl ?_
  show fs_At g m_Script_init 3 _ (19, 3, 18) 29 [(0, fs_r 15)] [fs_r 15] (fs_Tt 31) K
  refine a_bipush d_Script_init_29 (by decide) ?_
  refine p_newarray (ty := 0) (n := 6) rfl d_Script_init_31 aw_int (by simp) rfl (by decide) (by decide +kernel) ⟨by decide, by decide⟩ ?_
  show fs_At g m_Script_init 3 _ (20, 4, 24) 33 [(0, fs_r 15)] [fs_r 19, fs_r 15] (fs_Tt 31) K
  refine p_putF (x := 19) d_Script_init_33 flF_Script_21 rfl rfl rfl ⟨by decide, rfl⟩ (by decide) rfl fs_nar_arr rfl ?_
  refine a_aload_n (j := 0) d_Script_init_36 rfl rfl ?_
  refine a_iconst d_Script_init_37 (by unfold fs_in32; omega) ?_
  refine p_put1 (x := 0) d_Script_init_38 fl_Script_24 rfl ⟨by decide, rfl⟩ (by decide) rfl fs_nar_int rfl ?_
  refine a_aload_n (j := 0) d_Script_init_41 rfl rfl ?_
  refine a_iconst d_Script_init_42 (by unfold fs_in32; omega) ?_
  refine p_put1 (x := 0) d_Script_init_43 fl_Script_28 rfl ⟨by decide, rfl⟩ (by decide) rfl fs_nar_int rfl ?_
  refine a_aload_n (j := 0) d_Script_init_46 rfl rfl ?_
  refine a_iconst d_Script_init_47 (by unfold fs_in32; omega) ?_
  refine p_newarray (ty := 0) (n := 3) rfl d_Script_init_48 aw_int (by simp) rfl (by decide) (by decide +kernel) ⟨by decide, by decide⟩ ?_
  show fs_At g m_Script_init 3 _ (21, 5, 27) 50 [(0, fs_r 15)] [fs_r 20, fs_r 15] (fs_Tt 34) K
  refine p_putF (x := 20) d_Script_init_50 flF_Script_31 rfl rfl rfl ⟨by decide, rfl⟩ (by decide) rfl fs_nar_arr rfl ?_
  refine a_aload_n (j := 0) d_Script_init_53 rfl rfl ?_
  show fs_At g m_Script_init 3 _ (21, 5, 27) 54 [(0, fs_r 15)] [fs_r 15] (fs_Tt 35) K
  refine a_iconst d_Script_init_54 (by unfold fs_in32; omega) ?_
  refine p_newarray (ty := 0) (n := 3) rfl d_Script_init_55 aw_int (by simp) rfl (by decide) (by decide +kernel) ⟨by decide, by decide⟩ ?_
  show fs_At g m_Script_init 3 _ (22, 6, 30) 57 [(0, fs_r 15)] [fs_r 21, fs_r 15] (fs_Tt 35) K
  refine p_putF (x := 21) d_Script_init_57 flF_Script_34 rfl rfl rfl ⟨by decide, rfl⟩ (by decide) rfl fs_nar_arr rfl ?_
  refine a_aload_n (j := 0) d_Script_init_60 rfl rfl ?_
  refine a_iconst d_Script_init_61 (by unfold fs_in32; omega) ?_
  refine p_newarray (ty := 0) (n := 3) rfl d_Script_init_62 aw_int (by simp) rfl (by decide) (by decide +kernel) ⟨by decide, by decide⟩ ?_
  show fs_At g m_Script_init 3 _ (23, 7, 33) 64 [(0, fs_r 15)] [fs_r 22, fs_r 15] (fs_Tt 36) K
  refine p_putF (x := 22) d_Script_init_64 flF_Script_37 rfl rfl rfl ⟨by decide, rfl⟩ (by decide) rfl fs_nar_arr rfl ?_
  refine a_aload_n (j := 0) d_Script_init_67 rfl rfl ?_
  refine a_iconst d_Script_init_68 (by unfold fs_in32; omega) ?_
  refine p_put1 (x := 0) d_Script_init_69 fl_Script_40 rfl ⟨by decide, rfl⟩ (by decide) rfl fs_nar_int rfl ?_
  refine a_aload_n (j := 0) d_Script_init_72 rfl rfl ?_
  refine a_iconst d_Script_init_73 (by unfold fs_in32; omega) ?_
  refine p_put1 (x := 0) d_Script_init_74 fl_Script_43 rfl ⟨by decide, rfl⟩ (by decide) rfl fs_nar_int rfl ?_
  refine a_aload_n (j := 0) d_Script_init_77 rfl rfl ?_
  show fs_At g m_Script_init 3 _ (23, 7, 33) 78 [(0, fs_r 15)] [fs_r 15] (fs_Tt 39) K
  refine a_iconst d_Script_init_78 (by unfold fs_in32; omega) ?_
  refine p_put1 (x := 0) d_Script_init_79 fl_Script_46 rfl ⟨by decide, rfl⟩ (by decide) rfl (fs_nar_bool (by decide)) rfl ?_
  refine a_aload_n (j := 0) d_Script_init_82 rfl rfl ?_
  refine p_new (idx := 50) (ci := 3) rfl d_Script_init_83 fs_kc3 ⟨(fs_inB 189 (by decide +kernel) rfl), (fs_inB 190 (by decide +kernel) rfl), (fs_inB 150 (by decide +kernel) rfl)⟩ rfl (by decide) (by decide +kernel) ⟨by decide, by decide⟩ ?_
  show fs_At g m_Script_init 3 _ (24, 8, 47) 86 [(0, fs_r 15)] [fs_r 23, fs_r 15] (fs_Tt 40) K
  refine a_dup d_Script_init_86 rfl ?_
  refine a_invokeinit (dc := 2) (zc := (1, 24, 29, 5, 200)) (o := 23) [] [fs_r 23, fs_r 15] d_Script_init_87 ml_Script_52 k_Laws_init v_Laws_init rfl rfl ⟨by decide, rfl⟩ rfl ⟨by decide, rfl, rfl, by decide, by decide, fun _ => rfl⟩ rfl (Nat.le_of_ble_eq_true rfl) (I_Laws_init_23 ?_)
  show fs_At g m_Script_init 3 _ (29, 13, 247) 90 [(0, fs_r 15)] [fs_r 23, fs_r 15] (fs_Tt 54) K
  refine p_putF (x := 23) d_Script_init_90 flF_Script_53 rfl rfl rfl ⟨by decide, rfl⟩ (by decide) rfl fs_nar_obj rfl ?_
  exact a_return d_Script_init_93 rfl ⟨rfl, by decide, by decide⟩ h
set_option maxRecDepth 8000 in
set_option maxHeartbeats 4000000 in
theorem I_Reader_init_29 {K : fs_K} (h : K none (fs_Tt 68)) : fs_Call g m_Reader_init 2 (1, 30, 31, 1, 600) [fs_r 29, fs_r 15] (fs_Tt 56) K := by
  refine a_enter2 (ls := [(0, fs_r 29), (1, fs_r 15)]) (plainFor_of_name pn_Reader) (Nat.le_of_ble_eq_true rfl) rfl ?_
  show fs_At g m_Reader_init 2 _ (30, 0, 0) 0 [(0, fs_r 29), (1, fs_r 15)] [] (fs_Tt 56) K
  refine a_aload_n (j := 0) d_Reader_init_0 rfl rfl ?_
  refine p_objinit (idx := 3) d_Reader_init_1 ⟨(fs_inB 333 (by decide +kernel) rfl), ow_i, ow_c⟩ ⟨by decide, rfl⟩ rfl (by decide) ?_
  refine a_aload_n (j := 0) d_Reader_init_4 rfl rfl ?_
  refine a_sipush d_Reader_init_5 (by decide) ?_
  refine p_newarray (ty := 0) (n := 600) rfl d_Reader_init_8 aw_int (by simp) rfl (by decide) (by decide +kernel) ⟨by decide, by decide⟩ ?_
  show fs_At g m_Reader_init 2 _ (31, 1, 600) 10 [(0, fs_r 29), (1, fs_r 15)] [fs_r 30, fs_r 29] (fs_Tt 56) K
  refine p_putF (x := 30) d_Reader_init_10 flF_Reader_9 rfl rfl rfl ⟨by decide, rfl⟩ (by decide) rfl fs_nar_arr rfl ?_
  refine a_aload_n (j := 0) d_Reader_init_13 rfl rfl ?_
  refine a_iconst d_Reader_init_14 (by unfold fs_in32; omega) ?_
  refine p_put1 (x := 0) d_Reader_init_15 fl_Reader_15 rfl ⟨by decide, rfl⟩ (by decide) rfl fs_nar_int rfl ?_
  refine a_aload_n (j := 0) d_Reader_init_18 rfl rfl ?_
  refine a_iconst d_Reader_init_19 (by unfold fs_in32; omega) ?_
  refine p_put1 (x := 0) d_Reader_init_20 fl_Reader_19 rfl ⟨by decide, rfl⟩ (by decide) rfl fs_nar_int rfl ?_
  refine a_aload_n (j := 0) d_Reader_init_23 rfl rfl ?_
  show fs_At g m_Reader_init 2 _ (31, 1, 600) 24 [(0, fs_r 29), (1, fs_r 15)] [fs_r 29] (fs_Tt 59) K
  refine a_iconst d_Reader_init_24 (by unfold fs_in32; omega) ?_
  refine p_put1 (x := (-1)) d_Reader_init_25 fl_Reader_22 rfl ⟨by decide, rfl⟩ (by decide) rfl fs_nar_int rfl ?_
  refine a_aload_n (j := 0) d_Reader_init_28 rfl rfl ?_
  refine a_iconst d_Reader_init_29 (by unfold fs_in32; omega) ?_
  refine p_put1 (x := 0) d_Reader_init_30 fl_Reader_25 rfl ⟨by decide, rfl⟩ (by decide) rfl fs_nar_int rfl ?_
  refine a_aload_n (j := 0) d_Reader_init_33 rfl rfl ?_
  refine a_iconst d_Reader_init_34 (by unfold fs_in32; omega) ?_
  refine p_put1 (x := 0) d_Reader_init_35 fl_Reader_28 rfl ⟨by decide, rfl⟩ (by decide) rfl fs_nar_int rfl ?_
  refine a_aload_n (j := 0) d_Reader_init_38 rfl rfl ?_
  refine a_getstatic (v := fs_r 1035) d_Reader_init_39 gs_Reader_31 (fs_Ztok (i := 35) (by decide) rfl rfl) (by show fs_in32 1035; unfold fs_in32; omega) ?_
  refine p_put1 (x := 1035) d_Reader_init_42 fl_Reader_37 rfl ⟨by decide, rfl⟩ (by decide) rfl fs_nar_obj rfl ?_
  refine a_aload_n (j := 0) d_Reader_init_45 rfl rfl ?_
  show fs_At g m_Reader_init 2 _ (31, 1, 600) 46 [(0, fs_r 29), (1, fs_r 15)] [fs_r 29] (fs_Tt 63) K
  refine a_iconst d_Reader_init_46 (by unfold fs_in32; omega) ?_
  refine p_put1 (x := 0) d_Reader_init_47 fl_Reader_40 rfl ⟨by decide, rfl⟩ (by decide) rfl fs_nar_int rfl ?_
  refine a_aload_n (j := 0) d_Reader_init_50 rfl rfl ?_
  refine a_iconst d_Reader_init_51 (by unfold fs_in32; omega) ?_
  refine p_put1 (x := 0) d_Reader_init_52 fl_Reader_43 rfl ⟨by decide, rfl⟩ (by decide) rfl fs_nar_int rfl ?_
  refine a_aload_n (j := 0) d_Reader_init_55 rfl rfl ?_
  refine a_iconst d_Reader_init_56 (by unfold fs_in32; omega) ?_
  refine p_put1 (x := 0) d_Reader_init_57 fl_Reader_46 rfl ⟨by decide, rfl⟩ (by decide) rfl fs_nar_int rfl ?_
  refine a_aload_n (j := 0) d_Reader_init_60 rfl rfl ?_
  refine a_iconst d_Reader_init_61 (by unfold fs_in32; omega) ?_
  refine p_put1 (x := 0) d_Reader_init_62 fl_Reader_49 rfl ⟨by decide, rfl⟩ (by decide) rfl fs_nar_int rfl ?_
  refine a_aload_n (j := 0) d_Reader_init_65 rfl rfl ?_
  show fs_At g m_Reader_init 2 _ (31, 1, 600) 66 [(0, fs_r 29), (1, fs_r 15)] [fs_r 29] (fs_Tt 67) K
  refine a_aload_n (j := 1) d_Reader_init_66 rfl rfl ?_
  refine p_putF (x := 15) d_Reader_init_67 flF_Reader_52 rfl rfl rfl ⟨by decide, rfl⟩ (by decide) rfl fs_nar_obj rfl ?_
  exact a_return d_Reader_init_70 rfl ⟨rfl, by decide, by decide⟩ h
set_option maxRecDepth 8000 in
set_option maxHeartbeats 4000000 in
theorem I_Plan_init_31 {K : fs_K} (h : K none (fs_Tt 73)) : fs_Call g m_Plan_init 2 (1, 32, 37, 5, 33) [fs_r 31] (fs_Tt 69) K := by
  refine a_enter2 (ls := [(0, fs_r 31)]) (plainFor_of_name pn_Plan) (Nat.le_of_ble_eq_true rfl) rfl ?_
  show fs_At g m_Plan_init 2 _ (32, 0, 0) 0 [(0, fs_r 31)] [] (fs_Tt 69) K
  refine a_aload_n (j := 0) d_Plan_init_0 rfl rfl ?_
  refine p_objinit (idx := 3) d_Plan_init_1 ⟨(fs_inB 381 (by decide +kernel) rfl), ow_i, ow_c⟩ ⟨by decide, rfl⟩ rfl (by decide) ?_
  refine a_aload_n (j := 0) d_Plan_init_4 rfl rfl ?_
  refine a_iconst d_Plan_init_5 (by unfold fs_in32; omega) ?_
  refine a_bipush d_Plan_init_6 (by decide) ?_
  refine p_multi (ty := 3) (ti := 0) (n := 3) (k := 9) (t1 := .int) rfl d_Plan_init_8 ⟨(fs_inB 382 (by decide +kernel) rfl), aw_int⟩ (by simp) rfl (by decide +kernel) ⟨by decide, by decide⟩ (by decide +kernel) ⟨by decide, by decide⟩ ?_
  show fs_At g m_Plan_init 2 _ (36, 4, 30) 12 [(0, fs_r 31)] [fs_r 32, fs_r 31] (fs_Tt 69) K
  refine p_putF (x := 32) d_Plan_init_12 flF_Plan_11 rfl rfl rfl ⟨by decide, rfl⟩ (by decide) rfl fs_nar_arr rfl ?_
  refine a_aload_n (j := 0) d_Plan_init_15 rfl rfl ?_
  refine a_iconst d_Plan_init_16 (by unfold fs_in32; omega) ?_
  refine p_newarray (ty := 0) (n := 3) rfl d_Plan_init_17 aw_int (by simp) rfl (by decide) (by decide +kernel) ⟨by decide, by decide⟩ ?_
  show fs_At g m_Plan_init 2 _ (37, 5, 33) 19 [(0, fs_r 31)] [fs_r 36, fs_r 31] (fs_Tt 70) K
  refine p_putF (x := 36) d_Plan_init_19 flF_Plan_16 rfl rfl rfl ⟨by decide, rfl⟩ (by decide) rfl fs_nar_arr rfl ?_
  refine a_aload_n (j := 0) d_Plan_init_22 rfl rfl ?_
  refine a_iconst d_Plan_init_23 (by unfold fs_in32; omega) ?_
  refine p_put1 (x := 0) d_Plan_init_24 fl_Plan_20 rfl ⟨by decide, rfl⟩ (by decide) rfl fs_nar_int rfl ?_
  show fs_At g m_Plan_init 2 _ (37, 5, 33) 27 [(0, fs_r 31)] [] (fs_Tt 72) K
  refine a_aload_n (j := 0) d_Plan_init_27 rfl rfl ?_
  refine a_iconst d_Plan_init_28 (by unfold fs_in32; omega) ?_
  refine p_put1 (x := 0) d_Plan_init_29 fl_Plan_24 rfl ⟨by decide, rfl⟩ (by decide) rfl fs_nar_int rfl ?_
  exact a_return d_Plan_init_32 rfl ⟨rfl, by decide, by decide⟩ h
set_option maxRecDepth 8000 in
set_option maxHeartbeats 4000000 in
theorem I_Plan_init_37 {K : fs_K} (h : K none (fs_Tt 78)) : fs_Call g m_Plan_init 2 (1, 38, 43, 5, 33) [fs_r 37] (fs_Tt 74) K := by
  refine a_enter2 (ls := [(0, fs_r 37)]) (plainFor_of_name pn_Plan) (Nat.le_of_ble_eq_true rfl) rfl ?_
  show fs_At g m_Plan_init 2 _ (38, 0, 0) 0 [(0, fs_r 37)] [] (fs_Tt 74) K
  refine a_aload_n (j := 0) d_Plan_init_0 rfl rfl ?_
  refine p_objinit (idx := 3) d_Plan_init_1 ⟨(fs_inB 381 (by decide +kernel) rfl), ow_i, ow_c⟩ ⟨by decide, rfl⟩ rfl (by decide) ?_
  refine a_aload_n (j := 0) d_Plan_init_4 rfl rfl ?_
  refine a_iconst d_Plan_init_5 (by unfold fs_in32; omega) ?_
  refine a_bipush d_Plan_init_6 (by decide) ?_
  refine p_multi (ty := 3) (ti := 0) (n := 3) (k := 9) (t1 := .int) rfl d_Plan_init_8 ⟨(fs_inB 382 (by decide +kernel) rfl), aw_int⟩ (by simp) rfl (by decide +kernel) ⟨by decide, by decide⟩ (by decide +kernel) ⟨by decide, by decide⟩ ?_
  show fs_At g m_Plan_init 2 _ (42, 4, 30) 12 [(0, fs_r 37)] [fs_r 38, fs_r 37] (fs_Tt 74) K
  refine p_putF (x := 38) d_Plan_init_12 flF_Plan_11 rfl rfl rfl ⟨by decide, rfl⟩ (by decide) rfl fs_nar_arr rfl ?_
  refine a_aload_n (j := 0) d_Plan_init_15 rfl rfl ?_
  refine a_iconst d_Plan_init_16 (by unfold fs_in32; omega) ?_
  refine p_newarray (ty := 0) (n := 3) rfl d_Plan_init_17 aw_int (by simp) rfl (by decide) (by decide +kernel) ⟨by decide, by decide⟩ ?_
  show fs_At g m_Plan_init 2 _ (43, 5, 33) 19 [(0, fs_r 37)] [fs_r 42, fs_r 37] (fs_Tt 75) K
  refine p_putF (x := 42) d_Plan_init_19 flF_Plan_16 rfl rfl rfl ⟨by decide, rfl⟩ (by decide) rfl fs_nar_arr rfl ?_
  refine a_aload_n (j := 0) d_Plan_init_22 rfl rfl ?_
  refine a_iconst d_Plan_init_23 (by unfold fs_in32; omega) ?_
  refine p_put1 (x := 0) d_Plan_init_24 fl_Plan_20 rfl ⟨by decide, rfl⟩ (by decide) rfl fs_nar_int rfl ?_
  show fs_At g m_Plan_init 2 _ (43, 5, 33) 27 [(0, fs_r 37)] [] (fs_Tt 77) K
  refine a_aload_n (j := 0) d_Plan_init_27 rfl rfl ?_
  refine a_iconst d_Plan_init_28 (by unfold fs_in32; omega) ?_
  refine p_put1 (x := 0) d_Plan_init_29 fl_Plan_24 rfl ⟨by decide, rfl⟩ (by decide) rfl fs_nar_int rfl ?_
  exact a_return d_Plan_init_32 rfl ⟨rfl, by decide, by decide⟩ h
set_option maxRecDepth 8000 in
set_option maxHeartbeats 4000000 in
theorem I_Goer_init_51 {K : fs_K} (h : K none (fs_Tt 94)) : fs_Call g m_Goer_init 2 (1, 52, 52, 0, 0) [fs_r 51] (fs_Tt 87) K := by
  refine a_enter2 (ls := [(0, fs_r 51)]) (plainFor_of_name pn_Goer) (Nat.le_of_ble_eq_true rfl) rfl ?_
  show fs_At g m_Goer_init 2 _ (52, 0, 0) 0 [(0, fs_r 51)] [] (fs_Tt 87) K
  refine a_aload_n (j := 0) d_Goer_init_0 rfl rfl ?_
  refine p_objinit (idx := 1) d_Goer_init_1 ⟨(fs_inB 418 (by decide +kernel) rfl), ow_i, ow_c⟩ ⟨by decide, rfl⟩ rfl (by decide) ?_
  refine a_aload_n (j := 0) d_Goer_init_4 rfl rfl ?_
  refine a_iconst d_Goer_init_5 (by unfold fs_in32; omega) ?_
  refine p_put1 (x := 0) d_Goer_init_6 fl_Goer_7 rfl ⟨by decide, rfl⟩ (by decide) rfl fs_nar_int rfl ?_
  refine a_aload_n (j := 0) d_Goer_init_9 rfl rfl ?_
  refine a_iconst d_Goer_init_10 (by unfold fs_in32; omega) ?_
  refine p_put1 (x := 1) d_Goer_init_11 fl_Goer_13 rfl ⟨by decide, rfl⟩ (by decide) rfl fs_nar_int rfl ?_
  refine a_aload_n (j := 0) d_Goer_init_14 rfl rfl ?_
  refine a_iconst d_Goer_init_15 (by unfold fs_in32; omega) ?_
  refine p_put1 (x := 0) d_Goer_init_16 fl_Goer_16 rfl ⟨by decide, rfl⟩ (by decide) rfl fs_nar_int rfl ?_
  refine a_aload_n (j := 0) d_Goer_init_19 rfl rfl ?_
  show fs_At g m_Goer_init 2 _ (52, 0, 0) 20 [(0, fs_r 51)] [fs_r 51] (fs_Tt 90) K
  refine a_iconst d_Goer_init_20 (by unfold fs_in32; omega) ?_
  refine p_put1 (x := 0) d_Goer_init_21 fl_Goer_19 rfl ⟨by decide, rfl⟩ (by decide) rfl fs_nar_int rfl ?_
  refine a_aload_n (j := 0) d_Goer_init_24 rfl rfl ?_
  refine a_iconst d_Goer_init_25 (by unfold fs_in32; omega) ?_
  refine p_put1 (x := 0) d_Goer_init_26 fl_Goer_22 rfl ⟨by decide, rfl⟩ (by decide) rfl fs_nar_int rfl ?_
  refine a_aload_n (j := 0) d_Goer_init_29 rfl rfl ?_
  refine a_iconst d_Goer_init_30 (by unfold fs_in32; omega) ?_
  refine p_put1 (x := 0) d_Goer_init_31 fl_Goer_25 rfl ⟨by decide, rfl⟩ (by decide) rfl fs_nar_int rfl ?_
  refine a_aload_n (j := 0) d_Goer_init_34 rfl rfl ?_
  refine a_iconst d_Goer_init_35 (by unfold fs_in32; omega) ?_
  refine p_put1 (x := 0) d_Goer_init_36 fl_Goer_28 rfl ⟨by decide, rfl⟩ (by decide) rfl fs_nar_int rfl ?_
  exact a_return d_Goer_init_39 rfl ⟨rfl, by decide, by decide⟩ h
set_option maxRecDepth 8000 in
set_option maxHeartbeats 4000000 in
theorem I_Goer_init_52 {K : fs_K} (h : K none (fs_Tt 102)) : fs_Call g m_Goer_init 2 (1, 53, 53, 0, 0) [fs_r 52] (fs_Tt 95) K := by
  refine a_enter2 (ls := [(0, fs_r 52)]) (plainFor_of_name pn_Goer) (Nat.le_of_ble_eq_true rfl) rfl ?_
  show fs_At g m_Goer_init 2 _ (53, 0, 0) 0 [(0, fs_r 52)] [] (fs_Tt 95) K
  refine a_aload_n (j := 0) d_Goer_init_0 rfl rfl ?_
  refine p_objinit (idx := 1) d_Goer_init_1 ⟨(fs_inB 418 (by decide +kernel) rfl), ow_i, ow_c⟩ ⟨by decide, rfl⟩ rfl (by decide) ?_
  refine a_aload_n (j := 0) d_Goer_init_4 rfl rfl ?_
  refine a_iconst d_Goer_init_5 (by unfold fs_in32; omega) ?_
  refine p_put1 (x := 0) d_Goer_init_6 fl_Goer_7 rfl ⟨by decide, rfl⟩ (by decide) rfl fs_nar_int rfl ?_
  refine a_aload_n (j := 0) d_Goer_init_9 rfl rfl ?_
  refine a_iconst d_Goer_init_10 (by unfold fs_in32; omega) ?_
  refine p_put1 (x := 1) d_Goer_init_11 fl_Goer_13 rfl ⟨by decide, rfl⟩ (by decide) rfl fs_nar_int rfl ?_
  refine a_aload_n (j := 0) d_Goer_init_14 rfl rfl ?_
  refine a_iconst d_Goer_init_15 (by unfold fs_in32; omega) ?_
  refine p_put1 (x := 0) d_Goer_init_16 fl_Goer_16 rfl ⟨by decide, rfl⟩ (by decide) rfl fs_nar_int rfl ?_
  refine a_aload_n (j := 0) d_Goer_init_19 rfl rfl ?_
  show fs_At g m_Goer_init 2 _ (53, 0, 0) 20 [(0, fs_r 52)] [fs_r 52] (fs_Tt 98) K
  refine a_iconst d_Goer_init_20 (by unfold fs_in32; omega) ?_
  refine p_put1 (x := 0) d_Goer_init_21 fl_Goer_19 rfl ⟨by decide, rfl⟩ (by decide) rfl fs_nar_int rfl ?_
  refine a_aload_n (j := 0) d_Goer_init_24 rfl rfl ?_
  refine a_iconst d_Goer_init_25 (by unfold fs_in32; omega) ?_
  refine p_put1 (x := 0) d_Goer_init_26 fl_Goer_22 rfl ⟨by decide, rfl⟩ (by decide) rfl fs_nar_int rfl ?_
  refine a_aload_n (j := 0) d_Goer_init_29 rfl rfl ?_
  refine a_iconst d_Goer_init_30 (by unfold fs_in32; omega) ?_
  refine p_put1 (x := 0) d_Goer_init_31 fl_Goer_25 rfl ⟨by decide, rfl⟩ (by decide) rfl fs_nar_int rfl ?_
  refine a_aload_n (j := 0) d_Goer_init_34 rfl rfl ?_
  refine a_iconst d_Goer_init_35 (by unfold fs_in32; omega) ?_
  refine p_put1 (x := 0) d_Goer_init_36 fl_Goer_28 rfl ⟨by decide, rfl⟩ (by decide) rfl fs_nar_int rfl ?_
  exact a_return d_Goer_init_39 rfl ⟨rfl, by decide, by decide⟩ h
set_option maxRecDepth 8000 in
set_option maxHeartbeats 4000000 in
theorem I_Goer_init_53 {K : fs_K} (h : K none (fs_Tt 110)) : fs_Call g m_Goer_init 2 (1, 54, 54, 0, 0) [fs_r 53] (fs_Tt 103) K := by
  refine a_enter2 (ls := [(0, fs_r 53)]) (plainFor_of_name pn_Goer) (Nat.le_of_ble_eq_true rfl) rfl ?_
  show fs_At g m_Goer_init 2 _ (54, 0, 0) 0 [(0, fs_r 53)] [] (fs_Tt 103) K
  refine a_aload_n (j := 0) d_Goer_init_0 rfl rfl ?_
  refine p_objinit (idx := 1) d_Goer_init_1 ⟨(fs_inB 418 (by decide +kernel) rfl), ow_i, ow_c⟩ ⟨by decide, rfl⟩ rfl (by decide) ?_
  refine a_aload_n (j := 0) d_Goer_init_4 rfl rfl ?_
  refine a_iconst d_Goer_init_5 (by unfold fs_in32; omega) ?_
  refine p_put1 (x := 0) d_Goer_init_6 fl_Goer_7 rfl ⟨by decide, rfl⟩ (by decide) rfl fs_nar_int rfl ?_
  refine a_aload_n (j := 0) d_Goer_init_9 rfl rfl ?_
  refine a_iconst d_Goer_init_10 (by unfold fs_in32; omega) ?_
  refine p_put1 (x := 1) d_Goer_init_11 fl_Goer_13 rfl ⟨by decide, rfl⟩ (by decide) rfl fs_nar_int rfl ?_
  refine a_aload_n (j := 0) d_Goer_init_14 rfl rfl ?_
  refine a_iconst d_Goer_init_15 (by unfold fs_in32; omega) ?_
  refine p_put1 (x := 0) d_Goer_init_16 fl_Goer_16 rfl ⟨by decide, rfl⟩ (by decide) rfl fs_nar_int rfl ?_
  refine a_aload_n (j := 0) d_Goer_init_19 rfl rfl ?_
  show fs_At g m_Goer_init 2 _ (54, 0, 0) 20 [(0, fs_r 53)] [fs_r 53] (fs_Tt 106) K
  refine a_iconst d_Goer_init_20 (by unfold fs_in32; omega) ?_
  refine p_put1 (x := 0) d_Goer_init_21 fl_Goer_19 rfl ⟨by decide, rfl⟩ (by decide) rfl fs_nar_int rfl ?_
  refine a_aload_n (j := 0) d_Goer_init_24 rfl rfl ?_
  refine a_iconst d_Goer_init_25 (by unfold fs_in32; omega) ?_
  refine p_put1 (x := 0) d_Goer_init_26 fl_Goer_22 rfl ⟨by decide, rfl⟩ (by decide) rfl fs_nar_int rfl ?_
  refine a_aload_n (j := 0) d_Goer_init_29 rfl rfl ?_
  refine a_iconst d_Goer_init_30 (by unfold fs_in32; omega) ?_
  refine p_put1 (x := 0) d_Goer_init_31 fl_Goer_25 rfl ⟨by decide, rfl⟩ (by decide) rfl fs_nar_int rfl ?_
  refine a_aload_n (j := 0) d_Goer_init_34 rfl rfl ?_
  refine a_iconst d_Goer_init_35 (by unfold fs_in32; omega) ?_
  refine p_put1 (x := 0) d_Goer_init_36 fl_Goer_28 rfl ⟨by decide, rfl⟩ (by decide) rfl fs_nar_int rfl ?_
  exact a_return d_Goer_init_39 rfl ⟨rfl, by decide, by decide⟩ h
set_option maxRecDepth 8000 in
set_option maxHeartbeats 4000000 in
theorem I_Course_init_43 {K : fs_K} (h : K none (fs_Tt 111)) : fs_Call g m_Course_init 3 (1, 44, 54, 10, 66) [fs_r 43, fs_r 1, fs_r 31] (fs_Tt 79) K := by
  refine a_enter2 (ls := [(0, fs_r 43), (1, fs_r 1), (2, fs_r 31)]) (plainFor_of_name pn_Course) (Nat.le_of_ble_eq_true rfl) rfl ?_
  show fs_At g m_Course_init 3 _ (44, 0, 0) 0 [(0, fs_r 43), (1, fs_r 1), (2, fs_r 31)] [] (fs_Tt 79) K
  refine a_aload_n (j := 0) d_Course_init_0 rfl rfl ?_
  refine p_objinit (idx := 3) d_Course_init_1 ⟨(fs_inB 410 (by decide +kernel) rfl), ow_i, ow_c⟩ ⟨by decide, rfl⟩ rfl (by decide) ?_
  refine a_aload_n (j := 0) d_Course_init_4 rfl rfl ?_
  refine a_iconst d_Course_init_5 (by unfold fs_in32; omega) ?_
  refine p_put1 (x := (-1)) d_Course_init_6 fl_Course_9 rfl ⟨by decide, rfl⟩ (by decide) rfl fs_nar_int rfl ?_
  refine a_aload_n (j := 0) d_Course_init_9 rfl rfl ?_
  refine a_iconst d_Course_init_10 (by unfold fs_in32; omega) ?_
  refine p_anewarray (ty := 5) (n := 3) (C := "FirstSill$Goer") rfl d_Course_init_11 (fs_inB 411 (by decide +kernel) rfl) (by simp) rfl (by decide) (by decide +kernel) ⟨by decide, by decide⟩ ?_
  show fs_At g m_Course_init 3 _ (45, 1, 3) 14 [(0, fs_r 43), (1, fs_r 1), (2, fs_r 31)] [fs_r 44, fs_r 43] (fs_Tt 80) K
  refine p_putF (x := 44) d_Course_init_14 flF_Course_17 rfl rfl rfl ⟨by decide, rfl⟩ (by decide) rfl fs_nar_arr rfl ?_
  refine a_aload_n (j := 0) d_Course_init_17 rfl rfl ?_
  refine a_iconst d_Course_init_18 (by unfold fs_in32; omega) ?_
  refine a_bipush d_Course_init_19 (by decide) ?_
  refine p_multi (ty := 3) (ti := 0) (n := 3) (k := 9) (t1 := .int) rfl d_Course_init_21 ⟨(fs_inB 413 (by decide +kernel) rfl), aw_int⟩ (by simp) rfl (by decide +kernel) ⟨by decide, by decide⟩ (by decide +kernel) ⟨by decide, by decide⟩ ?_
  show fs_At g m_Course_init 3 _ (49, 5, 33) 25 [(0, fs_r 43), (1, fs_r 1), (2, fs_r 31)] [fs_r 45, fs_r 43] (fs_Tt 81) K
  refine p_putF (x := 45) d_Course_init_25 flF_Course_23 rfl rfl rfl ⟨by decide, rfl⟩ (by decide) rfl fs_nar_arr rfl ?_
  show fs_At g m_Course_init 3 _ (49, 5, 33) 28 [(0, fs_r 43), (1, fs_r 1), (2, fs_r 31)] [] (fs_Tt 82) K
  refine a_aload_n (j := 0) d_Course_init_28 rfl rfl ?_
  refine a_bipush d_Course_init_29 (by decide) ?_
  refine p_newarray (ty := 0) (n := 6) rfl d_Course_init_31 aw_int (by simp) rfl (by decide) (by decide +kernel) ⟨by decide, by decide⟩ ?_
  show fs_At g m_Course_init 3 _ (50, 6, 39) 33 [(0, fs_r 43), (1, fs_r 1), (2, fs_r 31)] [fs_r 49, fs_r 43] (fs_Tt 82) K
  refine p_putF (x := 49) d_Course_init_33 flF_Course_26 rfl rfl rfl ⟨by decide, rfl⟩ (by decide) rfl fs_nar_arr rfl ?_
  refine a_aload_n (j := 0) d_Course_init_36 rfl rfl ?_
  refine a_bipush d_Course_init_37 (by decide) ?_
  refine p_newarray (ty := 0) (n := 6) rfl d_Course_init_39 aw_int (by simp) rfl (by decide) (by decide +kernel) ⟨by decide, by decide⟩ ?_
  show fs_At g m_Course_init 3 _ (51, 7, 45) 41 [(0, fs_r 43), (1, fs_r 1), (2, fs_r 31)] [fs_r 50, fs_r 43] (fs_Tt 83) K
  refine p_putF (x := 50) d_Course_init_41 flF_Course_30 rfl rfl rfl ⟨by decide, rfl⟩ (by decide) rfl fs_nar_arr rfl ?_
  refine a_aload_n (j := 0) d_Course_init_44 rfl rfl ?_
  refine a_iconst d_Course_init_45 (by unfold fs_in32; omega) ?_
  refine p_put1 (x := 0) d_Course_init_46 fl_Course_33 rfl ⟨by decide, rfl⟩ (by decide) rfl fs_nar_int rfl ?_
  refine a_aload_n (j := 0) d_Course_init_49 rfl rfl ?_
  refine a_aload_n (j := 1) d_Course_init_50 rfl rfl ?_
  refine p_putF (x := 1) d_Course_init_51 flF_Course_36 rfl rfl rfl ⟨by decide, rfl⟩ (by decide) rfl fs_nar_obj rfl ?_
  show fs_At g m_Course_init 3 _ (51, 7, 45) 54 [(0, fs_r 43), (1, fs_r 1), (2, fs_r 31)] [] (fs_Tt 86) K
  refine a_aload_n (j := 0) d_Course_init_54 rfl rfl ?_
  refine a_aload_n (j := 2) d_Course_init_55 rfl rfl ?_
  refine p_put1 (x := 31) d_Course_init_56 fl_Course_40 rfl ⟨by decide, rfl⟩ (by decide) rfl fs_nar_obj rfl ?_
  refine a_iconst d_Course_init_59 (by unfold fs_in32; omega) ?_
  refine a_istore_n d_Course_init_60 rfl (Nat.le_of_ble_eq_true rfl) [1, 2, 3, 0] (ls' := [(0, fs_r 43), (1, fs_r 1), (2, fs_r 31), (3, fs_i 0)]) rfl ?_
  refine a_iload_n (j := 3) d_Course_init_61 rfl rfl ?_
  refine a_iconst d_Course_init_62 (by unfold fs_in32; omega) ?_
  refine a_icmp_ge (tgt := 85) d_Course_init_63 rfl (fun q => absurd q (by decide)) (fun _ => ?_)
  refine a_aload_n (j := 0) d_Course_init_66 rfl rfl ?_
  refine a_getfield (v := fs_r 44) d_Course_init_67 fl_Course_17 ⟨by decide, rfl⟩ (by decide) (p_val (x := 44) (by decide +kernel) rfl) ?_
  refine a_iload_n (j := 3) d_Course_init_70 rfl rfl ?_
  refine p_new (idx := 15) (ci := 2) rfl d_Course_init_71 fs_kc2 ⟨(fs_inB 411 (by decide +kernel) rfl), (fs_inB 414 (by decide +kernel) rfl), (fs_inB 156 (by decide +kernel) rfl)⟩ rfl (by decide) (by decide +kernel) ⟨by decide, by decide⟩ ?_
  show fs_At g m_Course_init 3 _ (52, 8, 52) 74 [(0, fs_r 43), (1, fs_r 1), (2, fs_r 31), (3, fs_i 0)] [fs_r 51, fs_i 0, fs_r 44] (fs_Tt 87) K
  refine a_dup d_Course_init_74 rfl ?_
  show fs_At g m_Course_init 3 _ (52, 8, 52) 75 [(0, fs_r 43), (1, fs_r 1), (2, fs_r 31), (3, fs_i 0)] [fs_r 51, fs_r 51, fs_i 0, fs_r 44] (fs_Tt 87) K
  refine a_invokeinit (dc := 2) (zc := (1, 52, 52, 0, 0)) (o := 51) [] [fs_r 51, fs_i 0, fs_r 44] d_Course_init_75 ml_Course_44 k_Goer_init v_Goer_init rfl rfl ⟨by decide, rfl⟩ rfl ⟨by decide, rfl, rfl, by decide, by decide, fun _ => rfl⟩ rfl (Nat.le_of_ble_eq_true rfl) (I_Goer_init_51 ?_)
  show fs_At g m_Course_init 3 _ (52, 8, 52) 78 [(0, fs_r 43), (1, fs_r 1), (2, fs_r 31), (3, fs_i 0)] [fs_r 51, fs_i 0, fs_r 44] (fs_Tt 94) K
  refine p_aast (ty := 5) (ci := 2) (n := 3) rfl d_Course_init_78 ⟨by decide, rfl⟩ (by decide) ⟨by decide, rfl⟩ (by decide) (by decide) (by decide) (by decide) rfl ?_
  refine a_iinc (j := 3) d_Course_init_79 rfl (Nat.le_of_ble_eq_true rfl) [1, 2, 3, 0] (ls' := [(0, fs_r 43), (1, fs_r 1), (2, fs_r 31), (3, fs_i 1)]) rfl ?_
  refine a_goto (tgt := 61) d_Course_init_82 rfl ?_
  refine a_iload_n (j := 3) d_Course_init_61 rfl rfl ?_
  refine a_iconst d_Course_init_62 (by unfold fs_in32; omega) ?_
  refine a_icmp_ge (tgt := 85) d_Course_init_63 rfl (fun q => absurd q (by decide)) (fun _ => ?_)
  refine a_aload_n (j := 0) d_Course_init_66 rfl rfl ?_
  refine a_getfield (v := fs_r 44) d_Course_init_67 fl_Course_17 ⟨by decide, rfl⟩ (by decide) (p_val (x := 44) (by decide +kernel) rfl) ?_
  refine a_iload_n (j := 3) d_Course_init_70 rfl rfl ?_
  refine p_new (idx := 15) (ci := 2) rfl d_Course_init_71 fs_kc2 ⟨(fs_inB 411 (by decide +kernel) rfl), (fs_inB 414 (by decide +kernel) rfl), (fs_inB 156 (by decide +kernel) rfl)⟩ rfl (by decide) (by decide +kernel) ⟨by decide, by decide⟩ ?_
  show fs_At g m_Course_init 3 _ (53, 9, 59) 74 [(0, fs_r 43), (1, fs_r 1), (2, fs_r 31), (3, fs_i 1)] [fs_r 52, fs_i 1, fs_r 44] (fs_Tt 95) K
  refine a_dup d_Course_init_74 rfl ?_
  refine a_invokeinit (dc := 2) (zc := (1, 53, 53, 0, 0)) (o := 52) [] [fs_r 52, fs_i 1, fs_r 44] d_Course_init_75 ml_Course_44 k_Goer_init v_Goer_init rfl rfl ⟨by decide, rfl⟩ rfl ⟨by decide, rfl, rfl, by decide, by decide, fun _ => rfl⟩ rfl (Nat.le_of_ble_eq_true rfl) (I_Goer_init_52 ?_)
  show fs_At g m_Course_init 3 _ (53, 9, 59) 78 [(0, fs_r 43), (1, fs_r 1), (2, fs_r 31), (3, fs_i 1)] [fs_r 52, fs_i 1, fs_r 44] (fs_Tt 102) K
  refine p_aast (ty := 5) (ci := 2) (n := 3) rfl d_Course_init_78 ⟨by decide, rfl⟩ (by decide) ⟨by decide, rfl⟩ (by decide) (by decide) (by decide) (by decide) rfl ?_
  refine a_iinc (j := 3) d_Course_init_79 rfl (Nat.le_of_ble_eq_true rfl) [1, 2, 3, 0] (ls' := [(0, fs_r 43), (1, fs_r 1), (2, fs_r 31), (3, fs_i 2)]) rfl ?_
  show fs_At g m_Course_init 3 _ (53, 9, 59) 82 [(0, fs_r 43), (1, fs_r 1), (2, fs_r 31), (3, fs_i 2)] [] (fs_Tt 103) K
  refine a_goto (tgt := 61) d_Course_init_82 rfl ?_
  refine a_iload_n (j := 3) d_Course_init_61 rfl rfl ?_
  refine a_iconst d_Course_init_62 (by unfold fs_in32; omega) ?_
  refine a_icmp_ge (tgt := 85) d_Course_init_63 rfl (fun q => absurd q (by decide)) (fun _ => ?_)
  refine a_aload_n (j := 0) d_Course_init_66 rfl rfl ?_
  refine a_getfield (v := fs_r 44) d_Course_init_67 fl_Course_17 ⟨by decide, rfl⟩ (by decide) (p_val (x := 44) (by decide +kernel) rfl) ?_
  refine a_iload_n (j := 3) d_Course_init_70 rfl rfl ?_
  refine p_new (idx := 15) (ci := 2) rfl d_Course_init_71 fs_kc2 ⟨(fs_inB 411 (by decide +kernel) rfl), (fs_inB 414 (by decide +kernel) rfl), (fs_inB 156 (by decide +kernel) rfl)⟩ rfl (by decide) (by decide +kernel) ⟨by decide, by decide⟩ ?_
  show fs_At g m_Course_init 3 _ (54, 10, 66) 74 [(0, fs_r 43), (1, fs_r 1), (2, fs_r 31), (3, fs_i 2)] [fs_r 53, fs_i 2, fs_r 44] (fs_Tt 103) K
  refine a_dup d_Course_init_74 rfl ?_
  refine a_invokeinit (dc := 2) (zc := (1, 54, 54, 0, 0)) (o := 53) [] [fs_r 53, fs_i 2, fs_r 44] d_Course_init_75 ml_Course_44 k_Goer_init v_Goer_init rfl rfl ⟨by decide, rfl⟩ rfl ⟨by decide, rfl, rfl, by decide, by decide, fun _ => rfl⟩ rfl (Nat.le_of_ble_eq_true rfl) (I_Goer_init_53 ?_)
  show fs_At g m_Course_init 3 _ (54, 10, 66) 78 [(0, fs_r 43), (1, fs_r 1), (2, fs_r 31), (3, fs_i 2)] [fs_r 53, fs_i 2, fs_r 44] (fs_Tt 110) K
  refine p_aast (ty := 5) (ci := 2) (n := 3) rfl d_Course_init_78 ⟨by decide, rfl⟩ (by decide) ⟨by decide, rfl⟩ (by decide) (by decide) (by decide) (by decide) rfl ?_
  refine a_iinc (j := 3) d_Course_init_79 rfl (Nat.le_of_ble_eq_true rfl) [1, 2, 3, 0] (ls' := [(0, fs_r 43), (1, fs_r 1), (2, fs_r 31), (3, fs_i 3)]) rfl ?_
  refine a_goto (tgt := 61) d_Course_init_82 rfl ?_
  refine a_iload_n (j := 3) d_Course_init_61 rfl rfl ?_
  show fs_At g m_Course_init 3 _ (54, 10, 66) 62 [(0, fs_r 43), (1, fs_r 1), (2, fs_r 31), (3, fs_i 3)] [fs_i 3] (fs_Tt 111) K
  refine a_iconst d_Course_init_62 (by unfold fs_in32; omega) ?_
  refine a_icmp_ge (tgt := 85) d_Course_init_63 rfl (fun _ => ?_) (fun q => absurd (by decide) q)
  exact a_return d_Course_init_85 rfl ⟨rfl, by decide, by decide⟩ h
set_option maxRecDepth 8000 in
set_option maxHeartbeats 4000000 in
theorem I_Night_init_54 {K : fs_K} (h : K none (fs_Tt 116)) : fs_Call g m_Night_init 2 (1, 55, 57, 2, 12) [fs_r 54] (fs_Tt 112) K := by
  refine a_enter2 (ls := [(0, fs_r 54)]) (plainFor_of_name pn_Night) (Nat.le_of_ble_eq_true rfl) rfl ?_
  show fs_At g m_Night_init 2 _ (55, 0, 0) 0 [(0, fs_r 54)] [] (fs_Tt 112) K
  refine a_aload_n (j := 0) d_Night_init_0 rfl rfl ?_
  refine p_objinit (idx := 3) d_Night_init_1 ⟨(fs_inB 494 (by decide +kernel) rfl), ow_i, ow_c⟩ ⟨by decide, rfl⟩ rfl (by decide) ?_
  refine a_aload_n (j := 0) d_Night_init_4 rfl rfl ?_
  refine a_bipush d_Night_init_5 (by decide) ?_
  refine p_newarray (ty := 0) (n := 6) rfl d_Night_init_7 aw_int (by simp) rfl (by decide) (by decide +kernel) ⟨by decide, by decide⟩ ?_
  show fs_At g m_Night_init 2 _ (56, 1, 6) 9 [(0, fs_r 54)] [fs_r 55, fs_r 54] (fs_Tt 112) K
  refine p_putF (x := 55) d_Night_init_9 flF_Night_9 rfl rfl rfl ⟨by decide, rfl⟩ (by decide) rfl fs_nar_arr rfl ?_
  refine a_aload_n (j := 0) d_Night_init_12 rfl rfl ?_
  refine a_bipush d_Night_init_13 (by decide) ?_
  refine p_newarray (ty := 0) (n := 6) rfl d_Night_init_15 aw_int (by simp) rfl (by decide) (by decide +kernel) ⟨by decide, by decide⟩ ?_
  show fs_At g m_Night_init 2 _ (57, 2, 12) 17 [(0, fs_r 54)] [fs_r 56, fs_r 54] (fs_Tt 113) K
  refine p_putF (x := 56) d_Night_init_17 flF_Night_15 rfl rfl rfl ⟨by decide, rfl⟩ (by decide) rfl fs_nar_arr rfl ?_
  refine a_aload_n (j := 0) d_Night_init_20 rfl rfl ?_
  refine a_iconst d_Night_init_21 (by unfold fs_in32; omega) ?_
  refine p_put1 (x := 0) d_Night_init_22 fl_Night_18 rfl ⟨by decide, rfl⟩ (by decide) rfl fs_nar_int rfl ?_
  refine a_aload_n (j := 0) d_Night_init_25 rfl rfl ?_
  show fs_At g m_Night_init 2 _ (57, 2, 12) 26 [(0, fs_r 54)] [fs_r 54] (fs_Tt 115) K
  refine a_iconst d_Night_init_26 (by unfold fs_in32; omega) ?_
  refine p_put1 (x := 0) d_Night_init_27 fl_Night_22 rfl ⟨by decide, rfl⟩ (by decide) rfl fs_nar_int rfl ?_
  exact a_return d_Night_init_30 rfl ⟨rfl, by decide, by decide⟩ h
set_option maxRecDepth 8000 in
set_option maxHeartbeats 4000000 in
theorem I_Night_init_57 {K : fs_K} (h : K none (fs_Tt 121)) : fs_Call g m_Night_init 2 (1, 58, 60, 2, 12) [fs_r 57] (fs_Tt 117) K := by
  refine a_enter2 (ls := [(0, fs_r 57)]) (plainFor_of_name pn_Night) (Nat.le_of_ble_eq_true rfl) rfl ?_
  show fs_At g m_Night_init 2 _ (58, 0, 0) 0 [(0, fs_r 57)] [] (fs_Tt 117) K
  refine a_aload_n (j := 0) d_Night_init_0 rfl rfl ?_
  refine p_objinit (idx := 3) d_Night_init_1 ⟨(fs_inB 494 (by decide +kernel) rfl), ow_i, ow_c⟩ ⟨by decide, rfl⟩ rfl (by decide) ?_
  refine a_aload_n (j := 0) d_Night_init_4 rfl rfl ?_
  refine a_bipush d_Night_init_5 (by decide) ?_
  refine p_newarray (ty := 0) (n := 6) rfl d_Night_init_7 aw_int (by simp) rfl (by decide) (by decide +kernel) ⟨by decide, by decide⟩ ?_
  show fs_At g m_Night_init 2 _ (59, 1, 6) 9 [(0, fs_r 57)] [fs_r 58, fs_r 57] (fs_Tt 117) K
  refine p_putF (x := 58) d_Night_init_9 flF_Night_9 rfl rfl rfl ⟨by decide, rfl⟩ (by decide) rfl fs_nar_arr rfl ?_
  refine a_aload_n (j := 0) d_Night_init_12 rfl rfl ?_
  refine a_bipush d_Night_init_13 (by decide) ?_
  refine p_newarray (ty := 0) (n := 6) rfl d_Night_init_15 aw_int (by simp) rfl (by decide) (by decide +kernel) ⟨by decide, by decide⟩ ?_
  show fs_At g m_Night_init 2 _ (60, 2, 12) 17 [(0, fs_r 57)] [fs_r 59, fs_r 57] (fs_Tt 118) K
  refine p_putF (x := 59) d_Night_init_17 flF_Night_15 rfl rfl rfl ⟨by decide, rfl⟩ (by decide) rfl fs_nar_arr rfl ?_
  refine a_aload_n (j := 0) d_Night_init_20 rfl rfl ?_
  refine a_iconst d_Night_init_21 (by unfold fs_in32; omega) ?_
  refine p_put1 (x := 0) d_Night_init_22 fl_Night_18 rfl ⟨by decide, rfl⟩ (by decide) rfl fs_nar_int rfl ?_
  refine a_aload_n (j := 0) d_Night_init_25 rfl rfl ?_
  show fs_At g m_Night_init 2 _ (60, 2, 12) 26 [(0, fs_r 57)] [fs_r 57] (fs_Tt 120) K
  refine a_iconst d_Night_init_26 (by unfold fs_in32; omega) ?_
  refine p_put1 (x := 0) d_Night_init_27 fl_Night_22 rfl ⟨by decide, rfl⟩ (by decide) rfl fs_nar_int rfl ?_
  exact a_return d_Night_init_30 rfl ⟨rfl, by decide, by decide⟩ h
set_option maxRecDepth 8000 in
set_option maxHeartbeats 4000000 in
theorem I_Goer_init_83 {K : fs_K} (h : K none (fs_Tt 144)) : fs_Call g m_Goer_init 2 (1, 84, 84, 0, 0) [fs_r 83] (fs_Tt 137) K := by
  refine a_enter2 (ls := [(0, fs_r 83)]) (plainFor_of_name pn_Goer) (Nat.le_of_ble_eq_true rfl) rfl ?_
  show fs_At g m_Goer_init 2 _ (84, 0, 0) 0 [(0, fs_r 83)] [] (fs_Tt 137) K
  refine a_aload_n (j := 0) d_Goer_init_0 rfl rfl ?_
  refine p_objinit (idx := 1) d_Goer_init_1 ⟨(fs_inB 418 (by decide +kernel) rfl), ow_i, ow_c⟩ ⟨by decide, rfl⟩ rfl (by decide) ?_
  refine a_aload_n (j := 0) d_Goer_init_4 rfl rfl ?_
  refine a_iconst d_Goer_init_5 (by unfold fs_in32; omega) ?_
  refine p_put1 (x := 0) d_Goer_init_6 fl_Goer_7 rfl ⟨by decide, rfl⟩ (by decide) rfl fs_nar_int rfl ?_
  refine a_aload_n (j := 0) d_Goer_init_9 rfl rfl ?_
  refine a_iconst d_Goer_init_10 (by unfold fs_in32; omega) ?_
  refine p_put1 (x := 1) d_Goer_init_11 fl_Goer_13 rfl ⟨by decide, rfl⟩ (by decide) rfl fs_nar_int rfl ?_
  refine a_aload_n (j := 0) d_Goer_init_14 rfl rfl ?_
  refine a_iconst d_Goer_init_15 (by unfold fs_in32; omega) ?_
  refine p_put1 (x := 0) d_Goer_init_16 fl_Goer_16 rfl ⟨by decide, rfl⟩ (by decide) rfl fs_nar_int rfl ?_
  refine a_aload_n (j := 0) d_Goer_init_19 rfl rfl ?_
  show fs_At g m_Goer_init 2 _ (84, 0, 0) 20 [(0, fs_r 83)] [fs_r 83] (fs_Tt 140) K
  refine a_iconst d_Goer_init_20 (by unfold fs_in32; omega) ?_
  refine p_put1 (x := 0) d_Goer_init_21 fl_Goer_19 rfl ⟨by decide, rfl⟩ (by decide) rfl fs_nar_int rfl ?_
  refine a_aload_n (j := 0) d_Goer_init_24 rfl rfl ?_
  refine a_iconst d_Goer_init_25 (by unfold fs_in32; omega) ?_
  refine p_put1 (x := 0) d_Goer_init_26 fl_Goer_22 rfl ⟨by decide, rfl⟩ (by decide) rfl fs_nar_int rfl ?_
  refine a_aload_n (j := 0) d_Goer_init_29 rfl rfl ?_
  refine a_iconst d_Goer_init_30 (by unfold fs_in32; omega) ?_
  refine p_put1 (x := 0) d_Goer_init_31 fl_Goer_25 rfl ⟨by decide, rfl⟩ (by decide) rfl fs_nar_int rfl ?_
  refine a_aload_n (j := 0) d_Goer_init_34 rfl rfl ?_
  refine a_iconst d_Goer_init_35 (by unfold fs_in32; omega) ?_
  refine p_put1 (x := 0) d_Goer_init_36 fl_Goer_28 rfl ⟨by decide, rfl⟩ (by decide) rfl fs_nar_int rfl ?_
  exact a_return d_Goer_init_39 rfl ⟨rfl, by decide, by decide⟩ h
set_option maxRecDepth 8000 in
set_option maxHeartbeats 4000000 in
theorem I_Goer_init_84 {K : fs_K} (h : K none (fs_Tt 152)) : fs_Call g m_Goer_init 2 (1, 85, 85, 0, 0) [fs_r 84] (fs_Tt 145) K := by
  refine a_enter2 (ls := [(0, fs_r 84)]) (plainFor_of_name pn_Goer) (Nat.le_of_ble_eq_true rfl) rfl ?_
  show fs_At g m_Goer_init 2 _ (85, 0, 0) 0 [(0, fs_r 84)] [] (fs_Tt 145) K
  refine a_aload_n (j := 0) d_Goer_init_0 rfl rfl ?_
  refine p_objinit (idx := 1) d_Goer_init_1 ⟨(fs_inB 418 (by decide +kernel) rfl), ow_i, ow_c⟩ ⟨by decide, rfl⟩ rfl (by decide) ?_
  refine a_aload_n (j := 0) d_Goer_init_4 rfl rfl ?_
  refine a_iconst d_Goer_init_5 (by unfold fs_in32; omega) ?_
  refine p_put1 (x := 0) d_Goer_init_6 fl_Goer_7 rfl ⟨by decide, rfl⟩ (by decide) rfl fs_nar_int rfl ?_
  refine a_aload_n (j := 0) d_Goer_init_9 rfl rfl ?_
  refine a_iconst d_Goer_init_10 (by unfold fs_in32; omega) ?_
  refine p_put1 (x := 1) d_Goer_init_11 fl_Goer_13 rfl ⟨by decide, rfl⟩ (by decide) rfl fs_nar_int rfl ?_
  refine a_aload_n (j := 0) d_Goer_init_14 rfl rfl ?_
  refine a_iconst d_Goer_init_15 (by unfold fs_in32; omega) ?_
  refine p_put1 (x := 0) d_Goer_init_16 fl_Goer_16 rfl ⟨by decide, rfl⟩ (by decide) rfl fs_nar_int rfl ?_
  refine a_aload_n (j := 0) d_Goer_init_19 rfl rfl ?_
  show fs_At g m_Goer_init 2 _ (85, 0, 0) 20 [(0, fs_r 84)] [fs_r 84] (fs_Tt 148) K
  refine a_iconst d_Goer_init_20 (by unfold fs_in32; omega) ?_
  refine p_put1 (x := 0) d_Goer_init_21 fl_Goer_19 rfl ⟨by decide, rfl⟩ (by decide) rfl fs_nar_int rfl ?_
  refine a_aload_n (j := 0) d_Goer_init_24 rfl rfl ?_
  refine a_iconst d_Goer_init_25 (by unfold fs_in32; omega) ?_
  refine p_put1 (x := 0) d_Goer_init_26 fl_Goer_22 rfl ⟨by decide, rfl⟩ (by decide) rfl fs_nar_int rfl ?_
  refine a_aload_n (j := 0) d_Goer_init_29 rfl rfl ?_
  refine a_iconst d_Goer_init_30 (by unfold fs_in32; omega) ?_
  refine p_put1 (x := 0) d_Goer_init_31 fl_Goer_25 rfl ⟨by decide, rfl⟩ (by decide) rfl fs_nar_int rfl ?_
  refine a_aload_n (j := 0) d_Goer_init_34 rfl rfl ?_
  refine a_iconst d_Goer_init_35 (by unfold fs_in32; omega) ?_
  refine p_put1 (x := 0) d_Goer_init_36 fl_Goer_28 rfl ⟨by decide, rfl⟩ (by decide) rfl fs_nar_int rfl ?_
  exact a_return d_Goer_init_39 rfl ⟨rfl, by decide, by decide⟩ h
set_option maxRecDepth 8000 in
set_option maxHeartbeats 4000000 in
theorem I_Goer_init_85 {K : fs_K} (h : K none (fs_Tt 160)) : fs_Call g m_Goer_init 2 (1, 86, 86, 0, 0) [fs_r 85] (fs_Tt 153) K := by
  refine a_enter2 (ls := [(0, fs_r 85)]) (plainFor_of_name pn_Goer) (Nat.le_of_ble_eq_true rfl) rfl ?_
  show fs_At g m_Goer_init 2 _ (86, 0, 0) 0 [(0, fs_r 85)] [] (fs_Tt 153) K
  refine a_aload_n (j := 0) d_Goer_init_0 rfl rfl ?_
  refine p_objinit (idx := 1) d_Goer_init_1 ⟨(fs_inB 418 (by decide +kernel) rfl), ow_i, ow_c⟩ ⟨by decide, rfl⟩ rfl (by decide) ?_
  refine a_aload_n (j := 0) d_Goer_init_4 rfl rfl ?_
  refine a_iconst d_Goer_init_5 (by unfold fs_in32; omega) ?_
  refine p_put1 (x := 0) d_Goer_init_6 fl_Goer_7 rfl ⟨by decide, rfl⟩ (by decide) rfl fs_nar_int rfl ?_
  refine a_aload_n (j := 0) d_Goer_init_9 rfl rfl ?_
  refine a_iconst d_Goer_init_10 (by unfold fs_in32; omega) ?_
  refine p_put1 (x := 1) d_Goer_init_11 fl_Goer_13 rfl ⟨by decide, rfl⟩ (by decide) rfl fs_nar_int rfl ?_
  refine a_aload_n (j := 0) d_Goer_init_14 rfl rfl ?_
  refine a_iconst d_Goer_init_15 (by unfold fs_in32; omega) ?_
  refine p_put1 (x := 0) d_Goer_init_16 fl_Goer_16 rfl ⟨by decide, rfl⟩ (by decide) rfl fs_nar_int rfl ?_
  refine a_aload_n (j := 0) d_Goer_init_19 rfl rfl ?_
  show fs_At g m_Goer_init 2 _ (86, 0, 0) 20 [(0, fs_r 85)] [fs_r 85] (fs_Tt 156) K
  refine a_iconst d_Goer_init_20 (by unfold fs_in32; omega) ?_
  refine p_put1 (x := 0) d_Goer_init_21 fl_Goer_19 rfl ⟨by decide, rfl⟩ (by decide) rfl fs_nar_int rfl ?_
  refine a_aload_n (j := 0) d_Goer_init_24 rfl rfl ?_
  refine a_iconst d_Goer_init_25 (by unfold fs_in32; omega) ?_
  refine p_put1 (x := 0) d_Goer_init_26 fl_Goer_22 rfl ⟨by decide, rfl⟩ (by decide) rfl fs_nar_int rfl ?_
  refine a_aload_n (j := 0) d_Goer_init_29 rfl rfl ?_
  refine a_iconst d_Goer_init_30 (by unfold fs_in32; omega) ?_
  refine p_put1 (x := 0) d_Goer_init_31 fl_Goer_25 rfl ⟨by decide, rfl⟩ (by decide) rfl fs_nar_int rfl ?_
  refine a_aload_n (j := 0) d_Goer_init_34 rfl rfl ?_
  refine a_iconst d_Goer_init_35 (by unfold fs_in32; omega) ?_
  refine p_put1 (x := 0) d_Goer_init_36 fl_Goer_28 rfl ⟨by decide, rfl⟩ (by decide) rfl fs_nar_int rfl ?_
  exact a_return d_Goer_init_39 rfl ⟨rfl, by decide, by decide⟩ h
set_option maxRecDepth 8000 in
set_option maxHeartbeats 4000000 in
theorem I_Goer_init_86 {K : fs_K} (h : K none (fs_Tt 168)) : fs_Call g m_Goer_init 2 (1, 87, 87, 0, 0) [fs_r 86] (fs_Tt 161) K := by
  refine a_enter2 (ls := [(0, fs_r 86)]) (plainFor_of_name pn_Goer) (Nat.le_of_ble_eq_true rfl) rfl ?_
  show fs_At g m_Goer_init 2 _ (87, 0, 0) 0 [(0, fs_r 86)] [] (fs_Tt 161) K
  refine a_aload_n (j := 0) d_Goer_init_0 rfl rfl ?_
  refine p_objinit (idx := 1) d_Goer_init_1 ⟨(fs_inB 418 (by decide +kernel) rfl), ow_i, ow_c⟩ ⟨by decide, rfl⟩ rfl (by decide) ?_
  refine a_aload_n (j := 0) d_Goer_init_4 rfl rfl ?_
  refine a_iconst d_Goer_init_5 (by unfold fs_in32; omega) ?_
  refine p_put1 (x := 0) d_Goer_init_6 fl_Goer_7 rfl ⟨by decide, rfl⟩ (by decide) rfl fs_nar_int rfl ?_
  refine a_aload_n (j := 0) d_Goer_init_9 rfl rfl ?_
  refine a_iconst d_Goer_init_10 (by unfold fs_in32; omega) ?_
  refine p_put1 (x := 1) d_Goer_init_11 fl_Goer_13 rfl ⟨by decide, rfl⟩ (by decide) rfl fs_nar_int rfl ?_
  refine a_aload_n (j := 0) d_Goer_init_14 rfl rfl ?_
  refine a_iconst d_Goer_init_15 (by unfold fs_in32; omega) ?_
  refine p_put1 (x := 0) d_Goer_init_16 fl_Goer_16 rfl ⟨by decide, rfl⟩ (by decide) rfl fs_nar_int rfl ?_
  refine a_aload_n (j := 0) d_Goer_init_19 rfl rfl ?_
  show fs_At g m_Goer_init 2 _ (87, 0, 0) 20 [(0, fs_r 86)] [fs_r 86] (fs_Tt 164) K
  refine a_iconst d_Goer_init_20 (by unfold fs_in32; omega) ?_
  refine p_put1 (x := 0) d_Goer_init_21 fl_Goer_19 rfl ⟨by decide, rfl⟩ (by decide) rfl fs_nar_int rfl ?_
  refine a_aload_n (j := 0) d_Goer_init_24 rfl rfl ?_
  refine a_iconst d_Goer_init_25 (by unfold fs_in32; omega) ?_
  refine p_put1 (x := 0) d_Goer_init_26 fl_Goer_22 rfl ⟨by decide, rfl⟩ (by decide) rfl fs_nar_int rfl ?_
  refine a_aload_n (j := 0) d_Goer_init_29 rfl rfl ?_
  refine a_iconst d_Goer_init_30 (by unfold fs_in32; omega) ?_
  refine p_put1 (x := 0) d_Goer_init_31 fl_Goer_25 rfl ⟨by decide, rfl⟩ (by decide) rfl fs_nar_int rfl ?_
  refine a_aload_n (j := 0) d_Goer_init_34 rfl rfl ?_
  refine a_iconst d_Goer_init_35 (by unfold fs_in32; omega) ?_
  refine p_put1 (x := 0) d_Goer_init_36 fl_Goer_28 rfl ⟨by decide, rfl⟩ (by decide) rfl fs_nar_int rfl ?_
  exact a_return d_Goer_init_39 rfl ⟨rfl, by decide, by decide⟩ h
set_option maxRecDepth 8000 in
set_option maxHeartbeats 4000000 in
theorem I_Goer_init_87 {K : fs_K} (h : K none (fs_Tt 176)) : fs_Call g m_Goer_init 2 (1, 88, 88, 0, 0) [fs_r 87] (fs_Tt 169) K := by
  refine a_enter2 (ls := [(0, fs_r 87)]) (plainFor_of_name pn_Goer) (Nat.le_of_ble_eq_true rfl) rfl ?_
  show fs_At g m_Goer_init 2 _ (88, 0, 0) 0 [(0, fs_r 87)] [] (fs_Tt 169) K
  refine a_aload_n (j := 0) d_Goer_init_0 rfl rfl ?_
  refine p_objinit (idx := 1) d_Goer_init_1 ⟨(fs_inB 418 (by decide +kernel) rfl), ow_i, ow_c⟩ ⟨by decide, rfl⟩ rfl (by decide) ?_
  refine a_aload_n (j := 0) d_Goer_init_4 rfl rfl ?_
  refine a_iconst d_Goer_init_5 (by unfold fs_in32; omega) ?_
  refine p_put1 (x := 0) d_Goer_init_6 fl_Goer_7 rfl ⟨by decide, rfl⟩ (by decide) rfl fs_nar_int rfl ?_
  refine a_aload_n (j := 0) d_Goer_init_9 rfl rfl ?_
  refine a_iconst d_Goer_init_10 (by unfold fs_in32; omega) ?_
  refine p_put1 (x := 1) d_Goer_init_11 fl_Goer_13 rfl ⟨by decide, rfl⟩ (by decide) rfl fs_nar_int rfl ?_
  refine a_aload_n (j := 0) d_Goer_init_14 rfl rfl ?_
  refine a_iconst d_Goer_init_15 (by unfold fs_in32; omega) ?_
  refine p_put1 (x := 0) d_Goer_init_16 fl_Goer_16 rfl ⟨by decide, rfl⟩ (by decide) rfl fs_nar_int rfl ?_
  refine a_aload_n (j := 0) d_Goer_init_19 rfl rfl ?_
  show fs_At g m_Goer_init 2 _ (88, 0, 0) 20 [(0, fs_r 87)] [fs_r 87] (fs_Tt 172) K
  refine a_iconst d_Goer_init_20 (by unfold fs_in32; omega) ?_
  refine p_put1 (x := 0) d_Goer_init_21 fl_Goer_19 rfl ⟨by decide, rfl⟩ (by decide) rfl fs_nar_int rfl ?_
  refine a_aload_n (j := 0) d_Goer_init_24 rfl rfl ?_
  refine a_iconst d_Goer_init_25 (by unfold fs_in32; omega) ?_
  refine p_put1 (x := 0) d_Goer_init_26 fl_Goer_22 rfl ⟨by decide, rfl⟩ (by decide) rfl fs_nar_int rfl ?_
  refine a_aload_n (j := 0) d_Goer_init_29 rfl rfl ?_
  refine a_iconst d_Goer_init_30 (by unfold fs_in32; omega) ?_
  refine p_put1 (x := 0) d_Goer_init_31 fl_Goer_25 rfl ⟨by decide, rfl⟩ (by decide) rfl fs_nar_int rfl ?_
  refine a_aload_n (j := 0) d_Goer_init_34 rfl rfl ?_
  refine a_iconst d_Goer_init_35 (by unfold fs_in32; omega) ?_
  refine p_put1 (x := 0) d_Goer_init_36 fl_Goer_28 rfl ⟨by decide, rfl⟩ (by decide) rfl fs_nar_int rfl ?_
  exact a_return d_Goer_init_39 rfl ⟨rfl, by decide, by decide⟩ h
set_option maxRecDepth 8000 in
set_option maxHeartbeats 4000000 in
theorem I_Goer_init_88 {K : fs_K} (h : K none (fs_Tt 184)) : fs_Call g m_Goer_init 2 (1, 89, 89, 0, 0) [fs_r 88] (fs_Tt 177) K := by
  refine a_enter2 (ls := [(0, fs_r 88)]) (plainFor_of_name pn_Goer) (Nat.le_of_ble_eq_true rfl) rfl ?_
  show fs_At g m_Goer_init 2 _ (89, 0, 0) 0 [(0, fs_r 88)] [] (fs_Tt 177) K
  refine a_aload_n (j := 0) d_Goer_init_0 rfl rfl ?_
  refine p_objinit (idx := 1) d_Goer_init_1 ⟨(fs_inB 418 (by decide +kernel) rfl), ow_i, ow_c⟩ ⟨by decide, rfl⟩ rfl (by decide) ?_
  refine a_aload_n (j := 0) d_Goer_init_4 rfl rfl ?_
  refine a_iconst d_Goer_init_5 (by unfold fs_in32; omega) ?_
  refine p_put1 (x := 0) d_Goer_init_6 fl_Goer_7 rfl ⟨by decide, rfl⟩ (by decide) rfl fs_nar_int rfl ?_
  refine a_aload_n (j := 0) d_Goer_init_9 rfl rfl ?_
  refine a_iconst d_Goer_init_10 (by unfold fs_in32; omega) ?_
  refine p_put1 (x := 1) d_Goer_init_11 fl_Goer_13 rfl ⟨by decide, rfl⟩ (by decide) rfl fs_nar_int rfl ?_
  refine a_aload_n (j := 0) d_Goer_init_14 rfl rfl ?_
  refine a_iconst d_Goer_init_15 (by unfold fs_in32; omega) ?_
  refine p_put1 (x := 0) d_Goer_init_16 fl_Goer_16 rfl ⟨by decide, rfl⟩ (by decide) rfl fs_nar_int rfl ?_
  refine a_aload_n (j := 0) d_Goer_init_19 rfl rfl ?_
  show fs_At g m_Goer_init 2 _ (89, 0, 0) 20 [(0, fs_r 88)] [fs_r 88] (fs_Tt 180) K
  refine a_iconst d_Goer_init_20 (by unfold fs_in32; omega) ?_
  refine p_put1 (x := 0) d_Goer_init_21 fl_Goer_19 rfl ⟨by decide, rfl⟩ (by decide) rfl fs_nar_int rfl ?_
  refine a_aload_n (j := 0) d_Goer_init_24 rfl rfl ?_
  refine a_iconst d_Goer_init_25 (by unfold fs_in32; omega) ?_
  refine p_put1 (x := 0) d_Goer_init_26 fl_Goer_22 rfl ⟨by decide, rfl⟩ (by decide) rfl fs_nar_int rfl ?_
  refine a_aload_n (j := 0) d_Goer_init_29 rfl rfl ?_
  refine a_iconst d_Goer_init_30 (by unfold fs_in32; omega) ?_
  refine p_put1 (x := 0) d_Goer_init_31 fl_Goer_25 rfl ⟨by decide, rfl⟩ (by decide) rfl fs_nar_int rfl ?_
  refine a_aload_n (j := 0) d_Goer_init_34 rfl rfl ?_
  refine a_iconst d_Goer_init_35 (by unfold fs_in32; omega) ?_
  refine p_put1 (x := 0) d_Goer_init_36 fl_Goer_28 rfl ⟨by decide, rfl⟩ (by decide) rfl fs_nar_int rfl ?_
  exact a_return d_Goer_init_39 rfl ⟨rfl, by decide, by decide⟩ h
set_option maxRecDepth 8000 in
set_option maxHeartbeats 4000000 in
theorem I_Goer_init_89 {K : fs_K} (h : K none (fs_Tt 192)) : fs_Call g m_Goer_init 2 (1, 90, 90, 0, 0) [fs_r 89] (fs_Tt 185) K := by
  refine a_enter2 (ls := [(0, fs_r 89)]) (plainFor_of_name pn_Goer) (Nat.le_of_ble_eq_true rfl) rfl ?_
  show fs_At g m_Goer_init 2 _ (90, 0, 0) 0 [(0, fs_r 89)] [] (fs_Tt 185) K
  refine a_aload_n (j := 0) d_Goer_init_0 rfl rfl ?_
  refine p_objinit (idx := 1) d_Goer_init_1 ⟨(fs_inB 418 (by decide +kernel) rfl), ow_i, ow_c⟩ ⟨by decide, rfl⟩ rfl (by decide) ?_
  refine a_aload_n (j := 0) d_Goer_init_4 rfl rfl ?_
  refine a_iconst d_Goer_init_5 (by unfold fs_in32; omega) ?_
  refine p_put1 (x := 0) d_Goer_init_6 fl_Goer_7 rfl ⟨by decide, rfl⟩ (by decide) rfl fs_nar_int rfl ?_
  refine a_aload_n (j := 0) d_Goer_init_9 rfl rfl ?_
  refine a_iconst d_Goer_init_10 (by unfold fs_in32; omega) ?_
  refine p_put1 (x := 1) d_Goer_init_11 fl_Goer_13 rfl ⟨by decide, rfl⟩ (by decide) rfl fs_nar_int rfl ?_
  refine a_aload_n (j := 0) d_Goer_init_14 rfl rfl ?_
  refine a_iconst d_Goer_init_15 (by unfold fs_in32; omega) ?_
  refine p_put1 (x := 0) d_Goer_init_16 fl_Goer_16 rfl ⟨by decide, rfl⟩ (by decide) rfl fs_nar_int rfl ?_
  refine a_aload_n (j := 0) d_Goer_init_19 rfl rfl ?_
  show fs_At g m_Goer_init 2 _ (90, 0, 0) 20 [(0, fs_r 89)] [fs_r 89] (fs_Tt 188) K
  refine a_iconst d_Goer_init_20 (by unfold fs_in32; omega) ?_
  refine p_put1 (x := 0) d_Goer_init_21 fl_Goer_19 rfl ⟨by decide, rfl⟩ (by decide) rfl fs_nar_int rfl ?_
  refine a_aload_n (j := 0) d_Goer_init_24 rfl rfl ?_
  refine a_iconst d_Goer_init_25 (by unfold fs_in32; omega) ?_
  refine p_put1 (x := 0) d_Goer_init_26 fl_Goer_22 rfl ⟨by decide, rfl⟩ (by decide) rfl fs_nar_int rfl ?_
  refine a_aload_n (j := 0) d_Goer_init_29 rfl rfl ?_
  refine a_iconst d_Goer_init_30 (by unfold fs_in32; omega) ?_
  refine p_put1 (x := 0) d_Goer_init_31 fl_Goer_25 rfl ⟨by decide, rfl⟩ (by decide) rfl fs_nar_int rfl ?_
  refine a_aload_n (j := 0) d_Goer_init_34 rfl rfl ?_
  refine a_iconst d_Goer_init_35 (by unfold fs_in32; omega) ?_
  refine p_put1 (x := 0) d_Goer_init_36 fl_Goer_28 rfl ⟨by decide, rfl⟩ (by decide) rfl fs_nar_int rfl ?_
  exact a_return d_Goer_init_39 rfl ⟨rfl, by decide, by decide⟩ h
set_option maxRecDepth 8000 in
set_option maxHeartbeats 4000000 in
theorem I_Book_init_60 {K : fs_K} (h : K none (fs_Tt 193)) : fs_Call g m_Book_init 3 (1, 61, 90, 29, 16240) [fs_r 60, fs_r 1, fs_r 43] (fs_Tt 122) K := by
  refine a_enter2 (ls := [(0, fs_r 60), (1, fs_r 1), (2, fs_r 43)]) (plainFor_of_name pn_Book) (Nat.le_of_ble_eq_true rfl) rfl ?_
  show fs_At g m_Book_init 3 _ (61, 0, 0) 0 [(0, fs_r 60), (1, fs_r 1), (2, fs_r 43)] [] (fs_Tt 122) K
  refine a_aload_n (j := 0) d_Book_init_0 rfl rfl ?_
  refine p_objinit (idx := 3) d_Book_init_1 ⟨(fs_inB 516 (by decide +kernel) rfl), ow_i, ow_c⟩ ⟨by decide, rfl⟩ rfl (by decide) ?_
  refine a_aload_n (j := 0) d_Book_init_4 rfl rfl ?_
  refine a_sipush d_Book_init_5 (by decide) ?_
  refine p_newarray (ty := 0) (n := 1957) rfl d_Book_init_8 aw_int (by simp) rfl (by decide) (by decide +kernel) ⟨by decide, by decide⟩ ?_
  show fs_At g m_Book_init 3 _ (62, 1, 1957) 10 [(0, fs_r 60), (1, fs_r 1), (2, fs_r 43)] [fs_r 61, fs_r 60] (fs_Tt 122) K
  refine p_putF (x := 61) d_Book_init_10 flF_Book_9 rfl rfl rfl ⟨by decide, rfl⟩ (by decide) rfl fs_nar_arr rfl ?_
  refine a_aload_n (j := 0) d_Book_init_13 rfl rfl ?_
  refine a_sipush d_Book_init_14 (by decide) ?_
  refine p_newarray (ty := 0) (n := 1957) rfl d_Book_init_17 aw_int (by simp) rfl (by decide) (by decide +kernel) ⟨by decide, by decide⟩ ?_
  show fs_At g m_Book_init 3 _ (63, 2, 3914) 19 [(0, fs_r 60), (1, fs_r 1), (2, fs_r 43)] [fs_r 62, fs_r 60] (fs_Tt 123) K
  refine p_putF (x := 62) d_Book_init_19 flF_Book_15 rfl rfl rfl ⟨by decide, rfl⟩ (by decide) rfl fs_nar_arr rfl ?_
  refine a_aload_n (j := 0) d_Book_init_22 rfl rfl ?_
  refine a_iconst d_Book_init_23 (by unfold fs_in32; omega) ?_
  refine p_put1 (x := 0) d_Book_init_24 fl_Book_18 rfl ⟨by decide, rfl⟩ (by decide) rfl fs_nar_int rfl ?_
  refine a_aload_n (j := 0) d_Book_init_27 rfl rfl ?_
  show fs_At g m_Book_init 3 _ (63, 2, 3914) 28 [(0, fs_r 60), (1, fs_r 1), (2, fs_r 43)] [fs_r 60] (fs_Tt 125) K
  refine a_iconst d_Book_init_28 (by unfold fs_in32; omega) ?_
  refine a_sipush d_Book_init_29 (by decide) ?_
  refine p_multi (ty := 4) (ti := 2) (n := 3) (k := 1957) (t1 := .long) rfl d_Book_init_32 ⟨(fs_inB 517 (by decide +kernel) rfl), aw_long⟩ (by simp) rfl (by decide +kernel) ⟨by decide, by decide⟩ (by decide +kernel) ⟨by decide, by decide⟩ ?_
  show fs_At g m_Book_init 3 _ (67, 6, 9788) 36 [(0, fs_r 60), (1, fs_r 1), (2, fs_r 43)] [fs_r 63, fs_r 60] (fs_Tt 125) K
  refine p_putF (x := 63) d_Book_init_36 flF_Book_24 rfl rfl rfl ⟨by decide, rfl⟩ (by decide) rfl fs_nar_arr rfl ?_
  refine a_aload_n (j := 0) d_Book_init_39 rfl rfl ?_
  refine a_iconst d_Book_init_40 (by unfold fs_in32; omega) ?_
  refine a_sipush d_Book_init_41 (by decide) ?_
  refine p_multi (ty := 3) (ti := 0) (n := 3) (k := 1957) (t1 := .int) rfl d_Book_init_44 ⟨(fs_inB 519 (by decide +kernel) rfl), aw_int⟩ (by simp) rfl (by decide +kernel) ⟨by decide, by decide⟩ (by decide +kernel) ⟨by decide, by decide⟩ ?_
  show fs_At g m_Book_init 3 _ (71, 10, 15662) 48 [(0, fs_r 60), (1, fs_r 1), (2, fs_r 43)] [fs_r 67, fs_r 60] (fs_Tt 126) K
  refine p_putF (x := 67) d_Book_init_48 flF_Book_29 rfl rfl rfl ⟨by decide, rfl⟩ (by decide) rfl fs_nar_arr rfl ?_
  refine a_aload_n (j := 0) d_Book_init_51 rfl rfl ?_
  refine a_iconst d_Book_init_52 (by unfold fs_in32; omega) ?_
  refine p_put1 (x := 0) d_Book_init_53 fl_Book_32 rfl ⟨by decide, rfl⟩ (by decide) rfl (fs_nar_bool (by decide)) rfl ?_
  refine a_aload_n (j := 0) d_Book_init_56 rfl rfl ?_
  refine a_iconst d_Book_init_57 (by unfold fs_in32; omega) ?_
  show fs_At g m_Book_init 3 _ (71, 10, 15662) 58 [(0, fs_r 60), (1, fs_r 1), (2, fs_r 43)] [fs_i 0, fs_r 60] (fs_Tt 128) K
  refine p_put1 (x := 0) d_Book_init_58 fl_Book_36 rfl ⟨by decide, rfl⟩ (by decide) rfl fs_nar_int rfl ?_
  refine a_aload_n (j := 0) d_Book_init_61 rfl rfl ?_
  refine a_iconst d_Book_init_62 (by unfold fs_in32; omega) ?_
  refine p_put1 (x := 0) d_Book_init_63 fl_Book_39 rfl ⟨by decide, rfl⟩ (by decide) rfl fs_nar_int rfl ?_
  refine a_aload_n (j := 0) d_Book_init_66 rfl rfl ?_
  refine a_bipush d_Book_init_67 (by decide) ?_
  refine p_anewarray (ty := 5) (n := 7) (C := "FirstSill$Goer") rfl d_Book_init_69 (fs_inB 520 (by decide +kernel) rfl) (by simp) rfl (by decide) (by decide +kernel) ⟨by decide, by decide⟩ ?_
  show fs_At g m_Book_init 3 _ (72, 11, 15669) 72 [(0, fs_r 60), (1, fs_r 1), (2, fs_r 43)] [fs_r 71, fs_r 60] (fs_Tt 130) K
  refine p_putF (x := 71) d_Book_init_72 flF_Book_44 rfl rfl rfl ⟨by decide, rfl⟩ (by decide) rfl fs_nar_arr rfl ?_
  refine a_aload_n (j := 0) d_Book_init_75 rfl rfl ?_
  refine a_bipush d_Book_init_76 (by decide) ?_
  refine p_newarray (ty := 0) (n := 64) rfl d_Book_init_78 aw_int (by simp) rfl (by decide) (by decide +kernel) ⟨by decide, by decide⟩ ?_
  show fs_At g m_Book_init 3 _ (73, 12, 15733) 80 [(0, fs_r 60), (1, fs_r 1), (2, fs_r 43)] [fs_r 72, fs_r 60] (fs_Tt 131) K
  refine p_putF (x := 72) d_Book_init_80 flF_Book_48 rfl rfl rfl ⟨by decide, rfl⟩ (by decide) rfl fs_nar_arr rfl ?_
  refine a_aload_n (j := 0) d_Book_init_83 rfl rfl ?_
  refine a_iconst d_Book_init_84 (by unfold fs_in32; omega) ?_
  show fs_At g m_Book_init 3 _ (73, 12, 15733) 85 [(0, fs_r 60), (1, fs_r 1), (2, fs_r 43)] [fs_i 3, fs_r 60] (fs_Tt 132) K
  refine a_bipush d_Book_init_85 (by decide) ?_
  refine p_multi (ty := 3) (ti := 0) (n := 3) (k := 64) (t1 := .int) rfl d_Book_init_87 ⟨(fs_inB 519 (by decide +kernel) rfl), aw_int⟩ (by simp) rfl (by decide +kernel) ⟨by decide, by decide⟩ (by decide +kernel) ⟨by decide, by decide⟩ ?_
  show fs_At g m_Book_init 3 _ (77, 16, 15928) 91 [(0, fs_r 60), (1, fs_r 1), (2, fs_r 43)] [fs_r 73, fs_r 60] (fs_Tt 132) K
  refine p_putF (x := 73) d_Book_init_91 flF_Book_51 rfl rfl rfl ⟨by decide, rfl⟩ (by decide) rfl fs_nar_arr rfl ?_
  refine a_aload_n (j := 0) d_Book_init_94 rfl rfl ?_
  refine a_iconst d_Book_init_95 (by unfold fs_in32; omega) ?_
  refine a_bipush d_Book_init_96 (by decide) ?_
  refine p_multi (ty := 3) (ti := 0) (n := 4) (k := 64) (t1 := .int) rfl d_Book_init_98 ⟨(fs_inB 519 (by decide +kernel) rfl), aw_int⟩ (by simp) rfl (by decide +kernel) ⟨by decide, by decide⟩ (by decide +kernel) ⟨by decide, by decide⟩ ?_
  show fs_At g m_Book_init 3 _ (82, 21, 16188) 102 [(0, fs_r 60), (1, fs_r 1), (2, fs_r 43)] [fs_r 77, fs_r 60] (fs_Tt 133) K
  refine p_putF (x := 77) d_Book_init_102 flF_Book_54 rfl rfl rfl ⟨by decide, rfl⟩ (by decide) rfl fs_nar_arr rfl ?_
  refine a_aload_n (j := 0) d_Book_init_105 rfl rfl ?_
  refine a_iconst d_Book_init_106 (by unfold fs_in32; omega) ?_
  refine p_newarray (ty := 0) (n := 3) rfl d_Book_init_107 aw_int (by simp) rfl (by decide) (by decide +kernel) ⟨by decide, by decide⟩ ?_
  show fs_At g m_Book_init 3 _ (83, 22, 16191) 109 [(0, fs_r 60), (1, fs_r 1), (2, fs_r 43)] [fs_r 82, fs_r 60] (fs_Tt 134) K
  refine p_putF (x := 82) d_Book_init_109 flF_Book_57 rfl rfl rfl ⟨by decide, rfl⟩ (by decide) rfl fs_nar_arr rfl ?_
  refine a_aload_n (j := 0) d_Book_init_112 rfl rfl ?_
  refine a_aload_n (j := 1) d_Book_init_113 rfl rfl ?_
  refine p_putF (x := 1) d_Book_init_114 flF_Book_60 rfl rfl rfl ⟨by decide, rfl⟩ (by decide) rfl fs_nar_obj rfl ?_
  show fs_At g m_Book_init 3 _ (83, 22, 16191) 117 [(0, fs_r 60), (1, fs_r 1), (2, fs_r 43)] [] (fs_Tt 136) K
  refine a_aload_n (j := 0) d_Book_init_117 rfl rfl ?_
  refine a_aload_n (j := 2) d_Book_init_118 rfl rfl ?_
  refine p_putF (x := 43) d_Book_init_119 flF_Book_64 rfl rfl rfl ⟨by decide, rfl⟩ (by decide) rfl fs_nar_obj rfl ?_
  refine a_iconst d_Book_init_122 (by unfold fs_in32; omega) ?_
  refine a_istore_n d_Book_init_123 rfl (Nat.le_of_ble_eq_true rfl) [1, 2, 3, 0] (ls' := [(0, fs_r 60), (1, fs_r 1), (2, fs_r 43), (3, fs_i 0)]) rfl ?_
  refine a_iload_n (j := 3) d_Book_init_124 rfl rfl ?_
  refine a_bipush d_Book_init_125 (by decide) ?_
  refine a_icmp_gt (tgt := 149) d_Book_init_127 rfl (fun q => absurd q (by decide)) (fun _ => ?_)
  refine a_aload_n (j := 0) d_Book_init_130 rfl rfl ?_
  refine a_getfield (v := fs_r 71) d_Book_init_131 fl_Book_44 ⟨by decide, rfl⟩ (by decide) (p_val (x := 71) (by decide +kernel) rfl) ?_
  refine a_iload_n (j := 3) d_Book_init_134 rfl rfl ?_
  refine p_new (idx := 42) (ci := 2) rfl d_Book_init_135 fs_kc2 ⟨(fs_inB 520 (by decide +kernel) rfl), (fs_inB 414 (by decide +kernel) rfl), (fs_inB 156 (by decide +kernel) rfl)⟩ rfl (by decide) (by decide +kernel) ⟨by decide, by decide⟩ ?_
  show fs_At g m_Book_init 3 _ (84, 23, 16198) 138 [(0, fs_r 60), (1, fs_r 1), (2, fs_r 43), (3, fs_i 0)] [fs_r 83, fs_i 0, fs_r 71] (fs_Tt 137) K
  refine a_dup d_Book_init_138 rfl ?_
  show fs_At g m_Book_init 3 _ (84, 23, 16198) 139 [(0, fs_r 60), (1, fs_r 1), (2, fs_r 43), (3, fs_i 0)] [fs_r 83, fs_r 83, fs_i 0, fs_r 71] (fs_Tt 137) K
  refine a_invokeinit (dc := 2) (zc := (1, 84, 84, 0, 0)) (o := 83) [] [fs_r 83, fs_i 0, fs_r 71] d_Book_init_139 ml_Book_68 k_Goer_init v_Goer_init rfl rfl ⟨by decide, rfl⟩ rfl ⟨by decide, rfl, rfl, by decide, by decide, fun _ => rfl⟩ rfl (Nat.le_of_ble_eq_true rfl) (I_Goer_init_83 ?_)
  show fs_At g m_Book_init 3 _ (84, 23, 16198) 142 [(0, fs_r 60), (1, fs_r 1), (2, fs_r 43), (3, fs_i 0)] [fs_r 83, fs_i 0, fs_r 71] (fs_Tt 144) K
  refine p_aast (ty := 5) (ci := 2) (n := 7) rfl d_Book_init_142 ⟨by decide, rfl⟩ (by decide) ⟨by decide, rfl⟩ (by decide) (by decide) (by decide) (by decide) rfl ?_
  refine a_iinc (j := 3) d_Book_init_143 rfl (Nat.le_of_ble_eq_true rfl) [1, 2, 3, 0] (ls' := [(0, fs_r 60), (1, fs_r 1), (2, fs_r 43), (3, fs_i 1)]) rfl ?_
  refine a_goto (tgt := 124) d_Book_init_146 rfl ?_
  refine a_iload_n (j := 3) d_Book_init_124 rfl rfl ?_
  refine a_bipush d_Book_init_125 (by decide) ?_
  refine a_icmp_gt (tgt := 149) d_Book_init_127 rfl (fun q => absurd q (by decide)) (fun _ => ?_)
  refine a_aload_n (j := 0) d_Book_init_130 rfl rfl ?_
  refine a_getfield (v := fs_r 71) d_Book_init_131 fl_Book_44 ⟨by decide, rfl⟩ (by decide) (p_val (x := 71) (by decide +kernel) rfl) ?_
  refine a_iload_n (j := 3) d_Book_init_134 rfl rfl ?_
  refine p_new (idx := 42) (ci := 2) rfl d_Book_init_135 fs_kc2 ⟨(fs_inB 520 (by decide +kernel) rfl), (fs_inB 414 (by decide +kernel) rfl), (fs_inB 156 (by decide +kernel) rfl)⟩ rfl (by decide) (by decide +kernel) ⟨by decide, by decide⟩ ?_
  show fs_At g m_Book_init 3 _ (85, 24, 16205) 138 [(0, fs_r 60), (1, fs_r 1), (2, fs_r 43), (3, fs_i 1)] [fs_r 84, fs_i 1, fs_r 71] (fs_Tt 145) K
  refine a_dup d_Book_init_138 rfl ?_
  refine a_invokeinit (dc := 2) (zc := (1, 85, 85, 0, 0)) (o := 84) [] [fs_r 84, fs_i 1, fs_r 71] d_Book_init_139 ml_Book_68 k_Goer_init v_Goer_init rfl rfl ⟨by decide, rfl⟩ rfl ⟨by decide, rfl, rfl, by decide, by decide, fun _ => rfl⟩ rfl (Nat.le_of_ble_eq_true rfl) (I_Goer_init_84 ?_)
  show fs_At g m_Book_init 3 _ (85, 24, 16205) 142 [(0, fs_r 60), (1, fs_r 1), (2, fs_r 43), (3, fs_i 1)] [fs_r 84, fs_i 1, fs_r 71] (fs_Tt 152) K
  refine p_aast (ty := 5) (ci := 2) (n := 7) rfl d_Book_init_142 ⟨by decide, rfl⟩ (by decide) ⟨by decide, rfl⟩ (by decide) (by decide) (by decide) (by decide) rfl ?_
  refine a_iinc (j := 3) d_Book_init_143 rfl (Nat.le_of_ble_eq_true rfl) [1, 2, 3, 0] (ls' := [(0, fs_r 60), (1, fs_r 1), (2, fs_r 43), (3, fs_i 2)]) rfl ?_
  show fs_At g m_Book_init 3 _ (85, 24, 16205) 146 [(0, fs_r 60), (1, fs_r 1), (2, fs_r 43), (3, fs_i 2)] [] (fs_Tt 153) K
  refine a_goto (tgt := 124) d_Book_init_146 rfl ?_
  refine a_iload_n (j := 3) d_Book_init_124 rfl rfl ?_
  refine a_bipush d_Book_init_125 (by decide) ?_
  refine a_icmp_gt (tgt := 149) d_Book_init_127 rfl (fun q => absurd q (by decide)) (fun _ => ?_)
  refine a_aload_n (j := 0) d_Book_init_130 rfl rfl ?_
  refine a_getfield (v := fs_r 71) d_Book_init_131 fl_Book_44 ⟨by decide, rfl⟩ (by decide) (p_val (x := 71) (by decide +kernel) rfl) ?_
  refine a_iload_n (j := 3) d_Book_init_134 rfl rfl ?_
  refine p_new (idx := 42) (ci := 2) rfl d_Book_init_135 fs_kc2 ⟨(fs_inB 520 (by decide +kernel) rfl), (fs_inB 414 (by decide +kernel) rfl), (fs_inB 156 (by decide +kernel) rfl)⟩ rfl (by decide) (by decide +kernel) ⟨by decide, by decide⟩ ?_
  show fs_At g m_Book_init 3 _ (86, 25, 16212) 138 [(0, fs_r 60), (1, fs_r 1), (2, fs_r 43), (3, fs_i 2)] [fs_r 85, fs_i 2, fs_r 71] (fs_Tt 153) K
  refine a_dup d_Book_init_138 rfl ?_
  refine a_invokeinit (dc := 2) (zc := (1, 86, 86, 0, 0)) (o := 85) [] [fs_r 85, fs_i 2, fs_r 71] d_Book_init_139 ml_Book_68 k_Goer_init v_Goer_init rfl rfl ⟨by decide, rfl⟩ rfl ⟨by decide, rfl, rfl, by decide, by decide, fun _ => rfl⟩ rfl (Nat.le_of_ble_eq_true rfl) (I_Goer_init_85 ?_)
  show fs_At g m_Book_init 3 _ (86, 25, 16212) 142 [(0, fs_r 60), (1, fs_r 1), (2, fs_r 43), (3, fs_i 2)] [fs_r 85, fs_i 2, fs_r 71] (fs_Tt 160) K
  refine p_aast (ty := 5) (ci := 2) (n := 7) rfl d_Book_init_142 ⟨by decide, rfl⟩ (by decide) ⟨by decide, rfl⟩ (by decide) (by decide) (by decide) (by decide) rfl ?_
  refine a_iinc (j := 3) d_Book_init_143 rfl (Nat.le_of_ble_eq_true rfl) [1, 2, 3, 0] (ls' := [(0, fs_r 60), (1, fs_r 1), (2, fs_r 43), (3, fs_i 3)]) rfl ?_
  refine a_goto (tgt := 124) d_Book_init_146 rfl ?_
  refine a_iload_n (j := 3) d_Book_init_124 rfl rfl ?_
  show fs_At g m_Book_init 3 _ (86, 25, 16212) 125 [(0, fs_r 60), (1, fs_r 1), (2, fs_r 43), (3, fs_i 3)] [fs_i 3] (fs_Tt 161) K
  refine a_bipush d_Book_init_125 (by decide) ?_
  refine a_icmp_gt (tgt := 149) d_Book_init_127 rfl (fun q => absurd q (by decide)) (fun _ => ?_)
  refine a_aload_n (j := 0) d_Book_init_130 rfl rfl ?_
  refine a_getfield (v := fs_r 71) d_Book_init_131 fl_Book_44 ⟨by decide, rfl⟩ (by decide) (p_val (x := 71) (by decide +kernel) rfl) ?_
  refine a_iload_n (j := 3) d_Book_init_134 rfl rfl ?_
  refine p_new (idx := 42) (ci := 2) rfl d_Book_init_135 fs_kc2 ⟨(fs_inB 520 (by decide +kernel) rfl), (fs_inB 414 (by decide +kernel) rfl), (fs_inB 156 (by decide +kernel) rfl)⟩ rfl (by decide) (by decide +kernel) ⟨by decide, by decide⟩ ?_
  show fs_At g m_Book_init 3 _ (87, 26, 16219) 138 [(0, fs_r 60), (1, fs_r 1), (2, fs_r 43), (3, fs_i 3)] [fs_r 86, fs_i 3, fs_r 71] (fs_Tt 161) K
  refine a_dup d_Book_init_138 rfl ?_
  refine a_invokeinit (dc := 2) (zc := (1, 87, 87, 0, 0)) (o := 86) [] [fs_r 86, fs_i 3, fs_r 71] d_Book_init_139 ml_Book_68 k_Goer_init v_Goer_init rfl rfl ⟨by decide, rfl⟩ rfl ⟨by decide, rfl, rfl, by decide, by decide, fun _ => rfl⟩ rfl (Nat.le_of_ble_eq_true rfl) (I_Goer_init_86 ?_)
  show fs_At g m_Book_init 3 _ (87, 26, 16219) 142 [(0, fs_r 60), (1, fs_r 1), (2, fs_r 43), (3, fs_i 3)] [fs_r 86, fs_i 3, fs_r 71] (fs_Tt 168) K
  refine p_aast (ty := 5) (ci := 2) (n := 7) rfl d_Book_init_142 ⟨by decide, rfl⟩ (by decide) ⟨by decide, rfl⟩ (by decide) (by decide) (by decide) (by decide) rfl ?_
  refine a_iinc (j := 3) d_Book_init_143 rfl (Nat.le_of_ble_eq_true rfl) [1, 2, 3, 0] (ls' := [(0, fs_r 60), (1, fs_r 1), (2, fs_r 43), (3, fs_i 4)]) rfl ?_
  refine a_goto (tgt := 124) d_Book_init_146 rfl ?_
  refine a_iload_n (j := 3) d_Book_init_124 rfl rfl ?_
  refine a_bipush d_Book_init_125 (by decide) ?_
  refine a_icmp_gt (tgt := 149) d_Book_init_127 rfl (fun q => absurd q (by decide)) (fun _ => ?_)
  show fs_At g m_Book_init 3 _ (87, 26, 16219) 130 [(0, fs_r 60), (1, fs_r 1), (2, fs_r 43), (3, fs_i 4)] [] (fs_Tt 169) K
  refine a_aload_n (j := 0) d_Book_init_130 rfl rfl ?_
  refine a_getfield (v := fs_r 71) d_Book_init_131 fl_Book_44 ⟨by decide, rfl⟩ (by decide) (p_val (x := 71) (by decide +kernel) rfl) ?_
  refine a_iload_n (j := 3) d_Book_init_134 rfl rfl ?_
  refine p_new (idx := 42) (ci := 2) rfl d_Book_init_135 fs_kc2 ⟨(fs_inB 520 (by decide +kernel) rfl), (fs_inB 414 (by decide +kernel) rfl), (fs_inB 156 (by decide +kernel) rfl)⟩ rfl (by decide) (by decide +kernel) ⟨by decide, by decide⟩ ?_
  show fs_At g m_Book_init 3 _ (88, 27, 16226) 138 [(0, fs_r 60), (1, fs_r 1), (2, fs_r 43), (3, fs_i 4)] [fs_r 87, fs_i 4, fs_r 71] (fs_Tt 169) K
  refine a_dup d_Book_init_138 rfl ?_
  refine a_invokeinit (dc := 2) (zc := (1, 88, 88, 0, 0)) (o := 87) [] [fs_r 87, fs_i 4, fs_r 71] d_Book_init_139 ml_Book_68 k_Goer_init v_Goer_init rfl rfl ⟨by decide, rfl⟩ rfl ⟨by decide, rfl, rfl, by decide, by decide, fun _ => rfl⟩ rfl (Nat.le_of_ble_eq_true rfl) (I_Goer_init_87 ?_)
  show fs_At g m_Book_init 3 _ (88, 27, 16226) 142 [(0, fs_r 60), (1, fs_r 1), (2, fs_r 43), (3, fs_i 4)] [fs_r 87, fs_i 4, fs_r 71] (fs_Tt 176) K
  refine p_aast (ty := 5) (ci := 2) (n := 7) rfl d_Book_init_142 ⟨by decide, rfl⟩ (by decide) ⟨by decide, rfl⟩ (by decide) (by decide) (by decide) (by decide) rfl ?_
  refine a_iinc (j := 3) d_Book_init_143 rfl (Nat.le_of_ble_eq_true rfl) [1, 2, 3, 0] (ls' := [(0, fs_r 60), (1, fs_r 1), (2, fs_r 43), (3, fs_i 5)]) rfl ?_
  refine a_goto (tgt := 124) d_Book_init_146 rfl ?_
  refine a_iload_n (j := 3) d_Book_init_124 rfl rfl ?_
  refine a_bipush d_Book_init_125 (by decide) ?_
  refine a_icmp_gt (tgt := 149) d_Book_init_127 rfl (fun q => absurd q (by decide)) (fun _ => ?_)
  refine a_aload_n (j := 0) d_Book_init_130 rfl rfl ?_
  refine a_getfield (v := fs_r 71) d_Book_init_131 fl_Book_44 ⟨by decide, rfl⟩ (by decide) (p_val (x := 71) (by decide +kernel) rfl) ?_
  show fs_At g m_Book_init 3 _ (88, 27, 16226) 134 [(0, fs_r 60), (1, fs_r 1), (2, fs_r 43), (3, fs_i 5)] [fs_r 71] (fs_Tt 177) K
  refine a_iload_n (j := 3) d_Book_init_134 rfl rfl ?_
  refine p_new (idx := 42) (ci := 2) rfl d_Book_init_135 fs_kc2 ⟨(fs_inB 520 (by decide +kernel) rfl), (fs_inB 414 (by decide +kernel) rfl), (fs_inB 156 (by decide +kernel) rfl)⟩ rfl (by decide) (by decide +kernel) ⟨by decide, by decide⟩ ?_
  show fs_At g m_Book_init 3 _ (89, 28, 16233) 138 [(0, fs_r 60), (1, fs_r 1), (2, fs_r 43), (3, fs_i 5)] [fs_r 88, fs_i 5, fs_r 71] (fs_Tt 177) K
  refine a_dup d_Book_init_138 rfl ?_
  refine a_invokeinit (dc := 2) (zc := (1, 89, 89, 0, 0)) (o := 88) [] [fs_r 88, fs_i 5, fs_r 71] d_Book_init_139 ml_Book_68 k_Goer_init v_Goer_init rfl rfl ⟨by decide, rfl⟩ rfl ⟨by decide, rfl, rfl, by decide, by decide, fun _ => rfl⟩ rfl (Nat.le_of_ble_eq_true rfl) (I_Goer_init_88 ?_)
  show fs_At g m_Book_init 3 _ (89, 28, 16233) 142 [(0, fs_r 60), (1, fs_r 1), (2, fs_r 43), (3, fs_i 5)] [fs_r 88, fs_i 5, fs_r 71] (fs_Tt 184) K
  refine p_aast (ty := 5) (ci := 2) (n := 7) rfl d_Book_init_142 ⟨by decide, rfl⟩ (by decide) ⟨by decide, rfl⟩ (by decide) (by decide) (by decide) (by decide) rfl ?_
  refine a_iinc (j := 3) d_Book_init_143 rfl (Nat.le_of_ble_eq_true rfl) [1, 2, 3, 0] (ls' := [(0, fs_r 60), (1, fs_r 1), (2, fs_r 43), (3, fs_i 6)]) rfl ?_
  refine a_goto (tgt := 124) d_Book_init_146 rfl ?_
  refine a_iload_n (j := 3) d_Book_init_124 rfl rfl ?_
  refine a_bipush d_Book_init_125 (by decide) ?_
  refine a_icmp_gt (tgt := 149) d_Book_init_127 rfl (fun q => absurd q (by decide)) (fun _ => ?_)
  refine a_aload_n (j := 0) d_Book_init_130 rfl rfl ?_
  refine a_getfield (v := fs_r 71) d_Book_init_131 fl_Book_44 ⟨by decide, rfl⟩ (by decide) (p_val (x := 71) (by decide +kernel) rfl) ?_
  refine a_iload_n (j := 3) d_Book_init_134 rfl rfl ?_
  refine p_new (idx := 42) (ci := 2) rfl d_Book_init_135 fs_kc2 ⟨(fs_inB 520 (by decide +kernel) rfl), (fs_inB 414 (by decide +kernel) rfl), (fs_inB 156 (by decide +kernel) rfl)⟩ rfl (by decide) (by decide +kernel) ⟨by decide, by decide⟩ ?_
  show fs_At g m_Book_init 3 _ (90, 29, 16240) 138 [(0, fs_r 60), (1, fs_r 1), (2, fs_r 43), (3, fs_i 6)] [fs_r 89, fs_i 6, fs_r 71] (fs_Tt 185) K
  refine a_dup d_Book_init_138 rfl ?_
  show fs_At g m_Book_init 3 _ (90, 29, 16240) 139 [(0, fs_r 60), (1, fs_r 1), (2, fs_r 43), (3, fs_i 6)] [fs_r 89, fs_r 89, fs_i 6, fs_r 71] (fs_Tt 185) K
  refine a_invokeinit (dc := 2) (zc := (1, 90, 90, 0, 0)) (o := 89) [] [fs_r 89, fs_i 6, fs_r 71] d_Book_init_139 ml_Book_68 k_Goer_init v_Goer_init rfl rfl ⟨by decide, rfl⟩ rfl ⟨by decide, rfl, rfl, by decide, by decide, fun _ => rfl⟩ rfl (Nat.le_of_ble_eq_true rfl) (I_Goer_init_89 ?_)
  show fs_At g m_Book_init 3 _ (90, 29, 16240) 142 [(0, fs_r 60), (1, fs_r 1), (2, fs_r 43), (3, fs_i 6)] [fs_r 89, fs_i 6, fs_r 71] (fs_Tt 192) K
  refine p_aast (ty := 5) (ci := 2) (n := 7) rfl d_Book_init_142 ⟨by decide, rfl⟩ (by decide) ⟨by decide, rfl⟩ (by decide) (by decide) (by decide) (by decide) rfl ?_
  refine a_iinc (j := 3) d_Book_init_143 rfl (Nat.le_of_ble_eq_true rfl) [1, 2, 3, 0] (ls' := [(0, fs_r 60), (1, fs_r 1), (2, fs_r 43), (3, fs_i 7)]) rfl ?_
  refine a_goto (tgt := 124) d_Book_init_146 rfl ?_
  refine a_iload_n (j := 3) d_Book_init_124 rfl rfl ?_
  refine a_bipush d_Book_init_125 (by decide) ?_
  refine a_icmp_gt (tgt := 149) d_Book_init_127 rfl (fun _ => ?_) (fun q => absurd (by decide) q)
  exact a_return d_Book_init_149 rfl ⟨rfl, by decide, by decide⟩ h
set_option maxRecDepth 8000 in
set_option maxHeartbeats 4000000 in
theorem I_Tracks_init_90 {K : fs_K} (h : K none (fs_Tt 200)) : fs_Call g m_Tracks_init 2 (1, 91, 95, 4, 96) [fs_r 90] (fs_Tt 194) K := by
  refine a_enter2 (ls := [(0, fs_r 90)]) (plainFor_of_name pn_Tracks) (Nat.le_of_ble_eq_true rfl) rfl ?_
  show fs_At g m_Tracks_init 2 _ (91, 0, 0) 0 [(0, fs_r 90)] [] (fs_Tt 194) K
  refine a_aload_n (j := 0) d_Tracks_init_0 rfl rfl ?_
  refine p_objinit (idx := 3) d_Tracks_init_1 ⟨(fs_inB 577 (by decide +kernel) rfl), ow_i, ow_c⟩ ⟨by decide, rfl⟩ rfl (by decide) ?_
  refine a_aload_n (j := 0) d_Tracks_init_4 rfl rfl ?_
  refine a_bipush d_Tracks_init_5 (by decide) ?_
  refine p_newarray (ty := 0) (n := 24) rfl d_Tracks_init_7 aw_int (by simp) rfl (by decide) (by decide +kernel) ⟨by decide, by decide⟩ ?_
  show fs_At g m_Tracks_init 2 _ (92, 1, 24) 9 [(0, fs_r 90)] [fs_r 91, fs_r 90] (fs_Tt 194) K
  refine p_putF (x := 91) d_Tracks_init_9 flF_Tracks_9 rfl rfl rfl ⟨by decide, rfl⟩ (by decide) rfl fs_nar_arr rfl ?_
  refine a_aload_n (j := 0) d_Tracks_init_12 rfl rfl ?_
  refine a_bipush d_Tracks_init_13 (by decide) ?_
  refine p_newarray (ty := 0) (n := 24) rfl d_Tracks_init_15 aw_int (by simp) rfl (by decide) (by decide +kernel) ⟨by decide, by decide⟩ ?_
  show fs_At g m_Tracks_init 2 _ (93, 2, 48) 17 [(0, fs_r 90)] [fs_r 92, fs_r 90] (fs_Tt 195) K
  refine p_putF (x := 92) d_Tracks_init_17 flF_Tracks_15 rfl rfl rfl ⟨by decide, rfl⟩ (by decide) rfl fs_nar_arr rfl ?_
  refine a_aload_n (j := 0) d_Tracks_init_20 rfl rfl ?_
  refine a_bipush d_Tracks_init_21 (by decide) ?_
  refine p_newarray (ty := 0) (n := 24) rfl d_Tracks_init_23 aw_int (by simp) rfl (by decide) (by decide +kernel) ⟨by decide, by decide⟩ ?_
  show fs_At g m_Tracks_init 2 _ (94, 3, 72) 25 [(0, fs_r 90)] [fs_r 93, fs_r 90] (fs_Tt 196) K
  refine p_putF (x := 93) d_Tracks_init_25 flF_Tracks_18 rfl rfl rfl ⟨by decide, rfl⟩ (by decide) rfl fs_nar_arr rfl ?_
  refine a_aload_n (j := 0) d_Tracks_init_28 rfl rfl ?_
  show fs_At g m_Tracks_init 2 _ (94, 3, 72) 29 [(0, fs_r 90)] [fs_r 90] (fs_Tt 197) K
  refine a_bipush d_Tracks_init_29 (by decide) ?_
  refine p_newarray (ty := 0) (n := 24) rfl d_Tracks_init_31 aw_int (by simp) rfl (by decide) (by decide +kernel) ⟨by decide, by decide⟩ ?_
  show fs_At g m_Tracks_init 2 _ (95, 4, 96) 33 [(0, fs_r 90)] [fs_r 94, fs_r 90] (fs_Tt 197) K
  refine p_putF (x := 94) d_Tracks_init_33 flF_Tracks_21 rfl rfl rfl ⟨by decide, rfl⟩ (by decide) rfl fs_nar_arr rfl ?_
  refine a_aload_n (j := 0) d_Tracks_init_36 rfl rfl ?_
  refine a_iconst d_Tracks_init_37 (by unfold fs_in32; omega) ?_
  refine p_put1 (x := 0) d_Tracks_init_38 fl_Tracks_24 rfl ⟨by decide, rfl⟩ (by decide) rfl fs_nar_int rfl ?_
  refine a_aload_n (j := 0) d_Tracks_init_41 rfl rfl ?_
  refine a_iconst d_Tracks_init_42 (by unfold fs_in32; omega) ?_
  refine p_put1 (x := (-1)) d_Tracks_init_43 fl_Tracks_28 rfl ⟨by decide, rfl⟩ (by decide) rfl fs_nar_int rfl ?_
  exact a_return d_Tracks_init_46 rfl ⟨rfl, by decide, by decide⟩ h
set_option maxRecDepth 8000 in
set_option maxHeartbeats 4000000 in
theorem I_Plan_init_97 {K : fs_K} (h : K none (fs_Tt 208)) : fs_Call g m_Plan_init 2 (1, 98, 103, 5, 33) [fs_r 97] (fs_Tt 204) K := by
  refine a_enter2 (ls := [(0, fs_r 97)]) (plainFor_of_name pn_Plan) (Nat.le_of_ble_eq_true rfl) rfl ?_
  show fs_At g m_Plan_init 2 _ (98, 0, 0) 0 [(0, fs_r 97)] [] (fs_Tt 204) K
  refine a_aload_n (j := 0) d_Plan_init_0 rfl rfl ?_
  refine p_objinit (idx := 3) d_Plan_init_1 ⟨(fs_inB 381 (by decide +kernel) rfl), ow_i, ow_c⟩ ⟨by decide, rfl⟩ rfl (by decide) ?_
  refine a_aload_n (j := 0) d_Plan_init_4 rfl rfl ?_
  refine a_iconst d_Plan_init_5 (by unfold fs_in32; omega) ?_
  refine a_bipush d_Plan_init_6 (by decide) ?_
  refine p_multi (ty := 3) (ti := 0) (n := 3) (k := 9) (t1 := .int) rfl d_Plan_init_8 ⟨(fs_inB 382 (by decide +kernel) rfl), aw_int⟩ (by simp) rfl (by decide +kernel) ⟨by decide, by decide⟩ (by decide +kernel) ⟨by decide, by decide⟩ ?_
  show fs_At g m_Plan_init 2 _ (102, 4, 30) 12 [(0, fs_r 97)] [fs_r 98, fs_r 97] (fs_Tt 204) K
  refine p_putF (x := 98) d_Plan_init_12 flF_Plan_11 rfl rfl rfl ⟨by decide, rfl⟩ (by decide) rfl fs_nar_arr rfl ?_
  refine a_aload_n (j := 0) d_Plan_init_15 rfl rfl ?_
  refine a_iconst d_Plan_init_16 (by unfold fs_in32; omega) ?_
  refine p_newarray (ty := 0) (n := 3) rfl d_Plan_init_17 aw_int (by simp) rfl (by decide) (by decide +kernel) ⟨by decide, by decide⟩ ?_
  show fs_At g m_Plan_init 2 _ (103, 5, 33) 19 [(0, fs_r 97)] [fs_r 102, fs_r 97] (fs_Tt 205) K
  refine p_putF (x := 102) d_Plan_init_19 flF_Plan_16 rfl rfl rfl ⟨by decide, rfl⟩ (by decide) rfl fs_nar_arr rfl ?_
  refine a_aload_n (j := 0) d_Plan_init_22 rfl rfl ?_
  refine a_iconst d_Plan_init_23 (by unfold fs_in32; omega) ?_
  refine p_put1 (x := 0) d_Plan_init_24 fl_Plan_20 rfl ⟨by decide, rfl⟩ (by decide) rfl fs_nar_int rfl ?_
  show fs_At g m_Plan_init 2 _ (103, 5, 33) 27 [(0, fs_r 97)] [] (fs_Tt 207) K
  refine a_aload_n (j := 0) d_Plan_init_27 rfl rfl ?_
  refine a_iconst d_Plan_init_28 (by unfold fs_in32; omega) ?_
  refine p_put1 (x := 0) d_Plan_init_29 fl_Plan_24 rfl ⟨by decide, rfl⟩ (by decide) rfl fs_nar_int rfl ?_
  exact a_return d_Plan_init_32 rfl ⟨rfl, by decide, by decide⟩ h
set_option maxRecDepth 8000 in
set_option maxHeartbeats 4000000 in
theorem I_Plan_init_103 {K : fs_K} (h : K none (fs_Tt 213)) : fs_Call g m_Plan_init 2 (1, 104, 109, 5, 33) [fs_r 103] (fs_Tt 209) K := by
  refine a_enter2 (ls := [(0, fs_r 103)]) (plainFor_of_name pn_Plan) (Nat.le_of_ble_eq_true rfl) rfl ?_
  show fs_At g m_Plan_init 2 _ (104, 0, 0) 0 [(0, fs_r 103)] [] (fs_Tt 209) K
  refine a_aload_n (j := 0) d_Plan_init_0 rfl rfl ?_
  refine p_objinit (idx := 3) d_Plan_init_1 ⟨(fs_inB 381 (by decide +kernel) rfl), ow_i, ow_c⟩ ⟨by decide, rfl⟩ rfl (by decide) ?_
  refine a_aload_n (j := 0) d_Plan_init_4 rfl rfl ?_
  refine a_iconst d_Plan_init_5 (by unfold fs_in32; omega) ?_
  refine a_bipush d_Plan_init_6 (by decide) ?_
  refine p_multi (ty := 3) (ti := 0) (n := 3) (k := 9) (t1 := .int) rfl d_Plan_init_8 ⟨(fs_inB 382 (by decide +kernel) rfl), aw_int⟩ (by simp) rfl (by decide +kernel) ⟨by decide, by decide⟩ (by decide +kernel) ⟨by decide, by decide⟩ ?_
  show fs_At g m_Plan_init 2 _ (108, 4, 30) 12 [(0, fs_r 103)] [fs_r 104, fs_r 103] (fs_Tt 209) K
  refine p_putF (x := 104) d_Plan_init_12 flF_Plan_11 rfl rfl rfl ⟨by decide, rfl⟩ (by decide) rfl fs_nar_arr rfl ?_
  refine a_aload_n (j := 0) d_Plan_init_15 rfl rfl ?_
  refine a_iconst d_Plan_init_16 (by unfold fs_in32; omega) ?_
  refine p_newarray (ty := 0) (n := 3) rfl d_Plan_init_17 aw_int (by simp) rfl (by decide) (by decide +kernel) ⟨by decide, by decide⟩ ?_
  show fs_At g m_Plan_init 2 _ (109, 5, 33) 19 [(0, fs_r 103)] [fs_r 108, fs_r 103] (fs_Tt 210) K
  refine p_putF (x := 108) d_Plan_init_19 flF_Plan_16 rfl rfl rfl ⟨by decide, rfl⟩ (by decide) rfl fs_nar_arr rfl ?_
  refine a_aload_n (j := 0) d_Plan_init_22 rfl rfl ?_
  refine a_iconst d_Plan_init_23 (by unfold fs_in32; omega) ?_
  refine p_put1 (x := 0) d_Plan_init_24 fl_Plan_20 rfl ⟨by decide, rfl⟩ (by decide) rfl fs_nar_int rfl ?_
  show fs_At g m_Plan_init 2 _ (109, 5, 33) 27 [(0, fs_r 103)] [] (fs_Tt 212) K
  refine a_aload_n (j := 0) d_Plan_init_27 rfl rfl ?_
  refine a_iconst d_Plan_init_28 (by unfold fs_in32; omega) ?_
  refine p_put1 (x := 0) d_Plan_init_29 fl_Plan_24 rfl ⟨by decide, rfl⟩ (by decide) rfl fs_nar_int rfl ?_
  exact a_return d_Plan_init_32 rfl ⟨rfl, by decide, by decide⟩ h
set_option maxRecDepth 8000 in
set_option maxHeartbeats 4000000 in
theorem I_Plan_init_109 {K : fs_K} (h : K none (fs_Tt 218)) : fs_Call g m_Plan_init 2 (1, 110, 115, 5, 33) [fs_r 109] (fs_Tt 214) K := by
  refine a_enter2 (ls := [(0, fs_r 109)]) (plainFor_of_name pn_Plan) (Nat.le_of_ble_eq_true rfl) rfl ?_
  show fs_At g m_Plan_init 2 _ (110, 0, 0) 0 [(0, fs_r 109)] [] (fs_Tt 214) K
  refine a_aload_n (j := 0) d_Plan_init_0 rfl rfl ?_
  refine p_objinit (idx := 3) d_Plan_init_1 ⟨(fs_inB 381 (by decide +kernel) rfl), ow_i, ow_c⟩ ⟨by decide, rfl⟩ rfl (by decide) ?_
  refine a_aload_n (j := 0) d_Plan_init_4 rfl rfl ?_
  refine a_iconst d_Plan_init_5 (by unfold fs_in32; omega) ?_
  refine a_bipush d_Plan_init_6 (by decide) ?_
  refine p_multi (ty := 3) (ti := 0) (n := 3) (k := 9) (t1 := .int) rfl d_Plan_init_8 ⟨(fs_inB 382 (by decide +kernel) rfl), aw_int⟩ (by simp) rfl (by decide +kernel) ⟨by decide, by decide⟩ (by decide +kernel) ⟨by decide, by decide⟩ ?_
  show fs_At g m_Plan_init 2 _ (114, 4, 30) 12 [(0, fs_r 109)] [fs_r 110, fs_r 109] (fs_Tt 214) K
  refine p_putF (x := 110) d_Plan_init_12 flF_Plan_11 rfl rfl rfl ⟨by decide, rfl⟩ (by decide) rfl fs_nar_arr rfl ?_
  refine a_aload_n (j := 0) d_Plan_init_15 rfl rfl ?_
  refine a_iconst d_Plan_init_16 (by unfold fs_in32; omega) ?_
  refine p_newarray (ty := 0) (n := 3) rfl d_Plan_init_17 aw_int (by simp) rfl (by decide) (by decide +kernel) ⟨by decide, by decide⟩ ?_
  show fs_At g m_Plan_init 2 _ (115, 5, 33) 19 [(0, fs_r 109)] [fs_r 114, fs_r 109] (fs_Tt 215) K
  refine p_putF (x := 114) d_Plan_init_19 flF_Plan_16 rfl rfl rfl ⟨by decide, rfl⟩ (by decide) rfl fs_nar_arr rfl ?_
  refine a_aload_n (j := 0) d_Plan_init_22 rfl rfl ?_
  refine a_iconst d_Plan_init_23 (by unfold fs_in32; omega) ?_
  refine p_put1 (x := 0) d_Plan_init_24 fl_Plan_20 rfl ⟨by decide, rfl⟩ (by decide) rfl fs_nar_int rfl ?_
  show fs_At g m_Plan_init 2 _ (115, 5, 33) 27 [(0, fs_r 109)] [] (fs_Tt 217) K
  refine a_aload_n (j := 0) d_Plan_init_27 rfl rfl ?_
  refine a_iconst d_Plan_init_28 (by unfold fs_in32; omega) ?_
  refine p_put1 (x := 0) d_Plan_init_29 fl_Plan_24 rfl ⟨by decide, rfl⟩ (by decide) rfl fs_nar_int rfl ?_
  exact a_return d_Plan_init_32 rfl ⟨rfl, by decide, by decide⟩ h
set_option maxRecDepth 8000 in
set_option maxHeartbeats 4000000 in
theorem I_Plan_init_115 {K : fs_K} (h : K none (fs_Tt 223)) : fs_Call g m_Plan_init 2 (1, 116, 121, 5, 33) [fs_r 115] (fs_Tt 219) K := by
  refine a_enter2 (ls := [(0, fs_r 115)]) (plainFor_of_name pn_Plan) (Nat.le_of_ble_eq_true rfl) rfl ?_
  show fs_At g m_Plan_init 2 _ (116, 0, 0) 0 [(0, fs_r 115)] [] (fs_Tt 219) K
  refine a_aload_n (j := 0) d_Plan_init_0 rfl rfl ?_
  refine p_objinit (idx := 3) d_Plan_init_1 ⟨(fs_inB 381 (by decide +kernel) rfl), ow_i, ow_c⟩ ⟨by decide, rfl⟩ rfl (by decide) ?_
  refine a_aload_n (j := 0) d_Plan_init_4 rfl rfl ?_
  refine a_iconst d_Plan_init_5 (by unfold fs_in32; omega) ?_
  refine a_bipush d_Plan_init_6 (by decide) ?_
  refine p_multi (ty := 3) (ti := 0) (n := 3) (k := 9) (t1 := .int) rfl d_Plan_init_8 ⟨(fs_inB 382 (by decide +kernel) rfl), aw_int⟩ (by simp) rfl (by decide +kernel) ⟨by decide, by decide⟩ (by decide +kernel) ⟨by decide, by decide⟩ ?_
  show fs_At g m_Plan_init 2 _ (120, 4, 30) 12 [(0, fs_r 115)] [fs_r 116, fs_r 115] (fs_Tt 219) K
  refine p_putF (x := 116) d_Plan_init_12 flF_Plan_11 rfl rfl rfl ⟨by decide, rfl⟩ (by decide) rfl fs_nar_arr rfl ?_
  refine a_aload_n (j := 0) d_Plan_init_15 rfl rfl ?_
  refine a_iconst d_Plan_init_16 (by unfold fs_in32; omega) ?_
  refine p_newarray (ty := 0) (n := 3) rfl d_Plan_init_17 aw_int (by simp) rfl (by decide) (by decide +kernel) ⟨by decide, by decide⟩ ?_
  show fs_At g m_Plan_init 2 _ (121, 5, 33) 19 [(0, fs_r 115)] [fs_r 120, fs_r 115] (fs_Tt 220) K
  refine p_putF (x := 120) d_Plan_init_19 flF_Plan_16 rfl rfl rfl ⟨by decide, rfl⟩ (by decide) rfl fs_nar_arr rfl ?_
  refine a_aload_n (j := 0) d_Plan_init_22 rfl rfl ?_
  refine a_iconst d_Plan_init_23 (by unfold fs_in32; omega) ?_
  refine p_put1 (x := 0) d_Plan_init_24 fl_Plan_20 rfl ⟨by decide, rfl⟩ (by decide) rfl fs_nar_int rfl ?_
  show fs_At g m_Plan_init 2 _ (121, 5, 33) 27 [(0, fs_r 115)] [] (fs_Tt 222) K
  refine a_aload_n (j := 0) d_Plan_init_27 rfl rfl ?_
  refine a_iconst d_Plan_init_28 (by unfold fs_in32; omega) ?_
  refine p_put1 (x := 0) d_Plan_init_29 fl_Plan_24 rfl ⟨by decide, rfl⟩ (by decide) rfl fs_nar_int rfl ?_
  exact a_return d_Plan_init_32 rfl ⟨rfl, by decide, by decide⟩ h
set_option maxRecDepth 8000 in
set_option maxHeartbeats 4000000 in
theorem I_Plan_init_121 {K : fs_K} (h : K none (fs_Tt 228)) : fs_Call g m_Plan_init 2 (1, 122, 127, 5, 33) [fs_r 121] (fs_Tt 224) K := by
  refine a_enter2 (ls := [(0, fs_r 121)]) (plainFor_of_name pn_Plan) (Nat.le_of_ble_eq_true rfl) rfl ?_
  show fs_At g m_Plan_init 2 _ (122, 0, 0) 0 [(0, fs_r 121)] [] (fs_Tt 224) K
  refine a_aload_n (j := 0) d_Plan_init_0 rfl rfl ?_
  refine p_objinit (idx := 3) d_Plan_init_1 ⟨(fs_inB 381 (by decide +kernel) rfl), ow_i, ow_c⟩ ⟨by decide, rfl⟩ rfl (by decide) ?_
  refine a_aload_n (j := 0) d_Plan_init_4 rfl rfl ?_
  refine a_iconst d_Plan_init_5 (by unfold fs_in32; omega) ?_
  refine a_bipush d_Plan_init_6 (by decide) ?_
  refine p_multi (ty := 3) (ti := 0) (n := 3) (k := 9) (t1 := .int) rfl d_Plan_init_8 ⟨(fs_inB 382 (by decide +kernel) rfl), aw_int⟩ (by simp) rfl (by decide +kernel) ⟨by decide, by decide⟩ (by decide +kernel) ⟨by decide, by decide⟩ ?_
  show fs_At g m_Plan_init 2 _ (126, 4, 30) 12 [(0, fs_r 121)] [fs_r 122, fs_r 121] (fs_Tt 224) K
  refine p_putF (x := 122) d_Plan_init_12 flF_Plan_11 rfl rfl rfl ⟨by decide, rfl⟩ (by decide) rfl fs_nar_arr rfl ?_
  refine a_aload_n (j := 0) d_Plan_init_15 rfl rfl ?_
  refine a_iconst d_Plan_init_16 (by unfold fs_in32; omega) ?_
  refine p_newarray (ty := 0) (n := 3) rfl d_Plan_init_17 aw_int (by simp) rfl (by decide) (by decide +kernel) ⟨by decide, by decide⟩ ?_
  show fs_At g m_Plan_init 2 _ (127, 5, 33) 19 [(0, fs_r 121)] [fs_r 126, fs_r 121] (fs_Tt 225) K
  refine p_putF (x := 126) d_Plan_init_19 flF_Plan_16 rfl rfl rfl ⟨by decide, rfl⟩ (by decide) rfl fs_nar_arr rfl ?_
  refine a_aload_n (j := 0) d_Plan_init_22 rfl rfl ?_
  refine a_iconst d_Plan_init_23 (by unfold fs_in32; omega) ?_
  refine p_put1 (x := 0) d_Plan_init_24 fl_Plan_20 rfl ⟨by decide, rfl⟩ (by decide) rfl fs_nar_int rfl ?_
  show fs_At g m_Plan_init 2 _ (127, 5, 33) 27 [(0, fs_r 121)] [] (fs_Tt 227) K
  refine a_aload_n (j := 0) d_Plan_init_27 rfl rfl ?_
  refine a_iconst d_Plan_init_28 (by unfold fs_in32; omega) ?_
  refine p_put1 (x := 0) d_Plan_init_29 fl_Plan_24 rfl ⟨by decide, rfl⟩ (by decide) rfl fs_nar_int rfl ?_
  exact a_return d_Plan_init_32 rfl ⟨rfl, by decide, by decide⟩ h
set_option maxRecDepth 8000 in
set_option maxHeartbeats 4000000 in
theorem I_Plan_init_127 {K : fs_K} (h : K none (fs_Tt 233)) : fs_Call g m_Plan_init 2 (1, 128, 133, 5, 33) [fs_r 127] (fs_Tt 229) K := by
  refine a_enter2 (ls := [(0, fs_r 127)]) (plainFor_of_name pn_Plan) (Nat.le_of_ble_eq_true rfl) rfl ?_
  show fs_At g m_Plan_init 2 _ (128, 0, 0) 0 [(0, fs_r 127)] [] (fs_Tt 229) K
  refine a_aload_n (j := 0) d_Plan_init_0 rfl rfl ?_
  refine p_objinit (idx := 3) d_Plan_init_1 ⟨(fs_inB 381 (by decide +kernel) rfl), ow_i, ow_c⟩ ⟨by decide, rfl⟩ rfl (by decide) ?_
  refine a_aload_n (j := 0) d_Plan_init_4 rfl rfl ?_
  refine a_iconst d_Plan_init_5 (by unfold fs_in32; omega) ?_
  refine a_bipush d_Plan_init_6 (by decide) ?_
  refine p_multi (ty := 3) (ti := 0) (n := 3) (k := 9) (t1 := .int) rfl d_Plan_init_8 ⟨(fs_inB 382 (by decide +kernel) rfl), aw_int⟩ (by simp) rfl (by decide +kernel) ⟨by decide, by decide⟩ (by decide +kernel) ⟨by decide, by decide⟩ ?_
  show fs_At g m_Plan_init 2 _ (132, 4, 30) 12 [(0, fs_r 127)] [fs_r 128, fs_r 127] (fs_Tt 229) K
  refine p_putF (x := 128) d_Plan_init_12 flF_Plan_11 rfl rfl rfl ⟨by decide, rfl⟩ (by decide) rfl fs_nar_arr rfl ?_
  refine a_aload_n (j := 0) d_Plan_init_15 rfl rfl ?_
  refine a_iconst d_Plan_init_16 (by unfold fs_in32; omega) ?_
  refine p_newarray (ty := 0) (n := 3) rfl d_Plan_init_17 aw_int (by simp) rfl (by decide) (by decide +kernel) ⟨by decide, by decide⟩ ?_
  show fs_At g m_Plan_init 2 _ (133, 5, 33) 19 [(0, fs_r 127)] [fs_r 132, fs_r 127] (fs_Tt 230) K
  refine p_putF (x := 132) d_Plan_init_19 flF_Plan_16 rfl rfl rfl ⟨by decide, rfl⟩ (by decide) rfl fs_nar_arr rfl ?_
  refine a_aload_n (j := 0) d_Plan_init_22 rfl rfl ?_
  refine a_iconst d_Plan_init_23 (by unfold fs_in32; omega) ?_
  refine p_put1 (x := 0) d_Plan_init_24 fl_Plan_20 rfl ⟨by decide, rfl⟩ (by decide) rfl fs_nar_int rfl ?_
  show fs_At g m_Plan_init 2 _ (133, 5, 33) 27 [(0, fs_r 127)] [] (fs_Tt 232) K
  refine a_aload_n (j := 0) d_Plan_init_27 rfl rfl ?_
  refine a_iconst d_Plan_init_28 (by unfold fs_in32; omega) ?_
  refine p_put1 (x := 0) d_Plan_init_29 fl_Plan_24 rfl ⟨by decide, rfl⟩ (by decide) rfl fs_nar_int rfl ?_
  exact a_return d_Plan_init_32 rfl ⟨rfl, by decide, by decide⟩ h
set_option maxRecDepth 8000 in
set_option maxHeartbeats 4000000 in
theorem I_Plan_init_133 {K : fs_K} (h : K none (fs_Tt 238)) : fs_Call g m_Plan_init 2 (1, 134, 139, 5, 33) [fs_r 133] (fs_Tt 234) K := by
  refine a_enter2 (ls := [(0, fs_r 133)]) (plainFor_of_name pn_Plan) (Nat.le_of_ble_eq_true rfl) rfl ?_
  show fs_At g m_Plan_init 2 _ (134, 0, 0) 0 [(0, fs_r 133)] [] (fs_Tt 234) K
  refine a_aload_n (j := 0) d_Plan_init_0 rfl rfl ?_
  refine p_objinit (idx := 3) d_Plan_init_1 ⟨(fs_inB 381 (by decide +kernel) rfl), ow_i, ow_c⟩ ⟨by decide, rfl⟩ rfl (by decide) ?_
  refine a_aload_n (j := 0) d_Plan_init_4 rfl rfl ?_
  refine a_iconst d_Plan_init_5 (by unfold fs_in32; omega) ?_
  refine a_bipush d_Plan_init_6 (by decide) ?_
  refine p_multi (ty := 3) (ti := 0) (n := 3) (k := 9) (t1 := .int) rfl d_Plan_init_8 ⟨(fs_inB 382 (by decide +kernel) rfl), aw_int⟩ (by simp) rfl (by decide +kernel) ⟨by decide, by decide⟩ (by decide +kernel) ⟨by decide, by decide⟩ ?_
  show fs_At g m_Plan_init 2 _ (138, 4, 30) 12 [(0, fs_r 133)] [fs_r 134, fs_r 133] (fs_Tt 234) K
  refine p_putF (x := 134) d_Plan_init_12 flF_Plan_11 rfl rfl rfl ⟨by decide, rfl⟩ (by decide) rfl fs_nar_arr rfl ?_
  refine a_aload_n (j := 0) d_Plan_init_15 rfl rfl ?_
  refine a_iconst d_Plan_init_16 (by unfold fs_in32; omega) ?_
  refine p_newarray (ty := 0) (n := 3) rfl d_Plan_init_17 aw_int (by simp) rfl (by decide) (by decide +kernel) ⟨by decide, by decide⟩ ?_
  show fs_At g m_Plan_init 2 _ (139, 5, 33) 19 [(0, fs_r 133)] [fs_r 138, fs_r 133] (fs_Tt 235) K
  refine p_putF (x := 138) d_Plan_init_19 flF_Plan_16 rfl rfl rfl ⟨by decide, rfl⟩ (by decide) rfl fs_nar_arr rfl ?_
  refine a_aload_n (j := 0) d_Plan_init_22 rfl rfl ?_
  refine a_iconst d_Plan_init_23 (by unfold fs_in32; omega) ?_
  refine p_put1 (x := 0) d_Plan_init_24 fl_Plan_20 rfl ⟨by decide, rfl⟩ (by decide) rfl fs_nar_int rfl ?_
  show fs_At g m_Plan_init 2 _ (139, 5, 33) 27 [(0, fs_r 133)] [] (fs_Tt 237) K
  refine a_aload_n (j := 0) d_Plan_init_27 rfl rfl ?_
  refine a_iconst d_Plan_init_28 (by unfold fs_in32; omega) ?_
  refine p_put1 (x := 0) d_Plan_init_29 fl_Plan_24 rfl ⟨by decide, rfl⟩ (by decide) rfl fs_nar_int rfl ?_
  exact a_return d_Plan_init_32 rfl ⟨rfl, by decide, by decide⟩ h
set_option maxRecDepth 8000 in
set_option maxHeartbeats 4000000 in
theorem I_Plan_init_139 {K : fs_K} (h : K none (fs_Tt 243)) : fs_Call g m_Plan_init 2 (1, 140, 145, 5, 33) [fs_r 139] (fs_Tt 239) K := by
  refine a_enter2 (ls := [(0, fs_r 139)]) (plainFor_of_name pn_Plan) (Nat.le_of_ble_eq_true rfl) rfl ?_
  show fs_At g m_Plan_init 2 _ (140, 0, 0) 0 [(0, fs_r 139)] [] (fs_Tt 239) K
  refine a_aload_n (j := 0) d_Plan_init_0 rfl rfl ?_
  refine p_objinit (idx := 3) d_Plan_init_1 ⟨(fs_inB 381 (by decide +kernel) rfl), ow_i, ow_c⟩ ⟨by decide, rfl⟩ rfl (by decide) ?_
  refine a_aload_n (j := 0) d_Plan_init_4 rfl rfl ?_
  refine a_iconst d_Plan_init_5 (by unfold fs_in32; omega) ?_
  refine a_bipush d_Plan_init_6 (by decide) ?_
  refine p_multi (ty := 3) (ti := 0) (n := 3) (k := 9) (t1 := .int) rfl d_Plan_init_8 ⟨(fs_inB 382 (by decide +kernel) rfl), aw_int⟩ (by simp) rfl (by decide +kernel) ⟨by decide, by decide⟩ (by decide +kernel) ⟨by decide, by decide⟩ ?_
  show fs_At g m_Plan_init 2 _ (144, 4, 30) 12 [(0, fs_r 139)] [fs_r 140, fs_r 139] (fs_Tt 239) K
  refine p_putF (x := 140) d_Plan_init_12 flF_Plan_11 rfl rfl rfl ⟨by decide, rfl⟩ (by decide) rfl fs_nar_arr rfl ?_
  refine a_aload_n (j := 0) d_Plan_init_15 rfl rfl ?_
  refine a_iconst d_Plan_init_16 (by unfold fs_in32; omega) ?_
  refine p_newarray (ty := 0) (n := 3) rfl d_Plan_init_17 aw_int (by simp) rfl (by decide) (by decide +kernel) ⟨by decide, by decide⟩ ?_
  show fs_At g m_Plan_init 2 _ (145, 5, 33) 19 [(0, fs_r 139)] [fs_r 144, fs_r 139] (fs_Tt 240) K
  refine p_putF (x := 144) d_Plan_init_19 flF_Plan_16 rfl rfl rfl ⟨by decide, rfl⟩ (by decide) rfl fs_nar_arr rfl ?_
  refine a_aload_n (j := 0) d_Plan_init_22 rfl rfl ?_
  refine a_iconst d_Plan_init_23 (by unfold fs_in32; omega) ?_
  refine p_put1 (x := 0) d_Plan_init_24 fl_Plan_20 rfl ⟨by decide, rfl⟩ (by decide) rfl fs_nar_int rfl ?_
  show fs_At g m_Plan_init 2 _ (145, 5, 33) 27 [(0, fs_r 139)] [] (fs_Tt 242) K
  refine a_aload_n (j := 0) d_Plan_init_27 rfl rfl ?_
  refine a_iconst d_Plan_init_28 (by unfold fs_in32; omega) ?_
  refine p_put1 (x := 0) d_Plan_init_29 fl_Plan_24 rfl ⟨by decide, rfl⟩ (by decide) rfl fs_nar_int rfl ?_
  exact a_return d_Plan_init_32 rfl ⟨rfl, by decide, by decide⟩ h
set_option maxRecDepth 8000 in
set_option maxHeartbeats 4000000 in
theorem I_Plan_init_145 {K : fs_K} (h : K none (fs_Tt 248)) : fs_Call g m_Plan_init 2 (1, 146, 151, 5, 33) [fs_r 145] (fs_Tt 244) K := by
  refine a_enter2 (ls := [(0, fs_r 145)]) (plainFor_of_name pn_Plan) (Nat.le_of_ble_eq_true rfl) rfl ?_
  show fs_At g m_Plan_init 2 _ (146, 0, 0) 0 [(0, fs_r 145)] [] (fs_Tt 244) K
  refine a_aload_n (j := 0) d_Plan_init_0 rfl rfl ?_
  refine p_objinit (idx := 3) d_Plan_init_1 ⟨(fs_inB 381 (by decide +kernel) rfl), ow_i, ow_c⟩ ⟨by decide, rfl⟩ rfl (by decide) ?_
  refine a_aload_n (j := 0) d_Plan_init_4 rfl rfl ?_
  refine a_iconst d_Plan_init_5 (by unfold fs_in32; omega) ?_
  refine a_bipush d_Plan_init_6 (by decide) ?_
  refine p_multi (ty := 3) (ti := 0) (n := 3) (k := 9) (t1 := .int) rfl d_Plan_init_8 ⟨(fs_inB 382 (by decide +kernel) rfl), aw_int⟩ (by simp) rfl (by decide +kernel) ⟨by decide, by decide⟩ (by decide +kernel) ⟨by decide, by decide⟩ ?_
  show fs_At g m_Plan_init 2 _ (150, 4, 30) 12 [(0, fs_r 145)] [fs_r 146, fs_r 145] (fs_Tt 244) K
  refine p_putF (x := 146) d_Plan_init_12 flF_Plan_11 rfl rfl rfl ⟨by decide, rfl⟩ (by decide) rfl fs_nar_arr rfl ?_
  refine a_aload_n (j := 0) d_Plan_init_15 rfl rfl ?_
  refine a_iconst d_Plan_init_16 (by unfold fs_in32; omega) ?_
  refine p_newarray (ty := 0) (n := 3) rfl d_Plan_init_17 aw_int (by simp) rfl (by decide) (by decide +kernel) ⟨by decide, by decide⟩ ?_
  show fs_At g m_Plan_init 2 _ (151, 5, 33) 19 [(0, fs_r 145)] [fs_r 150, fs_r 145] (fs_Tt 245) K
  refine p_putF (x := 150) d_Plan_init_19 flF_Plan_16 rfl rfl rfl ⟨by decide, rfl⟩ (by decide) rfl fs_nar_arr rfl ?_
  refine a_aload_n (j := 0) d_Plan_init_22 rfl rfl ?_
  refine a_iconst d_Plan_init_23 (by unfold fs_in32; omega) ?_
  refine p_put1 (x := 0) d_Plan_init_24 fl_Plan_20 rfl ⟨by decide, rfl⟩ (by decide) rfl fs_nar_int rfl ?_
  show fs_At g m_Plan_init 2 _ (151, 5, 33) 27 [(0, fs_r 145)] [] (fs_Tt 247) K
  refine a_aload_n (j := 0) d_Plan_init_27 rfl rfl ?_
  refine a_iconst d_Plan_init_28 (by unfold fs_in32; omega) ?_
  refine p_put1 (x := 0) d_Plan_init_29 fl_Plan_24 rfl ⟨by decide, rfl⟩ (by decide) rfl fs_nar_int rfl ?_
  exact a_return d_Plan_init_32 rfl ⟨rfl, by decide, by decide⟩ h
set_option maxRecDepth 8000 in
set_option maxHeartbeats 4000000 in
theorem I_Plan_init_151 {K : fs_K} (h : K none (fs_Tt 253)) : fs_Call g m_Plan_init 2 (1, 152, 157, 5, 33) [fs_r 151] (fs_Tt 249) K := by
  refine a_enter2 (ls := [(0, fs_r 151)]) (plainFor_of_name pn_Plan) (Nat.le_of_ble_eq_true rfl) rfl ?_
  show fs_At g m_Plan_init 2 _ (152, 0, 0) 0 [(0, fs_r 151)] [] (fs_Tt 249) K
  refine a_aload_n (j := 0) d_Plan_init_0 rfl rfl ?_
  refine p_objinit (idx := 3) d_Plan_init_1 ⟨(fs_inB 381 (by decide +kernel) rfl), ow_i, ow_c⟩ ⟨by decide, rfl⟩ rfl (by decide) ?_
  refine a_aload_n (j := 0) d_Plan_init_4 rfl rfl ?_
  refine a_iconst d_Plan_init_5 (by unfold fs_in32; omega) ?_
  refine a_bipush d_Plan_init_6 (by decide) ?_
  refine p_multi (ty := 3) (ti := 0) (n := 3) (k := 9) (t1 := .int) rfl d_Plan_init_8 ⟨(fs_inB 382 (by decide +kernel) rfl), aw_int⟩ (by simp) rfl (by decide +kernel) ⟨by decide, by decide⟩ (by decide +kernel) ⟨by decide, by decide⟩ ?_
  show fs_At g m_Plan_init 2 _ (156, 4, 30) 12 [(0, fs_r 151)] [fs_r 152, fs_r 151] (fs_Tt 249) K
  refine p_putF (x := 152) d_Plan_init_12 flF_Plan_11 rfl rfl rfl ⟨by decide, rfl⟩ (by decide) rfl fs_nar_arr rfl ?_
  refine a_aload_n (j := 0) d_Plan_init_15 rfl rfl ?_
  refine a_iconst d_Plan_init_16 (by unfold fs_in32; omega) ?_
  refine p_newarray (ty := 0) (n := 3) rfl d_Plan_init_17 aw_int (by simp) rfl (by decide) (by decide +kernel) ⟨by decide, by decide⟩ ?_
  show fs_At g m_Plan_init 2 _ (157, 5, 33) 19 [(0, fs_r 151)] [fs_r 156, fs_r 151] (fs_Tt 250) K
  refine p_putF (x := 156) d_Plan_init_19 flF_Plan_16 rfl rfl rfl ⟨by decide, rfl⟩ (by decide) rfl fs_nar_arr rfl ?_
  refine a_aload_n (j := 0) d_Plan_init_22 rfl rfl ?_
  refine a_iconst d_Plan_init_23 (by unfold fs_in32; omega) ?_
  refine p_put1 (x := 0) d_Plan_init_24 fl_Plan_20 rfl ⟨by decide, rfl⟩ (by decide) rfl fs_nar_int rfl ?_
  show fs_At g m_Plan_init 2 _ (157, 5, 33) 27 [(0, fs_r 151)] [] (fs_Tt 252) K
  refine a_aload_n (j := 0) d_Plan_init_27 rfl rfl ?_
  refine a_iconst d_Plan_init_28 (by unfold fs_in32; omega) ?_
  refine p_put1 (x := 0) d_Plan_init_29 fl_Plan_24 rfl ⟨by decide, rfl⟩ (by decide) rfl fs_nar_int rfl ?_
  exact a_return d_Plan_init_32 rfl ⟨rfl, by decide, by decide⟩ h
set_option maxRecDepth 8000 in
set_option maxHeartbeats 4000000 in
theorem I_Plan_init_157 {K : fs_K} (h : K none (fs_Tt 258)) : fs_Call g m_Plan_init 2 (1, 158, 163, 5, 33) [fs_r 157] (fs_Tt 254) K := by
  refine a_enter2 (ls := [(0, fs_r 157)]) (plainFor_of_name pn_Plan) (Nat.le_of_ble_eq_true rfl) rfl ?_
  show fs_At g m_Plan_init 2 _ (158, 0, 0) 0 [(0, fs_r 157)] [] (fs_Tt 254) K
  refine a_aload_n (j := 0) d_Plan_init_0 rfl rfl ?_
  refine p_objinit (idx := 3) d_Plan_init_1 ⟨(fs_inB 381 (by decide +kernel) rfl), ow_i, ow_c⟩ ⟨by decide, rfl⟩ rfl (by decide) ?_
  refine a_aload_n (j := 0) d_Plan_init_4 rfl rfl ?_
  refine a_iconst d_Plan_init_5 (by unfold fs_in32; omega) ?_
  refine a_bipush d_Plan_init_6 (by decide) ?_
  refine p_multi (ty := 3) (ti := 0) (n := 3) (k := 9) (t1 := .int) rfl d_Plan_init_8 ⟨(fs_inB 382 (by decide +kernel) rfl), aw_int⟩ (by simp) rfl (by decide +kernel) ⟨by decide, by decide⟩ (by decide +kernel) ⟨by decide, by decide⟩ ?_
  show fs_At g m_Plan_init 2 _ (162, 4, 30) 12 [(0, fs_r 157)] [fs_r 158, fs_r 157] (fs_Tt 254) K
  refine p_putF (x := 158) d_Plan_init_12 flF_Plan_11 rfl rfl rfl ⟨by decide, rfl⟩ (by decide) rfl fs_nar_arr rfl ?_
  refine a_aload_n (j := 0) d_Plan_init_15 rfl rfl ?_
  refine a_iconst d_Plan_init_16 (by unfold fs_in32; omega) ?_
  refine p_newarray (ty := 0) (n := 3) rfl d_Plan_init_17 aw_int (by simp) rfl (by decide) (by decide +kernel) ⟨by decide, by decide⟩ ?_
  show fs_At g m_Plan_init 2 _ (163, 5, 33) 19 [(0, fs_r 157)] [fs_r 162, fs_r 157] (fs_Tt 255) K
  refine p_putF (x := 162) d_Plan_init_19 flF_Plan_16 rfl rfl rfl ⟨by decide, rfl⟩ (by decide) rfl fs_nar_arr rfl ?_
  refine a_aload_n (j := 0) d_Plan_init_22 rfl rfl ?_
  refine a_iconst d_Plan_init_23 (by unfold fs_in32; omega) ?_
  refine p_put1 (x := 0) d_Plan_init_24 fl_Plan_20 rfl ⟨by decide, rfl⟩ (by decide) rfl fs_nar_int rfl ?_
  show fs_At g m_Plan_init 2 _ (163, 5, 33) 27 [(0, fs_r 157)] [] (fs_Tt 257) K
  refine a_aload_n (j := 0) d_Plan_init_27 rfl rfl ?_
  refine a_iconst d_Plan_init_28 (by unfold fs_in32; omega) ?_
  refine p_put1 (x := 0) d_Plan_init_29 fl_Plan_24 rfl ⟨by decide, rfl⟩ (by decide) rfl fs_nar_int rfl ?_
  exact a_return d_Plan_init_32 rfl ⟨rfl, by decide, by decide⟩ h
set_option maxRecDepth 8000 in
set_option maxHeartbeats 4000000 in
theorem I_Plan_init_163 {K : fs_K} (h : K none (fs_Tt 263)) : fs_Call g m_Plan_init 2 (1, 164, 169, 5, 33) [fs_r 163] (fs_Tt 259) K := by
  refine a_enter2 (ls := [(0, fs_r 163)]) (plainFor_of_name pn_Plan) (Nat.le_of_ble_eq_true rfl) rfl ?_
  show fs_At g m_Plan_init 2 _ (164, 0, 0) 0 [(0, fs_r 163)] [] (fs_Tt 259) K
  refine a_aload_n (j := 0) d_Plan_init_0 rfl rfl ?_
  refine p_objinit (idx := 3) d_Plan_init_1 ⟨(fs_inB 381 (by decide +kernel) rfl), ow_i, ow_c⟩ ⟨by decide, rfl⟩ rfl (by decide) ?_
  refine a_aload_n (j := 0) d_Plan_init_4 rfl rfl ?_
  refine a_iconst d_Plan_init_5 (by unfold fs_in32; omega) ?_
  refine a_bipush d_Plan_init_6 (by decide) ?_
  refine p_multi (ty := 3) (ti := 0) (n := 3) (k := 9) (t1 := .int) rfl d_Plan_init_8 ⟨(fs_inB 382 (by decide +kernel) rfl), aw_int⟩ (by simp) rfl (by decide +kernel) ⟨by decide, by decide⟩ (by decide +kernel) ⟨by decide, by decide⟩ ?_
  show fs_At g m_Plan_init 2 _ (168, 4, 30) 12 [(0, fs_r 163)] [fs_r 164, fs_r 163] (fs_Tt 259) K
  refine p_putF (x := 164) d_Plan_init_12 flF_Plan_11 rfl rfl rfl ⟨by decide, rfl⟩ (by decide) rfl fs_nar_arr rfl ?_
  refine a_aload_n (j := 0) d_Plan_init_15 rfl rfl ?_
  refine a_iconst d_Plan_init_16 (by unfold fs_in32; omega) ?_
  refine p_newarray (ty := 0) (n := 3) rfl d_Plan_init_17 aw_int (by simp) rfl (by decide) (by decide +kernel) ⟨by decide, by decide⟩ ?_
  show fs_At g m_Plan_init 2 _ (169, 5, 33) 19 [(0, fs_r 163)] [fs_r 168, fs_r 163] (fs_Tt 260) K
  refine p_putF (x := 168) d_Plan_init_19 flF_Plan_16 rfl rfl rfl ⟨by decide, rfl⟩ (by decide) rfl fs_nar_arr rfl ?_
  refine a_aload_n (j := 0) d_Plan_init_22 rfl rfl ?_
  refine a_iconst d_Plan_init_23 (by unfold fs_in32; omega) ?_
  refine p_put1 (x := 0) d_Plan_init_24 fl_Plan_20 rfl ⟨by decide, rfl⟩ (by decide) rfl fs_nar_int rfl ?_
  show fs_At g m_Plan_init 2 _ (169, 5, 33) 27 [(0, fs_r 163)] [] (fs_Tt 262) K
  refine a_aload_n (j := 0) d_Plan_init_27 rfl rfl ?_
  refine a_iconst d_Plan_init_28 (by unfold fs_in32; omega) ?_
  refine p_put1 (x := 0) d_Plan_init_29 fl_Plan_24 rfl ⟨by decide, rfl⟩ (by decide) rfl fs_nar_int rfl ?_
  exact a_return d_Plan_init_32 rfl ⟨rfl, by decide, by decide⟩ h
set_option maxRecDepth 8000 in
set_option maxHeartbeats 4000000 in
theorem I_Plan_init_169 {K : fs_K} (h : K none (fs_Tt 268)) : fs_Call g m_Plan_init 2 (1, 170, 175, 5, 33) [fs_r 169] (fs_Tt 264) K := by
  refine a_enter2 (ls := [(0, fs_r 169)]) (plainFor_of_name pn_Plan) (Nat.le_of_ble_eq_true rfl) rfl ?_
  show fs_At g m_Plan_init 2 _ (170, 0, 0) 0 [(0, fs_r 169)] [] (fs_Tt 264) K
  refine a_aload_n (j := 0) d_Plan_init_0 rfl rfl ?_
  refine p_objinit (idx := 3) d_Plan_init_1 ⟨(fs_inB 381 (by decide +kernel) rfl), ow_i, ow_c⟩ ⟨by decide, rfl⟩ rfl (by decide) ?_
  refine a_aload_n (j := 0) d_Plan_init_4 rfl rfl ?_
  refine a_iconst d_Plan_init_5 (by unfold fs_in32; omega) ?_
  refine a_bipush d_Plan_init_6 (by decide) ?_
  refine p_multi (ty := 3) (ti := 0) (n := 3) (k := 9) (t1 := .int) rfl d_Plan_init_8 ⟨(fs_inB 382 (by decide +kernel) rfl), aw_int⟩ (by simp) rfl (by decide +kernel) ⟨by decide, by decide⟩ (by decide +kernel) ⟨by decide, by decide⟩ ?_
  show fs_At g m_Plan_init 2 _ (174, 4, 30) 12 [(0, fs_r 169)] [fs_r 170, fs_r 169] (fs_Tt 264) K
  refine p_putF (x := 170) d_Plan_init_12 flF_Plan_11 rfl rfl rfl ⟨by decide, rfl⟩ (by decide) rfl fs_nar_arr rfl ?_
  refine a_aload_n (j := 0) d_Plan_init_15 rfl rfl ?_
  refine a_iconst d_Plan_init_16 (by unfold fs_in32; omega) ?_
  refine p_newarray (ty := 0) (n := 3) rfl d_Plan_init_17 aw_int (by simp) rfl (by decide) (by decide +kernel) ⟨by decide, by decide⟩ ?_
  show fs_At g m_Plan_init 2 _ (175, 5, 33) 19 [(0, fs_r 169)] [fs_r 174, fs_r 169] (fs_Tt 265) K
  refine p_putF (x := 174) d_Plan_init_19 flF_Plan_16 rfl rfl rfl ⟨by decide, rfl⟩ (by decide) rfl fs_nar_arr rfl ?_
  refine a_aload_n (j := 0) d_Plan_init_22 rfl rfl ?_
  refine a_iconst d_Plan_init_23 (by unfold fs_in32; omega) ?_
  refine p_put1 (x := 0) d_Plan_init_24 fl_Plan_20 rfl ⟨by decide, rfl⟩ (by decide) rfl fs_nar_int rfl ?_
  show fs_At g m_Plan_init 2 _ (175, 5, 33) 27 [(0, fs_r 169)] [] (fs_Tt 267) K
  refine a_aload_n (j := 0) d_Plan_init_27 rfl rfl ?_
  refine a_iconst d_Plan_init_28 (by unfold fs_in32; omega) ?_
  refine p_put1 (x := 0) d_Plan_init_29 fl_Plan_24 rfl ⟨by decide, rfl⟩ (by decide) rfl fs_nar_int rfl ?_
  exact a_return d_Plan_init_32 rfl ⟨rfl, by decide, by decide⟩ h
set_option maxRecDepth 8000 in
set_option maxHeartbeats 4000000 in
theorem I_Plan_init_175 {K : fs_K} (h : K none (fs_Tt 273)) : fs_Call g m_Plan_init 2 (1, 176, 181, 5, 33) [fs_r 175] (fs_Tt 269) K := by
  refine a_enter2 (ls := [(0, fs_r 175)]) (plainFor_of_name pn_Plan) (Nat.le_of_ble_eq_true rfl) rfl ?_
  show fs_At g m_Plan_init 2 _ (176, 0, 0) 0 [(0, fs_r 175)] [] (fs_Tt 269) K
  refine a_aload_n (j := 0) d_Plan_init_0 rfl rfl ?_
  refine p_objinit (idx := 3) d_Plan_init_1 ⟨(fs_inB 381 (by decide +kernel) rfl), ow_i, ow_c⟩ ⟨by decide, rfl⟩ rfl (by decide) ?_
  refine a_aload_n (j := 0) d_Plan_init_4 rfl rfl ?_
  refine a_iconst d_Plan_init_5 (by unfold fs_in32; omega) ?_
  refine a_bipush d_Plan_init_6 (by decide) ?_
  refine p_multi (ty := 3) (ti := 0) (n := 3) (k := 9) (t1 := .int) rfl d_Plan_init_8 ⟨(fs_inB 382 (by decide +kernel) rfl), aw_int⟩ (by simp) rfl (by decide +kernel) ⟨by decide, by decide⟩ (by decide +kernel) ⟨by decide, by decide⟩ ?_
  show fs_At g m_Plan_init 2 _ (180, 4, 30) 12 [(0, fs_r 175)] [fs_r 176, fs_r 175] (fs_Tt 269) K
  refine p_putF (x := 176) d_Plan_init_12 flF_Plan_11 rfl rfl rfl ⟨by decide, rfl⟩ (by decide) rfl fs_nar_arr rfl ?_
  refine a_aload_n (j := 0) d_Plan_init_15 rfl rfl ?_
  refine a_iconst d_Plan_init_16 (by unfold fs_in32; omega) ?_
  refine p_newarray (ty := 0) (n := 3) rfl d_Plan_init_17 aw_int (by simp) rfl (by decide) (by decide +kernel) ⟨by decide, by decide⟩ ?_
  show fs_At g m_Plan_init 2 _ (181, 5, 33) 19 [(0, fs_r 175)] [fs_r 180, fs_r 175] (fs_Tt 270) K
  refine p_putF (x := 180) d_Plan_init_19 flF_Plan_16 rfl rfl rfl ⟨by decide, rfl⟩ (by decide) rfl fs_nar_arr rfl ?_
  refine a_aload_n (j := 0) d_Plan_init_22 rfl rfl ?_
  refine a_iconst d_Plan_init_23 (by unfold fs_in32; omega) ?_
  refine p_put1 (x := 0) d_Plan_init_24 fl_Plan_20 rfl ⟨by decide, rfl⟩ (by decide) rfl fs_nar_int rfl ?_
  show fs_At g m_Plan_init 2 _ (181, 5, 33) 27 [(0, fs_r 175)] [] (fs_Tt 272) K
  refine a_aload_n (j := 0) d_Plan_init_27 rfl rfl ?_
  refine a_iconst d_Plan_init_28 (by unfold fs_in32; omega) ?_
  refine p_put1 (x := 0) d_Plan_init_29 fl_Plan_24 rfl ⟨by decide, rfl⟩ (by decide) rfl fs_nar_int rfl ?_
  exact a_return d_Plan_init_32 rfl ⟨rfl, by decide, by decide⟩ h
set_option maxRecDepth 8000 in
set_option maxHeartbeats 4000000 in
theorem I_Plan_init_181 {K : fs_K} (h : K none (fs_Tt 278)) : fs_Call g m_Plan_init 2 (1, 182, 187, 5, 33) [fs_r 181] (fs_Tt 274) K := by
  refine a_enter2 (ls := [(0, fs_r 181)]) (plainFor_of_name pn_Plan) (Nat.le_of_ble_eq_true rfl) rfl ?_
  show fs_At g m_Plan_init 2 _ (182, 0, 0) 0 [(0, fs_r 181)] [] (fs_Tt 274) K
  refine a_aload_n (j := 0) d_Plan_init_0 rfl rfl ?_
  refine p_objinit (idx := 3) d_Plan_init_1 ⟨(fs_inB 381 (by decide +kernel) rfl), ow_i, ow_c⟩ ⟨by decide, rfl⟩ rfl (by decide) ?_
  refine a_aload_n (j := 0) d_Plan_init_4 rfl rfl ?_
  refine a_iconst d_Plan_init_5 (by unfold fs_in32; omega) ?_
  refine a_bipush d_Plan_init_6 (by decide) ?_
  refine p_multi (ty := 3) (ti := 0) (n := 3) (k := 9) (t1 := .int) rfl d_Plan_init_8 ⟨(fs_inB 382 (by decide +kernel) rfl), aw_int⟩ (by simp) rfl (by decide +kernel) ⟨by decide, by decide⟩ (by decide +kernel) ⟨by decide, by decide⟩ ?_
  show fs_At g m_Plan_init 2 _ (186, 4, 30) 12 [(0, fs_r 181)] [fs_r 182, fs_r 181] (fs_Tt 274) K
  refine p_putF (x := 182) d_Plan_init_12 flF_Plan_11 rfl rfl rfl ⟨by decide, rfl⟩ (by decide) rfl fs_nar_arr rfl ?_
  refine a_aload_n (j := 0) d_Plan_init_15 rfl rfl ?_
  refine a_iconst d_Plan_init_16 (by unfold fs_in32; omega) ?_
  refine p_newarray (ty := 0) (n := 3) rfl d_Plan_init_17 aw_int (by simp) rfl (by decide) (by decide +kernel) ⟨by decide, by decide⟩ ?_
  show fs_At g m_Plan_init 2 _ (187, 5, 33) 19 [(0, fs_r 181)] [fs_r 186, fs_r 181] (fs_Tt 275) K
  refine p_putF (x := 186) d_Plan_init_19 flF_Plan_16 rfl rfl rfl ⟨by decide, rfl⟩ (by decide) rfl fs_nar_arr rfl ?_
  refine a_aload_n (j := 0) d_Plan_init_22 rfl rfl ?_
  refine a_iconst d_Plan_init_23 (by unfold fs_in32; omega) ?_
  refine p_put1 (x := 0) d_Plan_init_24 fl_Plan_20 rfl ⟨by decide, rfl⟩ (by decide) rfl fs_nar_int rfl ?_
  show fs_At g m_Plan_init 2 _ (187, 5, 33) 27 [(0, fs_r 181)] [] (fs_Tt 277) K
  refine a_aload_n (j := 0) d_Plan_init_27 rfl rfl ?_
  refine a_iconst d_Plan_init_28 (by unfold fs_in32; omega) ?_
  refine p_put1 (x := 0) d_Plan_init_29 fl_Plan_24 rfl ⟨by decide, rfl⟩ (by decide) rfl fs_nar_int rfl ?_
  exact a_return d_Plan_init_32 rfl ⟨rfl, by decide, by decide⟩ h
set_option maxRecDepth 8000 in
set_option maxHeartbeats 4000000 in
theorem I_Plan_init_187 {K : fs_K} (h : K none (fs_Tt 283)) : fs_Call g m_Plan_init 2 (1, 188, 193, 5, 33) [fs_r 187] (fs_Tt 279) K := by
  refine a_enter2 (ls := [(0, fs_r 187)]) (plainFor_of_name pn_Plan) (Nat.le_of_ble_eq_true rfl) rfl ?_
  show fs_At g m_Plan_init 2 _ (188, 0, 0) 0 [(0, fs_r 187)] [] (fs_Tt 279) K
  refine a_aload_n (j := 0) d_Plan_init_0 rfl rfl ?_
  refine p_objinit (idx := 3) d_Plan_init_1 ⟨(fs_inB 381 (by decide +kernel) rfl), ow_i, ow_c⟩ ⟨by decide, rfl⟩ rfl (by decide) ?_
  refine a_aload_n (j := 0) d_Plan_init_4 rfl rfl ?_
  refine a_iconst d_Plan_init_5 (by unfold fs_in32; omega) ?_
  refine a_bipush d_Plan_init_6 (by decide) ?_
  refine p_multi (ty := 3) (ti := 0) (n := 3) (k := 9) (t1 := .int) rfl d_Plan_init_8 ⟨(fs_inB 382 (by decide +kernel) rfl), aw_int⟩ (by simp) rfl (by decide +kernel) ⟨by decide, by decide⟩ (by decide +kernel) ⟨by decide, by decide⟩ ?_
  show fs_At g m_Plan_init 2 _ (192, 4, 30) 12 [(0, fs_r 187)] [fs_r 188, fs_r 187] (fs_Tt 279) K
  refine p_putF (x := 188) d_Plan_init_12 flF_Plan_11 rfl rfl rfl ⟨by decide, rfl⟩ (by decide) rfl fs_nar_arr rfl ?_
  refine a_aload_n (j := 0) d_Plan_init_15 rfl rfl ?_
  refine a_iconst d_Plan_init_16 (by unfold fs_in32; omega) ?_
  refine p_newarray (ty := 0) (n := 3) rfl d_Plan_init_17 aw_int (by simp) rfl (by decide) (by decide +kernel) ⟨by decide, by decide⟩ ?_
  show fs_At g m_Plan_init 2 _ (193, 5, 33) 19 [(0, fs_r 187)] [fs_r 192, fs_r 187] (fs_Tt 280) K
  refine p_putF (x := 192) d_Plan_init_19 flF_Plan_16 rfl rfl rfl ⟨by decide, rfl⟩ (by decide) rfl fs_nar_arr rfl ?_
  refine a_aload_n (j := 0) d_Plan_init_22 rfl rfl ?_
  refine a_iconst d_Plan_init_23 (by unfold fs_in32; omega) ?_
  refine p_put1 (x := 0) d_Plan_init_24 fl_Plan_20 rfl ⟨by decide, rfl⟩ (by decide) rfl fs_nar_int rfl ?_
  show fs_At g m_Plan_init 2 _ (193, 5, 33) 27 [(0, fs_r 187)] [] (fs_Tt 282) K
  refine a_aload_n (j := 0) d_Plan_init_27 rfl rfl ?_
  refine a_iconst d_Plan_init_28 (by unfold fs_in32; omega) ?_
  refine p_put1 (x := 0) d_Plan_init_29 fl_Plan_24 rfl ⟨by decide, rfl⟩ (by decide) rfl fs_nar_int rfl ?_
  exact a_return d_Plan_init_32 rfl ⟨rfl, by decide, by decide⟩ h
set_option maxRecDepth 8000 in
set_option maxHeartbeats 4000000 in
theorem I_Plan_init_193 {K : fs_K} (h : K none (fs_Tt 288)) : fs_Call g m_Plan_init 2 (1, 194, 199, 5, 33) [fs_r 193] (fs_Tt 284) K := by
  refine a_enter2 (ls := [(0, fs_r 193)]) (plainFor_of_name pn_Plan) (Nat.le_of_ble_eq_true rfl) rfl ?_
  show fs_At g m_Plan_init 2 _ (194, 0, 0) 0 [(0, fs_r 193)] [] (fs_Tt 284) K
  refine a_aload_n (j := 0) d_Plan_init_0 rfl rfl ?_
  refine p_objinit (idx := 3) d_Plan_init_1 ⟨(fs_inB 381 (by decide +kernel) rfl), ow_i, ow_c⟩ ⟨by decide, rfl⟩ rfl (by decide) ?_
  refine a_aload_n (j := 0) d_Plan_init_4 rfl rfl ?_
  refine a_iconst d_Plan_init_5 (by unfold fs_in32; omega) ?_
  refine a_bipush d_Plan_init_6 (by decide) ?_
  refine p_multi (ty := 3) (ti := 0) (n := 3) (k := 9) (t1 := .int) rfl d_Plan_init_8 ⟨(fs_inB 382 (by decide +kernel) rfl), aw_int⟩ (by simp) rfl (by decide +kernel) ⟨by decide, by decide⟩ (by decide +kernel) ⟨by decide, by decide⟩ ?_
  show fs_At g m_Plan_init 2 _ (198, 4, 30) 12 [(0, fs_r 193)] [fs_r 194, fs_r 193] (fs_Tt 284) K
  refine p_putF (x := 194) d_Plan_init_12 flF_Plan_11 rfl rfl rfl ⟨by decide, rfl⟩ (by decide) rfl fs_nar_arr rfl ?_
  refine a_aload_n (j := 0) d_Plan_init_15 rfl rfl ?_
  refine a_iconst d_Plan_init_16 (by unfold fs_in32; omega) ?_
  refine p_newarray (ty := 0) (n := 3) rfl d_Plan_init_17 aw_int (by simp) rfl (by decide) (by decide +kernel) ⟨by decide, by decide⟩ ?_
  show fs_At g m_Plan_init 2 _ (199, 5, 33) 19 [(0, fs_r 193)] [fs_r 198, fs_r 193] (fs_Tt 285) K
  refine p_putF (x := 198) d_Plan_init_19 flF_Plan_16 rfl rfl rfl ⟨by decide, rfl⟩ (by decide) rfl fs_nar_arr rfl ?_
  refine a_aload_n (j := 0) d_Plan_init_22 rfl rfl ?_
  refine a_iconst d_Plan_init_23 (by unfold fs_in32; omega) ?_
  refine p_put1 (x := 0) d_Plan_init_24 fl_Plan_20 rfl ⟨by decide, rfl⟩ (by decide) rfl fs_nar_int rfl ?_
  show fs_At g m_Plan_init 2 _ (199, 5, 33) 27 [(0, fs_r 193)] [] (fs_Tt 287) K
  refine a_aload_n (j := 0) d_Plan_init_27 rfl rfl ?_
  refine a_iconst d_Plan_init_28 (by unfold fs_in32; omega) ?_
  refine p_put1 (x := 0) d_Plan_init_29 fl_Plan_24 rfl ⟨by decide, rfl⟩ (by decide) rfl fs_nar_int rfl ?_
  exact a_return d_Plan_init_32 rfl ⟨rfl, by decide, by decide⟩ h
set_option maxRecDepth 8000 in
set_option maxHeartbeats 4000000 in
theorem I_Plan_init_199 {K : fs_K} (h : K none (fs_Tt 293)) : fs_Call g m_Plan_init 2 (1, 200, 205, 5, 33) [fs_r 199] (fs_Tt 289) K := by
  refine a_enter2 (ls := [(0, fs_r 199)]) (plainFor_of_name pn_Plan) (Nat.le_of_ble_eq_true rfl) rfl ?_
  show fs_At g m_Plan_init 2 _ (200, 0, 0) 0 [(0, fs_r 199)] [] (fs_Tt 289) K
  refine a_aload_n (j := 0) d_Plan_init_0 rfl rfl ?_
  refine p_objinit (idx := 3) d_Plan_init_1 ⟨(fs_inB 381 (by decide +kernel) rfl), ow_i, ow_c⟩ ⟨by decide, rfl⟩ rfl (by decide) ?_
  refine a_aload_n (j := 0) d_Plan_init_4 rfl rfl ?_
  refine a_iconst d_Plan_init_5 (by unfold fs_in32; omega) ?_
  refine a_bipush d_Plan_init_6 (by decide) ?_
  refine p_multi (ty := 3) (ti := 0) (n := 3) (k := 9) (t1 := .int) rfl d_Plan_init_8 ⟨(fs_inB 382 (by decide +kernel) rfl), aw_int⟩ (by simp) rfl (by decide +kernel) ⟨by decide, by decide⟩ (by decide +kernel) ⟨by decide, by decide⟩ ?_
  show fs_At g m_Plan_init 2 _ (204, 4, 30) 12 [(0, fs_r 199)] [fs_r 200, fs_r 199] (fs_Tt 289) K
  refine p_putF (x := 200) d_Plan_init_12 flF_Plan_11 rfl rfl rfl ⟨by decide, rfl⟩ (by decide) rfl fs_nar_arr rfl ?_
  refine a_aload_n (j := 0) d_Plan_init_15 rfl rfl ?_
  refine a_iconst d_Plan_init_16 (by unfold fs_in32; omega) ?_
  refine p_newarray (ty := 0) (n := 3) rfl d_Plan_init_17 aw_int (by simp) rfl (by decide) (by decide +kernel) ⟨by decide, by decide⟩ ?_
  show fs_At g m_Plan_init 2 _ (205, 5, 33) 19 [(0, fs_r 199)] [fs_r 204, fs_r 199] (fs_Tt 290) K
  refine p_putF (x := 204) d_Plan_init_19 flF_Plan_16 rfl rfl rfl ⟨by decide, rfl⟩ (by decide) rfl fs_nar_arr rfl ?_
  refine a_aload_n (j := 0) d_Plan_init_22 rfl rfl ?_
  refine a_iconst d_Plan_init_23 (by unfold fs_in32; omega) ?_
  refine p_put1 (x := 0) d_Plan_init_24 fl_Plan_20 rfl ⟨by decide, rfl⟩ (by decide) rfl fs_nar_int rfl ?_
  show fs_At g m_Plan_init 2 _ (205, 5, 33) 27 [(0, fs_r 199)] [] (fs_Tt 292) K
  refine a_aload_n (j := 0) d_Plan_init_27 rfl rfl ?_
  refine a_iconst d_Plan_init_28 (by unfold fs_in32; omega) ?_
  refine p_put1 (x := 0) d_Plan_init_29 fl_Plan_24 rfl ⟨by decide, rfl⟩ (by decide) rfl fs_nar_int rfl ?_
  exact a_return d_Plan_init_32 rfl ⟨rfl, by decide, by decide⟩ h
set_option maxRecDepth 8000 in
set_option maxHeartbeats 4000000 in
theorem I_Plan_init_205 {K : fs_K} (h : K none (fs_Tt 298)) : fs_Call g m_Plan_init 2 (1, 206, 211, 5, 33) [fs_r 205] (fs_Tt 294) K := by
  refine a_enter2 (ls := [(0, fs_r 205)]) (plainFor_of_name pn_Plan) (Nat.le_of_ble_eq_true rfl) rfl ?_
  show fs_At g m_Plan_init 2 _ (206, 0, 0) 0 [(0, fs_r 205)] [] (fs_Tt 294) K
  refine a_aload_n (j := 0) d_Plan_init_0 rfl rfl ?_
  refine p_objinit (idx := 3) d_Plan_init_1 ⟨(fs_inB 381 (by decide +kernel) rfl), ow_i, ow_c⟩ ⟨by decide, rfl⟩ rfl (by decide) ?_
  refine a_aload_n (j := 0) d_Plan_init_4 rfl rfl ?_
  refine a_iconst d_Plan_init_5 (by unfold fs_in32; omega) ?_
  refine a_bipush d_Plan_init_6 (by decide) ?_
  refine p_multi (ty := 3) (ti := 0) (n := 3) (k := 9) (t1 := .int) rfl d_Plan_init_8 ⟨(fs_inB 382 (by decide +kernel) rfl), aw_int⟩ (by simp) rfl (by decide +kernel) ⟨by decide, by decide⟩ (by decide +kernel) ⟨by decide, by decide⟩ ?_
  show fs_At g m_Plan_init 2 _ (210, 4, 30) 12 [(0, fs_r 205)] [fs_r 206, fs_r 205] (fs_Tt 294) K
  refine p_putF (x := 206) d_Plan_init_12 flF_Plan_11 rfl rfl rfl ⟨by decide, rfl⟩ (by decide) rfl fs_nar_arr rfl ?_
  refine a_aload_n (j := 0) d_Plan_init_15 rfl rfl ?_
  refine a_iconst d_Plan_init_16 (by unfold fs_in32; omega) ?_
  refine p_newarray (ty := 0) (n := 3) rfl d_Plan_init_17 aw_int (by simp) rfl (by decide) (by decide +kernel) ⟨by decide, by decide⟩ ?_
  show fs_At g m_Plan_init 2 _ (211, 5, 33) 19 [(0, fs_r 205)] [fs_r 210, fs_r 205] (fs_Tt 295) K
  refine p_putF (x := 210) d_Plan_init_19 flF_Plan_16 rfl rfl rfl ⟨by decide, rfl⟩ (by decide) rfl fs_nar_arr rfl ?_
  refine a_aload_n (j := 0) d_Plan_init_22 rfl rfl ?_
  refine a_iconst d_Plan_init_23 (by unfold fs_in32; omega) ?_
  refine p_put1 (x := 0) d_Plan_init_24 fl_Plan_20 rfl ⟨by decide, rfl⟩ (by decide) rfl fs_nar_int rfl ?_
  show fs_At g m_Plan_init 2 _ (211, 5, 33) 27 [(0, fs_r 205)] [] (fs_Tt 297) K
  refine a_aload_n (j := 0) d_Plan_init_27 rfl rfl ?_
  refine a_iconst d_Plan_init_28 (by unfold fs_in32; omega) ?_
  refine p_put1 (x := 0) d_Plan_init_29 fl_Plan_24 rfl ⟨by decide, rfl⟩ (by decide) rfl fs_nar_int rfl ?_
  exact a_return d_Plan_init_32 rfl ⟨rfl, by decide, by decide⟩ h
set_option maxRecDepth 8000 in
set_option maxHeartbeats 4000000 in
theorem I_Plan_init_211 {K : fs_K} (h : K none (fs_Tt 303)) : fs_Call g m_Plan_init 2 (1, 212, 217, 5, 33) [fs_r 211] (fs_Tt 299) K := by
  refine a_enter2 (ls := [(0, fs_r 211)]) (plainFor_of_name pn_Plan) (Nat.le_of_ble_eq_true rfl) rfl ?_
  show fs_At g m_Plan_init 2 _ (212, 0, 0) 0 [(0, fs_r 211)] [] (fs_Tt 299) K
  refine a_aload_n (j := 0) d_Plan_init_0 rfl rfl ?_
  refine p_objinit (idx := 3) d_Plan_init_1 ⟨(fs_inB 381 (by decide +kernel) rfl), ow_i, ow_c⟩ ⟨by decide, rfl⟩ rfl (by decide) ?_
  refine a_aload_n (j := 0) d_Plan_init_4 rfl rfl ?_
  refine a_iconst d_Plan_init_5 (by unfold fs_in32; omega) ?_
  refine a_bipush d_Plan_init_6 (by decide) ?_
  refine p_multi (ty := 3) (ti := 0) (n := 3) (k := 9) (t1 := .int) rfl d_Plan_init_8 ⟨(fs_inB 382 (by decide +kernel) rfl), aw_int⟩ (by simp) rfl (by decide +kernel) ⟨by decide, by decide⟩ (by decide +kernel) ⟨by decide, by decide⟩ ?_
  show fs_At g m_Plan_init 2 _ (216, 4, 30) 12 [(0, fs_r 211)] [fs_r 212, fs_r 211] (fs_Tt 299) K
  refine p_putF (x := 212) d_Plan_init_12 flF_Plan_11 rfl rfl rfl ⟨by decide, rfl⟩ (by decide) rfl fs_nar_arr rfl ?_
  refine a_aload_n (j := 0) d_Plan_init_15 rfl rfl ?_
  refine a_iconst d_Plan_init_16 (by unfold fs_in32; omega) ?_
  refine p_newarray (ty := 0) (n := 3) rfl d_Plan_init_17 aw_int (by simp) rfl (by decide) (by decide +kernel) ⟨by decide, by decide⟩ ?_
  show fs_At g m_Plan_init 2 _ (217, 5, 33) 19 [(0, fs_r 211)] [fs_r 216, fs_r 211] (fs_Tt 300) K
  refine p_putF (x := 216) d_Plan_init_19 flF_Plan_16 rfl rfl rfl ⟨by decide, rfl⟩ (by decide) rfl fs_nar_arr rfl ?_
  refine a_aload_n (j := 0) d_Plan_init_22 rfl rfl ?_
  refine a_iconst d_Plan_init_23 (by unfold fs_in32; omega) ?_
  refine p_put1 (x := 0) d_Plan_init_24 fl_Plan_20 rfl ⟨by decide, rfl⟩ (by decide) rfl fs_nar_int rfl ?_
  show fs_At g m_Plan_init 2 _ (217, 5, 33) 27 [(0, fs_r 211)] [] (fs_Tt 302) K
  refine a_aload_n (j := 0) d_Plan_init_27 rfl rfl ?_
  refine a_iconst d_Plan_init_28 (by unfold fs_in32; omega) ?_
  refine p_put1 (x := 0) d_Plan_init_29 fl_Plan_24 rfl ⟨by decide, rfl⟩ (by decide) rfl fs_nar_int rfl ?_
  exact a_return d_Plan_init_32 rfl ⟨rfl, by decide, by decide⟩ h
set_option maxRecDepth 8000 in
set_option maxHeartbeats 4000000 in
theorem I_Past_init_95 {K : fs_K} (h : K none (fs_Tt 304)) : fs_Call g m_Past_init 3 (1, 96, 217, 121, 760) [fs_r 95] (fs_Tt 201) K := by
  refine a_enter2 (ls := [(0, fs_r 95)]) (plainFor_of_name pn_Past) (Nat.le_of_ble_eq_true rfl) rfl ?_
  show fs_At g m_Past_init 3 _ (96, 0, 0) 0 [(0, fs_r 95)] [] (fs_Tt 201) K
  refine a_aload_n (j := 0) d_Past_init_0 rfl rfl ?_
  refine p_objinit (idx := 3) d_Past_init_1 ⟨(fs_inB 604 (by decide +kernel) rfl), ow_i, ow_c⟩ ⟨by decide, rfl⟩ rfl (by decide) ?_
  refine a_aload_n (j := 0) d_Past_init_4 rfl rfl ?_
  refine a_bipush d_Past_init_5 (by decide) ?_
  refine p_anewarray (ty := 6) (n := 20) (C := "FirstSill$Plan") rfl d_Past_init_7 (fs_inB 605 (by decide +kernel) rfl) (by simp) rfl (by decide) (by decide +kernel) ⟨by decide, by decide⟩ ?_
  show fs_At g m_Past_init 3 _ (97, 1, 20) 10 [(0, fs_r 95)] [fs_r 96, fs_r 95] (fs_Tt 201) K
  refine p_putF (x := 96) d_Past_init_10 flF_Past_11 rfl rfl rfl ⟨by decide, rfl⟩ (by decide) rfl fs_nar_arr rfl ?_
  refine a_aload_n (j := 0) d_Past_init_13 rfl rfl ?_
  refine a_iconst d_Past_init_14 (by unfold fs_in32; omega) ?_
  refine p_put1 (x := 0) d_Past_init_15 fl_Past_17 rfl ⟨by decide, rfl⟩ (by decide) rfl fs_nar_int rfl ?_
  refine a_aload_n (j := 0) d_Past_init_18 rfl rfl ?_
  refine a_iconst d_Past_init_19 (by unfold fs_in32; omega) ?_
  refine p_put1 (x := 0) d_Past_init_20 fl_Past_21 rfl ⟨by decide, rfl⟩ (by decide) rfl fs_nar_int rfl ?_
  refine a_iconst d_Past_init_23 (by unfold fs_in32; omega) ?_
  show fs_At g m_Past_init 3 _ (97, 1, 20) 24 [(0, fs_r 95)] [fs_i 0] (fs_Tt 204) K
  refine a_istore_n d_Past_init_24 rfl (Nat.le_of_ble_eq_true rfl) [1, 0] (ls' := [(0, fs_r 95), (1, fs_i 0)]) rfl ?_
  refine a_iload_n (j := 1) d_Past_init_25 rfl rfl ?_
  refine a_bipush d_Past_init_26 (by decide) ?_
  refine a_icmp_ge (tgt := 50) d_Past_init_28 rfl (fun q => absurd q (by decide)) (fun _ => ?_)
  refine a_aload_n (j := 0) d_Past_init_31 rfl rfl ?_
  refine a_getfield (v := fs_r 96) d_Past_init_32 fl_Past_11 ⟨by decide, rfl⟩ (by decide) (p_val (x := 96) (by decide +kernel) rfl) ?_
  refine a_iload_n (j := 1) d_Past_init_35 rfl rfl ?_
  refine p_new (idx := 9) (ci := 6) rfl d_Past_init_36 fs_kc6 ⟨(fs_inB 605 (by decide +kernel) rfl), (fs_inB 377 (by decide +kernel) rfl), (fs_inB 154 (by decide +kernel) rfl)⟩ rfl (by decide) (by decide +kernel) ⟨by decide, by decide⟩ ?_
  show fs_At g m_Past_init 3 _ (98, 2, 24) 39 [(0, fs_r 95), (1, fs_i 0)] [fs_r 97, fs_i 0, fs_r 96] (fs_Tt 204) K
  refine a_dup d_Past_init_39 rfl ?_
  refine a_invokeinit (dc := 2) (zc := (1, 98, 103, 5, 33)) (o := 97) [] [fs_r 97, fs_i 0, fs_r 96] d_Past_init_40 ml_Past_24 k_Plan_init v_Plan_init rfl rfl ⟨by decide, rfl⟩ rfl ⟨by decide, rfl, rfl, by decide, by decide, fun _ => rfl⟩ rfl (Nat.le_of_ble_eq_true rfl) (I_Plan_init_97 ?_)
  show fs_At g m_Past_init 3 _ (103, 7, 57) 43 [(0, fs_r 95), (1, fs_i 0)] [fs_r 97, fs_i 0, fs_r 96] (fs_Tt 208) K
  refine p_aast (ty := 6) (ci := 6) (n := 20) rfl d_Past_init_43 ⟨by decide, rfl⟩ (by decide) ⟨by decide, rfl⟩ (by decide) (by decide) (by decide) (by decide) rfl ?_
  refine a_iinc (j := 1) d_Past_init_44 rfl (Nat.le_of_ble_eq_true rfl) [1, 0] (ls' := [(0, fs_r 95), (1, fs_i 1)]) rfl ?_
  refine a_goto (tgt := 25) d_Past_init_47 rfl ?_
  refine a_iload_n (j := 1) d_Past_init_25 rfl rfl ?_
  show fs_At g m_Past_init 3 _ (103, 7, 57) 26 [(0, fs_r 95), (1, fs_i 1)] [fs_i 1] (fs_Tt 209) K
  refine a_bipush d_Past_init_26 (by decide) ?_
  refine a_icmp_ge (tgt := 50) d_Past_init_28 rfl (fun q => absurd q (by decide)) (fun _ => ?_)
  refine a_aload_n (j := 0) d_Past_init_31 rfl rfl ?_
  refine a_getfield (v := fs_r 96) d_Past_init_32 fl_Past_11 ⟨by decide, rfl⟩ (by decide) (p_val (x := 96) (by decide +kernel) rfl) ?_
  refine a_iload_n (j := 1) d_Past_init_35 rfl rfl ?_
  refine p_new (idx := 9) (ci := 6) rfl d_Past_init_36 fs_kc6 ⟨(fs_inB 605 (by decide +kernel) rfl), (fs_inB 377 (by decide +kernel) rfl), (fs_inB 154 (by decide +kernel) rfl)⟩ rfl (by decide) (by decide +kernel) ⟨by decide, by decide⟩ ?_
  show fs_At g m_Past_init 3 _ (104, 8, 61) 39 [(0, fs_r 95), (1, fs_i 1)] [fs_r 103, fs_i 1, fs_r 96] (fs_Tt 209) K
  refine a_dup d_Past_init_39 rfl ?_
  refine a_invokeinit (dc := 2) (zc := (1, 104, 109, 5, 33)) (o := 103) [] [fs_r 103, fs_i 1, fs_r 96] d_Past_init_40 ml_Past_24 k_Plan_init v_Plan_init rfl rfl ⟨by decide, rfl⟩ rfl ⟨by decide, rfl, rfl, by decide, by decide, fun _ => rfl⟩ rfl (Nat.le_of_ble_eq_true rfl) (I_Plan_init_103 ?_)
  show fs_At g m_Past_init 3 _ (109, 13, 94) 43 [(0, fs_r 95), (1, fs_i 1)] [fs_r 103, fs_i 1, fs_r 96] (fs_Tt 213) K
  refine p_aast (ty := 6) (ci := 6) (n := 20) rfl d_Past_init_43 ⟨by decide, rfl⟩ (by decide) ⟨by decide, rfl⟩ (by decide) (by decide) (by decide) (by decide) rfl ?_
  refine a_iinc (j := 1) d_Past_init_44 rfl (Nat.le_of_ble_eq_true rfl) [1, 0] (ls' := [(0, fs_r 95), (1, fs_i 2)]) rfl ?_
  refine a_goto (tgt := 25) d_Past_init_47 rfl ?_
  refine a_iload_n (j := 1) d_Past_init_25 rfl rfl ?_
  refine a_bipush d_Past_init_26 (by decide) ?_
  refine a_icmp_ge (tgt := 50) d_Past_init_28 rfl (fun q => absurd q (by decide)) (fun _ => ?_)
  show fs_At g m_Past_init 3 _ (109, 13, 94) 31 [(0, fs_r 95), (1, fs_i 2)] [] (fs_Tt 214) K
  refine a_aload_n (j := 0) d_Past_init_31 rfl rfl ?_
  refine a_getfield (v := fs_r 96) d_Past_init_32 fl_Past_11 ⟨by decide, rfl⟩ (by decide) (p_val (x := 96) (by decide +kernel) rfl) ?_
  refine a_iload_n (j := 1) d_Past_init_35 rfl rfl ?_
  refine p_new (idx := 9) (ci := 6) rfl d_Past_init_36 fs_kc6 ⟨(fs_inB 605 (by decide +kernel) rfl), (fs_inB 377 (by decide +kernel) rfl), (fs_inB 154 (by decide +kernel) rfl)⟩ rfl (by decide) (by decide +kernel) ⟨by decide, by decide⟩ ?_
  show fs_At g m_Past_init 3 _ (110, 14, 98) 39 [(0, fs_r 95), (1, fs_i 2)] [fs_r 109, fs_i 2, fs_r 96] (fs_Tt 214) K
  refine a_dup d_Past_init_39 rfl ?_
  refine a_invokeinit (dc := 2) (zc := (1, 110, 115, 5, 33)) (o := 109) [] [fs_r 109, fs_i 2, fs_r 96] d_Past_init_40 ml_Past_24 k_Plan_init v_Plan_init rfl rfl ⟨by decide, rfl⟩ rfl ⟨by decide, rfl, rfl, by decide, by decide, fun _ => rfl⟩ rfl (Nat.le_of_ble_eq_true rfl) (I_Plan_init_109 ?_)
  show fs_At g m_Past_init 3 _ (115, 19, 131) 43 [(0, fs_r 95), (1, fs_i 2)] [fs_r 109, fs_i 2, fs_r 96] (fs_Tt 218) K
  refine p_aast (ty := 6) (ci := 6) (n := 20) rfl d_Past_init_43 ⟨by decide, rfl⟩ (by decide) ⟨by decide, rfl⟩ (by decide) (by decide) (by decide) (by decide) rfl ?_
  refine a_iinc (j := 1) d_Past_init_44 rfl (Nat.le_of_ble_eq_true rfl) [1, 0] (ls' := [(0, fs_r 95), (1, fs_i 3)]) rfl ?_
  refine a_goto (tgt := 25) d_Past_init_47 rfl ?_
  refine a_iload_n (j := 1) d_Past_init_25 rfl rfl ?_
  refine a_bipush d_Past_init_26 (by decide) ?_
  refine a_icmp_ge (tgt := 50) d_Past_init_28 rfl (fun q => absurd q (by decide)) (fun _ => ?_)
  refine a_aload_n (j := 0) d_Past_init_31 rfl rfl ?_
  refine a_getfield (v := fs_r 96) d_Past_init_32 fl_Past_11 ⟨by decide, rfl⟩ (by decide) (p_val (x := 96) (by decide +kernel) rfl) ?_
  show fs_At g m_Past_init 3 _ (115, 19, 131) 35 [(0, fs_r 95), (1, fs_i 3)] [fs_r 96] (fs_Tt 219) K
  refine a_iload_n (j := 1) d_Past_init_35 rfl rfl ?_
  refine p_new (idx := 9) (ci := 6) rfl d_Past_init_36 fs_kc6 ⟨(fs_inB 605 (by decide +kernel) rfl), (fs_inB 377 (by decide +kernel) rfl), (fs_inB 154 (by decide +kernel) rfl)⟩ rfl (by decide) (by decide +kernel) ⟨by decide, by decide⟩ ?_
  show fs_At g m_Past_init 3 _ (116, 20, 135) 39 [(0, fs_r 95), (1, fs_i 3)] [fs_r 115, fs_i 3, fs_r 96] (fs_Tt 219) K
  refine a_dup d_Past_init_39 rfl ?_
  refine a_invokeinit (dc := 2) (zc := (1, 116, 121, 5, 33)) (o := 115) [] [fs_r 115, fs_i 3, fs_r 96] d_Past_init_40 ml_Past_24 k_Plan_init v_Plan_init rfl rfl ⟨by decide, rfl⟩ rfl ⟨by decide, rfl, rfl, by decide, by decide, fun _ => rfl⟩ rfl (Nat.le_of_ble_eq_true rfl) (I_Plan_init_115 ?_)
  show fs_At g m_Past_init 3 _ (121, 25, 168) 43 [(0, fs_r 95), (1, fs_i 3)] [fs_r 115, fs_i 3, fs_r 96] (fs_Tt 223) K
  refine p_aast (ty := 6) (ci := 6) (n := 20) rfl d_Past_init_43 ⟨by decide, rfl⟩ (by decide) ⟨by decide, rfl⟩ (by decide) (by decide) (by decide) (by decide) rfl ?_
  refine a_iinc (j := 1) d_Past_init_44 rfl (Nat.le_of_ble_eq_true rfl) [1, 0] (ls' := [(0, fs_r 95), (1, fs_i 4)]) rfl ?_
  refine a_goto (tgt := 25) d_Past_init_47 rfl ?_
  refine a_iload_n (j := 1) d_Past_init_25 rfl rfl ?_
  refine a_bipush d_Past_init_26 (by decide) ?_
  refine a_icmp_ge (tgt := 50) d_Past_init_28 rfl (fun q => absurd q (by decide)) (fun _ => ?_)
  refine a_aload_n (j := 0) d_Past_init_31 rfl rfl ?_
  refine a_getfield (v := fs_r 96) d_Past_init_32 fl_Past_11 ⟨by decide, rfl⟩ (by decide) (p_val (x := 96) (by decide +kernel) rfl) ?_
  refine a_iload_n (j := 1) d_Past_init_35 rfl rfl ?_
  refine p_new (idx := 9) (ci := 6) rfl d_Past_init_36 fs_kc6 ⟨(fs_inB 605 (by decide +kernel) rfl), (fs_inB 377 (by decide +kernel) rfl), (fs_inB 154 (by decide +kernel) rfl)⟩ rfl (by decide) (by decide +kernel) ⟨by decide, by decide⟩ ?_
  show fs_At g m_Past_init 3 _ (122, 26, 172) 39 [(0, fs_r 95), (1, fs_i 4)] [fs_r 121, fs_i 4, fs_r 96] (fs_Tt 224) K
  refine a_dup d_Past_init_39 rfl ?_
  show fs_At g m_Past_init 3 _ (122, 26, 172) 40 [(0, fs_r 95), (1, fs_i 4)] [fs_r 121, fs_r 121, fs_i 4, fs_r 96] (fs_Tt 224) K
  refine a_invokeinit (dc := 2) (zc := (1, 122, 127, 5, 33)) (o := 121) [] [fs_r 121, fs_i 4, fs_r 96] d_Past_init_40 ml_Past_24 k_Plan_init v_Plan_init rfl rfl ⟨by decide, rfl⟩ rfl ⟨by decide, rfl, rfl, by decide, by decide, fun _ => rfl⟩ rfl (Nat.le_of_ble_eq_true rfl) (I_Plan_init_121 ?_)
  show fs_At g m_Past_init 3 _ (127, 31, 205) 43 [(0, fs_r 95), (1, fs_i 4)] [fs_r 121, fs_i 4, fs_r 96] (fs_Tt 228) K
  refine p_aast (ty := 6) (ci := 6) (n := 20) rfl d_Past_init_43 ⟨by decide, rfl⟩ (by decide) ⟨by decide, rfl⟩ (by decide) (by decide) (by decide) (by decide) rfl ?_
  refine a_iinc (j := 1) d_Past_init_44 rfl (Nat.le_of_ble_eq_true rfl) [1, 0] (ls' := [(0, fs_r 95), (1, fs_i 5)]) rfl ?_
  refine a_goto (tgt := 25) d_Past_init_47 rfl ?_
  refine a_iload_n (j := 1) d_Past_init_25 rfl rfl ?_
  refine a_bipush d_Past_init_26 (by decide) ?_
  refine a_icmp_ge (tgt := 50) d_Past_init_28 rfl (fun q => absurd q (by decide)) (fun _ => ?_)
  refine a_aload_n (j := 0) d_Past_init_31 rfl rfl ?_
  refine a_getfield (v := fs_r 96) d_Past_init_32 fl_Past_11 ⟨by decide, rfl⟩ (by decide) (p_val (x := 96) (by decide +kernel) rfl) ?_
  refine a_iload_n (j := 1) d_Past_init_35 rfl rfl ?_
  refine p_new (idx := 9) (ci := 6) rfl d_Past_init_36 fs_kc6 ⟨(fs_inB 605 (by decide +kernel) rfl), (fs_inB 377 (by decide +kernel) rfl), (fs_inB 154 (by decide +kernel) rfl)⟩ rfl (by decide) (by decide +kernel) ⟨by decide, by decide⟩ ?_
  show fs_At g m_Past_init 3 _ (128, 32, 209) 39 [(0, fs_r 95), (1, fs_i 5)] [fs_r 127, fs_i 5, fs_r 96] (fs_Tt 229) K
  refine a_dup d_Past_init_39 rfl ?_
  refine a_invokeinit (dc := 2) (zc := (1, 128, 133, 5, 33)) (o := 127) [] [fs_r 127, fs_i 5, fs_r 96] d_Past_init_40 ml_Past_24 k_Plan_init v_Plan_init rfl rfl ⟨by decide, rfl⟩ rfl ⟨by decide, rfl, rfl, by decide, by decide, fun _ => rfl⟩ rfl (Nat.le_of_ble_eq_true rfl) (I_Plan_init_127 ?_)
  show fs_At g m_Past_init 3 _ (133, 37, 242) 43 [(0, fs_r 95), (1, fs_i 5)] [fs_r 127, fs_i 5, fs_r 96] (fs_Tt 233) K
  refine p_aast (ty := 6) (ci := 6) (n := 20) rfl d_Past_init_43 ⟨by decide, rfl⟩ (by decide) ⟨by decide, rfl⟩ (by decide) (by decide) (by decide) (by decide) rfl ?_
  refine a_iinc (j := 1) d_Past_init_44 rfl (Nat.le_of_ble_eq_true rfl) [1, 0] (ls' := [(0, fs_r 95), (1, fs_i 6)]) rfl ?_
  show fs_At g m_Past_init 3 _ (133, 37, 242) 47 [(0, fs_r 95), (1, fs_i 6)] [] (fs_Tt 234) K
  refine a_goto (tgt := 25) d_Past_init_47 rfl ?_
  refine a_iload_n (j := 1) d_Past_init_25 rfl rfl ?_
  refine a_bipush d_Past_init_26 (by decide) ?_
  refine a_icmp_ge (tgt := 50) d_Past_init_28 rfl (fun q => absurd q (by decide)) (fun _ => ?_)
  refine a_aload_n (j := 0) d_Past_init_31 rfl rfl ?_
  refine a_getfield (v := fs_r 96) d_Past_init_32 fl_Past_11 ⟨by decide, rfl⟩ (by decide) (p_val (x := 96) (by decide +kernel) rfl) ?_
  refine a_iload_n (j := 1) d_Past_init_35 rfl rfl ?_
  refine p_new (idx := 9) (ci := 6) rfl d_Past_init_36 fs_kc6 ⟨(fs_inB 605 (by decide +kernel) rfl), (fs_inB 377 (by decide +kernel) rfl), (fs_inB 154 (by decide +kernel) rfl)⟩ rfl (by decide) (by decide +kernel) ⟨by decide, by decide⟩ ?_
  show fs_At g m_Past_init 3 _ (134, 38, 246) 39 [(0, fs_r 95), (1, fs_i 6)] [fs_r 133, fs_i 6, fs_r 96] (fs_Tt 234) K
  refine a_dup d_Past_init_39 rfl ?_
  refine a_invokeinit (dc := 2) (zc := (1, 134, 139, 5, 33)) (o := 133) [] [fs_r 133, fs_i 6, fs_r 96] d_Past_init_40 ml_Past_24 k_Plan_init v_Plan_init rfl rfl ⟨by decide, rfl⟩ rfl ⟨by decide, rfl, rfl, by decide, by decide, fun _ => rfl⟩ rfl (Nat.le_of_ble_eq_true rfl) (I_Plan_init_133 ?_)
  show fs_At g m_Past_init 3 _ (139, 43, 279) 43 [(0, fs_r 95), (1, fs_i 6)] [fs_r 133, fs_i 6, fs_r 96] (fs_Tt 238) K
  refine p_aast (ty := 6) (ci := 6) (n := 20) rfl d_Past_init_43 ⟨by decide, rfl⟩ (by decide) ⟨by decide, rfl⟩ (by decide) (by decide) (by decide) (by decide) rfl ?_
  refine a_iinc (j := 1) d_Past_init_44 rfl (Nat.le_of_ble_eq_true rfl) [1, 0] (ls' := [(0, fs_r 95), (1, fs_i 7)]) rfl ?_
  refine a_goto (tgt := 25) d_Past_init_47 rfl ?_
  refine a_iload_n (j := 1) d_Past_init_25 rfl rfl ?_
  show fs_At g m_Past_init 3 _ (139, 43, 279) 26 [(0, fs_r 95), (1, fs_i 7)] [fs_i 7] (fs_Tt 239) K
  refine a_bipush d_Past_init_26 (by decide) ?_
  refine a_icmp_ge (tgt := 50) d_Past_init_28 rfl (fun q => absurd q (by decide)) (fun _ => ?_)
  refine a_aload_n (j := 0) d_Past_init_31 rfl rfl ?_
  refine a_getfield (v := fs_r 96) d_Past_init_32 fl_Past_11 ⟨by decide, rfl⟩ (by decide) (p_val (x := 96) (by decide +kernel) rfl) ?_
  refine a_iload_n (j := 1) d_Past_init_35 rfl rfl ?_
  refine p_new (idx := 9) (ci := 6) rfl d_Past_init_36 fs_kc6 ⟨(fs_inB 605 (by decide +kernel) rfl), (fs_inB 377 (by decide +kernel) rfl), (fs_inB 154 (by decide +kernel) rfl)⟩ rfl (by decide) (by decide +kernel) ⟨by decide, by decide⟩ ?_
  show fs_At g m_Past_init 3 _ (140, 44, 283) 39 [(0, fs_r 95), (1, fs_i 7)] [fs_r 139, fs_i 7, fs_r 96] (fs_Tt 239) K
  refine a_dup d_Past_init_39 rfl ?_
  refine a_invokeinit (dc := 2) (zc := (1, 140, 145, 5, 33)) (o := 139) [] [fs_r 139, fs_i 7, fs_r 96] d_Past_init_40 ml_Past_24 k_Plan_init v_Plan_init rfl rfl ⟨by decide, rfl⟩ rfl ⟨by decide, rfl, rfl, by decide, by decide, fun _ => rfl⟩ rfl (Nat.le_of_ble_eq_true rfl) (I_Plan_init_139 ?_)
  show fs_At g m_Past_init 3 _ (145, 49, 316) 43 [(0, fs_r 95), (1, fs_i 7)] [fs_r 139, fs_i 7, fs_r 96] (fs_Tt 243) K
  refine p_aast (ty := 6) (ci := 6) (n := 20) rfl d_Past_init_43 ⟨by decide, rfl⟩ (by decide) ⟨by decide, rfl⟩ (by decide) (by decide) (by decide) (by decide) rfl ?_
  refine a_iinc (j := 1) d_Past_init_44 rfl (Nat.le_of_ble_eq_true rfl) [1, 0] (ls' := [(0, fs_r 95), (1, fs_i 8)]) rfl ?_
  refine a_goto (tgt := 25) d_Past_init_47 rfl ?_
  refine a_iload_n (j := 1) d_Past_init_25 rfl rfl ?_
  refine a_bipush d_Past_init_26 (by decide) ?_
  refine a_icmp_ge (tgt := 50) d_Past_init_28 rfl (fun q => absurd q (by decide)) (fun _ => ?_)
  show fs_At g m_Past_init 3 _ (145, 49, 316) 31 [(0, fs_r 95), (1, fs_i 8)] [] (fs_Tt 244) K
  refine a_aload_n (j := 0) d_Past_init_31 rfl rfl ?_
  refine a_getfield (v := fs_r 96) d_Past_init_32 fl_Past_11 ⟨by decide, rfl⟩ (by decide) (p_val (x := 96) (by decide +kernel) rfl) ?_
  refine a_iload_n (j := 1) d_Past_init_35 rfl rfl ?_
  refine p_new (idx := 9) (ci := 6) rfl d_Past_init_36 fs_kc6 ⟨(fs_inB 605 (by decide +kernel) rfl), (fs_inB 377 (by decide +kernel) rfl), (fs_inB 154 (by decide +kernel) rfl)⟩ rfl (by decide) (by decide +kernel) ⟨by decide, by decide⟩ ?_
  show fs_At g m_Past_init 3 _ (146, 50, 320) 39 [(0, fs_r 95), (1, fs_i 8)] [fs_r 145, fs_i 8, fs_r 96] (fs_Tt 244) K
  refine a_dup d_Past_init_39 rfl ?_
  refine a_invokeinit (dc := 2) (zc := (1, 146, 151, 5, 33)) (o := 145) [] [fs_r 145, fs_i 8, fs_r 96] d_Past_init_40 ml_Past_24 k_Plan_init v_Plan_init rfl rfl ⟨by decide, rfl⟩ rfl ⟨by decide, rfl, rfl, by decide, by decide, fun _ => rfl⟩ rfl (Nat.le_of_ble_eq_true rfl) (I_Plan_init_145 ?_)
  show fs_At g m_Past_init 3 _ (151, 55, 353) 43 [(0, fs_r 95), (1, fs_i 8)] [fs_r 145, fs_i 8, fs_r 96] (fs_Tt 248) K
  refine p_aast (ty := 6) (ci := 6) (n := 20) rfl d_Past_init_43 ⟨by decide, rfl⟩ (by decide) ⟨by decide, rfl⟩ (by decide) (by decide) (by decide) (by decide) rfl ?_
  refine a_iinc (j := 1) d_Past_init_44 rfl (Nat.le_of_ble_eq_true rfl) [1, 0] (ls' := [(0, fs_r 95), (1, fs_i 9)]) rfl ?_
  refine a_goto (tgt := 25) d_Past_init_47 rfl ?_
  refine a_iload_n (j := 1) d_Past_init_25 rfl rfl ?_
  refine a_bipush d_Past_init_26 (by decide) ?_
  refine a_icmp_ge (tgt := 50) d_Past_init_28 rfl (fun q => absurd q (by decide)) (fun _ => ?_)
  refine a_aload_n (j := 0) d_Past_init_31 rfl rfl ?_
  refine a_getfield (v := fs_r 96) d_Past_init_32 fl_Past_11 ⟨by decide, rfl⟩ (by decide) (p_val (x := 96) (by decide +kernel) rfl) ?_
  show fs_At g m_Past_init 3 _ (151, 55, 353) 35 [(0, fs_r 95), (1, fs_i 9)] [fs_r 96] (fs_Tt 249) K
  refine a_iload_n (j := 1) d_Past_init_35 rfl rfl ?_
  refine p_new (idx := 9) (ci := 6) rfl d_Past_init_36 fs_kc6 ⟨(fs_inB 605 (by decide +kernel) rfl), (fs_inB 377 (by decide +kernel) rfl), (fs_inB 154 (by decide +kernel) rfl)⟩ rfl (by decide) (by decide +kernel) ⟨by decide, by decide⟩ ?_
  show fs_At g m_Past_init 3 _ (152, 56, 357) 39 [(0, fs_r 95), (1, fs_i 9)] [fs_r 151, fs_i 9, fs_r 96] (fs_Tt 249) K
  refine a_dup d_Past_init_39 rfl ?_
  refine a_invokeinit (dc := 2) (zc := (1, 152, 157, 5, 33)) (o := 151) [] [fs_r 151, fs_i 9, fs_r 96] d_Past_init_40 ml_Past_24 k_Plan_init v_Plan_init rfl rfl ⟨by decide, rfl⟩ rfl ⟨by decide, rfl, rfl, by decide, by decide, fun _ => rfl⟩ rfl (Nat.le_of_ble_eq_true rfl) (I_Plan_init_151 ?_)
  show fs_At g m_Past_init 3 _ (157, 61, 390) 43 [(0, fs_r 95), (1, fs_i 9)] [fs_r 151, fs_i 9, fs_r 96] (fs_Tt 253) K
  refine p_aast (ty := 6) (ci := 6) (n := 20) rfl d_Past_init_43 ⟨by decide, rfl⟩ (by decide) ⟨by decide, rfl⟩ (by decide) (by decide) (by decide) (by decide) rfl ?_
  refine a_iinc (j := 1) d_Past_init_44 rfl (Nat.le_of_ble_eq_true rfl) [1, 0] (ls' := [(0, fs_r 95), (1, fs_i 10)]) rfl ?_
  refine a_goto (tgt := 25) d_Past_init_47 rfl ?_
  refine a_iload_n (j := 1) d_Past_init_25 rfl rfl ?_
  refine a_bipush d_Past_init_26 (by decide) ?_
  refine a_icmp_ge (tgt := 50) d_Past_init_28 rfl (fun q => absurd q (by decide)) (fun _ => ?_)
  refine a_aload_n (j := 0) d_Past_init_31 rfl rfl ?_
  refine a_getfield (v := fs_r 96) d_Past_init_32 fl_Past_11 ⟨by decide, rfl⟩ (by decide) (p_val (x := 96) (by decide +kernel) rfl) ?_
  refine a_iload_n (j := 1) d_Past_init_35 rfl rfl ?_
  refine p_new (idx := 9) (ci := 6) rfl d_Past_init_36 fs_kc6 ⟨(fs_inB 605 (by decide +kernel) rfl), (fs_inB 377 (by decide +kernel) rfl), (fs_inB 154 (by decide +kernel) rfl)⟩ rfl (by decide) (by decide +kernel) ⟨by decide, by decide⟩ ?_
  show fs_At g m_Past_init 3 _ (158, 62, 394) 39 [(0, fs_r 95), (1, fs_i 10)] [fs_r 157, fs_i 10, fs_r 96] (fs_Tt 254) K
  refine a_dup d_Past_init_39 rfl ?_
  show fs_At g m_Past_init 3 _ (158, 62, 394) 40 [(0, fs_r 95), (1, fs_i 10)] [fs_r 157, fs_r 157, fs_i 10, fs_r 96] (fs_Tt 254) K
  refine a_invokeinit (dc := 2) (zc := (1, 158, 163, 5, 33)) (o := 157) [] [fs_r 157, fs_i 10, fs_r 96] d_Past_init_40 ml_Past_24 k_Plan_init v_Plan_init rfl rfl ⟨by decide, rfl⟩ rfl ⟨by decide, rfl, rfl, by decide, by decide, fun _ => rfl⟩ rfl (Nat.le_of_ble_eq_true rfl) (I_Plan_init_157 ?_)
  show fs_At g m_Past_init 3 _ (163, 67, 427) 43 [(0, fs_r 95), (1, fs_i 10)] [fs_r 157, fs_i 10, fs_r 96] (fs_Tt 258) K
  refine p_aast (ty := 6) (ci := 6) (n := 20) rfl d_Past_init_43 ⟨by decide, rfl⟩ (by decide) ⟨by decide, rfl⟩ (by decide) (by decide) (by decide) (by decide) rfl ?_
  refine a_iinc (j := 1) d_Past_init_44 rfl (Nat.le_of_ble_eq_true rfl) [1, 0] (ls' := [(0, fs_r 95), (1, fs_i 11)]) rfl ?_
  refine a_goto (tgt := 25) d_Past_init_47 rfl ?_
  refine a_iload_n (j := 1) d_Past_init_25 rfl rfl ?_
  refine a_bipush d_Past_init_26 (by decide) ?_
  refine a_icmp_ge (tgt := 50) d_Past_init_28 rfl (fun q => absurd q (by decide)) (fun _ => ?_)
  refine a_aload_n (j := 0) d_Past_init_31 rfl rfl ?_
  refine a_getfield (v := fs_r 96) d_Past_init_32 fl_Past_11 ⟨by decide, rfl⟩ (by decide) (p_val (x := 96) (by decide +kernel) rfl) ?_
  refine a_iload_n (j := 1) d_Past_init_35 rfl rfl ?_
  refine p_new (idx := 9) (ci := 6) rfl d_Past_init_36 fs_kc6 ⟨(fs_inB 605 (by decide +kernel) rfl), (fs_inB 377 (by decide +kernel) rfl), (fs_inB 154 (by decide +kernel) rfl)⟩ rfl (by decide) (by decide +kernel) ⟨by decide, by decide⟩ ?_
  show fs_At g m_Past_init 3 _ (164, 68, 431) 39 [(0, fs_r 95), (1, fs_i 11)] [fs_r 163, fs_i 11, fs_r 96] (fs_Tt 259) K
  refine a_dup d_Past_init_39 rfl ?_
  refine a_invokeinit (dc := 2) (zc := (1, 164, 169, 5, 33)) (o := 163) [] [fs_r 163, fs_i 11, fs_r 96] d_Past_init_40 ml_Past_24 k_Plan_init v_Plan_init rfl rfl ⟨by decide, rfl⟩ rfl ⟨by decide, rfl, rfl, by decide, by decide, fun _ => rfl⟩ rfl (Nat.le_of_ble_eq_true rfl) (I_Plan_init_163 ?_)
  show fs_At g m_Past_init 3 _ (169, 73, 464) 43 [(0, fs_r 95), (1, fs_i 11)] [fs_r 163, fs_i 11, fs_r 96] (fs_Tt 263) K
  refine p_aast (ty := 6) (ci := 6) (n := 20) rfl d_Past_init_43 ⟨by decide, rfl⟩ (by decide) ⟨by decide, rfl⟩ (by decide) (by decide) (by decide) (by decide) rfl ?_
  refine a_iinc (j := 1) d_Past_init_44 rfl (Nat.le_of_ble_eq_true rfl) [1, 0] (ls' := [(0, fs_r 95), (1, fs_i 12)]) rfl ?_
  show fs_At g m_Past_init 3 _ (169, 73, 464) 47 [(0, fs_r 95), (1, fs_i 12)] [] (fs_Tt 264) K
  refine a_goto (tgt := 25) d_Past_init_47 rfl ?_
  refine a_iload_n (j := 1) d_Past_init_25 rfl rfl ?_
  refine a_bipush d_Past_init_26 (by decide) ?_
  refine a_icmp_ge (tgt := 50) d_Past_init_28 rfl (fun q => absurd q (by decide)) (fun _ => ?_)
  refine a_aload_n (j := 0) d_Past_init_31 rfl rfl ?_
  refine a_getfield (v := fs_r 96) d_Past_init_32 fl_Past_11 ⟨by decide, rfl⟩ (by decide) (p_val (x := 96) (by decide +kernel) rfl) ?_
  refine a_iload_n (j := 1) d_Past_init_35 rfl rfl ?_
  refine p_new (idx := 9) (ci := 6) rfl d_Past_init_36 fs_kc6 ⟨(fs_inB 605 (by decide +kernel) rfl), (fs_inB 377 (by decide +kernel) rfl), (fs_inB 154 (by decide +kernel) rfl)⟩ rfl (by decide) (by decide +kernel) ⟨by decide, by decide⟩ ?_
  show fs_At g m_Past_init 3 _ (170, 74, 468) 39 [(0, fs_r 95), (1, fs_i 12)] [fs_r 169, fs_i 12, fs_r 96] (fs_Tt 264) K
  refine a_dup d_Past_init_39 rfl ?_
  refine a_invokeinit (dc := 2) (zc := (1, 170, 175, 5, 33)) (o := 169) [] [fs_r 169, fs_i 12, fs_r 96] d_Past_init_40 ml_Past_24 k_Plan_init v_Plan_init rfl rfl ⟨by decide, rfl⟩ rfl ⟨by decide, rfl, rfl, by decide, by decide, fun _ => rfl⟩ rfl (Nat.le_of_ble_eq_true rfl) (I_Plan_init_169 ?_)
  show fs_At g m_Past_init 3 _ (175, 79, 501) 43 [(0, fs_r 95), (1, fs_i 12)] [fs_r 169, fs_i 12, fs_r 96] (fs_Tt 268) K
  refine p_aast (ty := 6) (ci := 6) (n := 20) rfl d_Past_init_43 ⟨by decide, rfl⟩ (by decide) ⟨by decide, rfl⟩ (by decide) (by decide) (by decide) (by decide) rfl ?_
  refine a_iinc (j := 1) d_Past_init_44 rfl (Nat.le_of_ble_eq_true rfl) [1, 0] (ls' := [(0, fs_r 95), (1, fs_i 13)]) rfl ?_
  refine a_goto (tgt := 25) d_Past_init_47 rfl ?_
  refine a_iload_n (j := 1) d_Past_init_25 rfl rfl ?_
  show fs_At g m_Past_init 3 _ (175, 79, 501) 26 [(0, fs_r 95), (1, fs_i 13)] [fs_i 13] (fs_Tt 269) K
  refine a_bipush d_Past_init_26 (by decide) ?_
  refine a_icmp_ge (tgt := 50) d_Past_init_28 rfl (fun q => absurd q (by decide)) (fun _ => ?_)
  refine a_aload_n (j := 0) d_Past_init_31 rfl rfl ?_
  refine a_getfield (v := fs_r 96) d_Past_init_32 fl_Past_11 ⟨by decide, rfl⟩ (by decide) (p_val (x := 96) (by decide +kernel) rfl) ?_
  refine a_iload_n (j := 1) d_Past_init_35 rfl rfl ?_
  refine p_new (idx := 9) (ci := 6) rfl d_Past_init_36 fs_kc6 ⟨(fs_inB 605 (by decide +kernel) rfl), (fs_inB 377 (by decide +kernel) rfl), (fs_inB 154 (by decide +kernel) rfl)⟩ rfl (by decide) (by decide +kernel) ⟨by decide, by decide⟩ ?_
  show fs_At g m_Past_init 3 _ (176, 80, 505) 39 [(0, fs_r 95), (1, fs_i 13)] [fs_r 175, fs_i 13, fs_r 96] (fs_Tt 269) K
  refine a_dup d_Past_init_39 rfl ?_
  refine a_invokeinit (dc := 2) (zc := (1, 176, 181, 5, 33)) (o := 175) [] [fs_r 175, fs_i 13, fs_r 96] d_Past_init_40 ml_Past_24 k_Plan_init v_Plan_init rfl rfl ⟨by decide, rfl⟩ rfl ⟨by decide, rfl, rfl, by decide, by decide, fun _ => rfl⟩ rfl (Nat.le_of_ble_eq_true rfl) (I_Plan_init_175 ?_)
  show fs_At g m_Past_init 3 _ (181, 85, 538) 43 [(0, fs_r 95), (1, fs_i 13)] [fs_r 175, fs_i 13, fs_r 96] (fs_Tt 273) K
  refine p_aast (ty := 6) (ci := 6) (n := 20) rfl d_Past_init_43 ⟨by decide, rfl⟩ (by decide) ⟨by decide, rfl⟩ (by decide) (by decide) (by decide) (by decide) rfl ?_
  refine a_iinc (j := 1) d_Past_init_44 rfl (Nat.le_of_ble_eq_true rfl) [1, 0] (ls' := [(0, fs_r 95), (1, fs_i 14)]) rfl ?_
  refine a_goto (tgt := 25) d_Past_init_47 rfl ?_
  refine a_iload_n (j := 1) d_Past_init_25 rfl rfl ?_
  refine a_bipush d_Past_init_26 (by decide) ?_
  refine a_icmp_ge (tgt := 50) d_Past_init_28 rfl (fun q => absurd q (by decide)) (fun _ => ?_)
  show fs_At g m_Past_init 3 _ (181, 85, 538) 31 [(0, fs_r 95), (1, fs_i 14)] [] (fs_Tt 274) K
  refine a_aload_n (j := 0) d_Past_init_31 rfl rfl ?_
  refine a_getfield (v := fs_r 96) d_Past_init_32 fl_Past_11 ⟨by decide, rfl⟩ (by decide) (p_val (x := 96) (by decide +kernel) rfl) ?_
  refine a_iload_n (j := 1) d_Past_init_35 rfl rfl ?_
  refine p_new (idx := 9) (ci := 6) rfl d_Past_init_36 fs_kc6 ⟨(fs_inB 605 (by decide +kernel) rfl), (fs_inB 377 (by decide +kernel) rfl), (fs_inB 154 (by decide +kernel) rfl)⟩ rfl (by decide) (by decide +kernel) ⟨by decide, by decide⟩ ?_
  show fs_At g m_Past_init 3 _ (182, 86, 542) 39 [(0, fs_r 95), (1, fs_i 14)] [fs_r 181, fs_i 14, fs_r 96] (fs_Tt 274) K
  refine a_dup d_Past_init_39 rfl ?_
  refine a_invokeinit (dc := 2) (zc := (1, 182, 187, 5, 33)) (o := 181) [] [fs_r 181, fs_i 14, fs_r 96] d_Past_init_40 ml_Past_24 k_Plan_init v_Plan_init rfl rfl ⟨by decide, rfl⟩ rfl ⟨by decide, rfl, rfl, by decide, by decide, fun _ => rfl⟩ rfl (Nat.le_of_ble_eq_true rfl) (I_Plan_init_181 ?_)
  show fs_At g m_Past_init 3 _ (187, 91, 575) 43 [(0, fs_r 95), (1, fs_i 14)] [fs_r 181, fs_i 14, fs_r 96] (fs_Tt 278) K
  refine p_aast (ty := 6) (ci := 6) (n := 20) rfl d_Past_init_43 ⟨by decide, rfl⟩ (by decide) ⟨by decide, rfl⟩ (by decide) (by decide) (by decide) (by decide) rfl ?_
  refine a_iinc (j := 1) d_Past_init_44 rfl (Nat.le_of_ble_eq_true rfl) [1, 0] (ls' := [(0, fs_r 95), (1, fs_i 15)]) rfl ?_
  refine a_goto (tgt := 25) d_Past_init_47 rfl ?_
  refine a_iload_n (j := 1) d_Past_init_25 rfl rfl ?_
  refine a_bipush d_Past_init_26 (by decide) ?_
  refine a_icmp_ge (tgt := 50) d_Past_init_28 rfl (fun q => absurd q (by decide)) (fun _ => ?_)
  refine a_aload_n (j := 0) d_Past_init_31 rfl rfl ?_
  refine a_getfield (v := fs_r 96) d_Past_init_32 fl_Past_11 ⟨by decide, rfl⟩ (by decide) (p_val (x := 96) (by decide +kernel) rfl) ?_
  show fs_At g m_Past_init 3 _ (187, 91, 575) 35 [(0, fs_r 95), (1, fs_i 15)] [fs_r 96] (fs_Tt 279) K
  refine a_iload_n (j := 1) d_Past_init_35 rfl rfl ?_
  refine p_new (idx := 9) (ci := 6) rfl d_Past_init_36 fs_kc6 ⟨(fs_inB 605 (by decide +kernel) rfl), (fs_inB 377 (by decide +kernel) rfl), (fs_inB 154 (by decide +kernel) rfl)⟩ rfl (by decide) (by decide +kernel) ⟨by decide, by decide⟩ ?_
  show fs_At g m_Past_init 3 _ (188, 92, 579) 39 [(0, fs_r 95), (1, fs_i 15)] [fs_r 187, fs_i 15, fs_r 96] (fs_Tt 279) K
  refine a_dup d_Past_init_39 rfl ?_
  refine a_invokeinit (dc := 2) (zc := (1, 188, 193, 5, 33)) (o := 187) [] [fs_r 187, fs_i 15, fs_r 96] d_Past_init_40 ml_Past_24 k_Plan_init v_Plan_init rfl rfl ⟨by decide, rfl⟩ rfl ⟨by decide, rfl, rfl, by decide, by decide, fun _ => rfl⟩ rfl (Nat.le_of_ble_eq_true rfl) (I_Plan_init_187 ?_)
  show fs_At g m_Past_init 3 _ (193, 97, 612) 43 [(0, fs_r 95), (1, fs_i 15)] [fs_r 187, fs_i 15, fs_r 96] (fs_Tt 283) K
  refine p_aast (ty := 6) (ci := 6) (n := 20) rfl d_Past_init_43 ⟨by decide, rfl⟩ (by decide) ⟨by decide, rfl⟩ (by decide) (by decide) (by decide) (by decide) rfl ?_
  refine a_iinc (j := 1) d_Past_init_44 rfl (Nat.le_of_ble_eq_true rfl) [1, 0] (ls' := [(0, fs_r 95), (1, fs_i 16)]) rfl ?_
  refine a_goto (tgt := 25) d_Past_init_47 rfl ?_
  refine a_iload_n (j := 1) d_Past_init_25 rfl rfl ?_
  refine a_bipush d_Past_init_26 (by decide) ?_
  refine a_icmp_ge (tgt := 50) d_Past_init_28 rfl (fun q => absurd q (by decide)) (fun _ => ?_)
  refine a_aload_n (j := 0) d_Past_init_31 rfl rfl ?_
  refine a_getfield (v := fs_r 96) d_Past_init_32 fl_Past_11 ⟨by decide, rfl⟩ (by decide) (p_val (x := 96) (by decide +kernel) rfl) ?_
  refine a_iload_n (j := 1) d_Past_init_35 rfl rfl ?_
  refine p_new (idx := 9) (ci := 6) rfl d_Past_init_36 fs_kc6 ⟨(fs_inB 605 (by decide +kernel) rfl), (fs_inB 377 (by decide +kernel) rfl), (fs_inB 154 (by decide +kernel) rfl)⟩ rfl (by decide) (by decide +kernel) ⟨by decide, by decide⟩ ?_
  show fs_At g m_Past_init 3 _ (194, 98, 616) 39 [(0, fs_r 95), (1, fs_i 16)] [fs_r 193, fs_i 16, fs_r 96] (fs_Tt 284) K
  refine a_dup d_Past_init_39 rfl ?_
  show fs_At g m_Past_init 3 _ (194, 98, 616) 40 [(0, fs_r 95), (1, fs_i 16)] [fs_r 193, fs_r 193, fs_i 16, fs_r 96] (fs_Tt 284) K
  refine a_invokeinit (dc := 2) (zc := (1, 194, 199, 5, 33)) (o := 193) [] [fs_r 193, fs_i 16, fs_r 96] d_Past_init_40 ml_Past_24 k_Plan_init v_Plan_init rfl rfl ⟨by decide, rfl⟩ rfl ⟨by decide, rfl, rfl, by decide, by decide, fun _ => rfl⟩ rfl (Nat.le_of_ble_eq_true rfl) (I_Plan_init_193 ?_)
  show fs_At g m_Past_init 3 _ (199, 103, 649) 43 [(0, fs_r 95), (1, fs_i 16)] [fs_r 193, fs_i 16, fs_r 96] (fs_Tt 288) K
  refine p_aast (ty := 6) (ci := 6) (n := 20) rfl d_Past_init_43 ⟨by decide, rfl⟩ (by decide) ⟨by decide, rfl⟩ (by decide) (by decide) (by decide) (by decide) rfl ?_
  refine a_iinc (j := 1) d_Past_init_44 rfl (Nat.le_of_ble_eq_true rfl) [1, 0] (ls' := [(0, fs_r 95), (1, fs_i 17)]) rfl ?_
  refine a_goto (tgt := 25) d_Past_init_47 rfl ?_
  refine a_iload_n (j := 1) d_Past_init_25 rfl rfl ?_
  refine a_bipush d_Past_init_26 (by decide) ?_
  refine a_icmp_ge (tgt := 50) d_Past_init_28 rfl (fun q => absurd q (by decide)) (fun _ => ?_)
  refine a_aload_n (j := 0) d_Past_init_31 rfl rfl ?_
  refine a_getfield (v := fs_r 96) d_Past_init_32 fl_Past_11 ⟨by decide, rfl⟩ (by decide) (p_val (x := 96) (by decide +kernel) rfl) ?_
  refine a_iload_n (j := 1) d_Past_init_35 rfl rfl ?_
  refine p_new (idx := 9) (ci := 6) rfl d_Past_init_36 fs_kc6 ⟨(fs_inB 605 (by decide +kernel) rfl), (fs_inB 377 (by decide +kernel) rfl), (fs_inB 154 (by decide +kernel) rfl)⟩ rfl (by decide) (by decide +kernel) ⟨by decide, by decide⟩ ?_
  show fs_At g m_Past_init 3 _ (200, 104, 653) 39 [(0, fs_r 95), (1, fs_i 17)] [fs_r 199, fs_i 17, fs_r 96] (fs_Tt 289) K
  refine a_dup d_Past_init_39 rfl ?_
  refine a_invokeinit (dc := 2) (zc := (1, 200, 205, 5, 33)) (o := 199) [] [fs_r 199, fs_i 17, fs_r 96] d_Past_init_40 ml_Past_24 k_Plan_init v_Plan_init rfl rfl ⟨by decide, rfl⟩ rfl ⟨by decide, rfl, rfl, by decide, by decide, fun _ => rfl⟩ rfl (Nat.le_of_ble_eq_true rfl) (I_Plan_init_199 ?_)
  show fs_At g m_Past_init 3 _ (205, 109, 686) 43 [(0, fs_r 95), (1, fs_i 17)] [fs_r 199, fs_i 17, fs_r 96] (fs_Tt 293) K
  refine p_aast (ty := 6) (ci := 6) (n := 20) rfl d_Past_init_43 ⟨by decide, rfl⟩ (by decide) ⟨by decide, rfl⟩ (by decide) (by decide) (by decide) (by decide) rfl ?_
  refine a_iinc (j := 1) d_Past_init_44 rfl (Nat.le_of_ble_eq_true rfl) [1, 0] (ls' := [(0, fs_r 95), (1, fs_i 18)]) rfl ?_
  show fs_At g m_Past_init 3 _ (205, 109, 686) 47 [(0, fs_r 95), (1, fs_i 18)] [] (fs_Tt 294) K
  refine a_goto (tgt := 25) d_Past_init_47 rfl ?_
  refine a_iload_n (j := 1) d_Past_init_25 rfl rfl ?_
  refine a_bipush d_Past_init_26 (by decide) ?_
  refine a_icmp_ge (tgt := 50) d_Past_init_28 rfl (fun q => absurd q (by decide)) (fun _ => ?_)
  refine a_aload_n (j := 0) d_Past_init_31 rfl rfl ?_
  refine a_getfield (v := fs_r 96) d_Past_init_32 fl_Past_11 ⟨by decide, rfl⟩ (by decide) (p_val (x := 96) (by decide +kernel) rfl) ?_
  refine a_iload_n (j := 1) d_Past_init_35 rfl rfl ?_
  refine p_new (idx := 9) (ci := 6) rfl d_Past_init_36 fs_kc6 ⟨(fs_inB 605 (by decide +kernel) rfl), (fs_inB 377 (by decide +kernel) rfl), (fs_inB 154 (by decide +kernel) rfl)⟩ rfl (by decide) (by decide +kernel) ⟨by decide, by decide⟩ ?_
  show fs_At g m_Past_init 3 _ (206, 110, 690) 39 [(0, fs_r 95), (1, fs_i 18)] [fs_r 205, fs_i 18, fs_r 96] (fs_Tt 294) K
  refine a_dup d_Past_init_39 rfl ?_
  refine a_invokeinit (dc := 2) (zc := (1, 206, 211, 5, 33)) (o := 205) [] [fs_r 205, fs_i 18, fs_r 96] d_Past_init_40 ml_Past_24 k_Plan_init v_Plan_init rfl rfl ⟨by decide, rfl⟩ rfl ⟨by decide, rfl, rfl, by decide, by decide, fun _ => rfl⟩ rfl (Nat.le_of_ble_eq_true rfl) (I_Plan_init_205 ?_)
  show fs_At g m_Past_init 3 _ (211, 115, 723) 43 [(0, fs_r 95), (1, fs_i 18)] [fs_r 205, fs_i 18, fs_r 96] (fs_Tt 298) K
  refine p_aast (ty := 6) (ci := 6) (n := 20) rfl d_Past_init_43 ⟨by decide, rfl⟩ (by decide) ⟨by decide, rfl⟩ (by decide) (by decide) (by decide) (by decide) rfl ?_
  refine a_iinc (j := 1) d_Past_init_44 rfl (Nat.le_of_ble_eq_true rfl) [1, 0] (ls' := [(0, fs_r 95), (1, fs_i 19)]) rfl ?_
  refine a_goto (tgt := 25) d_Past_init_47 rfl ?_
  refine a_iload_n (j := 1) d_Past_init_25 rfl rfl ?_
  show fs_At g m_Past_init 3 _ (211, 115, 723) 26 [(0, fs_r 95), (1, fs_i 19)] [fs_i 19] (fs_Tt 299) K
  refine a_bipush d_Past_init_26 (by decide) ?_
  refine a_icmp_ge (tgt := 50) d_Past_init_28 rfl (fun q => absurd q (by decide)) (fun _ => ?_)
  refine a_aload_n (j := 0) d_Past_init_31 rfl rfl ?_
  refine a_getfield (v := fs_r 96) d_Past_init_32 fl_Past_11 ⟨by decide, rfl⟩ (by decide) (p_val (x := 96) (by decide +kernel) rfl) ?_
  refine a_iload_n (j := 1) d_Past_init_35 rfl rfl ?_
  refine p_new (idx := 9) (ci := 6) rfl d_Past_init_36 fs_kc6 ⟨(fs_inB 605 (by decide +kernel) rfl), (fs_inB 377 (by decide +kernel) rfl), (fs_inB 154 (by decide +kernel) rfl)⟩ rfl (by decide) (by decide +kernel) ⟨by decide, by decide⟩ ?_
  show fs_At g m_Past_init 3 _ (212, 116, 727) 39 [(0, fs_r 95), (1, fs_i 19)] [fs_r 211, fs_i 19, fs_r 96] (fs_Tt 299) K
  refine a_dup d_Past_init_39 rfl ?_
  refine a_invokeinit (dc := 2) (zc := (1, 212, 217, 5, 33)) (o := 211) [] [fs_r 211, fs_i 19, fs_r 96] d_Past_init_40 ml_Past_24 k_Plan_init v_Plan_init rfl rfl ⟨by decide, rfl⟩ rfl ⟨by decide, rfl, rfl, by decide, by decide, fun _ => rfl⟩ rfl (Nat.le_of_ble_eq_true rfl) (I_Plan_init_211 ?_)
  show fs_At g m_Past_init 3 _ (217, 121, 760) 43 [(0, fs_r 95), (1, fs_i 19)] [fs_r 211, fs_i 19, fs_r 96] (fs_Tt 303) K
  refine p_aast (ty := 6) (ci := 6) (n := 20) rfl d_Past_init_43 ⟨by decide, rfl⟩ (by decide) ⟨by decide, rfl⟩ (by decide) (by decide) (by decide) (by decide) rfl ?_
  refine a_iinc (j := 1) d_Past_init_44 rfl (Nat.le_of_ble_eq_true rfl) [1, 0] (ls' := [(0, fs_r 95), (1, fs_i 20)]) rfl ?_
  refine a_goto (tgt := 25) d_Past_init_47 rfl ?_
  refine a_iload_n (j := 1) d_Past_init_25 rfl rfl ?_
  refine a_bipush d_Past_init_26 (by decide) ?_
  refine a_icmp_ge (tgt := 50) d_Past_init_28 rfl (fun _ => ?_) (fun q => absurd (by decide) q)
  show fs_At g m_Past_init 3 _ (217, 121, 760) 50 [(0, fs_r 95), (1, fs_i 20)] [] (fs_Tt 304) K
  exact a_return d_Past_init_50 rfl ⟨rfl, by decide, by decide⟩ h
set_option maxRecDepth 8000 in
set_option maxHeartbeats 4000000 in
theorem I_Plan_init_217 {K : fs_K} (h : K none (fs_Tt 309)) : fs_Call g m_Plan_init 2 (1, 218, 223, 5, 33) [fs_r 217] (fs_Tt 305) K := by
  refine a_enter2 (ls := [(0, fs_r 217)]) (plainFor_of_name pn_Plan) (Nat.le_of_ble_eq_true rfl) rfl ?_
  show fs_At g m_Plan_init 2 _ (218, 0, 0) 0 [(0, fs_r 217)] [] (fs_Tt 305) K
  refine a_aload_n (j := 0) d_Plan_init_0 rfl rfl ?_
  refine p_objinit (idx := 3) d_Plan_init_1 ⟨(fs_inB 381 (by decide +kernel) rfl), ow_i, ow_c⟩ ⟨by decide, rfl⟩ rfl (by decide) ?_
  refine a_aload_n (j := 0) d_Plan_init_4 rfl rfl ?_
  refine a_iconst d_Plan_init_5 (by unfold fs_in32; omega) ?_
  refine a_bipush d_Plan_init_6 (by decide) ?_
  refine p_multi (ty := 3) (ti := 0) (n := 3) (k := 9) (t1 := .int) rfl d_Plan_init_8 ⟨(fs_inB 382 (by decide +kernel) rfl), aw_int⟩ (by simp) rfl (by decide +kernel) ⟨by decide, by decide⟩ (by decide +kernel) ⟨by decide, by decide⟩ ?_
  show fs_At g m_Plan_init 2 _ (222, 4, 30) 12 [(0, fs_r 217)] [fs_r 218, fs_r 217] (fs_Tt 305) K
  refine p_putF (x := 218) d_Plan_init_12 flF_Plan_11 rfl rfl rfl ⟨by decide, rfl⟩ (by decide) rfl fs_nar_arr rfl ?_
  refine a_aload_n (j := 0) d_Plan_init_15 rfl rfl ?_
  refine a_iconst d_Plan_init_16 (by unfold fs_in32; omega) ?_
  refine p_newarray (ty := 0) (n := 3) rfl d_Plan_init_17 aw_int (by simp) rfl (by decide) (by decide +kernel) ⟨by decide, by decide⟩ ?_
  show fs_At g m_Plan_init 2 _ (223, 5, 33) 19 [(0, fs_r 217)] [fs_r 222, fs_r 217] (fs_Tt 306) K
  refine p_putF (x := 222) d_Plan_init_19 flF_Plan_16 rfl rfl rfl ⟨by decide, rfl⟩ (by decide) rfl fs_nar_arr rfl ?_
  refine a_aload_n (j := 0) d_Plan_init_22 rfl rfl ?_
  refine a_iconst d_Plan_init_23 (by unfold fs_in32; omega) ?_
  refine p_put1 (x := 0) d_Plan_init_24 fl_Plan_20 rfl ⟨by decide, rfl⟩ (by decide) rfl fs_nar_int rfl ?_
  show fs_At g m_Plan_init 2 _ (223, 5, 33) 27 [(0, fs_r 217)] [] (fs_Tt 308) K
  refine a_aload_n (j := 0) d_Plan_init_27 rfl rfl ?_
  refine a_iconst d_Plan_init_28 (by unfold fs_in32; omega) ?_
  refine p_put1 (x := 0) d_Plan_init_29 fl_Plan_24 rfl ⟨by decide, rfl⟩ (by decide) rfl fs_nar_int rfl ?_
  exact a_return d_Plan_init_32 rfl ⟨rfl, by decide, by decide⟩ h
set_option maxRecDepth 8000 in
set_option maxHeartbeats 4000000 in
theorem I_Night_init_223 {K : fs_K} (h : K none (fs_Tt 314)) : fs_Call g m_Night_init 2 (1, 224, 226, 2, 12) [fs_r 223] (fs_Tt 310) K := by
  refine a_enter2 (ls := [(0, fs_r 223)]) (plainFor_of_name pn_Night) (Nat.le_of_ble_eq_true rfl) rfl ?_
  show fs_At g m_Night_init 2 _ (224, 0, 0) 0 [(0, fs_r 223)] [] (fs_Tt 310) K
  refine a_aload_n (j := 0) d_Night_init_0 rfl rfl ?_
  refine p_objinit (idx := 3) d_Night_init_1 ⟨(fs_inB 494 (by decide +kernel) rfl), ow_i, ow_c⟩ ⟨by decide, rfl⟩ rfl (by decide) ?_
  refine a_aload_n (j := 0) d_Night_init_4 rfl rfl ?_
  refine a_bipush d_Night_init_5 (by decide) ?_
  refine p_newarray (ty := 0) (n := 6) rfl d_Night_init_7 aw_int (by simp) rfl (by decide) (by decide +kernel) ⟨by decide, by decide⟩ ?_
  show fs_At g m_Night_init 2 _ (225, 1, 6) 9 [(0, fs_r 223)] [fs_r 224, fs_r 223] (fs_Tt 310) K
  refine p_putF (x := 224) d_Night_init_9 flF_Night_9 rfl rfl rfl ⟨by decide, rfl⟩ (by decide) rfl fs_nar_arr rfl ?_
  refine a_aload_n (j := 0) d_Night_init_12 rfl rfl ?_
  refine a_bipush d_Night_init_13 (by decide) ?_
  refine p_newarray (ty := 0) (n := 6) rfl d_Night_init_15 aw_int (by simp) rfl (by decide) (by decide +kernel) ⟨by decide, by decide⟩ ?_
  show fs_At g m_Night_init 2 _ (226, 2, 12) 17 [(0, fs_r 223)] [fs_r 225, fs_r 223] (fs_Tt 311) K
  refine p_putF (x := 225) d_Night_init_17 flF_Night_15 rfl rfl rfl ⟨by decide, rfl⟩ (by decide) rfl fs_nar_arr rfl ?_
  refine a_aload_n (j := 0) d_Night_init_20 rfl rfl ?_
  refine a_iconst d_Night_init_21 (by unfold fs_in32; omega) ?_
  refine p_put1 (x := 0) d_Night_init_22 fl_Night_18 rfl ⟨by decide, rfl⟩ (by decide) rfl fs_nar_int rfl ?_
  refine a_aload_n (j := 0) d_Night_init_25 rfl rfl ?_
  show fs_At g m_Night_init 2 _ (226, 2, 12) 26 [(0, fs_r 223)] [fs_r 223] (fs_Tt 313) K
  refine a_iconst d_Night_init_26 (by unfold fs_in32; omega) ?_
  refine p_put1 (x := 0) d_Night_init_27 fl_Night_22 rfl ⟨by decide, rfl⟩ (by decide) rfl fs_nar_int rfl ?_
  exact a_return d_Night_init_30 rfl ⟨rfl, by decide, by decide⟩ h
set_option maxRecDepth 8000 in
set_option maxHeartbeats 4000000 in
theorem I_Fs_init_0 {K : fs_K} (h : K none (fs_Tt 319)) : fs_Call g m_Fs_init 4 (1, 1, 226, 225, 18485) [fs_r 0] (fs_Tt 0) K := by
  refine a_enter2 (ls := [(0, fs_r 0)]) (plainFor_of_name pn_Fs) (Nat.le_of_ble_eq_true rfl) rfl ?_
  show fs_At g m_Fs_init 4 _ (1, 0, 0) 0 [(0, fs_r 0)] [] (fs_Tt 0) K
  refine a_aload_n (j := 0) d_Fs_init_0 rfl rfl ?_
  refine p_objinit (idx := 3) d_Fs_init_1 ⟨(fs_inB 180 (by decide +kernel) rfl), ow_i, ow_c⟩ ⟨by decide, rfl⟩ rfl (by decide) ?_
  refine a_aload_n (j := 0) d_Fs_init_4 rfl rfl ?_
  refine p_new (idx := 9) (ci := 8) rfl d_Fs_init_5 fs_kc8 ⟨(fs_inB 183 (by decide +kernel) rfl), (fs_inB 184 (by decide +kernel) rfl), (fs_inB 149 (by decide +kernel) rfl)⟩ rfl (by decide) (by decide +kernel) ⟨by decide, by decide⟩ ?_
  show fs_At g m_Fs_init 4 _ (2, 1, 13) 8 [(0, fs_r 0)] [fs_r 1, fs_r 0] (fs_Tt 0) K
  refine a_dup d_Fs_init_8 rfl ?_
  refine a_invokeinit (dc := 3) (zc := (1, 2, 15, 13, 247)) (o := 1) [] [fs_r 1, fs_r 0] d_Fs_init_9 ml_Fs_11 k_Script_init v_Script_init rfl rfl ⟨by decide, rfl⟩ rfl ⟨by decide, rfl, rfl, by decide, by decide, fun _ => rfl⟩ rfl (Nat.le_of_ble_eq_true rfl) (I_Script_init_1 ?_)
  show fs_At g m_Fs_init 4 _ (15, 14, 260) 12 [(0, fs_r 0)] [fs_r 1, fs_r 0] (fs_Tt 27) K
  refine p_putF (x := 1) d_Fs_init_12 flF_Fs_12 rfl rfl rfl ⟨by decide, rfl⟩ (by decide) rfl fs_nar_obj rfl ?_
  refine a_aload_n (j := 0) d_Fs_init_15 rfl rfl ?_
  refine p_new (idx := 9) (ci := 8) rfl d_Fs_init_16 fs_kc8 ⟨(fs_inB 183 (by decide +kernel) rfl), (fs_inB 184 (by decide +kernel) rfl), (fs_inB 149 (by decide +kernel) rfl)⟩ rfl (by decide) (by decide +kernel) ⟨by decide, by decide⟩ ?_
  show fs_At g m_Fs_init 4 _ (16, 15, 273) 19 [(0, fs_r 0)] [fs_r 15, fs_r 0] (fs_Tt 28) K
  refine a_dup d_Fs_init_19 rfl ?_
  refine a_invokeinit (dc := 3) (zc := (1, 16, 29, 13, 247)) (o := 15) [] [fs_r 15, fs_r 0] d_Fs_init_20 ml_Fs_11 k_Script_init v_Script_init rfl rfl ⟨by decide, rfl⟩ rfl ⟨by decide, rfl, rfl, by decide, by decide, fun _ => rfl⟩ rfl (Nat.le_of_ble_eq_true rfl) (I_Script_init_15 ?_)
  show fs_At g m_Fs_init 4 _ (29, 28, 520) 23 [(0, fs_r 0)] [fs_r 15, fs_r 0] (fs_Tt 55) K
  refine p_putF (x := 15) d_Fs_init_23 flF_Fs_16 rfl rfl rfl ⟨by decide, rfl⟩ (by decide) rfl fs_nar_obj rfl ?_
  refine a_aload_n (j := 0) d_Fs_init_26 rfl rfl ?_
  refine p_new (idx := 19) (ci := 7) rfl d_Fs_init_27 fs_kc7 ⟨(fs_inB 328 (by decide +kernel) rfl), (fs_inB 329 (by decide +kernel) rfl), (fs_inB 151 (by decide +kernel) rfl)⟩ rfl (by decide) (by decide +kernel) ⟨by decide, by decide⟩ ?_
  show fs_At g m_Fs_init 4 _ (30, 29, 532) 30 [(0, fs_r 0)] [fs_r 29, fs_r 0] (fs_Tt 56) K
  refine a_dup d_Fs_init_30 rfl ?_
  refine a_aload_n (j := 0) d_Fs_init_31 rfl rfl ?_
  refine a_getfield (v := fs_r 15) d_Fs_init_32 fl_Fs_16 ⟨by decide, rfl⟩ (by decide) (p_val (x := 15) (by decide +kernel) rfl) ?_
  show fs_At g m_Fs_init 4 _ (30, 29, 532) 35 [(0, fs_r 0)] [fs_r 15, fs_r 29, fs_r 29, fs_r 0] (fs_Tt 56) K
  refine a_invokeinit (dc := 2) (zc := (1, 30, 31, 1, 600)) (o := 29) [fs_r 15] [fs_r 29, fs_r 0] d_Fs_init_35 ml_Fs_21 k_Reader_init v_Reader_init rfl rfl ⟨by decide, rfl⟩ rfl ⟨by decide, rfl, rfl, by decide, by decide, fun _ => rfl⟩ rfl (Nat.le_of_ble_eq_true rfl) (I_Reader_init_29 ?_)
  show fs_At g m_Fs_init 4 _ (31, 30, 1132) 38 [(0, fs_r 0)] [fs_r 29, fs_r 0] (fs_Tt 68) K
  refine p_putF (x := 29) d_Fs_init_38 flF_Fs_24 rfl rfl rfl ⟨by decide, rfl⟩ (by decide) rfl fs_nar_obj rfl ?_
  refine a_aload_n (j := 0) d_Fs_init_41 rfl rfl ?_
  refine p_new (idx := 28) (ci := 6) rfl d_Fs_init_42 fs_kc6 ⟨(fs_inB 376 (by decide +kernel) rfl), (fs_inB 377 (by decide +kernel) rfl), (fs_inB 154 (by decide +kernel) rfl)⟩ rfl (by decide) (by decide +kernel) ⟨by decide, by decide⟩ ?_
  show fs_At g m_Fs_init 4 _ (32, 31, 1136) 45 [(0, fs_r 0)] [fs_r 31, fs_r 0] (fs_Tt 69) K
  refine a_dup d_Fs_init_45 rfl ?_
  refine a_invokeinit (dc := 2) (zc := (1, 32, 37, 5, 33)) (o := 31) [] [fs_r 31, fs_r 0] d_Fs_init_46 ml_Fs_30 k_Plan_init v_Plan_init rfl rfl ⟨by decide, rfl⟩ rfl ⟨by decide, rfl, rfl, by decide, by decide, fun _ => rfl⟩ rfl (Nat.le_of_ble_eq_true rfl) (I_Plan_init_31 ?_)
  show fs_At g m_Fs_init 4 _ (37, 36, 1169) 49 [(0, fs_r 0)] [fs_r 31, fs_r 0] (fs_Tt 73) K
  refine p_putF (x := 31) d_Fs_init_49 flF_Fs_31 rfl rfl rfl ⟨by decide, rfl⟩ (by decide) rfl fs_nar_obj rfl ?_
  refine a_aload_n (j := 0) d_Fs_init_52 rfl rfl ?_
  refine p_new (idx := 28) (ci := 6) rfl d_Fs_init_53 fs_kc6 ⟨(fs_inB 376 (by decide +kernel) rfl), (fs_inB 377 (by decide +kernel) rfl), (fs_inB 154 (by decide +kernel) rfl)⟩ rfl (by decide) (by decide +kernel) ⟨by decide, by decide⟩ ?_
  show fs_At g m_Fs_init 4 _ (38, 37, 1173) 56 [(0, fs_r 0)] [fs_r 37, fs_r 0] (fs_Tt 74) K
  refine a_dup d_Fs_init_56 rfl ?_
  refine a_invokeinit (dc := 2) (zc := (1, 38, 43, 5, 33)) (o := 37) [] [fs_r 37, fs_r 0] d_Fs_init_57 ml_Fs_30 k_Plan_init v_Plan_init rfl rfl ⟨by decide, rfl⟩ rfl ⟨by decide, rfl, rfl, by decide, by decide, fun _ => rfl⟩ rfl (Nat.le_of_ble_eq_true rfl) (I_Plan_init_37 ?_)
  show fs_At g m_Fs_init 4 _ (43, 42, 1206) 60 [(0, fs_r 0)] [fs_r 37, fs_r 0] (fs_Tt 78) K
  refine p_putF (x := 37) d_Fs_init_60 flF_Fs_35 rfl rfl rfl ⟨by decide, rfl⟩ (by decide) rfl fs_nar_obj rfl ?_
  refine a_aload_n (j := 0) d_Fs_init_63 rfl rfl ?_
  refine p_new (idx := 38) (ci := 1) rfl d_Fs_init_64 fs_kc1 ⟨(fs_inB 405 (by decide +kernel) rfl), (fs_inB 406 (by decide +kernel) rfl), (fs_inB 155 (by decide +kernel) rfl)⟩ rfl (by decide) (by decide +kernel) ⟨by decide, by decide⟩ ?_
  show fs_At g m_Fs_init 4 _ (44, 43, 1214) 67 [(0, fs_r 0)] [fs_r 43, fs_r 0] (fs_Tt 79) K
  refine a_dup d_Fs_init_67 rfl ?_
  refine a_aload_n (j := 0) d_Fs_init_68 rfl rfl ?_
  refine a_getfield (v := fs_r 1) d_Fs_init_69 fl_Fs_12 ⟨by decide, rfl⟩ (by decide) (p_val (x := 1) (by decide +kernel) rfl) ?_
  refine a_aload_n (j := 0) d_Fs_init_72 rfl rfl ?_
  show fs_At g m_Fs_init 4 _ (44, 43, 1214) 73 [(0, fs_r 0)] [fs_r 0, fs_r 1, fs_r 43, fs_r 43, fs_r 0] (fs_Tt 79) K
  refine a_getfield (v := fs_r 31) d_Fs_init_73 fl_Fs_31 ⟨by decide, rfl⟩ (by decide) (p_val (x := 31) (by decide +kernel) rfl) ?_
  refine a_invokeinit (dc := 3) (zc := (1, 44, 54, 10, 66)) (o := 43) [fs_r 1, fs_r 31] [fs_r 43, fs_r 0] d_Fs_init_76 ml_Fs_40 k_Course_init v_Course_init rfl rfl ⟨by decide, rfl⟩ rfl ⟨by decide, rfl, rfl, by decide, by decide, fun _ => rfl⟩ rfl (Nat.le_of_ble_eq_true rfl) (I_Course_init_43 ?_)
  show fs_At g m_Fs_init 4 _ (54, 53, 1280) 79 [(0, fs_r 0)] [fs_r 43, fs_r 0] (fs_Tt 111) K
  refine p_putF (x := 43) d_Fs_init_79 flF_Fs_43 rfl rfl rfl ⟨by decide, rfl⟩ (by decide) rfl fs_nar_obj rfl ?_
  refine a_aload_n (j := 0) d_Fs_init_82 rfl rfl ?_
  refine p_new (idx := 47) (ci := 4) rfl d_Fs_init_83 fs_kc4 ⟨(fs_inB 489 (by decide +kernel) rfl), (fs_inB 490 (by decide +kernel) rfl), (fs_inB 157 (by decide +kernel) rfl)⟩ rfl (by decide) (by decide +kernel) ⟨by decide, by decide⟩ ?_
  show fs_At g m_Fs_init 4 _ (55, 54, 1284) 86 [(0, fs_r 0)] [fs_r 54, fs_r 0] (fs_Tt 112) K
  refine a_dup d_Fs_init_86 rfl ?_
  refine a_invokeinit (dc := 2) (zc := (1, 55, 57, 2, 12)) (o := 54) [] [fs_r 54, fs_r 0] d_Fs_init_87 ml_Fs_49 k_Night_init v_Night_init rfl rfl ⟨by decide, rfl⟩ rfl ⟨by decide, rfl, rfl, by decide, by decide, fun _ => rfl⟩ rfl (Nat.le_of_ble_eq_true rfl) (I_Night_init_54 ?_)
  show fs_At g m_Fs_init 4 _ (57, 56, 1296) 90 [(0, fs_r 0)] [fs_r 54, fs_r 0] (fs_Tt 116) K
  refine p_putF (x := 54) d_Fs_init_90 flF_Fs_50 rfl rfl rfl ⟨by decide, rfl⟩ (by decide) rfl fs_nar_obj rfl ?_
  refine a_aload_n (j := 0) d_Fs_init_93 rfl rfl ?_
  refine p_new (idx := 47) (ci := 4) rfl d_Fs_init_94 fs_kc4 ⟨(fs_inB 489 (by decide +kernel) rfl), (fs_inB 490 (by decide +kernel) rfl), (fs_inB 157 (by decide +kernel) rfl)⟩ rfl (by decide) (by decide +kernel) ⟨by decide, by decide⟩ ?_
  show fs_At g m_Fs_init 4 _ (58, 57, 1300) 97 [(0, fs_r 0)] [fs_r 57, fs_r 0] (fs_Tt 117) K
  refine a_dup d_Fs_init_97 rfl ?_
  refine a_invokeinit (dc := 2) (zc := (1, 58, 60, 2, 12)) (o := 57) [] [fs_r 57, fs_r 0] d_Fs_init_98 ml_Fs_49 k_Night_init v_Night_init rfl rfl ⟨by decide, rfl⟩ rfl ⟨by decide, rfl, rfl, by decide, by decide, fun _ => rfl⟩ rfl (Nat.le_of_ble_eq_true rfl) (I_Night_init_57 ?_)
  show fs_At g m_Fs_init 4 _ (60, 59, 1312) 101 [(0, fs_r 0)] [fs_r 57, fs_r 0] (fs_Tt 121) K
  refine p_putF (x := 57) d_Fs_init_101 flF_Fs_54 rfl rfl rfl ⟨by decide, rfl⟩ (by decide) rfl fs_nar_obj rfl ?_
  refine a_aload_n (j := 0) d_Fs_init_104 rfl rfl ?_
  refine p_new (idx := 57) (ci := 0) rfl d_Fs_init_105 fs_kc0 ⟨(fs_inB 511 (by decide +kernel) rfl), (fs_inB 512 (by decide +kernel) rfl), (fs_inB 158 (by decide +kernel) rfl)⟩ rfl (by decide) (by decide +kernel) ⟨by decide, by decide⟩ ?_
  show fs_At g m_Fs_init 4 _ (61, 60, 1327) 108 [(0, fs_r 0)] [fs_r 60, fs_r 0] (fs_Tt 122) K
  refine a_dup d_Fs_init_108 rfl ?_
  refine a_aload_n (j := 0) d_Fs_init_109 rfl rfl ?_
  refine a_getfield (v := fs_r 1) d_Fs_init_110 fl_Fs_12 ⟨by decide, rfl⟩ (by decide) (p_val (x := 1) (by decide +kernel) rfl) ?_
  show fs_At g m_Fs_init 4 _ (61, 60, 1327) 113 [(0, fs_r 0)] [fs_r 1, fs_r 60, fs_r 60, fs_r 0] (fs_Tt 122) K
  refine a_aload_n (j := 0) d_Fs_init_113 rfl rfl ?_
  refine a_getfield (v := fs_r 43) d_Fs_init_114 fl_Fs_43 ⟨by decide, rfl⟩ (by decide) (p_val (x := 43) (by decide +kernel) rfl) ?_
  refine a_invokeinit (dc := 3) (zc := (1, 61, 90, 29, 16240)) (o := 60) [fs_r 1, fs_r 43] [fs_r 60, fs_r 0] d_Fs_init_117 ml_Fs_59 k_Book_init v_Book_init rfl rfl ⟨by decide, rfl⟩ rfl ⟨by decide, rfl, rfl, by decide, by decide, fun _ => rfl⟩ rfl (Nat.le_of_ble_eq_true rfl) (I_Book_init_60 ?_)
  show fs_At g m_Fs_init 4 _ (90, 89, 17567) 120 [(0, fs_r 0)] [fs_r 60, fs_r 0] (fs_Tt 193) K
  refine p_putF (x := 60) d_Fs_init_120 flF_Fs_62 rfl rfl rfl ⟨by decide, rfl⟩ (by decide) rfl fs_nar_obj rfl ?_
  refine a_aload_n (j := 0) d_Fs_init_123 rfl rfl ?_
  refine p_new (idx := 66) (ci := 9) rfl d_Fs_init_124 fs_kc9 ⟨(fs_inB 572 (by decide +kernel) rfl), (fs_inB 573 (by decide +kernel) rfl), (fs_inB 159 (by decide +kernel) rfl)⟩ rfl (by decide) (by decide +kernel) ⟨by decide, by decide⟩ ?_
  show fs_At g m_Fs_init 4 _ (91, 90, 17573) 127 [(0, fs_r 0)] [fs_r 90, fs_r 0] (fs_Tt 194) K
  refine a_dup d_Fs_init_127 rfl ?_
  refine a_invokeinit (dc := 2) (zc := (1, 91, 95, 4, 96)) (o := 90) [] [fs_r 90, fs_r 0] d_Fs_init_128 ml_Fs_68 k_Tracks_init v_Tracks_init rfl rfl ⟨by decide, rfl⟩ rfl ⟨by decide, rfl, rfl, by decide, by decide, fun _ => rfl⟩ rfl (Nat.le_of_ble_eq_true rfl) (I_Tracks_init_90 ?_)
  show fs_At g m_Fs_init 4 _ (95, 94, 17669) 131 [(0, fs_r 0)] [fs_r 90, fs_r 0] (fs_Tt 200) K
  refine p_putF (x := 90) d_Fs_init_131 flF_Fs_69 rfl rfl rfl ⟨by decide, rfl⟩ (by decide) rfl fs_nar_obj rfl ?_
  refine a_aload_n (j := 0) d_Fs_init_134 rfl rfl ?_
  refine p_new (idx := 73) (ci := 5) rfl d_Fs_init_135 fs_kc5 ⟨(fs_inB 599 (by decide +kernel) rfl), (fs_inB 600 (by decide +kernel) rfl), (fs_inB 160 (by decide +kernel) rfl)⟩ rfl (by decide) (by decide +kernel) ⟨by decide, by decide⟩ ?_
  show fs_At g m_Fs_init 4 _ (96, 95, 17672) 138 [(0, fs_r 0)] [fs_r 95, fs_r 0] (fs_Tt 201) K
  refine a_dup d_Fs_init_138 rfl ?_
  refine a_invokeinit (dc := 3) (zc := (1, 96, 217, 121, 760)) (o := 95) [] [fs_r 95, fs_r 0] d_Fs_init_139 ml_Fs_75 k_Past_init v_Past_init rfl rfl ⟨by decide, rfl⟩ rfl ⟨by decide, rfl, rfl, by decide, by decide, fun _ => rfl⟩ rfl (Nat.le_of_ble_eq_true rfl) (I_Past_init_95 ?_)
  show fs_At g m_Fs_init 4 _ (217, 216, 18432) 142 [(0, fs_r 0)] [fs_r 95, fs_r 0] (fs_Tt 304) K
  refine p_putF (x := 95) d_Fs_init_142 flF_Fs_76 rfl rfl rfl ⟨by decide, rfl⟩ (by decide) rfl fs_nar_obj rfl ?_
  refine a_aload_n (j := 0) d_Fs_init_145 rfl rfl ?_
  refine p_new (idx := 28) (ci := 6) rfl d_Fs_init_146 fs_kc6 ⟨(fs_inB 376 (by decide +kernel) rfl), (fs_inB 377 (by decide +kernel) rfl), (fs_inB 154 (by decide +kernel) rfl)⟩ rfl (by decide) (by decide +kernel) ⟨by decide, by decide⟩ ?_
  show fs_At g m_Fs_init 4 _ (218, 217, 18436) 149 [(0, fs_r 0)] [fs_r 217, fs_r 0] (fs_Tt 305) K
  refine a_dup d_Fs_init_149 rfl ?_
  refine a_invokeinit (dc := 2) (zc := (1, 218, 223, 5, 33)) (o := 217) [] [fs_r 217, fs_r 0] d_Fs_init_150 ml_Fs_30 k_Plan_init v_Plan_init rfl rfl ⟨by decide, rfl⟩ rfl ⟨by decide, rfl, rfl, by decide, by decide, fun _ => rfl⟩ rfl (Nat.le_of_ble_eq_true rfl) (I_Plan_init_217 ?_)
  show fs_At g m_Fs_init 4 _ (223, 222, 18469) 153 [(0, fs_r 0)] [fs_r 217, fs_r 0] (fs_Tt 309) K
  refine p_putF (x := 217) d_Fs_init_153 flF_Fs_80 rfl rfl rfl ⟨by decide, rfl⟩ (by decide) rfl fs_nar_obj rfl ?_
  show fs_At g m_Fs_init 4 _ (223, 222, 18469) 156 [(0, fs_r 0)] [] (fs_Tt 310) K
  refine a_aload_n (j := 0) d_Fs_init_156 rfl rfl ?_
  refine p_new (idx := 47) (ci := 4) rfl d_Fs_init_157 fs_kc4 ⟨(fs_inB 489 (by decide +kernel) rfl), (fs_inB 490 (by decide +kernel) rfl), (fs_inB 157 (by decide +kernel) rfl)⟩ rfl (by decide) (by decide +kernel) ⟨by decide, by decide⟩ ?_
  show fs_At g m_Fs_init 4 _ (224, 223, 18473) 160 [(0, fs_r 0)] [fs_r 223, fs_r 0] (fs_Tt 310) K
  refine a_dup d_Fs_init_160 rfl ?_
  refine a_invokeinit (dc := 2) (zc := (1, 224, 226, 2, 12)) (o := 223) [] [fs_r 223, fs_r 0] d_Fs_init_161 ml_Fs_49 k_Night_init v_Night_init rfl rfl ⟨by decide, rfl⟩ rfl ⟨by decide, rfl, rfl, by decide, by decide, fun _ => rfl⟩ rfl (Nat.le_of_ble_eq_true rfl) (I_Night_init_223 ?_)
  show fs_At g m_Fs_init 4 _ (226, 225, 18485) 164 [(0, fs_r 0)] [fs_r 223, fs_r 0] (fs_Tt 314) K
  refine p_putF (x := 223) d_Fs_init_164 flF_Fs_83 rfl rfl rfl ⟨by decide, rfl⟩ (by decide) rfl fs_nar_obj rfl ?_
  refine a_aload_n (j := 0) d_Fs_init_167 rfl rfl ?_
  refine a_iconst d_Fs_init_168 (by unfold fs_in32; omega) ?_
  refine p_put1 (x := 0) d_Fs_init_169 fl_Fs_86 rfl ⟨by decide, rfl⟩ (by decide) rfl (fs_nar_bool (by decide)) rfl ?_
  refine a_aload_n (j := 0) d_Fs_init_172 rfl rfl ?_
  refine a_iconst d_Fs_init_173 (by unfold fs_in32; omega) ?_
  refine p_put1 (x := 0) d_Fs_init_174 fl_Fs_90 rfl ⟨by decide, rfl⟩ (by decide) rfl fs_nar_int rfl ?_
  refine a_aload_n (j := 0) d_Fs_init_177 rfl rfl ?_
  refine a_iconst d_Fs_init_178 (by unfold fs_in32; omega) ?_
  refine p_put1 (x := (-1)) d_Fs_init_179 fl_Fs_94 rfl ⟨by decide, rfl⟩ (by decide) rfl fs_nar_int rfl ?_
  show fs_At g m_Fs_init 4 _ (226, 225, 18485) 182 [(0, fs_r 0)] [] (fs_Tt 318) K
  refine a_aload_n (j := 0) d_Fs_init_182 rfl rfl ?_
  refine a_iconst d_Fs_init_183 (by unfold fs_in32; omega) ?_
  refine p_put1 (x := (-1)) d_Fs_init_184 fl_Fs_97 rfl ⟨by decide, rfl⟩ (by decide) rfl fs_nar_int rfl ?_
  exact a_return d_Fs_init_187 rfl ⟨rfl, by decide, by decide⟩ h
end CTOR
