-- ===== printed by program (wip/whole/gen11.py): what stands at each place of a method =====
theorem d_Fs_init_0 : decode m_Fs_init.2.1 0 = .ok (.aload_n 0, 1) := by decide +kernel
theorem d_Fs_init_1 : decode m_Fs_init.2.1 1 = .ok (.invokespecial 3, 3) := by decide +kernel
theorem d_Fs_init_4 : decode m_Fs_init.2.1 4 = .ok (.aload_n 0, 1) := by decide +kernel
theorem d_Fs_init_5 : decode m_Fs_init.2.1 5 = .ok (.new 9, 3) := by decide +kernel
theorem d_Fs_init_8 : decode m_Fs_init.2.1 8 = .ok (.dup, 1) := by decide +kernel
theorem d_Fs_init_9 : decode m_Fs_init.2.1 9 = .ok (.invokespecial 11, 3) := by decide +kernel
theorem d_Fs_init_12 : decode m_Fs_init.2.1 12 = .ok (.putfield 12, 3) := by decide +kernel
theorem d_Fs_init_15 : decode m_Fs_init.2.1 15 = .ok (.aload_n 0, 1) := by decide +kernel
theorem d_Fs_init_16 : decode m_Fs_init.2.1 16 = .ok (.new 9, 3) := by decide +kernel
theorem d_Fs_init_19 : decode m_Fs_init.2.1 19 = .ok (.dup, 1) := by decide +kernel
theorem d_Fs_init_20 : decode m_Fs_init.2.1 20 = .ok (.invokespecial 11, 3) := by decide +kernel
theorem d_Fs_init_23 : decode m_Fs_init.2.1 23 = .ok (.putfield 16, 3) := by decide +kernel
theorem d_Fs_init_26 : decode m_Fs_init.2.1 26 = .ok (.aload_n 0, 1) := by decide +kernel
theorem d_Fs_init_27 : decode m_Fs_init.2.1 27 = .ok (.new 19, 3) := by decide +kernel
theorem d_Fs_init_30 : decode m_Fs_init.2.1 30 = .ok (.dup, 1) := by decide +kernel
theorem d_Fs_init_31 : decode m_Fs_init.2.1 31 = .ok (.aload_n 0, 1) := by decide +kernel
theorem d_Fs_init_32 : decode m_Fs_init.2.1 32 = .ok (.getfield 16, 3) := by decide +kernel
theorem d_Fs_init_35 : decode m_Fs_init.2.1 35 = .ok (.invokespecial 21, 3) := by decide +kernel
theorem d_Fs_init_38 : decode m_Fs_init.2.1 38 = .ok (.putfield 24, 3) := by decide +kernel
theorem d_Fs_init_41 : decode m_Fs_init.2.1 41 = .ok (.aload_n 0, 1) := by decide +kernel
theorem d_Fs_init_42 : decode m_Fs_init.2.1 42 = .ok (.new 28, 3) := by decide +kernel
theorem d_Fs_init_45 : decode m_Fs_init.2.1 45 = .ok (.dup, 1) := by decide +kernel
theorem d_Fs_init_46 : decode m_Fs_init.2.1 46 = .ok (.invokespecial 30, 3) := by decide +kernel
theorem d_Fs_init_49 : decode m_Fs_init.2.1 49 = .ok (.putfield 31, 3) := by decide +kernel
theorem d_Fs_init_52 : decode m_Fs_init.2.1 52 = .ok (.aload_n 0, 1) := by decide +kernel
theorem d_Fs_init_53 : decode m_Fs_init.2.1 53 = .ok (.new 28, 3) := by decide +kernel
theorem d_Fs_init_56 : decode m_Fs_init.2.1 56 = .ok (.dup, 1) := by decide +kernel
theorem d_Fs_init_57 : decode m_Fs_init.2.1 57 = .ok (.invokespecial 30, 3) := by decide +kernel
theorem d_Fs_init_60 : decode m_Fs_init.2.1 60 = .ok (.putfield 35, 3) := by decide +kernel
theorem d_Fs_init_63 : decode m_Fs_init.2.1 63 = .ok (.aload_n 0, 1) := by decide +kernel
theorem d_Fs_init_64 : decode m_Fs_init.2.1 64 = .ok (.new 38, 3) := by decide +kernel
theorem d_Fs_init_67 : decode m_Fs_init.2.1 67 = .ok (.dup, 1) := by decide +kernel
theorem d_Fs_init_68 : decode m_Fs_init.2.1 68 = .ok (.aload_n 0, 1) := by decide +kernel
theorem d_Fs_init_69 : decode m_Fs_init.2.1 69 = .ok (.getfield 12, 3) := by decide +kernel
theorem d_Fs_init_72 : decode m_Fs_init.2.1 72 = .ok (.aload_n 0, 1) := by decide +kernel
theorem d_Fs_init_73 : decode m_Fs_init.2.1 73 = .ok (.getfield 31, 3) := by decide +kernel
theorem d_Fs_init_76 : decode m_Fs_init.2.1 76 = .ok (.invokespecial 40, 3) := by decide +kernel
theorem d_Fs_init_79 : decode m_Fs_init.2.1 79 = .ok (.putfield 43, 3) := by decide +kernel
theorem d_Fs_init_82 : decode m_Fs_init.2.1 82 = .ok (.aload_n 0, 1) := by decide +kernel
theorem d_Fs_init_83 : decode m_Fs_init.2.1 83 = .ok (.new 47, 3) := by decide +kernel
theorem d_Fs_init_86 : decode m_Fs_init.2.1 86 = .ok (.dup, 1) := by decide +kernel
theorem d_Fs_init_87 : decode m_Fs_init.2.1 87 = .ok (.invokespecial 49, 3) := by decide +kernel
theorem d_Fs_init_90 : decode m_Fs_init.2.1 90 = .ok (.putfield 50, 3) := by decide +kernel
theorem d_Fs_init_93 : decode m_Fs_init.2.1 93 = .ok (.aload_n 0, 1) := by decide +kernel
theorem d_Fs_init_94 : decode m_Fs_init.2.1 94 = .ok (.new 47, 3) := by decide +kernel
theorem d_Fs_init_97 : decode m_Fs_init.2.1 97 = .ok (.dup, 1) := by decide +kernel
theorem d_Fs_init_98 : decode m_Fs_init.2.1 98 = .ok (.invokespecial 49, 3) := by decide +kernel
theorem d_Fs_init_101 : decode m_Fs_init.2.1 101 = .ok (.putfield 54, 3) := by decide +kernel
theorem d_Fs_init_104 : decode m_Fs_init.2.1 104 = .ok (.aload_n 0, 1) := by decide +kernel
theorem d_Fs_init_105 : decode m_Fs_init.2.1 105 = .ok (.new 57, 3) := by decide +kernel
theorem d_Fs_init_108 : decode m_Fs_init.2.1 108 = .ok (.dup, 1) := by decide +kernel
theorem d_Fs_init_109 : decode m_Fs_init.2.1 109 = .ok (.aload_n 0, 1) := by decide +kernel
theorem d_Fs_init_110 : decode m_Fs_init.2.1 110 = .ok (.getfield 12, 3) := by decide +kernel
theorem d_Fs_init_113 : decode m_Fs_init.2.1 113 = .ok (.aload_n 0, 1) := by decide +kernel
theorem d_Fs_init_114 : decode m_Fs_init.2.1 114 = .ok (.getfield 43, 3) := by decide +kernel
theorem d_Fs_init_117 : decode m_Fs_init.2.1 117 = .ok (.invokespecial 59, 3) := by decide +kernel
theorem d_Fs_init_120 : decode m_Fs_init.2.1 120 = .ok (.putfield 62, 3) := by decide +kernel
theorem d_Fs_init_123 : decode m_Fs_init.2.1 123 = .ok (.aload_n 0, 1) := by decide +kernel
theorem d_Fs_init_124 : decode m_Fs_init.2.1 124 = .ok (.new 66, 3) := by decide +kernel
theorem d_Fs_init_127 : decode m_Fs_init.2.1 127 = .ok (.dup, 1) := by decide +kernel
theorem d_Fs_init_128 : decode m_Fs_init.2.1 128 = .ok (.invokespecial 68, 3) := by decide +kernel
theorem d_Fs_init_131 : decode m_Fs_init.2.1 131 = .ok (.putfield 69, 3) := by decide +kernel
theorem d_Fs_init_134 : decode m_Fs_init.2.1 134 = .ok (.aload_n 0, 1) := by decide +kernel
theorem d_Fs_init_135 : decode m_Fs_init.2.1 135 = .ok (.new 73, 3) := by decide +kernel
theorem d_Fs_init_138 : decode m_Fs_init.2.1 138 = .ok (.dup, 1) := by decide +kernel
theorem d_Fs_init_139 : decode m_Fs_init.2.1 139 = .ok (.invokespecial 75, 3) := by decide +kernel
theorem d_Fs_init_142 : decode m_Fs_init.2.1 142 = .ok (.putfield 76, 3) := by decide +kernel
theorem d_Fs_init_145 : decode m_Fs_init.2.1 145 = .ok (.aload_n 0, 1) := by decide +kernel
theorem d_Fs_init_146 : decode m_Fs_init.2.1 146 = .ok (.new 28, 3) := by decide +kernel
theorem d_Fs_init_149 : decode m_Fs_init.2.1 149 = .ok (.dup, 1) := by decide +kernel
theorem d_Fs_init_150 : decode m_Fs_init.2.1 150 = .ok (.invokespecial 30, 3) := by decide +kernel
theorem d_Fs_init_153 : decode m_Fs_init.2.1 153 = .ok (.putfield 80, 3) := by decide +kernel
theorem d_Fs_init_156 : decode m_Fs_init.2.1 156 = .ok (.aload_n 0, 1) := by decide +kernel
theorem d_Fs_init_157 : decode m_Fs_init.2.1 157 = .ok (.new 47, 3) := by decide +kernel
theorem d_Fs_init_160 : decode m_Fs_init.2.1 160 = .ok (.dup, 1) := by decide +kernel
theorem d_Fs_init_161 : decode m_Fs_init.2.1 161 = .ok (.invokespecial 49, 3) := by decide +kernel
theorem d_Fs_init_164 : decode m_Fs_init.2.1 164 = .ok (.putfield 83, 3) := by decide +kernel
theorem d_Fs_init_167 : decode m_Fs_init.2.1 167 = .ok (.aload_n 0, 1) := by decide +kernel
theorem d_Fs_init_168 : decode m_Fs_init.2.1 168 = .ok (.iconst 0, 1) := by decide +kernel
theorem d_Fs_init_169 : decode m_Fs_init.2.1 169 = .ok (.putfield 86, 3) := by decide +kernel
theorem d_Fs_init_172 : decode m_Fs_init.2.1 172 = .ok (.aload_n 0, 1) := by decide +kernel
theorem d_Fs_init_173 : decode m_Fs_init.2.1 173 = .ok (.iconst 0, 1) := by decide +kernel
theorem d_Fs_init_174 : decode m_Fs_init.2.1 174 = .ok (.putfield 90, 3) := by decide +kernel
theorem d_Fs_init_177 : decode m_Fs_init.2.1 177 = .ok (.aload_n 0, 1) := by decide +kernel
theorem d_Fs_init_178 : decode m_Fs_init.2.1 178 = .ok (.iconst (-1), 1) := by decide +kernel
theorem d_Fs_init_179 : decode m_Fs_init.2.1 179 = .ok (.putfield 94, 3) := by decide +kernel
theorem d_Fs_init_182 : decode m_Fs_init.2.1 182 = .ok (.aload_n 0, 1) := by decide +kernel
theorem d_Fs_init_183 : decode m_Fs_init.2.1 183 = .ok (.iconst (-1), 1) := by decide +kernel
theorem d_Fs_init_184 : decode m_Fs_init.2.1 184 = .ok (.putfield 97, 3) := by decide +kernel
theorem d_Fs_init_187 : decode m_Fs_init.2.1 187 = .ok (.return_, 1) := by decide +kernel
theorem d_Script_init_0 : decode m_Script_init.2.1 0 = .ok (.aload_n 0, 1) := by decide +kernel
theorem d_Script_init_1 : decode m_Script_init.2.1 1 = .ok (.invokespecial 3, 3) := by decide +kernel
theorem d_Script_init_4 : decode m_Script_init.2.1 4 = .ok (.aload_n 0, 1) := by decide +kernel
theorem d_Script_init_5 : decode m_Script_init.2.1 5 = .ok (.bipush 6, 2) := by decide +kernel
theorem d_Script_init_7 : decode m_Script_init.2.1 7 = .ok (.newarray .int, 2) := by decide +kernel
theorem d_Script_init_9 : decode m_Script_init.2.1 9 = .ok (.putfield 9, 3) := by decide +kernel
theorem d_Script_init_12 : decode m_Script_init.2.1 12 = .ok (.aload_n 0, 1) := by decide +kernel
theorem d_Script_init_13 : decode m_Script_init.2.1 13 = .ok (.bipush 6, 2) := by decide +kernel
theorem d_Script_init_15 : decode m_Script_init.2.1 15 = .ok (.newarray .int, 2) := by decide +kernel
theorem d_Script_init_17 : decode m_Script_init.2.1 17 = .ok (.putfield 15, 3) := by decide +kernel
theorem d_Script_init_20 : decode m_Script_init.2.1 20 = .ok (.aload_n 0, 1) := by decide +kernel
theorem d_Script_init_21 : decode m_Script_init.2.1 21 = .ok (.bipush 6, 2) := by decide +kernel
theorem d_Script_init_23 : decode m_Script_init.2.1 23 = .ok (.newarray .int, 2) := by decide +kernel
theorem d_Script_init_25 : decode m_Script_init.2.1 25 = .ok (.putfield 18, 3) := by decide +kernel
theorem d_Script_init_28 : decode m_Script_init.2.1 28 = .ok (.aload_n 0, 1) := by decide +kernel
theorem d_Script_init_29 : decode m_Script_init.2.1 29 = .ok (.bipush 6, 2) := by decide +kernel
theorem d_Script_init_31 : decode m_Script_init.2.1 31 = .ok (.newarray .int, 2) := by decide +kernel
theorem d_Script_init_33 : decode m_Script_init.2.1 33 = .ok (.putfield 21, 3) := by decide +kernel
theorem d_Script_init_36 : decode m_Script_init.2.1 36 = .ok (.aload_n 0, 1) := by decide +kernel
theorem d_Script_init_37 : decode m_Script_init.2.1 37 = .ok (.iconst 0, 1) := by decide +kernel
theorem d_Script_init_38 : decode m_Script_init.2.1 38 = .ok (.putfield 24, 3) := by decide +kernel
theorem d_Script_init_41 : decode m_Script_init.2.1 41 = .ok (.aload_n 0, 1) := by decide +kernel
theorem d_Script_init_42 : decode m_Script_init.2.1 42 = .ok (.iconst 0, 1) := by decide +kernel
theorem d_Script_init_43 : decode m_Script_init.2.1 43 = .ok (.putfield 28, 3) := by decide +kernel
theorem d_Script_init_46 : decode m_Script_init.2.1 46 = .ok (.aload_n 0, 1) := by decide +kernel
theorem d_Script_init_47 : decode m_Script_init.2.1 47 = .ok (.iconst 3, 1) := by decide +kernel
theorem d_Script_init_48 : decode m_Script_init.2.1 48 = .ok (.newarray .int, 2) := by decide +kernel
theorem d_Script_init_50 : decode m_Script_init.2.1 50 = .ok (.putfield 31, 3) := by decide +kernel
theorem d_Script_init_53 : decode m_Script_init.2.1 53 = .ok (.aload_n 0, 1) := by decide +kernel
theorem d_Script_init_54 : decode m_Script_init.2.1 54 = .ok (.iconst 3, 1) := by decide +kernel
theorem d_Script_init_55 : decode m_Script_init.2.1 55 = .ok (.newarray .int, 2) := by decide +kernel
theorem d_Script_init_57 : decode m_Script_init.2.1 57 = .ok (.putfield 34, 3) := by decide +kernel
theorem d_Script_init_60 : decode m_Script_init.2.1 60 = .ok (.aload_n 0, 1) := by decide +kernel
theorem d_Script_init_61 : decode m_Script_init.2.1 61 = .ok (.iconst 3, 1) := by decide +kernel
theorem d_Script_init_62 : decode m_Script_init.2.1 62 = .ok (.newarray .int, 2) := by decide +kernel
theorem d_Script_init_64 : decode m_Script_init.2.1 64 = .ok (.putfield 37, 3) := by decide +kernel
theorem d_Script_init_67 : decode m_Script_init.2.1 67 = .ok (.aload_n 0, 1) := by decide +kernel
theorem d_Script_init_68 : decode m_Script_init.2.1 68 = .ok (.iconst 0, 1) := by decide +kernel
theorem d_Script_init_69 : decode m_Script_init.2.1 69 = .ok (.putfield 40, 3) := by decide +kernel
theorem d_Script_init_72 : decode m_Script_init.2.1 72 = .ok (.aload_n 0, 1) := by decide +kernel
theorem d_Script_init_73 : decode m_Script_init.2.1 73 = .ok (.iconst 0, 1) := by decide +kernel
theorem d_Script_init_74 : decode m_Script_init.2.1 74 = .ok (.putfield 43, 3) := by decide +kernel
theorem d_Script_init_77 : decode m_Script_init.2.1 77 = .ok (.aload_n 0, 1) := by decide +kernel
theorem d_Script_init_78 : decode m_Script_init.2.1 78 = .ok (.iconst 0, 1) := by decide +kernel
theorem d_Script_init_79 : decode m_Script_init.2.1 79 = .ok (.putfield 46, 3) := by decide +kernel
theorem d_Script_init_82 : decode m_Script_init.2.1 82 = .ok (.aload_n 0, 1) := by decide +kernel
theorem d_Script_init_83 : decode m_Script_init.2.1 83 = .ok (.new 50, 3) := by decide +kernel
theorem d_Script_init_86 : decode m_Script_init.2.1 86 = .ok (.dup, 1) := by decide +kernel
theorem d_Script_init_87 : decode m_Script_init.2.1 87 = .ok (.invokespecial 52, 3) := by decide +kernel
theorem d_Script_init_90 : decode m_Script_init.2.1 90 = .ok (.putfield 53, 3) := by decide +kernel
theorem d_Script_init_93 : decode m_Script_init.2.1 93 = .ok (.return_, 1) := by decide +kernel
theorem d_Laws_init_0 : decode m_Laws_init.2.1 0 = .ok (.aload_n 0, 1) := by decide +kernel
theorem d_Laws_init_1 : decode m_Laws_init.2.1 1 = .ok (.invokespecial 3, 3) := by decide +kernel
theorem d_Laws_init_4 : decode m_Laws_init.2.1 4 = .ok (.aload_n 0, 1) := by decide +kernel
theorem d_Laws_init_5 : decode m_Laws_init.2.1 5 = .ok (.bipush 64, 2) := by decide +kernel
theorem d_Laws_init_7 : decode m_Laws_init.2.1 7 = .ok (.anewarray 9, 3) := by decide +kernel
theorem d_Laws_init_10 : decode m_Laws_init.2.1 10 = .ok (.putfield 11, 3) := by decide +kernel
theorem d_Laws_init_13 : decode m_Laws_init.2.1 13 = .ok (.aload_n 0, 1) := by decide +kernel
theorem d_Laws_init_14 : decode m_Laws_init.2.1 14 = .ok (.bipush 64, 2) := by decide +kernel
theorem d_Laws_init_16 : decode m_Laws_init.2.1 16 = .ok (.newarray .int, 2) := by decide +kernel
theorem d_Laws_init_18 : decode m_Laws_init.2.1 18 = .ok (.putfield 17, 3) := by decide +kernel
theorem d_Laws_init_21 : decode m_Laws_init.2.1 21 = .ok (.aload_n 0, 1) := by decide +kernel
theorem d_Laws_init_22 : decode m_Laws_init.2.1 22 = .ok (.iconst 0, 1) := by decide +kernel
theorem d_Laws_init_23 : decode m_Laws_init.2.1 23 = .ok (.putfield 21, 3) := by decide +kernel
theorem d_Laws_init_26 : decode m_Laws_init.2.1 26 = .ok (.aload_n 0, 1) := by decide +kernel
theorem d_Laws_init_27 : decode m_Laws_init.2.1 27 = .ok (.iconst 4, 1) := by decide +kernel
theorem d_Laws_init_28 : decode m_Laws_init.2.1 28 = .ok (.newarray .int, 2) := by decide +kernel
theorem d_Laws_init_30 : decode m_Laws_init.2.1 30 = .ok (.putfield 25, 3) := by decide +kernel
theorem d_Laws_init_33 : decode m_Laws_init.2.1 33 = .ok (.aload_n 0, 1) := by decide +kernel
theorem d_Laws_init_34 : decode m_Laws_init.2.1 34 = .ok (.iconst 4, 1) := by decide +kernel
theorem d_Laws_init_35 : decode m_Laws_init.2.1 35 = .ok (.newarray .int, 2) := by decide +kernel
theorem d_Laws_init_37 : decode m_Laws_init.2.1 37 = .ok (.putfield 28, 3) := by decide +kernel
theorem d_Laws_init_40 : decode m_Laws_init.2.1 40 = .ok (.aload_n 0, 1) := by decide +kernel
theorem d_Laws_init_41 : decode m_Laws_init.2.1 41 = .ok (.bipush 64, 2) := by decide +kernel
theorem d_Laws_init_43 : decode m_Laws_init.2.1 43 = .ok (.newarray .long, 2) := by decide +kernel
theorem d_Laws_init_45 : decode m_Laws_init.2.1 45 = .ok (.putfield 31, 3) := by decide +kernel
theorem d_Laws_init_48 : decode m_Laws_init.2.1 48 = .ok (.aload_n 0, 1) := by decide +kernel
theorem d_Laws_init_49 : decode m_Laws_init.2.1 49 = .ok (.lconst 0, 1) := by decide +kernel
theorem d_Laws_init_50 : decode m_Laws_init.2.1 50 = .ok (.putfield 35, 3) := by decide +kernel
theorem d_Laws_init_53 : decode m_Laws_init.2.1 53 = .ok (.aload_n 0, 1) := by decide +kernel
theorem d_Laws_init_54 : decode m_Laws_init.2.1 54 = .ok (.iconst 0, 1) := by decide +kernel
theorem d_Laws_init_55 : decode m_Laws_init.2.1 55 = .ok (.putfield 39, 3) := by decide +kernel
theorem d_Laws_init_58 : decode m_Laws_init.2.1 58 = .ok (.aload_n 0, 1) := by decide +kernel
theorem d_Laws_init_59 : decode m_Laws_init.2.1 59 = .ok (.iconst 0, 1) := by decide +kernel
theorem d_Laws_init_60 : decode m_Laws_init.2.1 60 = .ok (.putfield 42, 3) := by decide +kernel
theorem d_Laws_init_63 : decode m_Laws_init.2.1 63 = .ok (.aload_n 0, 1) := by decide +kernel
theorem d_Laws_init_64 : decode m_Laws_init.2.1 64 = .ok (.iconst 0, 1) := by decide +kernel
theorem d_Laws_init_65 : decode m_Laws_init.2.1 65 = .ok (.putfield 45, 3) := by decide +kernel
theorem d_Laws_init_68 : decode m_Laws_init.2.1 68 = .ok (.aload_n 0, 1) := by decide +kernel
theorem d_Laws_init_69 : decode m_Laws_init.2.1 69 = .ok (.iconst 0, 1) := by decide +kernel
theorem d_Laws_init_70 : decode m_Laws_init.2.1 70 = .ok (.putfield 48, 3) := by decide +kernel
theorem d_Laws_init_73 : decode m_Laws_init.2.1 73 = .ok (.aload_n 0, 1) := by decide +kernel
theorem d_Laws_init_74 : decode m_Laws_init.2.1 74 = .ok (.iconst 0, 1) := by decide +kernel
theorem d_Laws_init_75 : decode m_Laws_init.2.1 75 = .ok (.putfield 51, 3) := by decide +kernel
theorem d_Laws_init_78 : decode m_Laws_init.2.1 78 = .ok (.aload_n 0, 1) := by decide +kernel
theorem d_Laws_init_79 : decode m_Laws_init.2.1 79 = .ok (.iconst 0, 1) := by decide +kernel
theorem d_Laws_init_80 : decode m_Laws_init.2.1 80 = .ok (.putfield 54, 3) := by decide +kernel
theorem d_Laws_init_83 : decode m_Laws_init.2.1 83 = .ok (.aload_n 0, 1) := by decide +kernel
theorem d_Laws_init_84 : decode m_Laws_init.2.1 84 = .ok (.iconst 0, 1) := by decide +kernel
theorem d_Laws_init_85 : decode m_Laws_init.2.1 85 = .ok (.putfield 57, 3) := by decide +kernel
theorem d_Laws_init_88 : decode m_Laws_init.2.1 88 = .ok (.return_, 1) := by decide +kernel
theorem d_Reader_init_0 : decode m_Reader_init.2.1 0 = .ok (.aload_n 0, 1) := by decide +kernel
theorem d_Reader_init_1 : decode m_Reader_init.2.1 1 = .ok (.invokespecial 3, 3) := by decide +kernel
theorem d_Reader_init_4 : decode m_Reader_init.2.1 4 = .ok (.aload_n 0, 1) := by decide +kernel
theorem d_Reader_init_5 : decode m_Reader_init.2.1 5 = .ok (.sipush 600, 3) := by decide +kernel
theorem d_Reader_init_8 : decode m_Reader_init.2.1 8 = .ok (.newarray .int, 2) := by decide +kernel
theorem d_Reader_init_10 : decode m_Reader_init.2.1 10 = .ok (.putfield 9, 3) := by decide +kernel
theorem d_Reader_init_13 : decode m_Reader_init.2.1 13 = .ok (.aload_n 0, 1) := by decide +kernel
theorem d_Reader_init_14 : decode m_Reader_init.2.1 14 = .ok (.iconst 0, 1) := by decide +kernel
theorem d_Reader_init_15 : decode m_Reader_init.2.1 15 = .ok (.putfield 15, 3) := by decide +kernel
theorem d_Reader_init_18 : decode m_Reader_init.2.1 18 = .ok (.aload_n 0, 1) := by decide +kernel
theorem d_Reader_init_19 : decode m_Reader_init.2.1 19 = .ok (.iconst 0, 1) := by decide +kernel
theorem d_Reader_init_20 : decode m_Reader_init.2.1 20 = .ok (.putfield 19, 3) := by decide +kernel
theorem d_Reader_init_23 : decode m_Reader_init.2.1 23 = .ok (.aload_n 0, 1) := by decide +kernel
theorem d_Reader_init_24 : decode m_Reader_init.2.1 24 = .ok (.iconst (-1), 1) := by decide +kernel
theorem d_Reader_init_25 : decode m_Reader_init.2.1 25 = .ok (.putfield 22, 3) := by decide +kernel
theorem d_Reader_init_28 : decode m_Reader_init.2.1 28 = .ok (.aload_n 0, 1) := by decide +kernel
theorem d_Reader_init_29 : decode m_Reader_init.2.1 29 = .ok (.iconst 0, 1) := by decide +kernel
theorem d_Reader_init_30 : decode m_Reader_init.2.1 30 = .ok (.putfield 25, 3) := by decide +kernel
theorem d_Reader_init_33 : decode m_Reader_init.2.1 33 = .ok (.aload_n 0, 1) := by decide +kernel
theorem d_Reader_init_34 : decode m_Reader_init.2.1 34 = .ok (.iconst 0, 1) := by decide +kernel
theorem d_Reader_init_35 : decode m_Reader_init.2.1 35 = .ok (.putfield 28, 3) := by decide +kernel
theorem d_Reader_init_38 : decode m_Reader_init.2.1 38 = .ok (.aload_n 0, 1) := by decide +kernel
theorem d_Reader_init_39 : decode m_Reader_init.2.1 39 = .ok (.getstatic 31, 3) := by decide +kernel
theorem d_Reader_init_42 : decode m_Reader_init.2.1 42 = .ok (.putfield 37, 3) := by decide +kernel
theorem d_Reader_init_45 : decode m_Reader_init.2.1 45 = .ok (.aload_n 0, 1) := by decide +kernel
theorem d_Reader_init_46 : decode m_Reader_init.2.1 46 = .ok (.iconst 0, 1) := by decide +kernel
theorem d_Reader_init_47 : decode m_Reader_init.2.1 47 = .ok (.putfield 40, 3) := by decide +kernel
theorem d_Reader_init_50 : decode m_Reader_init.2.1 50 = .ok (.aload_n 0, 1) := by decide +kernel
theorem d_Reader_init_51 : decode m_Reader_init.2.1 51 = .ok (.iconst 0, 1) := by decide +kernel
theorem d_Reader_init_52 : decode m_Reader_init.2.1 52 = .ok (.putfield 43, 3) := by decide +kernel
theorem d_Reader_init_55 : decode m_Reader_init.2.1 55 = .ok (.aload_n 0, 1) := by decide +kernel
theorem d_Reader_init_56 : decode m_Reader_init.2.1 56 = .ok (.iconst 0, 1) := by decide +kernel
theorem d_Reader_init_57 : decode m_Reader_init.2.1 57 = .ok (.putfield 46, 3) := by decide +kernel
theorem d_Reader_init_60 : decode m_Reader_init.2.1 60 = .ok (.aload_n 0, 1) := by decide +kernel
theorem d_Reader_init_61 : decode m_Reader_init.2.1 61 = .ok (.iconst 0, 1) := by decide +kernel
theorem d_Reader_init_62 : decode m_Reader_init.2.1 62 = .ok (.putfield 49, 3) := by decide +kernel
theorem d_Reader_init_65 : decode m_Reader_init.2.1 65 = .ok (.aload_n 0, 1) := by decide +kernel
theorem d_Reader_init_66 : decode m_Reader_init.2.1 66 = .ok (.aload_n 1, 1) := by decide +kernel
theorem d_Reader_init_67 : decode m_Reader_init.2.1 67 = .ok (.putfield 52, 3) := by decide +kernel
theorem d_Reader_init_70 : decode m_Reader_init.2.1 70 = .ok (.return_, 1) := by decide +kernel
theorem d_Plan_init_0 : decode m_Plan_init.2.1 0 = .ok (.aload_n 0, 1) := by decide +kernel
theorem d_Plan_init_1 : decode m_Plan_init.2.1 1 = .ok (.invokespecial 3, 3) := by decide +kernel
theorem d_Plan_init_4 : decode m_Plan_init.2.1 4 = .ok (.aload_n 0, 1) := by decide +kernel
theorem d_Plan_init_5 : decode m_Plan_init.2.1 5 = .ok (.iconst 3, 1) := by decide +kernel
theorem d_Plan_init_6 : decode m_Plan_init.2.1 6 = .ok (.bipush 9, 2) := by decide +kernel
theorem d_Plan_init_8 : decode m_Plan_init.2.1 8 = .ok (.multianewarray 9 2, 4) := by decide +kernel
theorem d_Plan_init_12 : decode m_Plan_init.2.1 12 = .ok (.putfield 11, 3) := by decide +kernel
theorem d_Plan_init_15 : decode m_Plan_init.2.1 15 = .ok (.aload_n 0, 1) := by decide +kernel
theorem d_Plan_init_16 : decode m_Plan_init.2.1 16 = .ok (.iconst 3, 1) := by decide +kernel
theorem d_Plan_init_17 : decode m_Plan_init.2.1 17 = .ok (.newarray .int, 2) := by decide +kernel
theorem d_Plan_init_19 : decode m_Plan_init.2.1 19 = .ok (.putfield 16, 3) := by decide +kernel
theorem d_Plan_init_22 : decode m_Plan_init.2.1 22 = .ok (.aload_n 0, 1) := by decide +kernel
theorem d_Plan_init_23 : decode m_Plan_init.2.1 23 = .ok (.iconst 0, 1) := by decide +kernel
theorem d_Plan_init_24 : decode m_Plan_init.2.1 24 = .ok (.putfield 20, 3) := by decide +kernel
theorem d_Plan_init_27 : decode m_Plan_init.2.1 27 = .ok (.aload_n 0, 1) := by decide +kernel
theorem d_Plan_init_28 : decode m_Plan_init.2.1 28 = .ok (.iconst 0, 1) := by decide +kernel
theorem d_Plan_init_29 : decode m_Plan_init.2.1 29 = .ok (.putfield 24, 3) := by decide +kernel
theorem d_Plan_init_32 : decode m_Plan_init.2.1 32 = .ok (.return_, 1) := by decide +kernel
theorem d_Course_init_0 : decode m_Course_init.2.1 0 = .ok (.aload_n 0, 1) := by decide +kernel
theorem d_Course_init_1 : decode m_Course_init.2.1 1 = .ok (.invokespecial 3, 3) := by decide +kernel
theorem d_Course_init_4 : decode m_Course_init.2.1 4 = .ok (.aload_n 0, 1) := by decide +kernel
theorem d_Course_init_5 : decode m_Course_init.2.1 5 = .ok (.iconst (-1), 1) := by decide +kernel
theorem d_Course_init_6 : decode m_Course_init.2.1 6 = .ok (.putfield 9, 3) := by decide +kernel
theorem d_Course_init_9 : decode m_Course_init.2.1 9 = .ok (.aload_n 0, 1) := by decide +kernel
theorem d_Course_init_10 : decode m_Course_init.2.1 10 = .ok (.iconst 3, 1) := by decide +kernel
theorem d_Course_init_11 : decode m_Course_init.2.1 11 = .ok (.anewarray 15, 3) := by decide +kernel
theorem d_Course_init_14 : decode m_Course_init.2.1 14 = .ok (.putfield 17, 3) := by decide +kernel
theorem d_Course_init_17 : decode m_Course_init.2.1 17 = .ok (.aload_n 0, 1) := by decide +kernel
theorem d_Course_init_18 : decode m_Course_init.2.1 18 = .ok (.iconst 3, 1) := by decide +kernel
theorem d_Course_init_19 : decode m_Course_init.2.1 19 = .ok (.bipush 9, 2) := by decide +kernel
theorem d_Course_init_21 : decode m_Course_init.2.1 21 = .ok (.multianewarray 21 2, 4) := by decide +kernel
theorem d_Course_init_25 : decode m_Course_init.2.1 25 = .ok (.putfield 23, 3) := by decide +kernel
theorem d_Course_init_28 : decode m_Course_init.2.1 28 = .ok (.aload_n 0, 1) := by decide +kernel
theorem d_Course_init_29 : decode m_Course_init.2.1 29 = .ok (.bipush 6, 2) := by decide +kernel
theorem d_Course_init_31 : decode m_Course_init.2.1 31 = .ok (.newarray .int, 2) := by decide +kernel
theorem d_Course_init_33 : decode m_Course_init.2.1 33 = .ok (.putfield 26, 3) := by decide +kernel
theorem d_Course_init_36 : decode m_Course_init.2.1 36 = .ok (.aload_n 0, 1) := by decide +kernel
theorem d_Course_init_37 : decode m_Course_init.2.1 37 = .ok (.bipush 6, 2) := by decide +kernel
theorem d_Course_init_39 : decode m_Course_init.2.1 39 = .ok (.newarray .int, 2) := by decide +kernel
theorem d_Course_init_41 : decode m_Course_init.2.1 41 = .ok (.putfield 30, 3) := by decide +kernel
theorem d_Course_init_44 : decode m_Course_init.2.1 44 = .ok (.aload_n 0, 1) := by decide +kernel
theorem d_Course_init_45 : decode m_Course_init.2.1 45 = .ok (.iconst 0, 1) := by decide +kernel
theorem d_Course_init_46 : decode m_Course_init.2.1 46 = .ok (.putfield 33, 3) := by decide +kernel
theorem d_Course_init_49 : decode m_Course_init.2.1 49 = .ok (.aload_n 0, 1) := by decide +kernel
theorem d_Course_init_50 : decode m_Course_init.2.1 50 = .ok (.aload_n 1, 1) := by decide +kernel
theorem d_Course_init_51 : decode m_Course_init.2.1 51 = .ok (.putfield 36, 3) := by decide +kernel
theorem d_Course_init_54 : decode m_Course_init.2.1 54 = .ok (.aload_n 0, 1) := by decide +kernel
theorem d_Course_init_55 : decode m_Course_init.2.1 55 = .ok (.aload_n 2, 1) := by decide +kernel
theorem d_Course_init_56 : decode m_Course_init.2.1 56 = .ok (.putfield 40, 3) := by decide +kernel
theorem d_Course_init_59 : decode m_Course_init.2.1 59 = .ok (.iconst 0, 1) := by decide +kernel
theorem d_Course_init_60 : decode m_Course_init.2.1 60 = .ok (.istore_n 3, 1) := by decide +kernel
theorem d_Course_init_61 : decode m_Course_init.2.1 61 = .ok (.iload_n 3, 1) := by decide +kernel
theorem d_Course_init_62 : decode m_Course_init.2.1 62 = .ok (.iconst 3, 1) := by decide +kernel
theorem d_Course_init_63 : decode m_Course_init.2.1 63 = .ok (.if_icmp .ge 22, 3) := by decide +kernel
theorem d_Course_init_66 : decode m_Course_init.2.1 66 = .ok (.aload_n 0, 1) := by decide +kernel
theorem d_Course_init_67 : decode m_Course_init.2.1 67 = .ok (.getfield 17, 3) := by decide +kernel
theorem d_Course_init_70 : decode m_Course_init.2.1 70 = .ok (.iload_n 3, 1) := by decide +kernel
theorem d_Course_init_71 : decode m_Course_init.2.1 71 = .ok (.new 15, 3) := by decide +kernel
theorem d_Course_init_74 : decode m_Course_init.2.1 74 = .ok (.dup, 1) := by decide +kernel
theorem d_Course_init_75 : decode m_Course_init.2.1 75 = .ok (.invokespecial 44, 3) := by decide +kernel
theorem d_Course_init_78 : decode m_Course_init.2.1 78 = .ok (.aastore, 1) := by decide +kernel
theorem d_Course_init_79 : decode m_Course_init.2.1 79 = .ok (.iinc 3 1, 3) := by decide +kernel
theorem d_Course_init_82 : decode m_Course_init.2.1 82 = .ok (.goto (-21), 3) := by decide +kernel
theorem d_Course_init_85 : decode m_Course_init.2.1 85 = .ok (.return_, 1) := by decide +kernel
theorem d_Goer_init_0 : decode m_Goer_init.2.1 0 = .ok (.aload_n 0, 1) := by decide +kernel
theorem d_Goer_init_1 : decode m_Goer_init.2.1 1 = .ok (.invokespecial 1, 3) := by decide +kernel
theorem d_Goer_init_4 : decode m_Goer_init.2.1 4 = .ok (.aload_n 0, 1) := by decide +kernel
theorem d_Goer_init_5 : decode m_Goer_init.2.1 5 = .ok (.iconst 0, 1) := by decide +kernel
theorem d_Goer_init_6 : decode m_Goer_init.2.1 6 = .ok (.putfield 7, 3) := by decide +kernel
theorem d_Goer_init_9 : decode m_Goer_init.2.1 9 = .ok (.aload_n 0, 1) := by decide +kernel
theorem d_Goer_init_10 : decode m_Goer_init.2.1 10 = .ok (.iconst 1, 1) := by decide +kernel
theorem d_Goer_init_11 : decode m_Goer_init.2.1 11 = .ok (.putfield 13, 3) := by decide +kernel
theorem d_Goer_init_14 : decode m_Goer_init.2.1 14 = .ok (.aload_n 0, 1) := by decide +kernel
theorem d_Goer_init_15 : decode m_Goer_init.2.1 15 = .ok (.iconst 0, 1) := by decide +kernel
theorem d_Goer_init_16 : decode m_Goer_init.2.1 16 = .ok (.putfield 16, 3) := by decide +kernel
theorem d_Goer_init_19 : decode m_Goer_init.2.1 19 = .ok (.aload_n 0, 1) := by decide +kernel
theorem d_Goer_init_20 : decode m_Goer_init.2.1 20 = .ok (.iconst 0, 1) := by decide +kernel
theorem d_Goer_init_21 : decode m_Goer_init.2.1 21 = .ok (.putfield 19, 3) := by decide +kernel
theorem d_Goer_init_24 : decode m_Goer_init.2.1 24 = .ok (.aload_n 0, 1) := by decide +kernel
theorem d_Goer_init_25 : decode m_Goer_init.2.1 25 = .ok (.iconst 0, 1) := by decide +kernel
theorem d_Goer_init_26 : decode m_Goer_init.2.1 26 = .ok (.putfield 22, 3) := by decide +kernel
theorem d_Goer_init_29 : decode m_Goer_init.2.1 29 = .ok (.aload_n 0, 1) := by decide +kernel
theorem d_Goer_init_30 : decode m_Goer_init.2.1 30 = .ok (.iconst 0, 1) := by decide +kernel
theorem d_Goer_init_31 : decode m_Goer_init.2.1 31 = .ok (.putfield 25, 3) := by decide +kernel
theorem d_Goer_init_34 : decode m_Goer_init.2.1 34 = .ok (.aload_n 0, 1) := by decide +kernel
theorem d_Goer_init_35 : decode m_Goer_init.2.1 35 = .ok (.iconst 0, 1) := by decide +kernel
theorem d_Goer_init_36 : decode m_Goer_init.2.1 36 = .ok (.putfield 28, 3) := by decide +kernel
theorem d_Goer_init_39 : decode m_Goer_init.2.1 39 = .ok (.return_, 1) := by decide +kernel
theorem d_Night_init_0 : decode m_Night_init.2.1 0 = .ok (.aload_n 0, 1) := by decide +kernel
theorem d_Night_init_1 : decode m_Night_init.2.1 1 = .ok (.invokespecial 3, 3) := by decide +kernel
theorem d_Night_init_4 : decode m_Night_init.2.1 4 = .ok (.aload_n 0, 1) := by decide +kernel
theorem d_Night_init_5 : decode m_Night_init.2.1 5 = .ok (.bipush 6, 2) := by decide +kernel
theorem d_Night_init_7 : decode m_Night_init.2.1 7 = .ok (.newarray .int, 2) := by decide +kernel
theorem d_Night_init_9 : decode m_Night_init.2.1 9 = .ok (.putfield 9, 3) := by decide +kernel
theorem d_Night_init_12 : decode m_Night_init.2.1 12 = .ok (.aload_n 0, 1) := by decide +kernel
theorem d_Night_init_13 : decode m_Night_init.2.1 13 = .ok (.bipush 6, 2) := by decide +kernel
theorem d_Night_init_15 : decode m_Night_init.2.1 15 = .ok (.newarray .int, 2) := by decide +kernel
theorem d_Night_init_17 : decode m_Night_init.2.1 17 = .ok (.putfield 15, 3) := by decide +kernel
theorem d_Night_init_20 : decode m_Night_init.2.1 20 = .ok (.aload_n 0, 1) := by decide +kernel
theorem d_Night_init_21 : decode m_Night_init.2.1 21 = .ok (.iconst 0, 1) := by decide +kernel
theorem d_Night_init_22 : decode m_Night_init.2.1 22 = .ok (.putfield 18, 3) := by decide +kernel
theorem d_Night_init_25 : decode m_Night_init.2.1 25 = .ok (.aload_n 0, 1) := by decide +kernel
theorem d_Night_init_26 : decode m_Night_init.2.1 26 = .ok (.iconst 0, 1) := by decide +kernel
theorem d_Night_init_27 : decode m_Night_init.2.1 27 = .ok (.putfield 22, 3) := by decide +kernel
theorem d_Night_init_30 : decode m_Night_init.2.1 30 = .ok (.return_, 1) := by decide +kernel
theorem d_Book_init_0 : decode m_Book_init.2.1 0 = .ok (.aload_n 0, 1) := by decide +kernel
theorem d_Book_init_1 : decode m_Book_init.2.1 1 = .ok (.invokespecial 3, 3) := by decide +kernel
theorem d_Book_init_4 : decode m_Book_init.2.1 4 = .ok (.aload_n 0, 1) := by decide +kernel
theorem d_Book_init_5 : decode m_Book_init.2.1 5 = .ok (.sipush 1957, 3) := by decide +kernel
theorem d_Book_init_8 : decode m_Book_init.2.1 8 = .ok (.newarray .int, 2) := by decide +kernel
theorem d_Book_init_10 : decode m_Book_init.2.1 10 = .ok (.putfield 9, 3) := by decide +kernel
theorem d_Book_init_13 : decode m_Book_init.2.1 13 = .ok (.aload_n 0, 1) := by decide +kernel
theorem d_Book_init_14 : decode m_Book_init.2.1 14 = .ok (.sipush 1957, 3) := by decide +kernel
theorem d_Book_init_17 : decode m_Book_init.2.1 17 = .ok (.newarray .int, 2) := by decide +kernel
theorem d_Book_init_19 : decode m_Book_init.2.1 19 = .ok (.putfield 15, 3) := by decide +kernel
theorem d_Book_init_22 : decode m_Book_init.2.1 22 = .ok (.aload_n 0, 1) := by decide +kernel
theorem d_Book_init_23 : decode m_Book_init.2.1 23 = .ok (.iconst 0, 1) := by decide +kernel
theorem d_Book_init_24 : decode m_Book_init.2.1 24 = .ok (.putfield 18, 3) := by decide +kernel
theorem d_Book_init_27 : decode m_Book_init.2.1 27 = .ok (.aload_n 0, 1) := by decide +kernel
theorem d_Book_init_28 : decode m_Book_init.2.1 28 = .ok (.iconst 3, 1) := by decide +kernel
theorem d_Book_init_29 : decode m_Book_init.2.1 29 = .ok (.sipush 1957, 3) := by decide +kernel
theorem d_Book_init_32 : decode m_Book_init.2.1 32 = .ok (.multianewarray 22 2, 4) := by decide +kernel
theorem d_Book_init_36 : decode m_Book_init.2.1 36 = .ok (.putfield 24, 3) := by decide +kernel
theorem d_Book_init_39 : decode m_Book_init.2.1 39 = .ok (.aload_n 0, 1) := by decide +kernel
theorem d_Book_init_40 : decode m_Book_init.2.1 40 = .ok (.iconst 3, 1) := by decide +kernel
theorem d_Book_init_41 : decode m_Book_init.2.1 41 = .ok (.sipush 1957, 3) := by decide +kernel
theorem d_Book_init_44 : decode m_Book_init.2.1 44 = .ok (.multianewarray 27 2, 4) := by decide +kernel
theorem d_Book_init_48 : decode m_Book_init.2.1 48 = .ok (.putfield 29, 3) := by decide +kernel
theorem d_Book_init_51 : decode m_Book_init.2.1 51 = .ok (.aload_n 0, 1) := by decide +kernel
theorem d_Book_init_52 : decode m_Book_init.2.1 52 = .ok (.iconst 0, 1) := by decide +kernel
theorem d_Book_init_53 : decode m_Book_init.2.1 53 = .ok (.putfield 32, 3) := by decide +kernel
theorem d_Book_init_56 : decode m_Book_init.2.1 56 = .ok (.aload_n 0, 1) := by decide +kernel
theorem d_Book_init_57 : decode m_Book_init.2.1 57 = .ok (.iconst 0, 1) := by decide +kernel
theorem d_Book_init_58 : decode m_Book_init.2.1 58 = .ok (.putfield 36, 3) := by decide +kernel
theorem d_Book_init_61 : decode m_Book_init.2.1 61 = .ok (.aload_n 0, 1) := by decide +kernel
theorem d_Book_init_62 : decode m_Book_init.2.1 62 = .ok (.iconst 0, 1) := by decide +kernel
theorem d_Book_init_63 : decode m_Book_init.2.1 63 = .ok (.putfield 39, 3) := by decide +kernel
theorem d_Book_init_66 : decode m_Book_init.2.1 66 = .ok (.aload_n 0, 1) := by decide +kernel
theorem d_Book_init_67 : decode m_Book_init.2.1 67 = .ok (.bipush 7, 2) := by decide +kernel
theorem d_Book_init_69 : decode m_Book_init.2.1 69 = .ok (.anewarray 42, 3) := by decide +kernel
theorem d_Book_init_72 : decode m_Book_init.2.1 72 = .ok (.putfield 44, 3) := by decide +kernel
theorem d_Book_init_75 : decode m_Book_init.2.1 75 = .ok (.aload_n 0, 1) := by decide +kernel
theorem d_Book_init_76 : decode m_Book_init.2.1 76 = .ok (.bipush 64, 2) := by decide +kernel
theorem d_Book_init_78 : decode m_Book_init.2.1 78 = .ok (.newarray .int, 2) := by decide +kernel
theorem d_Book_init_80 : decode m_Book_init.2.1 80 = .ok (.putfield 48, 3) := by decide +kernel
theorem d_Book_init_83 : decode m_Book_init.2.1 83 = .ok (.aload_n 0, 1) := by decide +kernel
theorem d_Book_init_84 : decode m_Book_init.2.1 84 = .ok (.iconst 3, 1) := by decide +kernel
theorem d_Book_init_85 : decode m_Book_init.2.1 85 = .ok (.bipush 64, 2) := by decide +kernel
theorem d_Book_init_87 : decode m_Book_init.2.1 87 = .ok (.multianewarray 27 2, 4) := by decide +kernel
theorem d_Book_init_91 : decode m_Book_init.2.1 91 = .ok (.putfield 51, 3) := by decide +kernel
theorem d_Book_init_94 : decode m_Book_init.2.1 94 = .ok (.aload_n 0, 1) := by decide +kernel
theorem d_Book_init_95 : decode m_Book_init.2.1 95 = .ok (.iconst 4, 1) := by decide +kernel
theorem d_Book_init_96 : decode m_Book_init.2.1 96 = .ok (.bipush 64, 2) := by decide +kernel
theorem d_Book_init_98 : decode m_Book_init.2.1 98 = .ok (.multianewarray 27 2, 4) := by decide +kernel
theorem d_Book_init_102 : decode m_Book_init.2.1 102 = .ok (.putfield 54, 3) := by decide +kernel
theorem d_Book_init_105 : decode m_Book_init.2.1 105 = .ok (.aload_n 0, 1) := by decide +kernel
theorem d_Book_init_106 : decode m_Book_init.2.1 106 = .ok (.iconst 3, 1) := by decide +kernel
theorem d_Book_init_107 : decode m_Book_init.2.1 107 = .ok (.newarray .int, 2) := by decide +kernel
theorem d_Book_init_109 : decode m_Book_init.2.1 109 = .ok (.putfield 57, 3) := by decide +kernel
theorem d_Book_init_112 : decode m_Book_init.2.1 112 = .ok (.aload_n 0, 1) := by decide +kernel
theorem d_Book_init_113 : decode m_Book_init.2.1 113 = .ok (.aload_n 1, 1) := by decide +kernel
theorem d_Book_init_114 : decode m_Book_init.2.1 114 = .ok (.putfield 60, 3) := by decide +kernel
theorem d_Book_init_117 : decode m_Book_init.2.1 117 = .ok (.aload_n 0, 1) := by decide +kernel
theorem d_Book_init_118 : decode m_Book_init.2.1 118 = .ok (.aload_n 2, 1) := by decide +kernel
theorem d_Book_init_119 : decode m_Book_init.2.1 119 = .ok (.putfield 64, 3) := by decide +kernel
theorem d_Book_init_122 : decode m_Book_init.2.1 122 = .ok (.iconst 0, 1) := by decide +kernel
theorem d_Book_init_123 : decode m_Book_init.2.1 123 = .ok (.istore_n 3, 1) := by decide +kernel
theorem d_Book_init_124 : decode m_Book_init.2.1 124 = .ok (.iload_n 3, 1) := by decide +kernel
theorem d_Book_init_125 : decode m_Book_init.2.1 125 = .ok (.bipush 6, 2) := by decide +kernel
theorem d_Book_init_127 : decode m_Book_init.2.1 127 = .ok (.if_icmp .gt 22, 3) := by decide +kernel
theorem d_Book_init_130 : decode m_Book_init.2.1 130 = .ok (.aload_n 0, 1) := by decide +kernel
theorem d_Book_init_131 : decode m_Book_init.2.1 131 = .ok (.getfield 44, 3) := by decide +kernel
theorem d_Book_init_134 : decode m_Book_init.2.1 134 = .ok (.iload_n 3, 1) := by decide +kernel
theorem d_Book_init_135 : decode m_Book_init.2.1 135 = .ok (.new 42, 3) := by decide +kernel
theorem d_Book_init_138 : decode m_Book_init.2.1 138 = .ok (.dup, 1) := by decide +kernel
theorem d_Book_init_139 : decode m_Book_init.2.1 139 = .ok (.invokespecial 68, 3) := by decide +kernel
theorem d_Book_init_142 : decode m_Book_init.2.1 142 = .ok (.aastore, 1) := by decide +kernel
theorem d_Book_init_143 : decode m_Book_init.2.1 143 = .ok (.iinc 3 1, 3) := by decide +kernel
theorem d_Book_init_146 : decode m_Book_init.2.1 146 = .ok (.goto (-22), 3) := by decide +kernel
theorem d_Book_init_149 : decode m_Book_init.2.1 149 = .ok (.return_, 1) := by decide +kernel
theorem d_Tracks_init_0 : decode m_Tracks_init.2.1 0 = .ok (.aload_n 0, 1) := by decide +kernel
theorem d_Tracks_init_1 : decode m_Tracks_init.2.1 1 = .ok (.invokespecial 3, 3) := by decide +kernel
theorem d_Tracks_init_4 : decode m_Tracks_init.2.1 4 = .ok (.aload_n 0, 1) := by decide +kernel
theorem d_Tracks_init_5 : decode m_Tracks_init.2.1 5 = .ok (.bipush 24, 2) := by decide +kernel
theorem d_Tracks_init_7 : decode m_Tracks_init.2.1 7 = .ok (.newarray .int, 2) := by decide +kernel
theorem d_Tracks_init_9 : decode m_Tracks_init.2.1 9 = .ok (.putfield 9, 3) := by decide +kernel
theorem d_Tracks_init_12 : decode m_Tracks_init.2.1 12 = .ok (.aload_n 0, 1) := by decide +kernel
theorem d_Tracks_init_13 : decode m_Tracks_init.2.1 13 = .ok (.bipush 24, 2) := by decide +kernel
theorem d_Tracks_init_15 : decode m_Tracks_init.2.1 15 = .ok (.newarray .int, 2) := by decide +kernel
theorem d_Tracks_init_17 : decode m_Tracks_init.2.1 17 = .ok (.putfield 15, 3) := by decide +kernel
theorem d_Tracks_init_20 : decode m_Tracks_init.2.1 20 = .ok (.aload_n 0, 1) := by decide +kernel
theorem d_Tracks_init_21 : decode m_Tracks_init.2.1 21 = .ok (.bipush 24, 2) := by decide +kernel
theorem d_Tracks_init_23 : decode m_Tracks_init.2.1 23 = .ok (.newarray .int, 2) := by decide +kernel
theorem d_Tracks_init_25 : decode m_Tracks_init.2.1 25 = .ok (.putfield 18, 3) := by decide +kernel
theorem d_Tracks_init_28 : decode m_Tracks_init.2.1 28 = .ok (.aload_n 0, 1) := by decide +kernel
theorem d_Tracks_init_29 : decode m_Tracks_init.2.1 29 = .ok (.bipush 24, 2) := by decide +kernel
theorem d_Tracks_init_31 : decode m_Tracks_init.2.1 31 = .ok (.newarray .int, 2) := by decide +kernel
theorem d_Tracks_init_33 : decode m_Tracks_init.2.1 33 = .ok (.putfield 21, 3) := by decide +kernel
theorem d_Tracks_init_36 : decode m_Tracks_init.2.1 36 = .ok (.aload_n 0, 1) := by decide +kernel
theorem d_Tracks_init_37 : decode m_Tracks_init.2.1 37 = .ok (.iconst 0, 1) := by decide +kernel
theorem d_Tracks_init_38 : decode m_Tracks_init.2.1 38 = .ok (.putfield 24, 3) := by decide +kernel
theorem d_Tracks_init_41 : decode m_Tracks_init.2.1 41 = .ok (.aload_n 0, 1) := by decide +kernel
theorem d_Tracks_init_42 : decode m_Tracks_init.2.1 42 = .ok (.iconst (-1), 1) := by decide +kernel
theorem d_Tracks_init_43 : decode m_Tracks_init.2.1 43 = .ok (.putfield 28, 3) := by decide +kernel
theorem d_Tracks_init_46 : decode m_Tracks_init.2.1 46 = .ok (.return_, 1) := by decide +kernel
theorem d_Past_init_0 : decode m_Past_init.2.1 0 = .ok (.aload_n 0, 1) := by decide +kernel
theorem d_Past_init_1 : decode m_Past_init.2.1 1 = .ok (.invokespecial 3, 3) := by decide +kernel
theorem d_Past_init_4 : decode m_Past_init.2.1 4 = .ok (.aload_n 0, 1) := by decide +kernel
theorem d_Past_init_5 : decode m_Past_init.2.1 5 = .ok (.bipush 20, 2) := by decide +kernel
theorem d_Past_init_7 : decode m_Past_init.2.1 7 = .ok (.anewarray 9, 3) := by decide +kernel
theorem d_Past_init_10 : decode m_Past_init.2.1 10 = .ok (.putfield 11, 3) := by decide +kernel
theorem d_Past_init_13 : decode m_Past_init.2.1 13 = .ok (.aload_n 0, 1) := by decide +kernel
theorem d_Past_init_14 : decode m_Past_init.2.1 14 = .ok (.iconst 0, 1) := by decide +kernel
theorem d_Past_init_15 : decode m_Past_init.2.1 15 = .ok (.putfield 17, 3) := by decide +kernel
theorem d_Past_init_18 : decode m_Past_init.2.1 18 = .ok (.aload_n 0, 1) := by decide +kernel
theorem d_Past_init_19 : decode m_Past_init.2.1 19 = .ok (.iconst 0, 1) := by decide +kernel
theorem d_Past_init_20 : decode m_Past_init.2.1 20 = .ok (.putfield 21, 3) := by decide +kernel
theorem d_Past_init_23 : decode m_Past_init.2.1 23 = .ok (.iconst 0, 1) := by decide +kernel
theorem d_Past_init_24 : decode m_Past_init.2.1 24 = .ok (.istore_n 1, 1) := by decide +kernel
theorem d_Past_init_25 : decode m_Past_init.2.1 25 = .ok (.iload_n 1, 1) := by decide +kernel
theorem d_Past_init_26 : decode m_Past_init.2.1 26 = .ok (.bipush 20, 2) := by decide +kernel
theorem d_Past_init_28 : decode m_Past_init.2.1 28 = .ok (.if_icmp .ge 22, 3) := by decide +kernel
theorem d_Past_init_31 : decode m_Past_init.2.1 31 = .ok (.aload_n 0, 1) := by decide +kernel
theorem d_Past_init_32 : decode m_Past_init.2.1 32 = .ok (.getfield 11, 3) := by decide +kernel
theorem d_Past_init_35 : decode m_Past_init.2.1 35 = .ok (.iload_n 1, 1) := by decide +kernel
theorem d_Past_init_36 : decode m_Past_init.2.1 36 = .ok (.new 9, 3) := by decide +kernel
theorem d_Past_init_39 : decode m_Past_init.2.1 39 = .ok (.dup, 1) := by decide +kernel
theorem d_Past_init_40 : decode m_Past_init.2.1 40 = .ok (.invokespecial 24, 3) := by decide +kernel
theorem d_Past_init_43 : decode m_Past_init.2.1 43 = .ok (.aastore, 1) := by decide +kernel
theorem d_Past_init_44 : decode m_Past_init.2.1 44 = .ok (.iinc 1 1, 3) := by decide +kernel
theorem d_Past_init_47 : decode m_Past_init.2.1 47 = .ok (.goto (-22), 3) := by decide +kernel
theorem d_Past_init_50 : decode m_Past_init.2.1 50 = .ok (.return_, 1) := by decide +kernel
theorem d_Fs_feed_0 : decode m_Fs_feed.2.1 0 = .ok (.aload_n 0, 1) := by decide +kernel
theorem d_Fs_feed_1 : decode m_Fs_feed.2.1 1 = .ok (.getfield 24, 3) := by decide +kernel
theorem d_Fs_feed_4 : decode m_Fs_feed.2.1 4 = .ok (.getfield 100, 3) := by decide +kernel
theorem d_Fs_feed_7 : decode m_Fs_feed.2.1 7 = .ok (.bipush 20, 2) := by decide +kernel
theorem d_Fs_feed_9 : decode m_Fs_feed.2.1 9 = .ok (.iadd, 1) := by decide +kernel
theorem d_Fs_feed_10 : decode m_Fs_feed.2.1 10 = .ok (.sipush 600, 3) := by decide +kernel
theorem d_Fs_feed_13 : decode m_Fs_feed.2.1 13 = .ok (.if_icmp .le 5, 3) := by decide +kernel
theorem d_Fs_feed_16 : decode m_Fs_feed.2.1 16 = .ok (.iconst (-1), 1) := by decide +kernel
theorem d_Fs_feed_17 : decode m_Fs_feed.2.1 17 = .ok (.ireturn, 1) := by decide +kernel
theorem d_Fs_feed_18 : decode m_Fs_feed.2.1 18 = .ok (.aload_n 0, 1) := by decide +kernel
theorem d_Fs_feed_19 : decode m_Fs_feed.2.1 19 = .ok (.getfield 24, 3) := by decide +kernel
theorem d_Fs_feed_22 : decode m_Fs_feed.2.1 22 = .ok (.iload_n 1, 1) := by decide +kernel
theorem d_Fs_feed_23 : decode m_Fs_feed.2.1 23 = .ok (.invokevirtual 103, 3) := by decide +kernel
theorem d_Fs_feed_26 : decode m_Fs_feed.2.1 26 = .ok (.aload_n 0, 1) := by decide +kernel
theorem d_Fs_feed_27 : decode m_Fs_feed.2.1 27 = .ok (.getfield 24, 3) := by decide +kernel
theorem d_Fs_feed_30 : decode m_Fs_feed.2.1 30 = .ok (.iload_n 2, 1) := by decide +kernel
theorem d_Fs_feed_31 : decode m_Fs_feed.2.1 31 = .ok (.invokevirtual 103, 3) := by decide +kernel
theorem d_Fs_feed_34 : decode m_Fs_feed.2.1 34 = .ok (.aload_n 0, 1) := by decide +kernel
theorem d_Fs_feed_35 : decode m_Fs_feed.2.1 35 = .ok (.getfield 24, 3) := by decide +kernel
theorem d_Fs_feed_38 : decode m_Fs_feed.2.1 38 = .ok (.iload_n 3, 1) := by decide +kernel
theorem d_Fs_feed_39 : decode m_Fs_feed.2.1 39 = .ok (.invokevirtual 103, 3) := by decide +kernel
theorem d_Fs_feed_42 : decode m_Fs_feed.2.1 42 = .ok (.aload_n 0, 1) := by decide +kernel
theorem d_Fs_feed_43 : decode m_Fs_feed.2.1 43 = .ok (.getfield 24, 3) := by decide +kernel
theorem d_Fs_feed_46 : decode m_Fs_feed.2.1 46 = .ok (.iload 4, 2) := by decide +kernel
theorem d_Fs_feed_48 : decode m_Fs_feed.2.1 48 = .ok (.invokevirtual 103, 3) := by decide +kernel
theorem d_Fs_feed_51 : decode m_Fs_feed.2.1 51 = .ok (.aload_n 0, 1) := by decide +kernel
theorem d_Fs_feed_52 : decode m_Fs_feed.2.1 52 = .ok (.getfield 24, 3) := by decide +kernel
theorem d_Fs_feed_55 : decode m_Fs_feed.2.1 55 = .ok (.iload 5, 2) := by decide +kernel
theorem d_Fs_feed_57 : decode m_Fs_feed.2.1 57 = .ok (.invokevirtual 103, 3) := by decide +kernel
theorem d_Fs_feed_60 : decode m_Fs_feed.2.1 60 = .ok (.aload_n 0, 1) := by decide +kernel
theorem d_Fs_feed_61 : decode m_Fs_feed.2.1 61 = .ok (.getfield 24, 3) := by decide +kernel
theorem d_Fs_feed_64 : decode m_Fs_feed.2.1 64 = .ok (.getfield 100, 3) := by decide +kernel
theorem d_Fs_feed_67 : decode m_Fs_feed.2.1 67 = .ok (.ireturn, 1) := by decide +kernel
theorem d_Reader_put_0 : decode m_Reader_put.2.1 0 = .ok (.bipush 24, 2) := by decide +kernel
theorem d_Reader_put_2 : decode m_Reader_put.2.1 2 = .ok (.istore_n 2, 1) := by decide +kernel
theorem d_Reader_put_3 : decode m_Reader_put.2.1 3 = .ok (.iload_n 2, 1) := by decide +kernel
theorem d_Reader_put_4 : decode m_Reader_put.2.1 4 = .ok (.ifCond .lt 45, 3) := by decide +kernel
theorem d_Reader_put_7 : decode m_Reader_put.2.1 7 = .ok (.aload_n 0, 1) := by decide +kernel
theorem d_Reader_put_8 : decode m_Reader_put.2.1 8 = .ok (.getfield 15, 3) := by decide +kernel
theorem d_Reader_put_11 : decode m_Reader_put.2.1 11 = .ok (.sipush 600, 3) := by decide +kernel
theorem d_Reader_put_14 : decode m_Reader_put.2.1 14 = .ok (.if_icmp .ge 35, 3) := by decide +kernel
theorem d_Reader_put_17 : decode m_Reader_put.2.1 17 = .ok (.aload_n 0, 1) := by decide +kernel
theorem d_Reader_put_18 : decode m_Reader_put.2.1 18 = .ok (.getfield 9, 3) := by decide +kernel
theorem d_Reader_put_21 : decode m_Reader_put.2.1 21 = .ok (.aload_n 0, 1) := by decide +kernel
theorem d_Reader_put_22 : decode m_Reader_put.2.1 22 = .ok (.getfield 15, 3) := by decide +kernel
theorem d_Reader_put_25 : decode m_Reader_put.2.1 25 = .ok (.iload_n 1, 1) := by decide +kernel
theorem d_Reader_put_26 : decode m_Reader_put.2.1 26 = .ok (.iload_n 2, 1) := by decide +kernel
theorem d_Reader_put_27 : decode m_Reader_put.2.1 27 = .ok (.ishr, 1) := by decide +kernel
theorem d_Reader_put_28 : decode m_Reader_put.2.1 28 = .ok (.sipush 255, 3) := by decide +kernel
theorem d_Reader_put_31 : decode m_Reader_put.2.1 31 = .ok (.iand, 1) := by decide +kernel
theorem d_Reader_put_32 : decode m_Reader_put.2.1 32 = .ok (.iastore, 1) := by decide +kernel
theorem d_Reader_put_33 : decode m_Reader_put.2.1 33 = .ok (.aload_n 0, 1) := by decide +kernel
theorem d_Reader_put_34 : decode m_Reader_put.2.1 34 = .ok (.dup, 1) := by decide +kernel
theorem d_Reader_put_35 : decode m_Reader_put.2.1 35 = .ok (.getfield 15, 3) := by decide +kernel
theorem d_Reader_put_38 : decode m_Reader_put.2.1 38 = .ok (.iconst 1, 1) := by decide +kernel
theorem d_Reader_put_39 : decode m_Reader_put.2.1 39 = .ok (.iadd, 1) := by decide +kernel
theorem d_Reader_put_40 : decode m_Reader_put.2.1 40 = .ok (.putfield 15, 3) := by decide +kernel
theorem d_Reader_put_43 : decode m_Reader_put.2.1 43 = .ok (.iinc 2 (-8), 3) := by decide +kernel
theorem d_Reader_put_46 : decode m_Reader_put.2.1 46 = .ok (.goto (-43), 3) := by decide +kernel
theorem d_Reader_put_49 : decode m_Reader_put.2.1 49 = .ok (.return_, 1) := by decide +kernel
theorem d_Fs_text_0 : decode m_Fs_text.2.1 0 = .ok (.iload_n 1, 1) := by decide +kernel
theorem d_Fs_text_1 : decode m_Fs_text.2.1 1 = .ok (.ifCond .lt 14, 3) := by decide +kernel
theorem d_Fs_text_4 : decode m_Fs_text.2.1 4 = .ok (.iload_n 1, 1) := by decide +kernel
theorem d_Fs_text_5 : decode m_Fs_text.2.1 5 = .ok (.aload_n 0, 1) := by decide +kernel
theorem d_Fs_text_6 : decode m_Fs_text.2.1 6 = .ok (.getfield 24, 3) := by decide +kernel
theorem d_Fs_text_9 : decode m_Fs_text.2.1 9 = .ok (.getfield 100, 3) := by decide +kernel
theorem d_Fs_text_12 : decode m_Fs_text.2.1 12 = .ok (.if_icmp .le 6, 3) := by decide +kernel
theorem d_Fs_text_15 : decode m_Fs_text.2.1 15 = .ok (.bipush (-2), 2) := by decide +kernel
theorem d_Fs_text_17 : decode m_Fs_text.2.1 17 = .ok (.ireturn, 1) := by decide +kernel
theorem d_Fs_text_18 : decode m_Fs_text.2.1 18 = .ok (.aload_n 0, 1) := by decide +kernel
theorem d_Fs_text_19 : decode m_Fs_text.2.1 19 = .ok (.getfield 24, 3) := by decide +kernel
theorem d_Fs_text_22 : decode m_Fs_text.2.1 22 = .ok (.iload_n 1, 1) := by decide +kernel
theorem d_Fs_text_23 : decode m_Fs_text.2.1 23 = .ok (.invokevirtual 107, 3) := by decide +kernel
theorem d_Fs_text_26 : decode m_Fs_text.2.1 26 = .ok (.istore_n 2, 1) := by decide +kernel
theorem d_Fs_text_27 : decode m_Fs_text.2.1 27 = .ok (.iload_n 2, 1) := by decide +kernel
theorem d_Fs_text_28 : decode m_Fs_text.2.1 28 = .ok (.iconst (-1), 1) := by decide +kernel
theorem d_Fs_text_29 : decode m_Fs_text.2.1 29 = .ok (.if_icmp .ne 5, 3) := by decide +kernel
theorem d_Fs_text_32 : decode m_Fs_text.2.1 32 = .ok (.iconst (-1), 1) := by decide +kernel
theorem d_Fs_text_33 : decode m_Fs_text.2.1 33 = .ok (.ireturn, 1) := by decide +kernel
theorem d_Fs_text_34 : decode m_Fs_text.2.1 34 = .ok (.aload_n 0, 1) := by decide +kernel
theorem d_Fs_text_35 : decode m_Fs_text.2.1 35 = .ok (.getfield 12, 3) := by decide +kernel
theorem d_Fs_text_38 : decode m_Fs_text.2.1 38 = .ok (.aload_n 0, 1) := by decide +kernel
theorem d_Fs_text_39 : decode m_Fs_text.2.1 39 = .ok (.getfield 16, 3) := by decide +kernel
theorem d_Fs_text_42 : decode m_Fs_text.2.1 42 = .ok (.invokevirtual 111, 3) := by decide +kernel
theorem d_Fs_text_45 : decode m_Fs_text.2.1 45 = .ok (.aload_n 0, 1) := by decide +kernel
theorem d_Fs_text_46 : decode m_Fs_text.2.1 46 = .ok (.getfield 31, 3) := by decide +kernel
theorem d_Fs_text_49 : decode m_Fs_text.2.1 49 = .ok (.invokevirtual 114, 3) := by decide +kernel
theorem d_Fs_text_52 : decode m_Fs_text.2.1 52 = .ok (.aload_n 0, 1) := by decide +kernel
theorem d_Fs_text_53 : decode m_Fs_text.2.1 53 = .ok (.getfield 50, 3) := by decide +kernel
theorem d_Fs_text_56 : decode m_Fs_text.2.1 56 = .ok (.aload_n 0, 1) := by decide +kernel
theorem d_Fs_text_57 : decode m_Fs_text.2.1 57 = .ok (.getfield 12, 3) := by decide +kernel
theorem d_Fs_text_60 : decode m_Fs_text.2.1 60 = .ok (.getfield 117, 3) := by decide +kernel
theorem d_Fs_text_63 : decode m_Fs_text.2.1 63 = .ok (.invokevirtual 120, 3) := by decide +kernel
theorem d_Fs_text_66 : decode m_Fs_text.2.1 66 = .ok (.aload_n 0, 1) := by decide +kernel
theorem d_Fs_text_67 : decode m_Fs_text.2.1 67 = .ok (.getfield 69, 3) := by decide +kernel
theorem d_Fs_text_70 : decode m_Fs_text.2.1 70 = .ok (.invokevirtual 122, 3) := by decide +kernel
theorem d_Fs_text_73 : decode m_Fs_text.2.1 73 = .ok (.aload_n 0, 1) := by decide +kernel
theorem d_Fs_text_74 : decode m_Fs_text.2.1 74 = .ok (.getfield 76, 3) := by decide +kernel
theorem d_Fs_text_77 : decode m_Fs_text.2.1 77 = .ok (.invokevirtual 123, 3) := by decide +kernel
theorem d_Fs_text_80 : decode m_Fs_text.2.1 80 = .ok (.aload_n 0, 1) := by decide +kernel
theorem d_Fs_text_81 : decode m_Fs_text.2.1 81 = .ok (.iconst 0, 1) := by decide +kernel
theorem d_Fs_text_82 : decode m_Fs_text.2.1 82 = .ok (.putfield 86, 3) := by decide +kernel
theorem d_Fs_text_85 : decode m_Fs_text.2.1 85 = .ok (.aload_n 0, 1) := by decide +kernel
theorem d_Fs_text_86 : decode m_Fs_text.2.1 86 = .ok (.getfield 62, 3) := by decide +kernel
theorem d_Fs_text_89 : decode m_Fs_text.2.1 89 = .ok (.iconst 0, 1) := by decide +kernel
theorem d_Fs_text_90 : decode m_Fs_text.2.1 90 = .ok (.putfield 124, 3) := by decide +kernel
theorem d_Fs_text_93 : decode m_Fs_text.2.1 93 = .ok (.iload_n 2, 1) := by decide +kernel
theorem d_Fs_text_94 : decode m_Fs_text.2.1 94 = .ok (.ireturn, 1) := by decide +kernel
theorem d_Reader_read_0 : decode m_Reader_read.2.1 0 = .ok (.aload_n 0, 1) := by decide +kernel
theorem d_Reader_read_1 : decode m_Reader_read.2.1 1 = .ok (.getfield 52, 3) := by decide +kernel
theorem d_Reader_read_4 : decode m_Reader_read.2.1 4 = .ok (.invokevirtual 56, 3) := by decide +kernel
theorem d_Reader_read_7 : decode m_Reader_read.2.1 7 = .ok (.aload_n 0, 1) := by decide +kernel
theorem d_Reader_read_8 : decode m_Reader_read.2.1 8 = .ok (.iload_n 1, 1) := by decide +kernel
theorem d_Reader_read_9 : decode m_Reader_read.2.1 9 = .ok (.sipush 600, 3) := by decide +kernel
theorem d_Reader_read_12 : decode m_Reader_read.2.1 12 = .ok (.invokestatic 61, 3) := by decide +kernel
theorem d_Reader_read_15 : decode m_Reader_read.2.1 15 = .ok (.putfield 25, 3) := by decide +kernel
theorem d_Reader_read_18 : decode m_Reader_read.2.1 18 = .ok (.aload_n 0, 1) := by decide +kernel
theorem d_Reader_read_19 : decode m_Reader_read.2.1 19 = .ok (.iconst 0, 1) := by decide +kernel
theorem d_Reader_read_20 : decode m_Reader_read.2.1 20 = .ok (.putfield 28, 3) := by decide +kernel
theorem d_Reader_read_23 : decode m_Reader_read.2.1 23 = .ok (.aload_n 0, 1) := by decide +kernel
theorem d_Reader_read_24 : decode m_Reader_read.2.1 24 = .ok (.iconst 0, 1) := by decide +kernel
theorem d_Reader_read_25 : decode m_Reader_read.2.1 25 = .ok (.putfield 49, 3) := by decide +kernel
theorem d_Reader_read_28 : decode m_Reader_read.2.1 28 = .ok (.aload_n 0, 1) := by decide +kernel
theorem d_Reader_read_29 : decode m_Reader_read.2.1 29 = .ok (.iconst 0, 1) := by decide +kernel
theorem d_Reader_read_30 : decode m_Reader_read.2.1 30 = .ok (.putfield 15, 3) := by decide +kernel
theorem d_Reader_read_33 : decode m_Reader_read.2.1 33 = .ok (.aload_n 0, 1) := by decide +kernel
theorem d_Reader_read_34 : decode m_Reader_read.2.1 34 = .ok (.iconst 0, 1) := by decide +kernel
theorem d_Reader_read_35 : decode m_Reader_read.2.1 35 = .ok (.putfield 19, 3) := by decide +kernel
theorem d_Reader_read_38 : decode m_Reader_read.2.1 38 = .ok (.aload_n 0, 1) := by decide +kernel
theorem d_Reader_read_39 : decode m_Reader_read.2.1 39 = .ok (.iconst (-1), 1) := by decide +kernel
theorem d_Reader_read_40 : decode m_Reader_read.2.1 40 = .ok (.putfield 22, 3) := by decide +kernel
theorem d_Reader_read_43 : decode m_Reader_read.2.1 43 = .ok (.aload_n 0, 1) := by decide +kernel
theorem d_Reader_read_44 : decode m_Reader_read.2.1 44 = .ok (.invokevirtual 67, 3) := by decide +kernel
theorem d_Reader_read_47 : decode m_Reader_read.2.1 47 = .ok (.iconst 0, 1) := by decide +kernel
theorem d_Reader_read_48 : decode m_Reader_read.2.1 48 = .ok (.istore_n 2, 1) := by decide +kernel
theorem d_Reader_read_49 : decode m_Reader_read.2.1 49 = .ok (.iload_n 2, 1) := by decide +kernel
theorem d_Reader_read_50 : decode m_Reader_read.2.1 50 = .ok (.aload_n 0, 1) := by decide +kernel
theorem d_Reader_read_51 : decode m_Reader_read.2.1 51 = .ok (.getfield 25, 3) := by decide +kernel
theorem d_Reader_read_54 : decode m_Reader_read.2.1 54 = .ok (.if_icmp .ge 109, 3) := by decide +kernel
theorem d_Reader_read_57 : decode m_Reader_read.2.1 57 = .ok (.aload_n 0, 1) := by decide +kernel
theorem d_Reader_read_58 : decode m_Reader_read.2.1 58 = .ok (.getfield 37, 3) := by decide +kernel
theorem d_Reader_read_61 : decode m_Reader_read.2.1 61 = .ok (.getstatic 31, 3) := by decide +kernel
theorem d_Reader_read_64 : decode m_Reader_read.2.1 64 = .ok (.if_acmp .eq 99, 3) := by decide +kernel
theorem d_Reader_read_67 : decode m_Reader_read.2.1 67 = .ok (.aload_n 0, 1) := by decide +kernel
theorem d_Reader_read_68 : decode m_Reader_read.2.1 68 = .ok (.getfield 37, 3) := by decide +kernel
theorem d_Reader_read_71 : decode m_Reader_read.2.1 71 = .ok (.getstatic 70, 3) := by decide +kernel
theorem d_Reader_read_74 : decode m_Reader_read.2.1 74 = .ok (.if_acmp .ne 10, 3) := by decide +kernel
theorem d_Reader_read_77 : decode m_Reader_read.2.1 77 = .ok (.aload_n 0, 1) := by decide +kernel
theorem d_Reader_read_78 : decode m_Reader_read.2.1 78 = .ok (.invokevirtual 73, 3) := by decide +kernel
theorem d_Reader_read_81 : decode m_Reader_read.2.1 81 = .ok (.goto 59, 3) := by decide +kernel
theorem d_Reader_read_84 : decode m_Reader_read.2.1 84 = .ok (.aload_n 0, 1) := by decide +kernel
theorem d_Reader_read_85 : decode m_Reader_read.2.1 85 = .ok (.getfield 37, 3) := by decide +kernel
theorem d_Reader_read_88 : decode m_Reader_read.2.1 88 = .ok (.getstatic 77, 3) := by decide +kernel
theorem d_Reader_read_91 : decode m_Reader_read.2.1 91 = .ok (.if_acmp .ne 10, 3) := by decide +kernel
theorem d_Reader_read_94 : decode m_Reader_read.2.1 94 = .ok (.aload_n 0, 1) := by decide +kernel
theorem d_Reader_read_95 : decode m_Reader_read.2.1 95 = .ok (.invokevirtual 80, 3) := by decide +kernel
theorem d_Reader_read_98 : decode m_Reader_read.2.1 98 = .ok (.goto 42, 3) := by decide +kernel
theorem d_Reader_read_101 : decode m_Reader_read.2.1 101 = .ok (.aload_n 0, 1) := by decide +kernel
theorem d_Reader_read_102 : decode m_Reader_read.2.1 102 = .ok (.getfield 37, 3) := by decide +kernel
theorem d_Reader_read_105 : decode m_Reader_read.2.1 105 = .ok (.getstatic 83, 3) := by decide +kernel
theorem d_Reader_read_108 : decode m_Reader_read.2.1 108 = .ok (.if_acmp .ne 10, 3) := by decide +kernel
theorem d_Reader_read_111 : decode m_Reader_read.2.1 111 = .ok (.aload_n 0, 1) := by decide +kernel
theorem d_Reader_read_112 : decode m_Reader_read.2.1 112 = .ok (.invokevirtual 86, 3) := by decide +kernel
theorem d_Reader_read_115 : decode m_Reader_read.2.1 115 = .ok (.goto 25, 3) := by decide +kernel
theorem d_Reader_read_118 : decode m_Reader_read.2.1 118 = .ok (.aload_n 0, 1) := by decide +kernel
theorem d_Reader_read_119 : decode m_Reader_read.2.1 119 = .ok (.getfield 37, 3) := by decide +kernel
theorem d_Reader_read_122 : decode m_Reader_read.2.1 122 = .ok (.getstatic 89, 3) := by decide +kernel
theorem d_Reader_read_125 : decode m_Reader_read.2.1 125 = .ok (.if_acmp .ne 10, 3) := by decide +kernel
theorem d_Reader_read_128 : decode m_Reader_read.2.1 128 = .ok (.aload_n 0, 1) := by decide +kernel
theorem d_Reader_read_129 : decode m_Reader_read.2.1 129 = .ok (.invokevirtual 92, 3) := by decide +kernel
theorem d_Reader_read_132 : decode m_Reader_read.2.1 132 = .ok (.goto 8, 3) := by decide +kernel
theorem d_Reader_read_135 : decode m_Reader_read.2.1 135 = .ok (.aload_n 0, 1) := by decide +kernel
theorem d_Reader_read_136 : decode m_Reader_read.2.1 136 = .ok (.iconst 1, 1) := by decide +kernel
theorem d_Reader_read_137 : decode m_Reader_read.2.1 137 = .ok (.invokevirtual 95, 3) := by decide +kernel
theorem d_Reader_read_140 : decode m_Reader_read.2.1 140 = .ok (.istore_n 3, 1) := by decide +kernel
theorem d_Reader_read_141 : decode m_Reader_read.2.1 141 = .ok (.iload_n 3, 1) := by decide +kernel
theorem d_Reader_read_142 : decode m_Reader_read.2.1 142 = .ok (.ifCond .eq 13, 3) := by decide +kernel
theorem d_Reader_read_145 : decode m_Reader_read.2.1 145 = .ok (.aload_n 0, 1) := by decide +kernel
theorem d_Reader_read_146 : decode m_Reader_read.2.1 146 = .ok (.getstatic 99, 3) := by decide +kernel
theorem d_Reader_read_149 : decode m_Reader_read.2.1 149 = .ok (.invokevirtual 102, 3) := by decide +kernel
theorem d_Reader_read_152 : decode m_Reader_read.2.1 152 = .ok (.ifCond .ne 5, 3) := by decide +kernel
theorem d_Reader_read_155 : decode m_Reader_read.2.1 155 = .ok (.iconst (-1), 1) := by decide +kernel
theorem d_Reader_read_156 : decode m_Reader_read.2.1 156 = .ok (.ireturn, 1) := by decide +kernel
theorem d_Reader_read_157 : decode m_Reader_read.2.1 157 = .ok (.iinc 2 1, 3) := by decide +kernel
theorem d_Reader_read_160 : decode m_Reader_read.2.1 160 = .ok (.goto (-111), 3) := by decide +kernel
theorem d_Reader_read_163 : decode m_Reader_read.2.1 163 = .ok (.iload_n 2, 1) := by decide +kernel
theorem d_Reader_read_164 : decode m_Reader_read.2.1 164 = .ok (.ireturn, 1) := by decide +kernel
theorem d_Script_clear_0 : decode m_Script_clear.2.1 0 = .ok (.aload_n 0, 1) := by decide +kernel
theorem d_Script_clear_1 : decode m_Script_clear.2.1 1 = .ok (.iconst 0, 1) := by decide +kernel
theorem d_Script_clear_2 : decode m_Script_clear.2.1 2 = .ok (.putfield 24, 3) := by decide +kernel
theorem d_Script_clear_5 : decode m_Script_clear.2.1 5 = .ok (.aload_n 0, 1) := by decide +kernel
theorem d_Script_clear_6 : decode m_Script_clear.2.1 6 = .ok (.iconst 0, 1) := by decide +kernel
theorem d_Script_clear_7 : decode m_Script_clear.2.1 7 = .ok (.putfield 28, 3) := by decide +kernel
theorem d_Script_clear_10 : decode m_Script_clear.2.1 10 = .ok (.aload_n 0, 1) := by decide +kernel
theorem d_Script_clear_11 : decode m_Script_clear.2.1 11 = .ok (.iconst 0, 1) := by decide +kernel
theorem d_Script_clear_12 : decode m_Script_clear.2.1 12 = .ok (.putfield 40, 3) := by decide +kernel
theorem d_Script_clear_15 : decode m_Script_clear.2.1 15 = .ok (.aload_n 0, 1) := by decide +kernel
theorem d_Script_clear_16 : decode m_Script_clear.2.1 16 = .ok (.iconst 0, 1) := by decide +kernel
theorem d_Script_clear_17 : decode m_Script_clear.2.1 17 = .ok (.putfield 43, 3) := by decide +kernel
theorem d_Script_clear_20 : decode m_Script_clear.2.1 20 = .ok (.aload_n 0, 1) := by decide +kernel
theorem d_Script_clear_21 : decode m_Script_clear.2.1 21 = .ok (.iconst 0, 1) := by decide +kernel
theorem d_Script_clear_22 : decode m_Script_clear.2.1 22 = .ok (.putfield 46, 3) := by decide +kernel
theorem d_Script_clear_25 : decode m_Script_clear.2.1 25 = .ok (.aload_n 0, 1) := by decide +kernel
theorem d_Script_clear_26 : decode m_Script_clear.2.1 26 = .ok (.getfield 53, 3) := by decide +kernel
theorem d_Script_clear_29 : decode m_Script_clear.2.1 29 = .ok (.invokevirtual 57, 3) := by decide +kernel
theorem d_Script_clear_32 : decode m_Script_clear.2.1 32 = .ok (.return_, 1) := by decide +kernel
theorem d_Laws_clear_0 : decode m_Laws_clear.2.1 0 = .ok (.aload_n 0, 1) := by decide +kernel
theorem d_Laws_clear_1 : decode m_Laws_clear.2.1 1 = .ok (.iconst 0, 1) := by decide +kernel
theorem d_Laws_clear_2 : decode m_Laws_clear.2.1 2 = .ok (.putfield 21, 3) := by decide +kernel
theorem d_Laws_clear_5 : decode m_Laws_clear.2.1 5 = .ok (.iconst 0, 1) := by decide +kernel
theorem d_Laws_clear_6 : decode m_Laws_clear.2.1 6 = .ok (.istore_n 1, 1) := by decide +kernel
theorem d_Laws_clear_7 : decode m_Laws_clear.2.1 7 = .ok (.iload_n 1, 1) := by decide +kernel
theorem d_Laws_clear_8 : decode m_Laws_clear.2.1 8 = .ok (.iconst 4, 1) := by decide +kernel
theorem d_Laws_clear_9 : decode m_Laws_clear.2.1 9 = .ok (.if_icmp .ge 23, 3) := by decide +kernel
theorem d_Laws_clear_12 : decode m_Laws_clear.2.1 12 = .ok (.aload_n 0, 1) := by decide +kernel
theorem d_Laws_clear_13 : decode m_Laws_clear.2.1 13 = .ok (.getfield 25, 3) := by decide +kernel
theorem d_Laws_clear_16 : decode m_Laws_clear.2.1 16 = .ok (.iload_n 1, 1) := by decide +kernel
theorem d_Laws_clear_17 : decode m_Laws_clear.2.1 17 = .ok (.iconst 0, 1) := by decide +kernel
theorem d_Laws_clear_18 : decode m_Laws_clear.2.1 18 = .ok (.iastore, 1) := by decide +kernel
theorem d_Laws_clear_19 : decode m_Laws_clear.2.1 19 = .ok (.aload_n 0, 1) := by decide +kernel
theorem d_Laws_clear_20 : decode m_Laws_clear.2.1 20 = .ok (.getfield 28, 3) := by decide +kernel
theorem d_Laws_clear_23 : decode m_Laws_clear.2.1 23 = .ok (.iload_n 1, 1) := by decide +kernel
theorem d_Laws_clear_24 : decode m_Laws_clear.2.1 24 = .ok (.iconst 0, 1) := by decide +kernel
theorem d_Laws_clear_25 : decode m_Laws_clear.2.1 25 = .ok (.iastore, 1) := by decide +kernel
theorem d_Laws_clear_26 : decode m_Laws_clear.2.1 26 = .ok (.iinc 1 1, 3) := by decide +kernel
theorem d_Laws_clear_29 : decode m_Laws_clear.2.1 29 = .ok (.goto (-22), 3) := by decide +kernel
theorem d_Laws_clear_32 : decode m_Laws_clear.2.1 32 = .ok (.return_, 1) := by decide +kernel
theorem d_Reader_advance_0 : decode m_Reader_advance.2.1 0 = .ok (.aload_n 0, 1) := by decide +kernel
theorem d_Reader_advance_1 : decode m_Reader_advance.2.1 1 = .ok (.getfield 28, 3) := by decide +kernel
theorem d_Reader_advance_4 : decode m_Reader_advance.2.1 4 = .ok (.aload_n 0, 1) := by decide +kernel
theorem d_Reader_advance_5 : decode m_Reader_advance.2.1 5 = .ok (.getfield 25, 3) := by decide +kernel
theorem d_Reader_advance_8 : decode m_Reader_advance.2.1 8 = .ok (.if_icmp .ge 44, 3) := by decide +kernel
theorem d_Reader_advance_11 : decode m_Reader_advance.2.1 11 = .ok (.aload_n 0, 1) := by decide +kernel
theorem d_Reader_advance_12 : decode m_Reader_advance.2.1 12 = .ok (.getfield 9, 3) := by decide +kernel
theorem d_Reader_advance_15 : decode m_Reader_advance.2.1 15 = .ok (.aload_n 0, 1) := by decide +kernel
theorem d_Reader_advance_16 : decode m_Reader_advance.2.1 16 = .ok (.getfield 28, 3) := by decide +kernel
theorem d_Reader_advance_19 : decode m_Reader_advance.2.1 19 = .ok (.iaload, 1) := by decide +kernel
theorem d_Reader_advance_20 : decode m_Reader_advance.2.1 20 = .ok (.bipush 32, 2) := by decide +kernel
theorem d_Reader_advance_22 : decode m_Reader_advance.2.1 22 = .ok (.if_icmp .eq 17, 3) := by decide +kernel
theorem d_Reader_advance_25 : decode m_Reader_advance.2.1 25 = .ok (.aload_n 0, 1) := by decide +kernel
theorem d_Reader_advance_26 : decode m_Reader_advance.2.1 26 = .ok (.getfield 9, 3) := by decide +kernel
theorem d_Reader_advance_29 : decode m_Reader_advance.2.1 29 = .ok (.aload_n 0, 1) := by decide +kernel
theorem d_Reader_advance_30 : decode m_Reader_advance.2.1 30 = .ok (.getfield 28, 3) := by decide +kernel
theorem d_Reader_advance_33 : decode m_Reader_advance.2.1 33 = .ok (.iaload, 1) := by decide +kernel
theorem d_Reader_advance_34 : decode m_Reader_advance.2.1 34 = .ok (.bipush 10, 2) := by decide +kernel
theorem d_Reader_advance_36 : decode m_Reader_advance.2.1 36 = .ok (.if_icmp .ne 16, 3) := by decide +kernel
theorem d_Reader_advance_39 : decode m_Reader_advance.2.1 39 = .ok (.aload_n 0, 1) := by decide +kernel
theorem d_Reader_advance_40 : decode m_Reader_advance.2.1 40 = .ok (.dup, 1) := by decide +kernel
theorem d_Reader_advance_41 : decode m_Reader_advance.2.1 41 = .ok (.getfield 28, 3) := by decide +kernel
theorem d_Reader_advance_44 : decode m_Reader_advance.2.1 44 = .ok (.iconst 1, 1) := by decide +kernel
theorem d_Reader_advance_45 : decode m_Reader_advance.2.1 45 = .ok (.iadd, 1) := by decide +kernel
theorem d_Reader_advance_46 : decode m_Reader_advance.2.1 46 = .ok (.putfield 28, 3) := by decide +kernel
theorem d_Reader_advance_49 : decode m_Reader_advance.2.1 49 = .ok (.goto (-49), 3) := by decide +kernel
theorem d_Reader_advance_52 : decode m_Reader_advance.2.1 52 = .ok (.aload_n 0, 1) := by decide +kernel
theorem d_Reader_advance_53 : decode m_Reader_advance.2.1 53 = .ok (.aload_n 0, 1) := by decide +kernel
theorem d_Reader_advance_54 : decode m_Reader_advance.2.1 54 = .ok (.getfield 28, 3) := by decide +kernel
theorem d_Reader_advance_57 : decode m_Reader_advance.2.1 57 = .ok (.putfield 40, 3) := by decide +kernel
theorem d_Reader_advance_60 : decode m_Reader_advance.2.1 60 = .ok (.aload_n 0, 1) := by decide +kernel
theorem d_Reader_advance_61 : decode m_Reader_advance.2.1 61 = .ok (.getfield 28, 3) := by decide +kernel
theorem d_Reader_advance_64 : decode m_Reader_advance.2.1 64 = .ok (.aload_n 0, 1) := by decide +kernel
theorem d_Reader_advance_65 : decode m_Reader_advance.2.1 65 = .ok (.getfield 25, 3) := by decide +kernel
theorem d_Reader_advance_68 : decode m_Reader_advance.2.1 68 = .ok (.if_icmp .lt 13, 3) := by decide +kernel
theorem d_Reader_advance_71 : decode m_Reader_advance.2.1 71 = .ok (.aload_n 0, 1) := by decide +kernel
theorem d_Reader_advance_72 : decode m_Reader_advance.2.1 72 = .ok (.getstatic 31, 3) := by decide +kernel
theorem d_Reader_advance_75 : decode m_Reader_advance.2.1 75 = .ok (.putfield 37, 3) := by decide +kernel
theorem d_Reader_advance_78 : decode m_Reader_advance.2.1 78 = .ok (.goto 114, 3) := by decide +kernel
theorem d_Reader_advance_81 : decode m_Reader_advance.2.1 81 = .ok (.aload_n 0, 1) := by decide +kernel
theorem d_Reader_advance_82 : decode m_Reader_advance.2.1 82 = .ok (.getfield 9, 3) := by decide +kernel
theorem d_Reader_advance_85 : decode m_Reader_advance.2.1 85 = .ok (.aload_n 0, 1) := by decide +kernel
theorem d_Reader_advance_86 : decode m_Reader_advance.2.1 86 = .ok (.getfield 28, 3) := by decide +kernel
theorem d_Reader_advance_89 : decode m_Reader_advance.2.1 89 = .ok (.iaload, 1) := by decide +kernel
theorem d_Reader_advance_90 : decode m_Reader_advance.2.1 90 = .ok (.bipush 97, 2) := by decide +kernel
theorem d_Reader_advance_92 : decode m_Reader_advance.2.1 92 = .ok (.if_icmp .lt 24, 3) := by decide +kernel
theorem d_Reader_advance_95 : decode m_Reader_advance.2.1 95 = .ok (.aload_n 0, 1) := by decide +kernel
theorem d_Reader_advance_96 : decode m_Reader_advance.2.1 96 = .ok (.getfield 9, 3) := by decide +kernel
theorem d_Reader_advance_99 : decode m_Reader_advance.2.1 99 = .ok (.aload_n 0, 1) := by decide +kernel
theorem d_Reader_advance_100 : decode m_Reader_advance.2.1 100 = .ok (.getfield 28, 3) := by decide +kernel
theorem d_Reader_advance_103 : decode m_Reader_advance.2.1 103 = .ok (.iaload, 1) := by decide +kernel
theorem d_Reader_advance_104 : decode m_Reader_advance.2.1 104 = .ok (.bipush 122, 2) := by decide +kernel
theorem d_Reader_advance_106 : decode m_Reader_advance.2.1 106 = .ok (.if_icmp .gt 10, 3) := by decide +kernel
theorem d_Reader_advance_109 : decode m_Reader_advance.2.1 109 = .ok (.aload_n 0, 1) := by decide +kernel
theorem d_Reader_advance_110 : decode m_Reader_advance.2.1 110 = .ok (.invokevirtual 221, 3) := by decide +kernel
theorem d_Reader_advance_113 : decode m_Reader_advance.2.1 113 = .ok (.goto 79, 3) := by decide +kernel
theorem d_Reader_advance_116 : decode m_Reader_advance.2.1 116 = .ok (.aload_n 0, 1) := by decide +kernel
theorem d_Reader_advance_117 : decode m_Reader_advance.2.1 117 = .ok (.getfield 9, 3) := by decide +kernel
theorem d_Reader_advance_120 : decode m_Reader_advance.2.1 120 = .ok (.aload_n 0, 1) := by decide +kernel
theorem d_Reader_advance_121 : decode m_Reader_advance.2.1 121 = .ok (.getfield 28, 3) := by decide +kernel
theorem d_Reader_advance_124 : decode m_Reader_advance.2.1 124 = .ok (.iaload, 1) := by decide +kernel
theorem d_Reader_advance_125 : decode m_Reader_advance.2.1 125 = .ok (.bipush 48, 2) := by decide +kernel
theorem d_Reader_advance_127 : decode m_Reader_advance.2.1 127 = .ok (.if_icmp .lt 24, 3) := by decide +kernel
theorem d_Reader_advance_130 : decode m_Reader_advance.2.1 130 = .ok (.aload_n 0, 1) := by decide +kernel
theorem d_Reader_advance_131 : decode m_Reader_advance.2.1 131 = .ok (.getfield 9, 3) := by decide +kernel
theorem d_Reader_advance_134 : decode m_Reader_advance.2.1 134 = .ok (.aload_n 0, 1) := by decide +kernel
theorem d_Reader_advance_135 : decode m_Reader_advance.2.1 135 = .ok (.getfield 28, 3) := by decide +kernel
theorem d_Reader_advance_138 : decode m_Reader_advance.2.1 138 = .ok (.iaload, 1) := by decide +kernel
theorem d_Reader_advance_139 : decode m_Reader_advance.2.1 139 = .ok (.bipush 57, 2) := by decide +kernel
theorem d_Reader_advance_141 : decode m_Reader_advance.2.1 141 = .ok (.if_icmp .gt 10, 3) := by decide +kernel
theorem d_Reader_advance_144 : decode m_Reader_advance.2.1 144 = .ok (.aload_n 0, 1) := by decide +kernel
theorem d_Reader_advance_145 : decode m_Reader_advance.2.1 145 = .ok (.invokevirtual 224, 3) := by decide +kernel
theorem d_Reader_advance_148 : decode m_Reader_advance.2.1 148 = .ok (.goto 44, 3) := by decide +kernel
theorem d_Reader_advance_151 : decode m_Reader_advance.2.1 151 = .ok (.aload_n 0, 1) := by decide +kernel
theorem d_Reader_advance_152 : decode m_Reader_advance.2.1 152 = .ok (.aload_n 0, 1) := by decide +kernel
theorem d_Reader_advance_153 : decode m_Reader_advance.2.1 153 = .ok (.getfield 9, 3) := by decide +kernel
theorem d_Reader_advance_156 : decode m_Reader_advance.2.1 156 = .ok (.aload_n 0, 1) := by decide +kernel
theorem d_Reader_advance_157 : decode m_Reader_advance.2.1 157 = .ok (.getfield 28, 3) := by decide +kernel
theorem d_Reader_advance_160 : decode m_Reader_advance.2.1 160 = .ok (.iaload, 1) := by decide +kernel
theorem d_Reader_advance_161 : decode m_Reader_advance.2.1 161 = .ok (.aload_n 0, 1) := by decide +kernel
theorem d_Reader_advance_162 : decode m_Reader_advance.2.1 162 = .ok (.getfield 28, 3) := by decide +kernel
theorem d_Reader_advance_165 : decode m_Reader_advance.2.1 165 = .ok (.iconst 1, 1) := by decide +kernel
theorem d_Reader_advance_166 : decode m_Reader_advance.2.1 166 = .ok (.iadd, 1) := by decide +kernel
theorem d_Reader_advance_167 : decode m_Reader_advance.2.1 167 = .ok (.aload_n 0, 1) := by decide +kernel
theorem d_Reader_advance_168 : decode m_Reader_advance.2.1 168 = .ok (.getfield 25, 3) := by decide +kernel
theorem d_Reader_advance_171 : decode m_Reader_advance.2.1 171 = .ok (.if_icmp .ge 17, 3) := by decide +kernel
theorem d_Reader_advance_174 : decode m_Reader_advance.2.1 174 = .ok (.aload_n 0, 1) := by decide +kernel
theorem d_Reader_advance_175 : decode m_Reader_advance.2.1 175 = .ok (.getfield 9, 3) := by decide +kernel
theorem d_Reader_advance_178 : decode m_Reader_advance.2.1 178 = .ok (.aload_n 0, 1) := by decide +kernel
theorem d_Reader_advance_179 : decode m_Reader_advance.2.1 179 = .ok (.getfield 28, 3) := by decide +kernel
theorem d_Reader_advance_182 : decode m_Reader_advance.2.1 182 = .ok (.iconst 1, 1) := by decide +kernel
theorem d_Reader_advance_183 : decode m_Reader_advance.2.1 183 = .ok (.iadd, 1) := by decide +kernel
theorem d_Reader_advance_184 : decode m_Reader_advance.2.1 184 = .ok (.iaload, 1) := by decide +kernel
theorem d_Reader_advance_185 : decode m_Reader_advance.2.1 185 = .ok (.goto 4, 3) := by decide +kernel
theorem d_Reader_advance_188 : decode m_Reader_advance.2.1 188 = .ok (.iconst 0, 1) := by decide +kernel
theorem d_Reader_advance_189 : decode m_Reader_advance.2.1 189 = .ok (.invokevirtual 227, 3) := by decide +kernel
theorem d_Reader_advance_192 : decode m_Reader_advance.2.1 192 = .ok (.return_, 1) := by decide +kernel
theorem d_Reader_readWord_0 : decode m_Reader_readWord.2.1 0 = .ok (.aload_n 0, 1) := by decide +kernel
theorem d_Reader_readWord_1 : decode m_Reader_readWord.2.1 1 = .ok (.iconst 0, 1) := by decide +kernel
theorem d_Reader_readWord_2 : decode m_Reader_readWord.2.1 2 = .ok (.putfield 46, 3) := by decide +kernel
theorem d_Reader_readWord_5 : decode m_Reader_readWord.2.1 5 = .ok (.aload_n 0, 1) := by decide +kernel
theorem d_Reader_readWord_6 : decode m_Reader_readWord.2.1 6 = .ok (.getfield 28, 3) := by decide +kernel
theorem d_Reader_readWord_9 : decode m_Reader_readWord.2.1 9 = .ok (.aload_n 0, 1) := by decide +kernel
theorem d_Reader_readWord_10 : decode m_Reader_readWord.2.1 10 = .ok (.getfield 25, 3) := by decide +kernel
theorem d_Reader_readWord_13 : decode m_Reader_readWord.2.1 13 = .ok (.if_icmp .ge 73, 3) := by decide +kernel
theorem d_Reader_readWord_16 : decode m_Reader_readWord.2.1 16 = .ok (.aload_n 0, 1) := by decide +kernel
theorem d_Reader_readWord_17 : decode m_Reader_readWord.2.1 17 = .ok (.getfield 9, 3) := by decide +kernel
theorem d_Reader_readWord_20 : decode m_Reader_readWord.2.1 20 = .ok (.aload_n 0, 1) := by decide +kernel
theorem d_Reader_readWord_21 : decode m_Reader_readWord.2.1 21 = .ok (.getfield 28, 3) := by decide +kernel
theorem d_Reader_readWord_24 : decode m_Reader_readWord.2.1 24 = .ok (.iaload, 1) := by decide +kernel
theorem d_Reader_readWord_25 : decode m_Reader_readWord.2.1 25 = .ok (.bipush 97, 2) := by decide +kernel
theorem d_Reader_readWord_27 : decode m_Reader_readWord.2.1 27 = .ok (.if_icmp .lt 59, 3) := by decide +kernel
theorem d_Reader_readWord_30 : decode m_Reader_readWord.2.1 30 = .ok (.aload_n 0, 1) := by decide +kernel
theorem d_Reader_readWord_31 : decode m_Reader_readWord.2.1 31 = .ok (.getfield 9, 3) := by decide +kernel
theorem d_Reader_readWord_34 : decode m_Reader_readWord.2.1 34 = .ok (.aload_n 0, 1) := by decide +kernel
theorem d_Reader_readWord_35 : decode m_Reader_readWord.2.1 35 = .ok (.getfield 28, 3) := by decide +kernel
theorem d_Reader_readWord_38 : decode m_Reader_readWord.2.1 38 = .ok (.iaload, 1) := by decide +kernel
theorem d_Reader_readWord_39 : decode m_Reader_readWord.2.1 39 = .ok (.bipush 122, 2) := by decide +kernel
theorem d_Reader_readWord_41 : decode m_Reader_readWord.2.1 41 = .ok (.if_icmp .gt 45, 3) := by decide +kernel
theorem d_Reader_readWord_44 : decode m_Reader_readWord.2.1 44 = .ok (.aload_n 0, 1) := by decide +kernel
theorem d_Reader_readWord_45 : decode m_Reader_readWord.2.1 45 = .ok (.aload_n 0, 1) := by decide +kernel
theorem d_Reader_readWord_46 : decode m_Reader_readWord.2.1 46 = .ok (.getfield 46, 3) := by decide +kernel
theorem d_Reader_readWord_49 : decode m_Reader_readWord.2.1 49 = .ok (.aload_n 0, 1) := by decide +kernel
theorem d_Reader_readWord_50 : decode m_Reader_readWord.2.1 50 = .ok (.getfield 28, 3) := by decide +kernel
theorem d_Reader_readWord_53 : decode m_Reader_readWord.2.1 53 = .ok (.aload_n 0, 1) := by decide +kernel
theorem d_Reader_readWord_54 : decode m_Reader_readWord.2.1 54 = .ok (.getfield 40, 3) := by decide +kernel
theorem d_Reader_readWord_57 : decode m_Reader_readWord.2.1 57 = .ok (.isub, 1) := by decide +kernel
theorem d_Reader_readWord_58 : decode m_Reader_readWord.2.1 58 = .ok (.aload_n 0, 1) := by decide +kernel
theorem d_Reader_readWord_59 : decode m_Reader_readWord.2.1 59 = .ok (.getfield 9, 3) := by decide +kernel
theorem d_Reader_readWord_62 : decode m_Reader_readWord.2.1 62 = .ok (.aload_n 0, 1) := by decide +kernel
theorem d_Reader_readWord_63 : decode m_Reader_readWord.2.1 63 = .ok (.getfield 28, 3) := by decide +kernel
theorem d_Reader_readWord_66 : decode m_Reader_readWord.2.1 66 = .ok (.iaload, 1) := by decide +kernel
theorem d_Reader_readWord_67 : decode m_Reader_readWord.2.1 67 = .ok (.invokestatic 231, 3) := by decide +kernel
theorem d_Reader_readWord_70 : decode m_Reader_readWord.2.1 70 = .ok (.putfield 46, 3) := by decide +kernel
theorem d_Reader_readWord_73 : decode m_Reader_readWord.2.1 73 = .ok (.aload_n 0, 1) := by decide +kernel
theorem d_Reader_readWord_74 : decode m_Reader_readWord.2.1 74 = .ok (.dup, 1) := by decide +kernel
theorem d_Reader_readWord_75 : decode m_Reader_readWord.2.1 75 = .ok (.getfield 28, 3) := by decide +kernel
theorem d_Reader_readWord_78 : decode m_Reader_readWord.2.1 78 = .ok (.iconst 1, 1) := by decide +kernel
theorem d_Reader_readWord_79 : decode m_Reader_readWord.2.1 79 = .ok (.iadd, 1) := by decide +kernel
theorem d_Reader_readWord_80 : decode m_Reader_readWord.2.1 80 = .ok (.putfield 28, 3) := by decide +kernel
theorem d_Reader_readWord_83 : decode m_Reader_readWord.2.1 83 = .ok (.goto (-78), 3) := by decide +kernel
theorem d_Reader_readWord_86 : decode m_Reader_readWord.2.1 86 = .ok (.aload_n 0, 1) := by decide +kernel
theorem d_Reader_readWord_87 : decode m_Reader_readWord.2.1 87 = .ok (.aload_n 0, 1) := by decide +kernel
theorem d_Reader_readWord_88 : decode m_Reader_readWord.2.1 88 = .ok (.getfield 28, 3) := by decide +kernel
theorem d_Reader_readWord_91 : decode m_Reader_readWord.2.1 91 = .ok (.aload_n 0, 1) := by decide +kernel
theorem d_Reader_readWord_92 : decode m_Reader_readWord.2.1 92 = .ok (.getfield 40, 3) := by decide +kernel
theorem d_Reader_readWord_95 : decode m_Reader_readWord.2.1 95 = .ok (.isub, 1) := by decide +kernel
theorem d_Reader_readWord_96 : decode m_Reader_readWord.2.1 96 = .ok (.bipush 6, 2) := by decide +kernel
theorem d_Reader_readWord_98 : decode m_Reader_readWord.2.1 98 = .ok (.if_icmp .le 9, 3) := by decide +kernel
theorem d_Reader_readWord_101 : decode m_Reader_readWord.2.1 101 = .ok (.getstatic 235, 3) := by decide +kernel
theorem d_Reader_readWord_104 : decode m_Reader_readWord.2.1 104 = .ok (.goto 6, 3) := by decide +kernel
theorem d_Reader_readWord_107 : decode m_Reader_readWord.2.1 107 = .ok (.getstatic 214, 3) := by decide +kernel
theorem d_Reader_readWord_110 : decode m_Reader_readWord.2.1 110 = .ok (.putfield 37, 3) := by decide +kernel
theorem d_Reader_readWord_113 : decode m_Reader_readWord.2.1 113 = .ok (.iconst 0, 1) := by decide +kernel
theorem d_Reader_readWord_114 : decode m_Reader_readWord.2.1 114 = .ok (.istore_n 1, 1) := by decide +kernel
theorem d_Reader_readWord_115 : decode m_Reader_readWord.2.1 115 = .ok (.iload_n 1, 1) := by decide +kernel
theorem d_Reader_readWord_116 : decode m_Reader_readWord.2.1 116 = .ok (.getstatic 238, 3) := by decide +kernel
theorem d_Reader_readWord_119 : decode m_Reader_readWord.2.1 119 = .ok (.arraylength, 1) := by decide +kernel
theorem d_Reader_readWord_120 : decode m_Reader_readWord.2.1 120 = .ok (.if_icmp .ge 43, 3) := by decide +kernel
theorem d_Reader_readWord_123 : decode m_Reader_readWord.2.1 123 = .ok (.aload_n 0, 1) := by decide +kernel
theorem d_Reader_readWord_124 : decode m_Reader_readWord.2.1 124 = .ok (.getfield 37, 3) := by decide +kernel
theorem d_Reader_readWord_127 : decode m_Reader_readWord.2.1 127 = .ok (.getstatic 214, 3) := by decide +kernel
theorem d_Reader_readWord_130 : decode m_Reader_readWord.2.1 130 = .ok (.if_acmp .ne 33, 3) := by decide +kernel
theorem d_Reader_readWord_133 : decode m_Reader_readWord.2.1 133 = .ok (.getstatic 238, 3) := by decide +kernel
theorem d_Reader_readWord_136 : decode m_Reader_readWord.2.1 136 = .ok (.iload_n 1, 1) := by decide +kernel
theorem d_Reader_readWord_137 : decode m_Reader_readWord.2.1 137 = .ok (.aaload, 1) := by decide +kernel
theorem d_Reader_readWord_138 : decode m_Reader_readWord.2.1 138 = .ok (.getfield 242, 3) := by decide +kernel
theorem d_Reader_readWord_141 : decode m_Reader_readWord.2.1 141 = .ok (.aload_n 0, 1) := by decide +kernel
theorem d_Reader_readWord_142 : decode m_Reader_readWord.2.1 142 = .ok (.getfield 46, 3) := by decide +kernel
theorem d_Reader_readWord_145 : decode m_Reader_readWord.2.1 145 = .ok (.if_icmp .ne 12, 3) := by decide +kernel
theorem d_Reader_readWord_148 : decode m_Reader_readWord.2.1 148 = .ok (.aload_n 0, 1) := by decide +kernel
theorem d_Reader_readWord_149 : decode m_Reader_readWord.2.1 149 = .ok (.getstatic 238, 3) := by decide +kernel
theorem d_Reader_readWord_152 : decode m_Reader_readWord.2.1 152 = .ok (.iload_n 1, 1) := by decide +kernel
theorem d_Reader_readWord_153 : decode m_Reader_readWord.2.1 153 = .ok (.aaload, 1) := by decide +kernel
theorem d_Reader_readWord_154 : decode m_Reader_readWord.2.1 154 = .ok (.putfield 37, 3) := by decide +kernel
theorem d_Reader_readWord_157 : decode m_Reader_readWord.2.1 157 = .ok (.iinc 1 1, 3) := by decide +kernel
theorem d_Reader_readWord_160 : decode m_Reader_readWord.2.1 160 = .ok (.goto (-45), 3) := by decide +kernel
theorem d_Reader_readWord_163 : decode m_Reader_readWord.2.1 163 = .ok (.return_, 1) := by decide +kernel
theorem d_Token_withLetter_0 : decode m_Token_withLetter.2.1 0 = .ok (.iload_n 1, 1) := by decide +kernel
theorem d_Token_withLetter_1 : decode m_Token_withLetter.2.1 1 = .ok (.bipush 6, 2) := by decide +kernel
theorem d_Token_withLetter_3 : decode m_Token_withLetter.2.1 3 = .ok (.if_icmp .ge 20, 3) := by decide +kernel
theorem d_Token_withLetter_6 : decode m_Token_withLetter.2.1 6 = .ok (.iload_n 0, 1) := by decide +kernel
theorem d_Token_withLetter_7 : decode m_Token_withLetter.2.1 7 = .ok (.iload_n 2, 1) := by decide +kernel
theorem d_Token_withLetter_8 : decode m_Token_withLetter.2.1 8 = .ok (.bipush 97, 2) := by decide +kernel
theorem d_Token_withLetter_10 : decode m_Token_withLetter.2.1 10 = .ok (.isub, 1) := by decide +kernel
theorem d_Token_withLetter_11 : decode m_Token_withLetter.2.1 11 = .ok (.iconst 1, 1) := by decide +kernel
theorem d_Token_withLetter_12 : decode m_Token_withLetter.2.1 12 = .ok (.iadd, 1) := by decide +kernel
theorem d_Token_withLetter_13 : decode m_Token_withLetter.2.1 13 = .ok (.iconst 5, 1) := by decide +kernel
theorem d_Token_withLetter_14 : decode m_Token_withLetter.2.1 14 = .ok (.iconst 5, 1) := by decide +kernel
theorem d_Token_withLetter_15 : decode m_Token_withLetter.2.1 15 = .ok (.iload_n 1, 1) := by decide +kernel
theorem d_Token_withLetter_16 : decode m_Token_withLetter.2.1 16 = .ok (.isub, 1) := by decide +kernel
theorem d_Token_withLetter_17 : decode m_Token_withLetter.2.1 17 = .ok (.imul, 1) := by decide +kernel
theorem d_Token_withLetter_18 : decode m_Token_withLetter.2.1 18 = .ok (.ishl, 1) := by decide +kernel
theorem d_Token_withLetter_19 : decode m_Token_withLetter.2.1 19 = .ok (.ior, 1) := by decide +kernel
theorem d_Token_withLetter_20 : decode m_Token_withLetter.2.1 20 = .ok (.goto 4, 3) := by decide +kernel
theorem d_Token_withLetter_23 : decode m_Token_withLetter.2.1 23 = .ok (.iload_n 0, 1) := by decide +kernel
theorem d_Token_withLetter_24 : decode m_Token_withLetter.2.1 24 = .ok (.ireturn, 1) := by decide +kernel
theorem d_Reader_readNumber_0 : decode m_Reader_readNumber.2.1 0 = .ok (.aload_n 0, 1) := by decide +kernel
theorem d_Reader_readNumber_1 : decode m_Reader_readNumber.2.1 1 = .ok (.getstatic 211, 3) := by decide +kernel
theorem d_Reader_readNumber_4 : decode m_Reader_readNumber.2.1 4 = .ok (.putfield 37, 3) := by decide +kernel
theorem d_Reader_readNumber_7 : decode m_Reader_readNumber.2.1 7 = .ok (.aload_n 0, 1) := by decide +kernel
theorem d_Reader_readNumber_8 : decode m_Reader_readNumber.2.1 8 = .ok (.iconst 0, 1) := by decide +kernel
theorem d_Reader_readNumber_9 : decode m_Reader_readNumber.2.1 9 = .ok (.putfield 43, 3) := by decide +kernel
theorem d_Reader_readNumber_12 : decode m_Reader_readNumber.2.1 12 = .ok (.aload_n 0, 1) := by decide +kernel
theorem d_Reader_readNumber_13 : decode m_Reader_readNumber.2.1 13 = .ok (.getfield 28, 3) := by decide +kernel
theorem d_Reader_readNumber_16 : decode m_Reader_readNumber.2.1 16 = .ok (.aload_n 0, 1) := by decide +kernel
theorem d_Reader_readNumber_17 : decode m_Reader_readNumber.2.1 17 = .ok (.getfield 25, 3) := by decide +kernel
theorem d_Reader_readNumber_20 : decode m_Reader_readNumber.2.1 20 = .ok (.if_icmp .ge 73, 3) := by decide +kernel
theorem d_Reader_readNumber_23 : decode m_Reader_readNumber.2.1 23 = .ok (.aload_n 0, 1) := by decide +kernel
theorem d_Reader_readNumber_24 : decode m_Reader_readNumber.2.1 24 = .ok (.getfield 9, 3) := by decide +kernel
theorem d_Reader_readNumber_27 : decode m_Reader_readNumber.2.1 27 = .ok (.aload_n 0, 1) := by decide +kernel
theorem d_Reader_readNumber_28 : decode m_Reader_readNumber.2.1 28 = .ok (.getfield 28, 3) := by decide +kernel
theorem d_Reader_readNumber_31 : decode m_Reader_readNumber.2.1 31 = .ok (.iaload, 1) := by decide +kernel
theorem d_Reader_readNumber_32 : decode m_Reader_readNumber.2.1 32 = .ok (.bipush 48, 2) := by decide +kernel
theorem d_Reader_readNumber_34 : decode m_Reader_readNumber.2.1 34 = .ok (.if_icmp .lt 59, 3) := by decide +kernel
theorem d_Reader_readNumber_37 : decode m_Reader_readNumber.2.1 37 = .ok (.aload_n 0, 1) := by decide +kernel
theorem d_Reader_readNumber_38 : decode m_Reader_readNumber.2.1 38 = .ok (.getfield 9, 3) := by decide +kernel
theorem d_Reader_readNumber_41 : decode m_Reader_readNumber.2.1 41 = .ok (.aload_n 0, 1) := by decide +kernel
theorem d_Reader_readNumber_42 : decode m_Reader_readNumber.2.1 42 = .ok (.getfield 28, 3) := by decide +kernel
theorem d_Reader_readNumber_45 : decode m_Reader_readNumber.2.1 45 = .ok (.iaload, 1) := by decide +kernel
theorem d_Reader_readNumber_46 : decode m_Reader_readNumber.2.1 46 = .ok (.bipush 57, 2) := by decide +kernel
theorem d_Reader_readNumber_48 : decode m_Reader_readNumber.2.1 48 = .ok (.if_icmp .gt 45, 3) := by decide +kernel
theorem d_Reader_readNumber_51 : decode m_Reader_readNumber.2.1 51 = .ok (.aload_n 0, 1) := by decide +kernel
theorem d_Reader_readNumber_52 : decode m_Reader_readNumber.2.1 52 = .ok (.aload_n 0, 1) := by decide +kernel
theorem d_Reader_readNumber_53 : decode m_Reader_readNumber.2.1 53 = .ok (.getfield 43, 3) := by decide +kernel
theorem d_Reader_readNumber_56 : decode m_Reader_readNumber.2.1 56 = .ok (.bipush 10, 2) := by decide +kernel
theorem d_Reader_readNumber_58 : decode m_Reader_readNumber.2.1 58 = .ok (.imul, 1) := by decide +kernel
theorem d_Reader_readNumber_59 : decode m_Reader_readNumber.2.1 59 = .ok (.aload_n 0, 1) := by decide +kernel
theorem d_Reader_readNumber_60 : decode m_Reader_readNumber.2.1 60 = .ok (.getfield 9, 3) := by decide +kernel
theorem d_Reader_readNumber_63 : decode m_Reader_readNumber.2.1 63 = .ok (.aload_n 0, 1) := by decide +kernel
theorem d_Reader_readNumber_64 : decode m_Reader_readNumber.2.1 64 = .ok (.getfield 28, 3) := by decide +kernel
theorem d_Reader_readNumber_67 : decode m_Reader_readNumber.2.1 67 = .ok (.iaload, 1) := by decide +kernel
theorem d_Reader_readNumber_68 : decode m_Reader_readNumber.2.1 68 = .ok (.iadd, 1) := by decide +kernel
theorem d_Reader_readNumber_69 : decode m_Reader_readNumber.2.1 69 = .ok (.bipush 48, 2) := by decide +kernel
theorem d_Reader_readNumber_71 : decode m_Reader_readNumber.2.1 71 = .ok (.isub, 1) := by decide +kernel
theorem d_Reader_readNumber_72 : decode m_Reader_readNumber.2.1 72 = .ok (.ldc 243, 2) := by decide +kernel
theorem d_Reader_readNumber_74 : decode m_Reader_readNumber.2.1 74 = .ok (.invokestatic 61, 3) := by decide +kernel
theorem d_Reader_readNumber_77 : decode m_Reader_readNumber.2.1 77 = .ok (.putfield 43, 3) := by decide +kernel
theorem d_Reader_readNumber_80 : decode m_Reader_readNumber.2.1 80 = .ok (.aload_n 0, 1) := by decide +kernel
theorem d_Reader_readNumber_81 : decode m_Reader_readNumber.2.1 81 = .ok (.dup, 1) := by decide +kernel
theorem d_Reader_readNumber_82 : decode m_Reader_readNumber.2.1 82 = .ok (.getfield 28, 3) := by decide +kernel
theorem d_Reader_readNumber_85 : decode m_Reader_readNumber.2.1 85 = .ok (.iconst 1, 1) := by decide +kernel
theorem d_Reader_readNumber_86 : decode m_Reader_readNumber.2.1 86 = .ok (.iadd, 1) := by decide +kernel
theorem d_Reader_readNumber_87 : decode m_Reader_readNumber.2.1 87 = .ok (.putfield 28, 3) := by decide +kernel
theorem d_Reader_readNumber_90 : decode m_Reader_readNumber.2.1 90 = .ok (.goto (-78), 3) := by decide +kernel
theorem d_Reader_readNumber_93 : decode m_Reader_readNumber.2.1 93 = .ok (.return_, 1) := by decide +kernel
theorem d_Reader_readSign_0 : decode m_Reader_readSign.2.1 0 = .ok (.iconst 1, 1) := by decide +kernel
theorem d_Reader_readSign_1 : decode m_Reader_readSign.2.1 1 = .ok (.istore_n 3, 1) := by decide +kernel
theorem d_Reader_readSign_2 : decode m_Reader_readSign.2.1 2 = .ok (.iload_n 1, 1) := by decide +kernel
theorem d_Reader_readSign_3 : decode m_Reader_readSign.2.1 3 = .ok (.tableswitch 271 40 62 #[241, 251, 221, 201, 271, 211, 271, 231, 271, 271, 271, 271, 271, 271, 271, 271, 271, 271, 271, 261, 105, 191, 157], 105) := by decide +kernel
theorem d_Reader_readSign_108 : decode m_Reader_readSign.2.1 108 = .ok (.iload_n 2, 1) := by decide +kernel
theorem d_Reader_readSign_109 : decode m_Reader_readSign.2.1 109 = .ok (.bipush 61, 2) := by decide +kernel
theorem d_Reader_readSign_111 : decode m_Reader_readSign.2.1 111 = .ok (.if_icmp .eq 9, 3) := by decide +kernel
theorem d_Reader_readSign_114 : decode m_Reader_readSign.2.1 114 = .ok (.iload_n 2, 1) := by decide +kernel
theorem d_Reader_readSign_115 : decode m_Reader_readSign.2.1 115 = .ok (.bipush 62, 2) := by decide +kernel
theorem d_Reader_readSign_117 : decode m_Reader_readSign.2.1 117 = .ok (.if_icmp .ne 7, 3) := by decide +kernel
theorem d_Reader_readSign_120 : decode m_Reader_readSign.2.1 120 = .ok (.iconst 2, 1) := by decide +kernel
theorem d_Reader_readSign_121 : decode m_Reader_readSign.2.1 121 = .ok (.goto 4, 3) := by decide +kernel
theorem d_Reader_readSign_124 : decode m_Reader_readSign.2.1 124 = .ok (.iconst 1, 1) := by decide +kernel
theorem d_Reader_readSign_125 : decode m_Reader_readSign.2.1 125 = .ok (.istore_n 3, 1) := by decide +kernel
theorem d_Reader_readSign_126 : decode m_Reader_readSign.2.1 126 = .ok (.aload_n 0, 1) := by decide +kernel
theorem d_Reader_readSign_127 : decode m_Reader_readSign.2.1 127 = .ok (.iload_n 2, 1) := by decide +kernel
theorem d_Reader_readSign_128 : decode m_Reader_readSign.2.1 128 = .ok (.bipush 61, 2) := by decide +kernel
theorem d_Reader_readSign_130 : decode m_Reader_readSign.2.1 130 = .ok (.if_icmp .ne 9, 3) := by decide +kernel
theorem d_Reader_readSign_133 : decode m_Reader_readSign.2.1 133 = .ok (.getstatic 244, 3) := by decide +kernel
theorem d_Reader_readSign_136 : decode m_Reader_readSign.2.1 136 = .ok (.goto 18, 3) := by decide +kernel
theorem d_Reader_readSign_139 : decode m_Reader_readSign.2.1 139 = .ok (.iload_n 2, 1) := by decide +kernel
theorem d_Reader_readSign_140 : decode m_Reader_readSign.2.1 140 = .ok (.bipush 62, 2) := by decide +kernel
theorem d_Reader_readSign_142 : decode m_Reader_readSign.2.1 142 = .ok (.if_icmp .ne 9, 3) := by decide +kernel
theorem d_Reader_readSign_145 : decode m_Reader_readSign.2.1 145 = .ok (.getstatic 247, 3) := by decide +kernel
theorem d_Reader_readSign_148 : decode m_Reader_readSign.2.1 148 = .ok (.goto 6, 3) := by decide +kernel
theorem d_Reader_readSign_151 : decode m_Reader_readSign.2.1 151 = .ok (.getstatic 250, 3) := by decide +kernel
theorem d_Reader_readSign_154 : decode m_Reader_readSign.2.1 154 = .ok (.putfield 37, 3) := by decide +kernel
theorem d_Reader_readSign_157 : decode m_Reader_readSign.2.1 157 = .ok (.goto 124, 3) := by decide +kernel
theorem d_Reader_readSign_160 : decode m_Reader_readSign.2.1 160 = .ok (.iload_n 2, 1) := by decide +kernel
theorem d_Reader_readSign_161 : decode m_Reader_readSign.2.1 161 = .ok (.bipush 61, 2) := by decide +kernel
theorem d_Reader_readSign_163 : decode m_Reader_readSign.2.1 163 = .ok (.if_icmp .ne 7, 3) := by decide +kernel
theorem d_Reader_readSign_166 : decode m_Reader_readSign.2.1 166 = .ok (.iconst 2, 1) := by decide +kernel
theorem d_Reader_readSign_167 : decode m_Reader_readSign.2.1 167 = .ok (.goto 4, 3) := by decide +kernel
theorem d_Reader_readSign_170 : decode m_Reader_readSign.2.1 170 = .ok (.iconst 1, 1) := by decide +kernel
theorem d_Reader_readSign_171 : decode m_Reader_readSign.2.1 171 = .ok (.istore_n 3, 1) := by decide +kernel
theorem d_Reader_readSign_172 : decode m_Reader_readSign.2.1 172 = .ok (.aload_n 0, 1) := by decide +kernel
theorem d_Reader_readSign_173 : decode m_Reader_readSign.2.1 173 = .ok (.iload_n 2, 1) := by decide +kernel
theorem d_Reader_readSign_174 : decode m_Reader_readSign.2.1 174 = .ok (.bipush 61, 2) := by decide +kernel
theorem d_Reader_readSign_176 : decode m_Reader_readSign.2.1 176 = .ok (.if_icmp .ne 9, 3) := by decide +kernel
theorem d_Reader_readSign_179 : decode m_Reader_readSign.2.1 179 = .ok (.getstatic 253, 3) := by decide +kernel
theorem d_Reader_readSign_182 : decode m_Reader_readSign.2.1 182 = .ok (.goto 6, 3) := by decide +kernel
theorem d_Reader_readSign_185 : decode m_Reader_readSign.2.1 185 = .ok (.getstatic 256, 3) := by decide +kernel
theorem d_Reader_readSign_188 : decode m_Reader_readSign.2.1 188 = .ok (.putfield 37, 3) := by decide +kernel
theorem d_Reader_readSign_191 : decode m_Reader_readSign.2.1 191 = .ok (.goto 90, 3) := by decide +kernel
theorem d_Reader_readSign_194 : decode m_Reader_readSign.2.1 194 = .ok (.aload_n 0, 1) := by decide +kernel
theorem d_Reader_readSign_195 : decode m_Reader_readSign.2.1 195 = .ok (.getstatic 259, 3) := by decide +kernel
theorem d_Reader_readSign_198 : decode m_Reader_readSign.2.1 198 = .ok (.putfield 37, 3) := by decide +kernel
theorem d_Reader_readSign_201 : decode m_Reader_readSign.2.1 201 = .ok (.goto 80, 3) := by decide +kernel
theorem d_Reader_readSign_204 : decode m_Reader_readSign.2.1 204 = .ok (.aload_n 0, 1) := by decide +kernel
theorem d_Reader_readSign_205 : decode m_Reader_readSign.2.1 205 = .ok (.getstatic 262, 3) := by decide +kernel
theorem d_Reader_readSign_208 : decode m_Reader_readSign.2.1 208 = .ok (.putfield 37, 3) := by decide +kernel
theorem d_Reader_readSign_211 : decode m_Reader_readSign.2.1 211 = .ok (.goto 70, 3) := by decide +kernel
theorem d_Reader_readSign_214 : decode m_Reader_readSign.2.1 214 = .ok (.aload_n 0, 1) := by decide +kernel
theorem d_Reader_readSign_215 : decode m_Reader_readSign.2.1 215 = .ok (.getstatic 265, 3) := by decide +kernel
theorem d_Reader_readSign_218 : decode m_Reader_readSign.2.1 218 = .ok (.putfield 37, 3) := by decide +kernel
theorem d_Reader_readSign_221 : decode m_Reader_readSign.2.1 221 = .ok (.goto 60, 3) := by decide +kernel
theorem d_Reader_readSign_224 : decode m_Reader_readSign.2.1 224 = .ok (.aload_n 0, 1) := by decide +kernel
theorem d_Reader_readSign_225 : decode m_Reader_readSign.2.1 225 = .ok (.getstatic 268, 3) := by decide +kernel
theorem d_Reader_readSign_228 : decode m_Reader_readSign.2.1 228 = .ok (.putfield 37, 3) := by decide +kernel
theorem d_Reader_readSign_231 : decode m_Reader_readSign.2.1 231 = .ok (.goto 50, 3) := by decide +kernel
theorem d_Reader_readSign_234 : decode m_Reader_readSign.2.1 234 = .ok (.aload_n 0, 1) := by decide +kernel
theorem d_Reader_readSign_235 : decode m_Reader_readSign.2.1 235 = .ok (.getstatic 271, 3) := by decide +kernel
theorem d_Reader_readSign_238 : decode m_Reader_readSign.2.1 238 = .ok (.putfield 37, 3) := by decide +kernel
theorem d_Reader_readSign_241 : decode m_Reader_readSign.2.1 241 = .ok (.goto 40, 3) := by decide +kernel
theorem d_Reader_readSign_244 : decode m_Reader_readSign.2.1 244 = .ok (.aload_n 0, 1) := by decide +kernel
theorem d_Reader_readSign_245 : decode m_Reader_readSign.2.1 245 = .ok (.getstatic 205, 3) := by decide +kernel
theorem d_Reader_readSign_248 : decode m_Reader_readSign.2.1 248 = .ok (.putfield 37, 3) := by decide +kernel
theorem d_Reader_readSign_251 : decode m_Reader_readSign.2.1 251 = .ok (.goto 30, 3) := by decide +kernel
theorem d_Reader_readSign_254 : decode m_Reader_readSign.2.1 254 = .ok (.aload_n 0, 1) := by decide +kernel
theorem d_Reader_readSign_255 : decode m_Reader_readSign.2.1 255 = .ok (.getstatic 208, 3) := by decide +kernel
theorem d_Reader_readSign_258 : decode m_Reader_readSign.2.1 258 = .ok (.putfield 37, 3) := by decide +kernel
theorem d_Reader_readSign_261 : decode m_Reader_readSign.2.1 261 = .ok (.goto 20, 3) := by decide +kernel
theorem d_Reader_readSign_264 : decode m_Reader_readSign.2.1 264 = .ok (.aload_n 0, 1) := by decide +kernel
theorem d_Reader_readSign_265 : decode m_Reader_readSign.2.1 265 = .ok (.getstatic 99, 3) := by decide +kernel
theorem d_Reader_readSign_268 : decode m_Reader_readSign.2.1 268 = .ok (.putfield 37, 3) := by decide +kernel
theorem d_Reader_readSign_271 : decode m_Reader_readSign.2.1 271 = .ok (.goto 10, 3) := by decide +kernel
theorem d_Reader_readSign_274 : decode m_Reader_readSign.2.1 274 = .ok (.aload_n 0, 1) := by decide +kernel
theorem d_Reader_readSign_275 : decode m_Reader_readSign.2.1 275 = .ok (.getstatic 235, 3) := by decide +kernel
theorem d_Reader_readSign_278 : decode m_Reader_readSign.2.1 278 = .ok (.putfield 37, 3) := by decide +kernel
theorem d_Reader_readSign_281 : decode m_Reader_readSign.2.1 281 = .ok (.aload_n 0, 1) := by decide +kernel
theorem d_Reader_readSign_282 : decode m_Reader_readSign.2.1 282 = .ok (.dup, 1) := by decide +kernel
theorem d_Reader_readSign_283 : decode m_Reader_readSign.2.1 283 = .ok (.getfield 28, 3) := by decide +kernel
theorem d_Reader_readSign_286 : decode m_Reader_readSign.2.1 286 = .ok (.iload_n 3, 1) := by decide +kernel
theorem d_Reader_readSign_287 : decode m_Reader_readSign.2.1 287 = .ok (.iadd, 1) := by decide +kernel
theorem d_Reader_readSign_288 : decode m_Reader_readSign.2.1 288 = .ok (.putfield 28, 3) := by decide +kernel
theorem d_Reader_readSign_291 : decode m_Reader_readSign.2.1 291 = .ok (.return_, 1) := by decide +kernel
theorem d_Reader_readHouse_0 : decode m_Reader_readHouse.2.1 0 = .ok (.aload_n 0, 1) := by decide +kernel
theorem d_Reader_readHouse_1 : decode m_Reader_readHouse.2.1 1 = .ok (.getfield 52, 3) := by decide +kernel
theorem d_Reader_readHouse_4 : decode m_Reader_readHouse.2.1 4 = .ok (.getfield 106, 3) := by decide +kernel
theorem d_Reader_readHouse_7 : decode m_Reader_readHouse.2.1 7 = .ok (.istore_n 1, 1) := by decide +kernel
theorem d_Reader_readHouse_8 : decode m_Reader_readHouse.2.1 8 = .ok (.iload_n 1, 1) := by decide +kernel
theorem d_Reader_readHouse_9 : decode m_Reader_readHouse.2.1 9 = .ok (.bipush 6, 2) := by decide +kernel
theorem d_Reader_readHouse_11 : decode m_Reader_readHouse.2.1 11 = .ok (.if_icmp .lt 9, 3) := by decide +kernel
theorem d_Reader_readHouse_14 : decode m_Reader_readHouse.2.1 14 = .ok (.aload_n 0, 1) := by decide +kernel
theorem d_Reader_readHouse_15 : decode m_Reader_readHouse.2.1 15 = .ok (.iconst 2, 1) := by decide +kernel
theorem d_Reader_readHouse_16 : decode m_Reader_readHouse.2.1 16 = .ok (.invokevirtual 95, 3) := by decide +kernel
theorem d_Reader_readHouse_19 : decode m_Reader_readHouse.2.1 19 = .ok (.ireturn, 1) := by decide +kernel
theorem d_Reader_readHouse_20 : decode m_Reader_readHouse.2.1 20 = .ok (.aload_n 0, 1) := by decide +kernel
theorem d_Reader_readHouse_21 : decode m_Reader_readHouse.2.1 21 = .ok (.invokevirtual 67, 3) := by decide +kernel
theorem d_Reader_readHouse_24 : decode m_Reader_readHouse.2.1 24 = .ok (.aload_n 0, 1) := by decide +kernel
theorem d_Reader_readHouse_25 : decode m_Reader_readHouse.2.1 25 = .ok (.aload_n 0, 1) := by decide +kernel
theorem d_Reader_readHouse_26 : decode m_Reader_readHouse.2.1 26 = .ok (.getfield 52, 3) := by decide +kernel
theorem d_Reader_readHouse_29 : decode m_Reader_readHouse.2.1 29 = .ok (.getfield 109, 3) := by decide +kernel
theorem d_Reader_readHouse_32 : decode m_Reader_readHouse.2.1 32 = .ok (.iload_n 1, 1) := by decide +kernel
theorem d_Reader_readHouse_33 : decode m_Reader_readHouse.2.1 33 = .ok (.invokevirtual 112, 3) := by decide +kernel
theorem d_Reader_readHouse_36 : decode m_Reader_readHouse.2.1 36 = .ok (.ifCond .ne 5, 3) := by decide +kernel
theorem d_Reader_readHouse_39 : decode m_Reader_readHouse.2.1 39 = .ok (.iconst 0, 1) := by decide +kernel
theorem d_Reader_readHouse_40 : decode m_Reader_readHouse.2.1 40 = .ok (.ireturn, 1) := by decide +kernel
theorem d_Reader_readHouse_41 : decode m_Reader_readHouse.2.1 41 = .ok (.aload_n 0, 1) := by decide +kernel
theorem d_Reader_readHouse_42 : decode m_Reader_readHouse.2.1 42 = .ok (.getfield 52, 3) := by decide +kernel
theorem d_Reader_readHouse_45 : decode m_Reader_readHouse.2.1 45 = .ok (.getfield 116, 3) := by decide +kernel
theorem d_Reader_readHouse_48 : decode m_Reader_readHouse.2.1 48 = .ok (.iload_n 1, 1) := by decide +kernel
theorem d_Reader_readHouse_49 : decode m_Reader_readHouse.2.1 49 = .ok (.aload_n 0, 1) := by decide +kernel
theorem d_Reader_readHouse_50 : decode m_Reader_readHouse.2.1 50 = .ok (.iconst 0, 1) := by decide +kernel
theorem d_Reader_readHouse_51 : decode m_Reader_readHouse.2.1 51 = .ok (.bipush 99, 2) := by decide +kernel
theorem d_Reader_readHouse_53 : decode m_Reader_readHouse.2.1 53 = .ok (.invokevirtual 119, 3) := by decide +kernel
theorem d_Reader_readHouse_56 : decode m_Reader_readHouse.2.1 56 = .ok (.iastore, 1) := by decide +kernel
theorem d_Reader_readHouse_57 : decode m_Reader_readHouse.2.1 57 = .ok (.aload_n 0, 1) := by decide +kernel
theorem d_Reader_readHouse_58 : decode m_Reader_readHouse.2.1 58 = .ok (.getfield 19, 3) := by decide +kernel
theorem d_Reader_readHouse_61 : decode m_Reader_readHouse.2.1 61 = .ok (.ifCond .eq 5, 3) := by decide +kernel
theorem d_Reader_readHouse_64 : decode m_Reader_readHouse.2.1 64 = .ok (.iconst 0, 1) := by decide +kernel
theorem d_Reader_readHouse_65 : decode m_Reader_readHouse.2.1 65 = .ok (.ireturn, 1) := by decide +kernel
theorem d_Reader_readHouse_66 : decode m_Reader_readHouse.2.1 66 = .ok (.aload_n 0, 1) := by decide +kernel
theorem d_Reader_readHouse_67 : decode m_Reader_readHouse.2.1 67 = .ok (.getfield 52, 3) := by decide +kernel
theorem d_Reader_readHouse_70 : decode m_Reader_readHouse.2.1 70 = .ok (.getfield 122, 3) := by decide +kernel
theorem d_Reader_readHouse_73 : decode m_Reader_readHouse.2.1 73 = .ok (.iload_n 1, 1) := by decide +kernel
theorem d_Reader_readHouse_74 : decode m_Reader_readHouse.2.1 74 = .ok (.aload_n 0, 1) := by decide +kernel
theorem d_Reader_readHouse_75 : decode m_Reader_readHouse.2.1 75 = .ok (.iconst 0, 1) := by decide +kernel
theorem d_Reader_readHouse_76 : decode m_Reader_readHouse.2.1 76 = .ok (.bipush 99, 2) := by decide +kernel
theorem d_Reader_readHouse_78 : decode m_Reader_readHouse.2.1 78 = .ok (.invokevirtual 119, 3) := by decide +kernel
theorem d_Reader_readHouse_81 : decode m_Reader_readHouse.2.1 81 = .ok (.iastore, 1) := by decide +kernel
theorem d_Reader_readHouse_82 : decode m_Reader_readHouse.2.1 82 = .ok (.aload_n 0, 1) := by decide +kernel
theorem d_Reader_readHouse_83 : decode m_Reader_readHouse.2.1 83 = .ok (.getfield 19, 3) := by decide +kernel
theorem d_Reader_readHouse_86 : decode m_Reader_readHouse.2.1 86 = .ok (.ifCond .eq 5, 3) := by decide +kernel
theorem d_Reader_readHouse_89 : decode m_Reader_readHouse.2.1 89 = .ok (.iconst 0, 1) := by decide +kernel
theorem d_Reader_readHouse_90 : decode m_Reader_readHouse.2.1 90 = .ok (.ireturn, 1) := by decide +kernel
theorem d_Reader_readHouse_91 : decode m_Reader_readHouse.2.1 91 = .ok (.aload_n 0, 1) := by decide +kernel
theorem d_Reader_readHouse_92 : decode m_Reader_readHouse.2.1 92 = .ok (.getfield 52, 3) := by decide +kernel
theorem d_Reader_readHouse_95 : decode m_Reader_readHouse.2.1 95 = .ok (.getfield 125, 3) := by decide +kernel
theorem d_Reader_readHouse_98 : decode m_Reader_readHouse.2.1 98 = .ok (.iload_n 1, 1) := by decide +kernel
theorem d_Reader_readHouse_99 : decode m_Reader_readHouse.2.1 99 = .ok (.sipush 240, 3) := by decide +kernel
theorem d_Reader_readHouse_102 : decode m_Reader_readHouse.2.1 102 = .ok (.iastore, 1) := by decide +kernel
theorem d_Reader_readHouse_103 : decode m_Reader_readHouse.2.1 103 = .ok (.aload_n 0, 1) := by decide +kernel
theorem d_Reader_readHouse_104 : decode m_Reader_readHouse.2.1 104 = .ok (.getfield 37, 3) := by decide +kernel
theorem d_Reader_readHouse_107 : decode m_Reader_readHouse.2.1 107 = .ok (.getstatic 128, 3) := by decide +kernel
theorem d_Reader_readHouse_110 : decode m_Reader_readHouse.2.1 110 = .ok (.if_acmp .ne 24, 3) := by decide +kernel
theorem d_Reader_readHouse_113 : decode m_Reader_readHouse.2.1 113 = .ok (.aload_n 0, 1) := by decide +kernel
theorem d_Reader_readHouse_114 : decode m_Reader_readHouse.2.1 114 = .ok (.invokevirtual 67, 3) := by decide +kernel
theorem d_Reader_readHouse_117 : decode m_Reader_readHouse.2.1 117 = .ok (.aload_n 0, 1) := by decide +kernel
theorem d_Reader_readHouse_118 : decode m_Reader_readHouse.2.1 118 = .ok (.getfield 52, 3) := by decide +kernel
theorem d_Reader_readHouse_121 : decode m_Reader_readHouse.2.1 121 = .ok (.getfield 125, 3) := by decide +kernel
theorem d_Reader_readHouse_124 : decode m_Reader_readHouse.2.1 124 = .ok (.iload_n 1, 1) := by decide +kernel
theorem d_Reader_readHouse_125 : decode m_Reader_readHouse.2.1 125 = .ok (.aload_n 0, 1) := by decide +kernel
theorem d_Reader_readHouse_126 : decode m_Reader_readHouse.2.1 126 = .ok (.iconst 1, 1) := by decide +kernel
theorem d_Reader_readHouse_127 : decode m_Reader_readHouse.2.1 127 = .ok (.sipush 240, 3) := by decide +kernel
theorem d_Reader_readHouse_130 : decode m_Reader_readHouse.2.1 130 = .ok (.invokevirtual 119, 3) := by decide +kernel
theorem d_Reader_readHouse_133 : decode m_Reader_readHouse.2.1 133 = .ok (.iastore, 1) := by decide +kernel
theorem d_Reader_readHouse_134 : decode m_Reader_readHouse.2.1 134 = .ok (.aload_n 0, 1) := by decide +kernel
theorem d_Reader_readHouse_135 : decode m_Reader_readHouse.2.1 135 = .ok (.getfield 19, 3) := by decide +kernel
theorem d_Reader_readHouse_138 : decode m_Reader_readHouse.2.1 138 = .ok (.ifCond .ne 32, 3) := by decide +kernel
theorem d_Reader_readHouse_141 : decode m_Reader_readHouse.2.1 141 = .ok (.aload_n 0, 1) := by decide +kernel
theorem d_Reader_readHouse_142 : decode m_Reader_readHouse.2.1 142 = .ok (.getfield 37, 3) := by decide +kernel
theorem d_Reader_readHouse_145 : decode m_Reader_readHouse.2.1 145 = .ok (.getstatic 131, 3) := by decide +kernel
theorem d_Reader_readHouse_148 : decode m_Reader_readHouse.2.1 148 = .ok (.if_acmp .ne 22, 3) := by decide +kernel
theorem d_Reader_readHouse_151 : decode m_Reader_readHouse.2.1 151 = .ok (.aload_n 0, 1) := by decide +kernel
theorem d_Reader_readHouse_152 : decode m_Reader_readHouse.2.1 152 = .ok (.invokevirtual 67, 3) := by decide +kernel
theorem d_Reader_readHouse_155 : decode m_Reader_readHouse.2.1 155 = .ok (.aload_n 0, 1) := by decide +kernel
theorem d_Reader_readHouse_156 : decode m_Reader_readHouse.2.1 156 = .ok (.getfield 52, 3) := by decide +kernel
theorem d_Reader_readHouse_159 : decode m_Reader_readHouse.2.1 159 = .ok (.dup, 1) := by decide +kernel
theorem d_Reader_readHouse_160 : decode m_Reader_readHouse.2.1 160 = .ok (.getfield 134, 3) := by decide +kernel
theorem d_Reader_readHouse_163 : decode m_Reader_readHouse.2.1 163 = .ok (.iconst 1, 1) := by decide +kernel
theorem d_Reader_readHouse_164 : decode m_Reader_readHouse.2.1 164 = .ok (.iload_n 1, 1) := by decide +kernel
theorem d_Reader_readHouse_165 : decode m_Reader_readHouse.2.1 165 = .ok (.ishl, 1) := by decide +kernel
theorem d_Reader_readHouse_166 : decode m_Reader_readHouse.2.1 166 = .ok (.ior, 1) := by decide +kernel
theorem d_Reader_readHouse_167 : decode m_Reader_readHouse.2.1 167 = .ok (.putfield 134, 3) := by decide +kernel
theorem d_Reader_readHouse_170 : decode m_Reader_readHouse.2.1 170 = .ok (.aload_n 0, 1) := by decide +kernel
theorem d_Reader_readHouse_171 : decode m_Reader_readHouse.2.1 171 = .ok (.getfield 52, 3) := by decide +kernel
theorem d_Reader_readHouse_174 : decode m_Reader_readHouse.2.1 174 = .ok (.dup, 1) := by decide +kernel
theorem d_Reader_readHouse_175 : decode m_Reader_readHouse.2.1 175 = .ok (.getfield 106, 3) := by decide +kernel
theorem d_Reader_readHouse_178 : decode m_Reader_readHouse.2.1 178 = .ok (.iconst 1, 1) := by decide +kernel
theorem d_Reader_readHouse_179 : decode m_Reader_readHouse.2.1 179 = .ok (.iadd, 1) := by decide +kernel
theorem d_Reader_readHouse_180 : decode m_Reader_readHouse.2.1 180 = .ok (.putfield 106, 3) := by decide +kernel
theorem d_Reader_readHouse_183 : decode m_Reader_readHouse.2.1 183 = .ok (.aload_n 0, 1) := by decide +kernel
theorem d_Reader_readHouse_184 : decode m_Reader_readHouse.2.1 184 = .ok (.getfield 19, 3) := by decide +kernel
theorem d_Reader_readHouse_187 : decode m_Reader_readHouse.2.1 187 = .ok (.ifCond .ne 7, 3) := by decide +kernel
theorem d_Reader_readHouse_190 : decode m_Reader_readHouse.2.1 190 = .ok (.iconst 1, 1) := by decide +kernel
theorem d_Reader_readHouse_191 : decode m_Reader_readHouse.2.1 191 = .ok (.goto 4, 3) := by decide +kernel
theorem d_Reader_readHouse_194 : decode m_Reader_readHouse.2.1 194 = .ok (.iconst 0, 1) := by decide +kernel
theorem d_Reader_readHouse_195 : decode m_Reader_readHouse.2.1 195 = .ok (.ireturn, 1) := by decide +kernel
theorem d_Reader_stumble_0 : decode m_Reader_stumble.2.1 0 = .ok (.aload_n 0, 1) := by decide +kernel
theorem d_Reader_stumble_1 : decode m_Reader_stumble.2.1 1 = .ok (.iload_n 1, 1) := by decide +kernel
theorem d_Reader_stumble_2 : decode m_Reader_stumble.2.1 2 = .ok (.putfield 19, 3) := by decide +kernel
theorem d_Reader_stumble_5 : decode m_Reader_stumble.2.1 5 = .ok (.aload_n 0, 1) := by decide +kernel
theorem d_Reader_stumble_6 : decode m_Reader_stumble.2.1 6 = .ok (.aload_n 0, 1) := by decide +kernel
theorem d_Reader_stumble_7 : decode m_Reader_stumble.2.1 7 = .ok (.getfield 40, 3) := by decide +kernel
theorem d_Reader_stumble_10 : decode m_Reader_stumble.2.1 10 = .ok (.putfield 22, 3) := by decide +kernel
theorem d_Reader_stumble_13 : decode m_Reader_stumble.2.1 13 = .ok (.iconst 0, 1) := by decide +kernel
theorem d_Reader_stumble_14 : decode m_Reader_stumble.2.1 14 = .ok (.ireturn, 1) := by decide +kernel
theorem d_Reader_takeNewName_0 : decode m_Reader_takeNewName.2.1 0 = .ok (.aload_n 0, 1) := by decide +kernel
theorem d_Reader_takeNewName_1 : decode m_Reader_takeNewName.2.1 1 = .ok (.getfield 37, 3) := by decide +kernel
theorem d_Reader_takeNewName_4 : decode m_Reader_takeNewName.2.1 4 = .ok (.getstatic 214, 3) := by decide +kernel
theorem d_Reader_takeNewName_7 : decode m_Reader_takeNewName.2.1 7 = .ok (.if_acmp .eq 9, 3) := by decide +kernel
theorem d_Reader_takeNewName_10 : decode m_Reader_takeNewName.2.1 10 = .ok (.aload_n 0, 1) := by decide +kernel
theorem d_Reader_takeNewName_11 : decode m_Reader_takeNewName.2.1 11 = .ok (.iconst 1, 1) := by decide +kernel
theorem d_Reader_takeNewName_12 : decode m_Reader_takeNewName.2.1 12 = .ok (.invokevirtual 95, 3) := by decide +kernel
theorem d_Reader_takeNewName_15 : decode m_Reader_takeNewName.2.1 15 = .ok (.ireturn, 1) := by decide +kernel
theorem d_Reader_takeNewName_16 : decode m_Reader_takeNewName.2.1 16 = .ok (.aload_n 1, 1) := by decide +kernel
theorem d_Reader_takeNewName_17 : decode m_Reader_takeNewName.2.1 17 = .ok (.iload_n 2, 1) := by decide +kernel
theorem d_Reader_takeNewName_18 : decode m_Reader_takeNewName.2.1 18 = .ok (.aload_n 0, 1) := by decide +kernel
theorem d_Reader_takeNewName_19 : decode m_Reader_takeNewName.2.1 19 = .ok (.getfield 46, 3) := by decide +kernel
theorem d_Reader_takeNewName_22 : decode m_Reader_takeNewName.2.1 22 = .ok (.invokestatic 217, 3) := by decide +kernel
theorem d_Reader_takeNewName_25 : decode m_Reader_takeNewName.2.1 25 = .ok (.iconst (-1), 1) := by decide +kernel
theorem d_Reader_takeNewName_26 : decode m_Reader_takeNewName.2.1 26 = .ok (.if_icmp .eq 9, 3) := by decide +kernel
theorem d_Reader_takeNewName_29 : decode m_Reader_takeNewName.2.1 29 = .ok (.aload_n 0, 1) := by decide +kernel
theorem d_Reader_takeNewName_30 : decode m_Reader_takeNewName.2.1 30 = .ok (.iconst 3, 1) := by decide +kernel
theorem d_Reader_takeNewName_31 : decode m_Reader_takeNewName.2.1 31 = .ok (.invokevirtual 95, 3) := by decide +kernel
theorem d_Reader_takeNewName_34 : decode m_Reader_takeNewName.2.1 34 = .ok (.ireturn, 1) := by decide +kernel
theorem d_Reader_takeNewName_35 : decode m_Reader_takeNewName.2.1 35 = .ok (.aload_n 1, 1) := by decide +kernel
theorem d_Reader_takeNewName_36 : decode m_Reader_takeNewName.2.1 36 = .ok (.iload_n 2, 1) := by decide +kernel
theorem d_Reader_takeNewName_37 : decode m_Reader_takeNewName.2.1 37 = .ok (.aload_n 0, 1) := by decide +kernel
theorem d_Reader_takeNewName_38 : decode m_Reader_takeNewName.2.1 38 = .ok (.getfield 46, 3) := by decide +kernel
theorem d_Reader_takeNewName_41 : decode m_Reader_takeNewName.2.1 41 = .ok (.iastore, 1) := by decide +kernel
theorem d_Reader_takeNewName_42 : decode m_Reader_takeNewName.2.1 42 = .ok (.aload_n 0, 1) := by decide +kernel
theorem d_Reader_takeNewName_43 : decode m_Reader_takeNewName.2.1 43 = .ok (.invokevirtual 67, 3) := by decide +kernel
theorem d_Reader_takeNewName_46 : decode m_Reader_takeNewName.2.1 46 = .ok (.iconst 1, 1) := by decide +kernel
theorem d_Reader_takeNewName_47 : decode m_Reader_takeNewName.2.1 47 = .ok (.ireturn, 1) := by decide +kernel
theorem d_Fs_indexOf_0 : decode m_Fs_indexOf.2.1 0 = .ok (.iconst 0, 1) := by decide +kernel
theorem d_Fs_indexOf_1 : decode m_Fs_indexOf.2.1 1 = .ok (.istore_n 3, 1) := by decide +kernel
theorem d_Fs_indexOf_2 : decode m_Fs_indexOf.2.1 2 = .ok (.iload_n 3, 1) := by decide +kernel
theorem d_Fs_indexOf_3 : decode m_Fs_indexOf.2.1 3 = .ok (.iload_n 1, 1) := by decide +kernel
theorem d_Fs_indexOf_4 : decode m_Fs_indexOf.2.1 4 = .ok (.if_icmp .ge 18, 3) := by decide +kernel
theorem d_Fs_indexOf_7 : decode m_Fs_indexOf.2.1 7 = .ok (.aload_n 0, 1) := by decide +kernel
theorem d_Fs_indexOf_8 : decode m_Fs_indexOf.2.1 8 = .ok (.iload_n 3, 1) := by decide +kernel
theorem d_Fs_indexOf_9 : decode m_Fs_indexOf.2.1 9 = .ok (.iaload, 1) := by decide +kernel
theorem d_Fs_indexOf_10 : decode m_Fs_indexOf.2.1 10 = .ok (.iload_n 2, 1) := by decide +kernel
theorem d_Fs_indexOf_11 : decode m_Fs_indexOf.2.1 11 = .ok (.if_icmp .ne 5, 3) := by decide +kernel
theorem d_Fs_indexOf_14 : decode m_Fs_indexOf.2.1 14 = .ok (.iload_n 3, 1) := by decide +kernel
theorem d_Fs_indexOf_15 : decode m_Fs_indexOf.2.1 15 = .ok (.ireturn, 1) := by decide +kernel
theorem d_Fs_indexOf_16 : decode m_Fs_indexOf.2.1 16 = .ok (.iinc 3 1, 3) := by decide +kernel
theorem d_Fs_indexOf_19 : decode m_Fs_indexOf.2.1 19 = .ok (.goto (-17), 3) := by decide +kernel
theorem d_Fs_indexOf_22 : decode m_Fs_indexOf.2.1 22 = .ok (.iconst (-1), 1) := by decide +kernel
theorem d_Fs_indexOf_23 : decode m_Fs_indexOf.2.1 23 = .ok (.ireturn, 1) := by decide +kernel
theorem d_Reader_takeNumber_0 : decode m_Reader_takeNumber.2.1 0 = .ok (.aload_n 0, 1) := by decide +kernel
theorem d_Reader_takeNumber_1 : decode m_Reader_takeNumber.2.1 1 = .ok (.getfield 37, 3) := by decide +kernel
theorem d_Reader_takeNumber_4 : decode m_Reader_takeNumber.2.1 4 = .ok (.getstatic 211, 3) := by decide +kernel
theorem d_Reader_takeNumber_7 : decode m_Reader_takeNumber.2.1 7 = .ok (.if_acmp .eq 11, 3) := by decide +kernel
theorem d_Reader_takeNumber_10 : decode m_Reader_takeNumber.2.1 10 = .ok (.aload_n 0, 1) := by decide +kernel
theorem d_Reader_takeNumber_11 : decode m_Reader_takeNumber.2.1 11 = .ok (.iconst 1, 1) := by decide +kernel
theorem d_Reader_takeNumber_12 : decode m_Reader_takeNumber.2.1 12 = .ok (.invokevirtual 95, 3) := by decide +kernel
theorem d_Reader_takeNumber_15 : decode m_Reader_takeNumber.2.1 15 = .ok (.pop, 1) := by decide +kernel
theorem d_Reader_takeNumber_16 : decode m_Reader_takeNumber.2.1 16 = .ok (.iconst 0, 1) := by decide +kernel
theorem d_Reader_takeNumber_17 : decode m_Reader_takeNumber.2.1 17 = .ok (.ireturn, 1) := by decide +kernel
theorem d_Reader_takeNumber_18 : decode m_Reader_takeNumber.2.1 18 = .ok (.aload_n 0, 1) := by decide +kernel
theorem d_Reader_takeNumber_19 : decode m_Reader_takeNumber.2.1 19 = .ok (.getfield 43, 3) := by decide +kernel
theorem d_Reader_takeNumber_22 : decode m_Reader_takeNumber.2.1 22 = .ok (.iload_n 1, 1) := by decide +kernel
theorem d_Reader_takeNumber_23 : decode m_Reader_takeNumber.2.1 23 = .ok (.if_icmp .lt 11, 3) := by decide +kernel
theorem d_Reader_takeNumber_26 : decode m_Reader_takeNumber.2.1 26 = .ok (.aload_n 0, 1) := by decide +kernel
theorem d_Reader_takeNumber_27 : decode m_Reader_takeNumber.2.1 27 = .ok (.getfield 43, 3) := by decide +kernel
theorem d_Reader_takeNumber_30 : decode m_Reader_takeNumber.2.1 30 = .ok (.iload_n 2, 1) := by decide +kernel
theorem d_Reader_takeNumber_31 : decode m_Reader_takeNumber.2.1 31 = .ok (.if_icmp .le 11, 3) := by decide +kernel
theorem d_Reader_takeNumber_34 : decode m_Reader_takeNumber.2.1 34 = .ok (.aload_n 0, 1) := by decide +kernel
theorem d_Reader_takeNumber_35 : decode m_Reader_takeNumber.2.1 35 = .ok (.iconst 2, 1) := by decide +kernel
theorem d_Reader_takeNumber_36 : decode m_Reader_takeNumber.2.1 36 = .ok (.invokevirtual 95, 3) := by decide +kernel
theorem d_Reader_takeNumber_39 : decode m_Reader_takeNumber.2.1 39 = .ok (.pop, 1) := by decide +kernel
theorem d_Reader_takeNumber_40 : decode m_Reader_takeNumber.2.1 40 = .ok (.iconst 0, 1) := by decide +kernel
theorem d_Reader_takeNumber_41 : decode m_Reader_takeNumber.2.1 41 = .ok (.ireturn, 1) := by decide +kernel
theorem d_Reader_takeNumber_42 : decode m_Reader_takeNumber.2.1 42 = .ok (.aload_n 0, 1) := by decide +kernel
theorem d_Reader_takeNumber_43 : decode m_Reader_takeNumber.2.1 43 = .ok (.getfield 43, 3) := by decide +kernel
theorem d_Reader_takeNumber_46 : decode m_Reader_takeNumber.2.1 46 = .ok (.istore_n 3, 1) := by decide +kernel
theorem d_Reader_takeNumber_47 : decode m_Reader_takeNumber.2.1 47 = .ok (.aload_n 0, 1) := by decide +kernel
theorem d_Reader_takeNumber_48 : decode m_Reader_takeNumber.2.1 48 = .ok (.invokevirtual 67, 3) := by decide +kernel
theorem d_Reader_takeNumber_51 : decode m_Reader_takeNumber.2.1 51 = .ok (.iload_n 3, 1) := by decide +kernel
theorem d_Reader_takeNumber_52 : decode m_Reader_takeNumber.2.1 52 = .ok (.ireturn, 1) := by decide +kernel
theorem d_Reader_readDark_0 : decode m_Reader_readDark.2.1 0 = .ok (.aload_n 0, 1) := by decide +kernel
theorem d_Reader_readDark_1 : decode m_Reader_readDark.2.1 1 = .ok (.getfield 52, 3) := by decide +kernel
theorem d_Reader_readDark_4 : decode m_Reader_readDark.2.1 4 = .ok (.getfield 137, 3) := by decide +kernel
theorem d_Reader_readDark_7 : decode m_Reader_readDark.2.1 7 = .ok (.istore_n 1, 1) := by decide +kernel
theorem d_Reader_readDark_8 : decode m_Reader_readDark.2.1 8 = .ok (.iload_n 1, 1) := by decide +kernel
theorem d_Reader_readDark_9 : decode m_Reader_readDark.2.1 9 = .ok (.iconst 3, 1) := by decide +kernel
theorem d_Reader_readDark_10 : decode m_Reader_readDark.2.1 10 = .ok (.if_icmp .lt 9, 3) := by decide +kernel
theorem d_Reader_readDark_13 : decode m_Reader_readDark.2.1 13 = .ok (.aload_n 0, 1) := by decide +kernel
theorem d_Reader_readDark_14 : decode m_Reader_readDark.2.1 14 = .ok (.iconst 2, 1) := by decide +kernel
theorem d_Reader_readDark_15 : decode m_Reader_readDark.2.1 15 = .ok (.invokevirtual 95, 3) := by decide +kernel
theorem d_Reader_readDark_18 : decode m_Reader_readDark.2.1 18 = .ok (.ireturn, 1) := by decide +kernel
theorem d_Reader_readDark_19 : decode m_Reader_readDark.2.1 19 = .ok (.aload_n 0, 1) := by decide +kernel
theorem d_Reader_readDark_20 : decode m_Reader_readDark.2.1 20 = .ok (.invokevirtual 67, 3) := by decide +kernel
theorem d_Reader_readDark_23 : decode m_Reader_readDark.2.1 23 = .ok (.aload_n 0, 1) := by decide +kernel
theorem d_Reader_readDark_24 : decode m_Reader_readDark.2.1 24 = .ok (.aload_n 0, 1) := by decide +kernel
theorem d_Reader_readDark_25 : decode m_Reader_readDark.2.1 25 = .ok (.getfield 52, 3) := by decide +kernel
theorem d_Reader_readDark_28 : decode m_Reader_readDark.2.1 28 = .ok (.getfield 140, 3) := by decide +kernel
theorem d_Reader_readDark_31 : decode m_Reader_readDark.2.1 31 = .ok (.iload_n 1, 1) := by decide +kernel
theorem d_Reader_readDark_32 : decode m_Reader_readDark.2.1 32 = .ok (.invokevirtual 112, 3) := by decide +kernel
theorem d_Reader_readDark_35 : decode m_Reader_readDark.2.1 35 = .ok (.ifCond .ne 5, 3) := by decide +kernel
theorem d_Reader_readDark_38 : decode m_Reader_readDark.2.1 38 = .ok (.iconst 0, 1) := by decide +kernel
theorem d_Reader_readDark_39 : decode m_Reader_readDark.2.1 39 = .ok (.ireturn, 1) := by decide +kernel
theorem d_Reader_readDark_40 : decode m_Reader_readDark.2.1 40 = .ok (.aload_n 0, 1) := by decide +kernel
theorem d_Reader_readDark_41 : decode m_Reader_readDark.2.1 41 = .ok (.getfield 52, 3) := by decide +kernel
theorem d_Reader_readDark_44 : decode m_Reader_readDark.2.1 44 = .ok (.getfield 143, 3) := by decide +kernel
theorem d_Reader_readDark_47 : decode m_Reader_readDark.2.1 47 = .ok (.iload_n 1, 1) := by decide +kernel
theorem d_Reader_readDark_48 : decode m_Reader_readDark.2.1 48 = .ok (.aload_n 0, 1) := by decide +kernel
theorem d_Reader_readDark_49 : decode m_Reader_readDark.2.1 49 = .ok (.iconst 0, 1) := by decide +kernel
theorem d_Reader_readDark_50 : decode m_Reader_readDark.2.1 50 = .ok (.bipush 99, 2) := by decide +kernel
theorem d_Reader_readDark_52 : decode m_Reader_readDark.2.1 52 = .ok (.invokevirtual 119, 3) := by decide +kernel
theorem d_Reader_readDark_55 : decode m_Reader_readDark.2.1 55 = .ok (.iastore, 1) := by decide +kernel
theorem d_Reader_readDark_56 : decode m_Reader_readDark.2.1 56 = .ok (.aload_n 0, 1) := by decide +kernel
theorem d_Reader_readDark_57 : decode m_Reader_readDark.2.1 57 = .ok (.getfield 19, 3) := by decide +kernel
theorem d_Reader_readDark_60 : decode m_Reader_readDark.2.1 60 = .ok (.ifCond .eq 5, 3) := by decide +kernel
theorem d_Reader_readDark_63 : decode m_Reader_readDark.2.1 63 = .ok (.iconst 0, 1) := by decide +kernel
theorem d_Reader_readDark_64 : decode m_Reader_readDark.2.1 64 = .ok (.ireturn, 1) := by decide +kernel
theorem d_Reader_readDark_65 : decode m_Reader_readDark.2.1 65 = .ok (.aload_n 0, 1) := by decide +kernel
theorem d_Reader_readDark_66 : decode m_Reader_readDark.2.1 66 = .ok (.getfield 52, 3) := by decide +kernel
theorem d_Reader_readDark_69 : decode m_Reader_readDark.2.1 69 = .ok (.getfield 146, 3) := by decide +kernel
theorem d_Reader_readDark_72 : decode m_Reader_readDark.2.1 72 = .ok (.iload_n 1, 1) := by decide +kernel
theorem d_Reader_readDark_73 : decode m_Reader_readDark.2.1 73 = .ok (.aload_n 0, 1) := by decide +kernel
theorem d_Reader_readDark_74 : decode m_Reader_readDark.2.1 74 = .ok (.iconst 0, 1) := by decide +kernel
theorem d_Reader_readDark_75 : decode m_Reader_readDark.2.1 75 = .ok (.bipush 9, 2) := by decide +kernel
theorem d_Reader_readDark_77 : decode m_Reader_readDark.2.1 77 = .ok (.invokevirtual 119, 3) := by decide +kernel
theorem d_Reader_readDark_80 : decode m_Reader_readDark.2.1 80 = .ok (.iastore, 1) := by decide +kernel
theorem d_Reader_readDark_81 : decode m_Reader_readDark.2.1 81 = .ok (.aload_n 0, 1) := by decide +kernel
theorem d_Reader_readDark_82 : decode m_Reader_readDark.2.1 82 = .ok (.getfield 52, 3) := by decide +kernel
theorem d_Reader_readDark_85 : decode m_Reader_readDark.2.1 85 = .ok (.dup, 1) := by decide +kernel
theorem d_Reader_readDark_86 : decode m_Reader_readDark.2.1 86 = .ok (.getfield 137, 3) := by decide +kernel
theorem d_Reader_readDark_89 : decode m_Reader_readDark.2.1 89 = .ok (.iconst 1, 1) := by decide +kernel
theorem d_Reader_readDark_90 : decode m_Reader_readDark.2.1 90 = .ok (.iadd, 1) := by decide +kernel
theorem d_Reader_readDark_91 : decode m_Reader_readDark.2.1 91 = .ok (.putfield 137, 3) := by decide +kernel
theorem d_Reader_readDark_94 : decode m_Reader_readDark.2.1 94 = .ok (.aload_n 0, 1) := by decide +kernel
theorem d_Reader_readDark_95 : decode m_Reader_readDark.2.1 95 = .ok (.getfield 19, 3) := by decide +kernel
theorem d_Reader_readDark_98 : decode m_Reader_readDark.2.1 98 = .ok (.ifCond .ne 7, 3) := by decide +kernel
theorem d_Reader_readDark_101 : decode m_Reader_readDark.2.1 101 = .ok (.iconst 1, 1) := by decide +kernel
theorem d_Reader_readDark_102 : decode m_Reader_readDark.2.1 102 = .ok (.goto 4, 3) := by decide +kernel
theorem d_Reader_readDark_105 : decode m_Reader_readDark.2.1 105 = .ok (.iconst 0, 1) := by decide +kernel
theorem d_Reader_readDark_106 : decode m_Reader_readDark.2.1 106 = .ok (.ireturn, 1) := by decide +kernel
theorem d_Reader_readSeed_0 : decode m_Reader_readSeed.2.1 0 = .ok (.aload_n 0, 1) := by decide +kernel
theorem d_Reader_readSeed_1 : decode m_Reader_readSeed.2.1 1 = .ok (.getfield 52, 3) := by decide +kernel
theorem d_Reader_readSeed_4 : decode m_Reader_readSeed.2.1 4 = .ok (.getfield 149, 3) := by decide +kernel
theorem d_Reader_readSeed_7 : decode m_Reader_readSeed.2.1 7 = .ok (.ifCond .eq 9, 3) := by decide +kernel
theorem d_Reader_readSeed_10 : decode m_Reader_readSeed.2.1 10 = .ok (.aload_n 0, 1) := by decide +kernel
theorem d_Reader_readSeed_11 : decode m_Reader_readSeed.2.1 11 = .ok (.iconst 3, 1) := by decide +kernel
theorem d_Reader_readSeed_12 : decode m_Reader_readSeed.2.1 12 = .ok (.invokevirtual 95, 3) := by decide +kernel
theorem d_Reader_readSeed_15 : decode m_Reader_readSeed.2.1 15 = .ok (.ireturn, 1) := by decide +kernel
theorem d_Reader_readSeed_16 : decode m_Reader_readSeed.2.1 16 = .ok (.aload_n 0, 1) := by decide +kernel
theorem d_Reader_readSeed_17 : decode m_Reader_readSeed.2.1 17 = .ok (.invokevirtual 67, 3) := by decide +kernel
theorem d_Reader_readSeed_20 : decode m_Reader_readSeed.2.1 20 = .ok (.aload_n 0, 1) := by decide +kernel
theorem d_Reader_readSeed_21 : decode m_Reader_readSeed.2.1 21 = .ok (.getfield 52, 3) := by decide +kernel
theorem d_Reader_readSeed_24 : decode m_Reader_readSeed.2.1 24 = .ok (.aload_n 0, 1) := by decide +kernel
theorem d_Reader_readSeed_25 : decode m_Reader_readSeed.2.1 25 = .ok (.iconst 0, 1) := by decide +kernel
theorem d_Reader_readSeed_26 : decode m_Reader_readSeed.2.1 26 = .ok (.ldc 153, 2) := by decide +kernel
theorem d_Reader_readSeed_28 : decode m_Reader_readSeed.2.1 28 = .ok (.invokevirtual 119, 3) := by decide +kernel
theorem d_Reader_readSeed_31 : decode m_Reader_readSeed.2.1 31 = .ok (.putfield 154, 3) := by decide +kernel
theorem d_Reader_readSeed_34 : decode m_Reader_readSeed.2.1 34 = .ok (.aload_n 0, 1) := by decide +kernel
theorem d_Reader_readSeed_35 : decode m_Reader_readSeed.2.1 35 = .ok (.getfield 52, 3) := by decide +kernel
theorem d_Reader_readSeed_38 : decode m_Reader_readSeed.2.1 38 = .ok (.iconst 1, 1) := by decide +kernel
theorem d_Reader_readSeed_39 : decode m_Reader_readSeed.2.1 39 = .ok (.putfield 149, 3) := by decide +kernel
theorem d_Reader_readSeed_42 : decode m_Reader_readSeed.2.1 42 = .ok (.aload_n 0, 1) := by decide +kernel
theorem d_Reader_readSeed_43 : decode m_Reader_readSeed.2.1 43 = .ok (.getfield 19, 3) := by decide +kernel
theorem d_Reader_readSeed_46 : decode m_Reader_readSeed.2.1 46 = .ok (.ifCond .ne 7, 3) := by decide +kernel
theorem d_Reader_readSeed_49 : decode m_Reader_readSeed.2.1 49 = .ok (.iconst 1, 1) := by decide +kernel
theorem d_Reader_readSeed_50 : decode m_Reader_readSeed.2.1 50 = .ok (.goto 4, 3) := by decide +kernel
theorem d_Reader_readSeed_53 : decode m_Reader_readSeed.2.1 53 = .ok (.iconst 0, 1) := by decide +kernel
theorem d_Reader_readSeed_54 : decode m_Reader_readSeed.2.1 54 = .ok (.ireturn, 1) := by decide +kernel
theorem d_Reader_readLaw_0 : decode m_Reader_readLaw.2.1 0 = .ok (.aload_n 0, 1) := by decide +kernel
theorem d_Reader_readLaw_1 : decode m_Reader_readLaw.2.1 1 = .ok (.invokevirtual 67, 3) := by decide +kernel
theorem d_Reader_readLaw_4 : decode m_Reader_readLaw.2.1 4 = .ok (.aload_n 0, 1) := by decide +kernel
theorem d_Reader_readLaw_5 : decode m_Reader_readLaw.2.1 5 = .ok (.invokevirtual 157, 3) := by decide +kernel
theorem d_Reader_readLaw_8 : decode m_Reader_readLaw.2.1 8 = .ok (.istore_n 1, 1) := by decide +kernel
theorem d_Reader_readLaw_9 : decode m_Reader_readLaw.2.1 9 = .ok (.iload_n 1, 1) := by decide +kernel
theorem d_Reader_readLaw_10 : decode m_Reader_readLaw.2.1 10 = .ok (.iconst (-1), 1) := by decide +kernel
theorem d_Reader_readLaw_11 : decode m_Reader_readLaw.2.1 11 = .ok (.if_icmp .ne 9, 3) := by decide +kernel
theorem d_Reader_readLaw_14 : decode m_Reader_readLaw.2.1 14 = .ok (.aload_n 0, 1) := by decide +kernel
theorem d_Reader_readLaw_15 : decode m_Reader_readLaw.2.1 15 = .ok (.iconst 1, 1) := by decide +kernel
theorem d_Reader_readLaw_16 : decode m_Reader_readLaw.2.1 16 = .ok (.invokevirtual 95, 3) := by decide +kernel
theorem d_Reader_readLaw_19 : decode m_Reader_readLaw.2.1 19 = .ok (.ireturn, 1) := by decide +kernel
theorem d_Reader_readLaw_20 : decode m_Reader_readLaw.2.1 20 = .ok (.aload_n 0, 1) := by decide +kernel
theorem d_Reader_readLaw_21 : decode m_Reader_readLaw.2.1 21 = .ok (.getfield 52, 3) := by decide +kernel
theorem d_Reader_readLaw_24 : decode m_Reader_readLaw.2.1 24 = .ok (.getfield 161, 3) := by decide +kernel
theorem d_Reader_readLaw_27 : decode m_Reader_readLaw.2.1 27 = .ok (.iload_n 1, 1) := by decide +kernel
theorem d_Reader_readLaw_28 : decode m_Reader_readLaw.2.1 28 = .ok (.invokevirtual 165, 3) := by decide +kernel
theorem d_Reader_readLaw_31 : decode m_Reader_readLaw.2.1 31 = .ok (.ifCond .eq 9, 3) := by decide +kernel
theorem d_Reader_readLaw_34 : decode m_Reader_readLaw.2.1 34 = .ok (.aload_n 0, 1) := by decide +kernel
theorem d_Reader_readLaw_35 : decode m_Reader_readLaw.2.1 35 = .ok (.iconst 3, 1) := by decide +kernel
theorem d_Reader_readLaw_36 : decode m_Reader_readLaw.2.1 36 = .ok (.invokevirtual 95, 3) := by decide +kernel
theorem d_Reader_readLaw_39 : decode m_Reader_readLaw.2.1 39 = .ok (.ireturn, 1) := by decide +kernel
theorem d_Reader_readLaw_40 : decode m_Reader_readLaw.2.1 40 = .ok (.aload_n 0, 1) := by decide +kernel
theorem d_Reader_readLaw_41 : decode m_Reader_readLaw.2.1 41 = .ok (.invokevirtual 67, 3) := by decide +kernel
theorem d_Reader_readLaw_44 : decode m_Reader_readLaw.2.1 44 = .ok (.aload_n 0, 1) := by decide +kernel
theorem d_Reader_readLaw_45 : decode m_Reader_readLaw.2.1 45 = .ok (.getfield 52, 3) := by decide +kernel
theorem d_Reader_readLaw_48 : decode m_Reader_readLaw.2.1 48 = .ok (.getfield 161, 3) := by decide +kernel
theorem d_Reader_readLaw_51 : decode m_Reader_readLaw.2.1 51 = .ok (.getfield 170, 3) := by decide +kernel
theorem d_Reader_readLaw_54 : decode m_Reader_readLaw.2.1 54 = .ok (.iload_n 1, 1) := by decide +kernel
theorem d_Reader_readLaw_55 : decode m_Reader_readLaw.2.1 55 = .ok (.aload_n 0, 1) := by decide +kernel
theorem d_Reader_readLaw_56 : decode m_Reader_readLaw.2.1 56 = .ok (.getfield 52, 3) := by decide +kernel
theorem d_Reader_readLaw_59 : decode m_Reader_readLaw.2.1 59 = .ok (.getfield 161, 3) := by decide +kernel
theorem d_Reader_readLaw_62 : decode m_Reader_readLaw.2.1 62 = .ok (.getfield 173, 3) := by decide +kernel
theorem d_Reader_readLaw_65 : decode m_Reader_readLaw.2.1 65 = .ok (.iastore, 1) := by decide +kernel
theorem d_Reader_readLaw_66 : decode m_Reader_readLaw.2.1 66 = .ok (.aload_n 0, 1) := by decide +kernel
theorem d_Reader_readLaw_67 : decode m_Reader_readLaw.2.1 67 = .ok (.iconst 1, 1) := by decide +kernel
theorem d_Reader_readLaw_68 : decode m_Reader_readLaw.2.1 68 = .ok (.iconst 0, 1) := by decide +kernel
theorem d_Reader_readLaw_69 : decode m_Reader_readLaw.2.1 69 = .ok (.invokevirtual 174, 3) := by decide +kernel
theorem d_Reader_readLaw_72 : decode m_Reader_readLaw.2.1 72 = .ok (.istore_n 2, 1) := by decide +kernel
theorem d_Reader_readLaw_73 : decode m_Reader_readLaw.2.1 73 = .ok (.aload_n 0, 1) := by decide +kernel
theorem d_Reader_readLaw_74 : decode m_Reader_readLaw.2.1 74 = .ok (.getfield 52, 3) := by decide +kernel
theorem d_Reader_readLaw_77 : decode m_Reader_readLaw.2.1 77 = .ok (.getfield 161, 3) := by decide +kernel
theorem d_Reader_readLaw_80 : decode m_Reader_readLaw.2.1 80 = .ok (.getfield 178, 3) := by decide +kernel
theorem d_Reader_readLaw_83 : decode m_Reader_readLaw.2.1 83 = .ok (.iload_n 1, 1) := by decide +kernel
theorem d_Reader_readLaw_84 : decode m_Reader_readLaw.2.1 84 = .ok (.aload_n 0, 1) := by decide +kernel
theorem d_Reader_readLaw_85 : decode m_Reader_readLaw.2.1 85 = .ok (.getfield 52, 3) := by decide +kernel
theorem d_Reader_readLaw_88 : decode m_Reader_readLaw.2.1 88 = .ok (.getfield 161, 3) := by decide +kernel
theorem d_Reader_readLaw_91 : decode m_Reader_readLaw.2.1 91 = .ok (.getfield 173, 3) := by decide +kernel
theorem d_Reader_readLaw_94 : decode m_Reader_readLaw.2.1 94 = .ok (.iastore, 1) := by decide +kernel
theorem d_Reader_readLaw_95 : decode m_Reader_readLaw.2.1 95 = .ok (.iload_n 2, 1) := by decide +kernel
theorem d_Reader_readLaw_96 : decode m_Reader_readLaw.2.1 96 = .ok (.ireturn, 1) := by decide +kernel
theorem d_Reader_lawKind_0 : decode m_Reader_lawKind.2.1 0 = .ok (.getstatic 181, 3) := by decide +kernel
theorem d_Reader_lawKind_3 : decode m_Reader_lawKind.2.1 3 = .ok (.aload_n 0, 1) := by decide +kernel
theorem d_Reader_lawKind_4 : decode m_Reader_lawKind.2.1 4 = .ok (.getfield 37, 3) := by decide +kernel
theorem d_Reader_lawKind_7 : decode m_Reader_lawKind.2.1 7 = .ok (.invokevirtual 186, 3) := by decide +kernel
theorem d_Reader_lawKind_10 : decode m_Reader_lawKind.2.1 10 = .ok (.iaload, 1) := by decide +kernel
theorem d_Reader_lawKind_11 : decode m_Reader_lawKind.2.1 11 = .ok (.tableswitch 37 1 4 #[29, 31, 33, 35], 29) := by decide +kernel
theorem d_Reader_lawKind_40 : decode m_Reader_lawKind.2.1 40 = .ok (.iconst 0, 1) := by decide +kernel
theorem d_Reader_lawKind_41 : decode m_Reader_lawKind.2.1 41 = .ok (.ireturn, 1) := by decide +kernel
theorem d_Reader_lawKind_42 : decode m_Reader_lawKind.2.1 42 = .ok (.iconst 1, 1) := by decide +kernel
theorem d_Reader_lawKind_43 : decode m_Reader_lawKind.2.1 43 = .ok (.ireturn, 1) := by decide +kernel
theorem d_Reader_lawKind_44 : decode m_Reader_lawKind.2.1 44 = .ok (.iconst 2, 1) := by decide +kernel
theorem d_Reader_lawKind_45 : decode m_Reader_lawKind.2.1 45 = .ok (.ireturn, 1) := by decide +kernel
theorem d_Reader_lawKind_46 : decode m_Reader_lawKind.2.1 46 = .ok (.iconst 3, 1) := by decide +kernel
theorem d_Reader_lawKind_47 : decode m_Reader_lawKind.2.1 47 = .ok (.ireturn, 1) := by decide +kernel
theorem d_Reader_lawKind_48 : decode m_Reader_lawKind.2.1 48 = .ok (.iconst (-1), 1) := by decide +kernel
theorem d_Reader_lawKind_49 : decode m_Reader_lawKind.2.1 49 = .ok (.ireturn, 1) := by decide +kernel
theorem d_Laws_isTold_0 : decode m_Laws_isTold.2.1 0 = .ok (.aload_n 0, 1) := by decide +kernel
theorem d_Laws_isTold_1 : decode m_Laws_isTold.2.1 1 = .ok (.getfield 28, 3) := by decide +kernel
theorem d_Laws_isTold_4 : decode m_Laws_isTold.2.1 4 = .ok (.iload_n 1, 1) := by decide +kernel
theorem d_Laws_isTold_5 : decode m_Laws_isTold.2.1 5 = .ok (.iaload, 1) := by decide +kernel
theorem d_Laws_isTold_6 : decode m_Laws_isTold.2.1 6 = .ok (.aload_n 0, 1) := by decide +kernel
theorem d_Laws_isTold_7 : decode m_Laws_isTold.2.1 7 = .ok (.getfield 25, 3) := by decide +kernel
theorem d_Laws_isTold_10 : decode m_Laws_isTold.2.1 10 = .ok (.iload_n 1, 1) := by decide +kernel
theorem d_Laws_isTold_11 : decode m_Laws_isTold.2.1 11 = .ok (.iaload, 1) := by decide +kernel
theorem d_Laws_isTold_12 : decode m_Laws_isTold.2.1 12 = .ok (.if_icmp .le 7, 3) := by decide +kernel
theorem d_Laws_isTold_15 : decode m_Laws_isTold.2.1 15 = .ok (.iconst 1, 1) := by decide +kernel
theorem d_Laws_isTold_16 : decode m_Laws_isTold.2.1 16 = .ok (.goto 4, 3) := by decide +kernel
theorem d_Laws_isTold_19 : decode m_Laws_isTold.2.1 19 = .ok (.iconst 0, 1) := by decide +kernel
theorem d_Laws_isTold_20 : decode m_Laws_isTold.2.1 20 = .ok (.ireturn, 1) := by decide +kernel
theorem d_Reader_readExpression_0 : decode m_Reader_readExpression.2.1 0 = .ok (.iload_n 1, 1) := by decide +kernel
theorem d_Reader_readExpression_1 : decode m_Reader_readExpression.2.1 1 = .ok (.bipush 6, 2) := by decide +kernel
theorem d_Reader_readExpression_3 : decode m_Reader_readExpression.2.1 3 = .ok (.if_icmp .lt 9, 3) := by decide +kernel
theorem d_Reader_readExpression_6 : decode m_Reader_readExpression.2.1 6 = .ok (.aload_n 0, 1) := by decide +kernel
theorem d_Reader_readExpression_7 : decode m_Reader_readExpression.2.1 7 = .ok (.iload_n 2, 1) := by decide +kernel
theorem d_Reader_readExpression_8 : decode m_Reader_readExpression.2.1 8 = .ok (.invokevirtual 189, 3) := by decide +kernel
theorem d_Reader_readExpression_11 : decode m_Reader_readExpression.2.1 11 = .ok (.ireturn, 1) := by decide +kernel
theorem d_Reader_readExpression_12 : decode m_Reader_readExpression.2.1 12 = .ok (.iconst 0, 1) := by decide +kernel
theorem d_Reader_readExpression_13 : decode m_Reader_readExpression.2.1 13 = .ok (.istore_n 3, 1) := by decide +kernel
theorem d_Reader_readExpression_14 : decode m_Reader_readExpression.2.1 14 = .ok (.iload_n 1, 1) := by decide +kernel
theorem d_Reader_readExpression_15 : decode m_Reader_readExpression.2.1 15 = .ok (.iconst 3, 1) := by decide +kernel
theorem d_Reader_readExpression_16 : decode m_Reader_readExpression.2.1 16 = .ok (.if_icmp .ne 38, 3) := by decide +kernel
theorem d_Reader_readExpression_19 : decode m_Reader_readExpression.2.1 19 = .ok (.iload_n 3, 1) := by decide +kernel
theorem d_Reader_readExpression_20 : decode m_Reader_readExpression.2.1 20 = .ok (.bipush 64, 2) := by decide +kernel
theorem d_Reader_readExpression_22 : decode m_Reader_readExpression.2.1 22 = .ok (.if_icmp .gt 32, 3) := by decide +kernel
theorem d_Reader_readExpression_25 : decode m_Reader_readExpression.2.1 25 = .ok (.aload_n 0, 1) := by decide +kernel
theorem d_Reader_readExpression_26 : decode m_Reader_readExpression.2.1 26 = .ok (.getfield 37, 3) := by decide +kernel
theorem d_Reader_readExpression_29 : decode m_Reader_readExpression.2.1 29 = .ok (.getstatic 192, 3) := by decide +kernel
theorem d_Reader_readExpression_32 : decode m_Reader_readExpression.2.1 32 = .ok (.if_acmp .ne 22, 3) := by decide +kernel
theorem d_Reader_readExpression_35 : decode m_Reader_readExpression.2.1 35 = .ok (.aload_n 0, 1) := by decide +kernel
theorem d_Reader_readExpression_36 : decode m_Reader_readExpression.2.1 36 = .ok (.invokevirtual 195, 3) := by decide +kernel
theorem d_Reader_readExpression_39 : decode m_Reader_readExpression.2.1 39 = .ok (.ifCond .ne 5, 3) := by decide +kernel
theorem d_Reader_readExpression_42 : decode m_Reader_readExpression.2.1 42 = .ok (.iconst 0, 1) := by decide +kernel
theorem d_Reader_readExpression_43 : decode m_Reader_readExpression.2.1 43 = .ok (.ireturn, 1) := by decide +kernel
theorem d_Reader_readExpression_44 : decode m_Reader_readExpression.2.1 44 = .ok (.aload_n 0, 1) := by decide +kernel
theorem d_Reader_readExpression_45 : decode m_Reader_readExpression.2.1 45 = .ok (.invokevirtual 67, 3) := by decide +kernel
theorem d_Reader_readExpression_48 : decode m_Reader_readExpression.2.1 48 = .ok (.iinc 3 1, 3) := by decide +kernel
theorem d_Reader_readExpression_51 : decode m_Reader_readExpression.2.1 51 = .ok (.goto (-32), 3) := by decide +kernel
theorem d_Reader_readExpression_54 : decode m_Reader_readExpression.2.1 54 = .ok (.aload_n 0, 1) := by decide +kernel
theorem d_Reader_readExpression_55 : decode m_Reader_readExpression.2.1 55 = .ok (.iload_n 1, 1) := by decide +kernel
theorem d_Reader_readExpression_56 : decode m_Reader_readExpression.2.1 56 = .ok (.iconst 1, 1) := by decide +kernel
theorem d_Reader_readExpression_57 : decode m_Reader_readExpression.2.1 57 = .ok (.iadd, 1) := by decide +kernel
theorem d_Reader_readExpression_58 : decode m_Reader_readExpression.2.1 58 = .ok (.iload_n 2, 1) := by decide +kernel
theorem d_Reader_readExpression_59 : decode m_Reader_readExpression.2.1 59 = .ok (.invokevirtual 174, 3) := by decide +kernel
theorem d_Reader_readExpression_62 : decode m_Reader_readExpression.2.1 62 = .ok (.ifCond .ne 5, 3) := by decide +kernel
theorem d_Reader_readExpression_65 : decode m_Reader_readExpression.2.1 65 = .ok (.iconst 0, 1) := by decide +kernel
theorem d_Reader_readExpression_66 : decode m_Reader_readExpression.2.1 66 = .ok (.ireturn, 1) := by decide +kernel
theorem d_Reader_readExpression_67 : decode m_Reader_readExpression.2.1 67 = .ok (.iload_n 1, 1) := by decide +kernel
theorem d_Reader_readExpression_68 : decode m_Reader_readExpression.2.1 68 = .ok (.iconst 3, 1) := by decide +kernel
theorem d_Reader_readExpression_69 : decode m_Reader_readExpression.2.1 69 = .ok (.if_icmp .ne 7, 3) := by decide +kernel
theorem d_Reader_readExpression_72 : decode m_Reader_readExpression.2.1 72 = .ok (.iconst 1, 1) := by decide +kernel
theorem d_Reader_readExpression_73 : decode m_Reader_readExpression.2.1 73 = .ok (.goto 5, 3) := by decide +kernel
theorem d_Reader_readExpression_76 : decode m_Reader_readExpression.2.1 76 = .ok (.bipush 65, 2) := by decide +kernel
theorem d_Reader_readExpression_78 : decode m_Reader_readExpression.2.1 78 = .ok (.istore 4, 2) := by decide +kernel
theorem d_Reader_readExpression_80 : decode m_Reader_readExpression.2.1 80 = .ok (.iconst 0, 1) := by decide +kernel
theorem d_Reader_readExpression_81 : decode m_Reader_readExpression.2.1 81 = .ok (.istore 5, 2) := by decide +kernel
theorem d_Reader_readExpression_83 : decode m_Reader_readExpression.2.1 83 = .ok (.iload 5, 2) := by decide +kernel
theorem d_Reader_readExpression_85 : decode m_Reader_readExpression.2.1 85 = .ok (.iload 4, 2) := by decide +kernel
theorem d_Reader_readExpression_87 : decode m_Reader_readExpression.2.1 87 = .ok (.if_icmp .ge 65, 3) := by decide +kernel
theorem d_Reader_readExpression_90 : decode m_Reader_readExpression.2.1 90 = .ok (.aload_n 0, 1) := by decide +kernel
theorem d_Reader_readExpression_91 : decode m_Reader_readExpression.2.1 91 = .ok (.getfield 37, 3) := by decide +kernel
theorem d_Reader_readExpression_94 : decode m_Reader_readExpression.2.1 94 = .ok (.getfield 198, 3) := by decide +kernel
theorem d_Reader_readExpression_97 : decode m_Reader_readExpression.2.1 97 = .ok (.iload_n 1, 1) := by decide +kernel
theorem d_Reader_readExpression_98 : decode m_Reader_readExpression.2.1 98 = .ok (.if_icmp .ne 54, 3) := by decide +kernel
theorem d_Reader_readExpression_101 : decode m_Reader_readExpression.2.1 101 = .ok (.aload_n 0, 1) := by decide +kernel
theorem d_Reader_readExpression_102 : decode m_Reader_readExpression.2.1 102 = .ok (.getfield 37, 3) := by decide +kernel
theorem d_Reader_readExpression_105 : decode m_Reader_readExpression.2.1 105 = .ok (.astore 6, 2) := by decide +kernel
theorem d_Reader_readExpression_107 : decode m_Reader_readExpression.2.1 107 = .ok (.aload_n 0, 1) := by decide +kernel
theorem d_Reader_readExpression_108 : decode m_Reader_readExpression.2.1 108 = .ok (.invokevirtual 195, 3) := by decide +kernel
theorem d_Reader_readExpression_111 : decode m_Reader_readExpression.2.1 111 = .ok (.ifCond .ne 5, 3) := by decide +kernel
theorem d_Reader_readExpression_114 : decode m_Reader_readExpression.2.1 114 = .ok (.iconst 0, 1) := by decide +kernel
theorem d_Reader_readExpression_115 : decode m_Reader_readExpression.2.1 115 = .ok (.ireturn, 1) := by decide +kernel
theorem d_Reader_readExpression_116 : decode m_Reader_readExpression.2.1 116 = .ok (.aload_n 0, 1) := by decide +kernel
theorem d_Reader_readExpression_117 : decode m_Reader_readExpression.2.1 117 = .ok (.invokevirtual 67, 3) := by decide +kernel
theorem d_Reader_readExpression_120 : decode m_Reader_readExpression.2.1 120 = .ok (.aload_n 0, 1) := by decide +kernel
theorem d_Reader_readExpression_121 : decode m_Reader_readExpression.2.1 121 = .ok (.iload_n 1, 1) := by decide +kernel
theorem d_Reader_readExpression_122 : decode m_Reader_readExpression.2.1 122 = .ok (.iconst 1, 1) := by decide +kernel
theorem d_Reader_readExpression_123 : decode m_Reader_readExpression.2.1 123 = .ok (.iadd, 1) := by decide +kernel
theorem d_Reader_readExpression_124 : decode m_Reader_readExpression.2.1 124 = .ok (.iload_n 2, 1) := by decide +kernel
theorem d_Reader_readExpression_125 : decode m_Reader_readExpression.2.1 125 = .ok (.invokevirtual 174, 3) := by decide +kernel
theorem d_Reader_readExpression_128 : decode m_Reader_readExpression.2.1 128 = .ok (.ifCond .ne 5, 3) := by decide +kernel
theorem d_Reader_readExpression_131 : decode m_Reader_readExpression.2.1 131 = .ok (.iconst 0, 1) := by decide +kernel
theorem d_Reader_readExpression_132 : decode m_Reader_readExpression.2.1 132 = .ok (.ireturn, 1) := by decide +kernel
theorem d_Reader_readExpression_133 : decode m_Reader_readExpression.2.1 133 = .ok (.aload_n 0, 1) := by decide +kernel
theorem d_Reader_readExpression_134 : decode m_Reader_readExpression.2.1 134 = .ok (.getfield 52, 3) := by decide +kernel
theorem d_Reader_readExpression_137 : decode m_Reader_readExpression.2.1 137 = .ok (.getfield 161, 3) := by decide +kernel
theorem d_Reader_readExpression_140 : decode m_Reader_readExpression.2.1 140 = .ok (.aload 6, 2) := by decide +kernel
theorem d_Reader_readExpression_142 : decode m_Reader_readExpression.2.1 142 = .ok (.iconst 0, 1) := by decide +kernel
theorem d_Reader_readExpression_143 : decode m_Reader_readExpression.2.1 143 = .ok (.invokevirtual 201, 3) := by decide +kernel
theorem d_Reader_readExpression_146 : decode m_Reader_readExpression.2.1 146 = .ok (.iinc 5 1, 3) := by decide +kernel
theorem d_Reader_readExpression_149 : decode m_Reader_readExpression.2.1 149 = .ok (.goto (-66), 3) := by decide +kernel
theorem d_Reader_readExpression_152 : decode m_Reader_readExpression.2.1 152 = .ok (.iconst 0, 1) := by decide +kernel
theorem d_Reader_readExpression_153 : decode m_Reader_readExpression.2.1 153 = .ok (.istore 5, 2) := by decide +kernel
theorem d_Reader_readExpression_155 : decode m_Reader_readExpression.2.1 155 = .ok (.iload 5, 2) := by decide +kernel
theorem d_Reader_readExpression_157 : decode m_Reader_readExpression.2.1 157 = .ok (.iload_n 3, 1) := by decide +kernel
theorem d_Reader_readExpression_158 : decode m_Reader_readExpression.2.1 158 = .ok (.if_icmp .ge 23, 3) := by decide +kernel
theorem d_Reader_readExpression_161 : decode m_Reader_readExpression.2.1 161 = .ok (.aload_n 0, 1) := by decide +kernel
theorem d_Reader_readExpression_162 : decode m_Reader_readExpression.2.1 162 = .ok (.getfield 52, 3) := by decide +kernel
theorem d_Reader_readExpression_165 : decode m_Reader_readExpression.2.1 165 = .ok (.getfield 161, 3) := by decide +kernel
theorem d_Reader_readExpression_168 : decode m_Reader_readExpression.2.1 168 = .ok (.getstatic 192, 3) := by decide +kernel
theorem d_Reader_readExpression_171 : decode m_Reader_readExpression.2.1 171 = .ok (.iconst 0, 1) := by decide +kernel
theorem d_Reader_readExpression_172 : decode m_Reader_readExpression.2.1 172 = .ok (.invokevirtual 201, 3) := by decide +kernel
theorem d_Reader_readExpression_175 : decode m_Reader_readExpression.2.1 175 = .ok (.iinc 5 1, 3) := by decide +kernel
theorem d_Reader_readExpression_178 : decode m_Reader_readExpression.2.1 178 = .ok (.goto (-23), 3) := by decide +kernel
theorem d_Reader_readExpression_181 : decode m_Reader_readExpression.2.1 181 = .ok (.iconst 1, 1) := by decide +kernel
theorem d_Reader_readExpression_182 : decode m_Reader_readExpression.2.1 182 = .ok (.ireturn, 1) := by decide +kernel
theorem d_Reader_readValue_0 : decode m_Reader_readValue.2.1 0 = .ok (.aload_n 0, 1) := by decide +kernel
theorem d_Reader_readValue_1 : decode m_Reader_readValue.2.1 1 = .ok (.getfield 37, 3) := by decide +kernel
theorem d_Reader_readValue_4 : decode m_Reader_readValue.2.1 4 = .ok (.getstatic 205, 3) := by decide +kernel
theorem d_Reader_readValue_7 : decode m_Reader_readValue.2.1 7 = .ok (.if_acmp .ne 46, 3) := by decide +kernel
theorem d_Reader_readValue_10 : decode m_Reader_readValue.2.1 10 = .ok (.iload_n 1, 1) := by decide +kernel
theorem d_Reader_readValue_11 : decode m_Reader_readValue.2.1 11 = .ok (.bipush 8, 2) := by decide +kernel
theorem d_Reader_readValue_13 : decode m_Reader_readValue.2.1 13 = .ok (.if_icmp .lt 9, 3) := by decide +kernel
theorem d_Reader_readValue_16 : decode m_Reader_readValue.2.1 16 = .ok (.aload_n 0, 1) := by decide +kernel
theorem d_Reader_readValue_17 : decode m_Reader_readValue.2.1 17 = .ok (.iconst 2, 1) := by decide +kernel
theorem d_Reader_readValue_18 : decode m_Reader_readValue.2.1 18 = .ok (.invokevirtual 95, 3) := by decide +kernel
theorem d_Reader_readValue_21 : decode m_Reader_readValue.2.1 21 = .ok (.ireturn, 1) := by decide +kernel
theorem d_Reader_readValue_22 : decode m_Reader_readValue.2.1 22 = .ok (.aload_n 0, 1) := by decide +kernel
theorem d_Reader_readValue_23 : decode m_Reader_readValue.2.1 23 = .ok (.invokevirtual 67, 3) := by decide +kernel
theorem d_Reader_readValue_26 : decode m_Reader_readValue.2.1 26 = .ok (.aload_n 0, 1) := by decide +kernel
theorem d_Reader_readValue_27 : decode m_Reader_readValue.2.1 27 = .ok (.iconst 1, 1) := by decide +kernel
theorem d_Reader_readValue_28 : decode m_Reader_readValue.2.1 28 = .ok (.iload_n 1, 1) := by decide +kernel
theorem d_Reader_readValue_29 : decode m_Reader_readValue.2.1 29 = .ok (.iconst 1, 1) := by decide +kernel
theorem d_Reader_readValue_30 : decode m_Reader_readValue.2.1 30 = .ok (.iadd, 1) := by decide +kernel
theorem d_Reader_readValue_31 : decode m_Reader_readValue.2.1 31 = .ok (.invokevirtual 174, 3) := by decide +kernel
theorem d_Reader_readValue_34 : decode m_Reader_readValue.2.1 34 = .ok (.ifCond .eq 17, 3) := by decide +kernel
theorem d_Reader_readValue_37 : decode m_Reader_readValue.2.1 37 = .ok (.aload_n 0, 1) := by decide +kernel
theorem d_Reader_readValue_38 : decode m_Reader_readValue.2.1 38 = .ok (.getstatic 208, 3) := by decide +kernel
theorem d_Reader_readValue_41 : decode m_Reader_readValue.2.1 41 = .ok (.invokevirtual 102, 3) := by decide +kernel
theorem d_Reader_readValue_44 : decode m_Reader_readValue.2.1 44 = .ok (.ifCond .eq 7, 3) := by decide +kernel
theorem d_Reader_readValue_47 : decode m_Reader_readValue.2.1 47 = .ok (.iconst 1, 1) := by decide +kernel
theorem d_Reader_readValue_48 : decode m_Reader_readValue.2.1 48 = .ok (.goto 4, 3) := by decide +kernel
theorem d_Reader_readValue_51 : decode m_Reader_readValue.2.1 51 = .ok (.iconst 0, 1) := by decide +kernel
theorem d_Reader_readValue_52 : decode m_Reader_readValue.2.1 52 = .ok (.ireturn, 1) := by decide +kernel
theorem d_Reader_readValue_53 : decode m_Reader_readValue.2.1 53 = .ok (.aload_n 0, 1) := by decide +kernel
theorem d_Reader_readValue_54 : decode m_Reader_readValue.2.1 54 = .ok (.getfield 37, 3) := by decide +kernel
theorem d_Reader_readValue_57 : decode m_Reader_readValue.2.1 57 = .ok (.getfield 198, 3) := by decide +kernel
theorem d_Reader_readValue_60 : decode m_Reader_readValue.2.1 60 = .ok (.bipush 6, 2) := by decide +kernel
theorem d_Reader_readValue_62 : decode m_Reader_readValue.2.1 62 = .ok (.if_icmp .eq 9, 3) := by decide +kernel
theorem d_Reader_readValue_65 : decode m_Reader_readValue.2.1 65 = .ok (.aload_n 0, 1) := by decide +kernel
theorem d_Reader_readValue_66 : decode m_Reader_readValue.2.1 66 = .ok (.iconst 1, 1) := by decide +kernel
theorem d_Reader_readValue_67 : decode m_Reader_readValue.2.1 67 = .ok (.invokevirtual 95, 3) := by decide +kernel
theorem d_Reader_readValue_70 : decode m_Reader_readValue.2.1 70 = .ok (.ireturn, 1) := by decide +kernel
theorem d_Reader_readValue_71 : decode m_Reader_readValue.2.1 71 = .ok (.aload_n 0, 1) := by decide +kernel
theorem d_Reader_readValue_72 : decode m_Reader_readValue.2.1 72 = .ok (.getfield 37, 3) := by decide +kernel
theorem d_Reader_readValue_75 : decode m_Reader_readValue.2.1 75 = .ok (.getstatic 211, 3) := by decide +kernel
theorem d_Reader_readValue_78 : decode m_Reader_readValue.2.1 78 = .ok (.if_acmp .ne 19, 3) := by decide +kernel
theorem d_Reader_readValue_81 : decode m_Reader_readValue.2.1 81 = .ok (.aload_n 0, 1) := by decide +kernel
theorem d_Reader_readValue_82 : decode m_Reader_readValue.2.1 82 = .ok (.getfield 43, 3) := by decide +kernel
theorem d_Reader_readValue_85 : decode m_Reader_readValue.2.1 85 = .ok (.sipush 9999, 3) := by decide +kernel
theorem d_Reader_readValue_88 : decode m_Reader_readValue.2.1 88 = .ok (.if_icmp .le 9, 3) := by decide +kernel
theorem d_Reader_readValue_91 : decode m_Reader_readValue.2.1 91 = .ok (.aload_n 0, 1) := by decide +kernel
theorem d_Reader_readValue_92 : decode m_Reader_readValue.2.1 92 = .ok (.iconst 2, 1) := by decide +kernel
theorem d_Reader_readValue_93 : decode m_Reader_readValue.2.1 93 = .ok (.invokevirtual 95, 3) := by decide +kernel
theorem d_Reader_readValue_96 : decode m_Reader_readValue.2.1 96 = .ok (.ireturn, 1) := by decide +kernel
theorem d_Reader_readValue_97 : decode m_Reader_readValue.2.1 97 = .ok (.aload_n 0, 1) := by decide +kernel
theorem d_Reader_readValue_98 : decode m_Reader_readValue.2.1 98 = .ok (.invokevirtual 195, 3) := by decide +kernel
theorem d_Reader_readValue_101 : decode m_Reader_readValue.2.1 101 = .ok (.ifCond .ne 5, 3) := by decide +kernel
theorem d_Reader_readValue_104 : decode m_Reader_readValue.2.1 104 = .ok (.iconst 0, 1) := by decide +kernel
theorem d_Reader_readValue_105 : decode m_Reader_readValue.2.1 105 = .ok (.ireturn, 1) := by decide +kernel
theorem d_Reader_readValue_106 : decode m_Reader_readValue.2.1 106 = .ok (.aload_n 0, 1) := by decide +kernel
theorem d_Reader_readValue_107 : decode m_Reader_readValue.2.1 107 = .ok (.getfield 52, 3) := by decide +kernel
theorem d_Reader_readValue_110 : decode m_Reader_readValue.2.1 110 = .ok (.getfield 161, 3) := by decide +kernel
theorem d_Reader_readValue_113 : decode m_Reader_readValue.2.1 113 = .ok (.aload_n 0, 1) := by decide +kernel
theorem d_Reader_readValue_114 : decode m_Reader_readValue.2.1 114 = .ok (.getfield 37, 3) := by decide +kernel
theorem d_Reader_readValue_117 : decode m_Reader_readValue.2.1 117 = .ok (.aload_n 0, 1) := by decide +kernel
theorem d_Reader_readValue_118 : decode m_Reader_readValue.2.1 118 = .ok (.getfield 43, 3) := by decide +kernel
theorem d_Reader_readValue_121 : decode m_Reader_readValue.2.1 121 = .ok (.invokevirtual 201, 3) := by decide +kernel
theorem d_Reader_readValue_124 : decode m_Reader_readValue.2.1 124 = .ok (.aload_n 0, 1) := by decide +kernel
theorem d_Reader_readValue_125 : decode m_Reader_readValue.2.1 125 = .ok (.invokevirtual 67, 3) := by decide +kernel
theorem d_Reader_readValue_128 : decode m_Reader_readValue.2.1 128 = .ok (.iconst 1, 1) := by decide +kernel
theorem d_Reader_readValue_129 : decode m_Reader_readValue.2.1 129 = .ok (.ireturn, 1) := by decide +kernel
theorem d_Reader_take_0 : decode m_Reader_take.2.1 0 = .ok (.aload_n 0, 1) := by decide +kernel
theorem d_Reader_take_1 : decode m_Reader_take.2.1 1 = .ok (.getfield 37, 3) := by decide +kernel
theorem d_Reader_take_4 : decode m_Reader_take.2.1 4 = .ok (.aload_n 1, 1) := by decide +kernel
theorem d_Reader_take_5 : decode m_Reader_take.2.1 5 = .ok (.if_acmp .eq 9, 3) := by decide +kernel
theorem d_Reader_take_8 : decode m_Reader_take.2.1 8 = .ok (.aload_n 0, 1) := by decide +kernel
theorem d_Reader_take_9 : decode m_Reader_take.2.1 9 = .ok (.iconst 1, 1) := by decide +kernel
theorem d_Reader_take_10 : decode m_Reader_take.2.1 10 = .ok (.invokevirtual 95, 3) := by decide +kernel
theorem d_Reader_take_13 : decode m_Reader_take.2.1 13 = .ok (.ireturn, 1) := by decide +kernel
theorem d_Reader_take_14 : decode m_Reader_take.2.1 14 = .ok (.aload_n 0, 1) := by decide +kernel
theorem d_Reader_take_15 : decode m_Reader_take.2.1 15 = .ok (.invokevirtual 67, 3) := by decide +kernel
theorem d_Reader_take_18 : decode m_Reader_take.2.1 18 = .ok (.iconst 1, 1) := by decide +kernel
theorem d_Reader_take_19 : decode m_Reader_take.2.1 19 = .ok (.ireturn, 1) := by decide +kernel
theorem d_Reader_countKnot_0 : decode m_Reader_countKnot.2.1 0 = .ok (.aload_n 0, 1) := by decide +kernel
theorem d_Reader_countKnot_1 : decode m_Reader_countKnot.2.1 1 = .ok (.getfield 49, 3) := by decide +kernel
theorem d_Reader_countKnot_4 : decode m_Reader_countKnot.2.1 4 = .ok (.bipush 64, 2) := by decide +kernel
theorem d_Reader_countKnot_6 : decode m_Reader_countKnot.2.1 6 = .ok (.if_icmp .lt 9, 3) := by decide +kernel
theorem d_Reader_countKnot_9 : decode m_Reader_countKnot.2.1 9 = .ok (.aload_n 0, 1) := by decide +kernel
theorem d_Reader_countKnot_10 : decode m_Reader_countKnot.2.1 10 = .ok (.iconst 2, 1) := by decide +kernel
theorem d_Reader_countKnot_11 : decode m_Reader_countKnot.2.1 11 = .ok (.invokevirtual 95, 3) := by decide +kernel
theorem d_Reader_countKnot_14 : decode m_Reader_countKnot.2.1 14 = .ok (.ireturn, 1) := by decide +kernel
theorem d_Reader_countKnot_15 : decode m_Reader_countKnot.2.1 15 = .ok (.aload_n 0, 1) := by decide +kernel
theorem d_Reader_countKnot_16 : decode m_Reader_countKnot.2.1 16 = .ok (.dup, 1) := by decide +kernel
theorem d_Reader_countKnot_17 : decode m_Reader_countKnot.2.1 17 = .ok (.getfield 49, 3) := by decide +kernel
theorem d_Reader_countKnot_20 : decode m_Reader_countKnot.2.1 20 = .ok (.iconst 1, 1) := by decide +kernel
theorem d_Reader_countKnot_21 : decode m_Reader_countKnot.2.1 21 = .ok (.iadd, 1) := by decide +kernel
theorem d_Reader_countKnot_22 : decode m_Reader_countKnot.2.1 22 = .ok (.putfield 49, 3) := by decide +kernel
theorem d_Reader_countKnot_25 : decode m_Reader_countKnot.2.1 25 = .ok (.iconst 1, 1) := by decide +kernel
theorem d_Reader_countKnot_26 : decode m_Reader_countKnot.2.1 26 = .ok (.ireturn, 1) := by decide +kernel
theorem d_Laws_add_0 : decode m_Laws_add.2.1 0 = .ok (.aload_n 0, 1) := by decide +kernel
theorem d_Laws_add_1 : decode m_Laws_add.2.1 1 = .ok (.getfield 21, 3) := by decide +kernel
theorem d_Laws_add_4 : decode m_Laws_add.2.1 4 = .ok (.bipush 64, 2) := by decide +kernel
theorem d_Laws_add_6 : decode m_Laws_add.2.1 6 = .ok (.if_icmp .ge 33, 3) := by decide +kernel
theorem d_Laws_add_9 : decode m_Laws_add.2.1 9 = .ok (.aload_n 0, 1) := by decide +kernel
theorem d_Laws_add_10 : decode m_Laws_add.2.1 10 = .ok (.getfield 11, 3) := by decide +kernel
theorem d_Laws_add_13 : decode m_Laws_add.2.1 13 = .ok (.aload_n 0, 1) := by decide +kernel
theorem d_Laws_add_14 : decode m_Laws_add.2.1 14 = .ok (.getfield 21, 3) := by decide +kernel
theorem d_Laws_add_17 : decode m_Laws_add.2.1 17 = .ok (.aload_n 1, 1) := by decide +kernel
theorem d_Laws_add_18 : decode m_Laws_add.2.1 18 = .ok (.aastore, 1) := by decide +kernel
theorem d_Laws_add_19 : decode m_Laws_add.2.1 19 = .ok (.aload_n 0, 1) := by decide +kernel
theorem d_Laws_add_20 : decode m_Laws_add.2.1 20 = .ok (.getfield 17, 3) := by decide +kernel
theorem d_Laws_add_23 : decode m_Laws_add.2.1 23 = .ok (.aload_n 0, 1) := by decide +kernel
theorem d_Laws_add_24 : decode m_Laws_add.2.1 24 = .ok (.getfield 21, 3) := by decide +kernel
theorem d_Laws_add_27 : decode m_Laws_add.2.1 27 = .ok (.iload_n 2, 1) := by decide +kernel
theorem d_Laws_add_28 : decode m_Laws_add.2.1 28 = .ok (.iastore, 1) := by decide +kernel
theorem d_Laws_add_29 : decode m_Laws_add.2.1 29 = .ok (.aload_n 0, 1) := by decide +kernel
theorem d_Laws_add_30 : decode m_Laws_add.2.1 30 = .ok (.dup, 1) := by decide +kernel
theorem d_Laws_add_31 : decode m_Laws_add.2.1 31 = .ok (.getfield 21, 3) := by decide +kernel
theorem d_Laws_add_34 : decode m_Laws_add.2.1 34 = .ok (.iconst 1, 1) := by decide +kernel
theorem d_Laws_add_35 : decode m_Laws_add.2.1 35 = .ok (.iadd, 1) := by decide +kernel
theorem d_Laws_add_36 : decode m_Laws_add.2.1 36 = .ok (.putfield 21, 3) := by decide +kernel
theorem d_Laws_add_39 : decode m_Laws_add.2.1 39 = .ok (.return_, 1) := by decide +kernel
theorem d_Script_copyFrom_0 : decode m_Script_copyFrom.2.1 0 = .ok (.aload_n 1, 1) := by decide +kernel
theorem d_Script_copyFrom_1 : decode m_Script_copyFrom.2.1 1 = .ok (.getfield 9, 3) := by decide +kernel
theorem d_Script_copyFrom_4 : decode m_Script_copyFrom.2.1 4 = .ok (.iconst 0, 1) := by decide +kernel
theorem d_Script_copyFrom_5 : decode m_Script_copyFrom.2.1 5 = .ok (.aload_n 0, 1) := by decide +kernel
theorem d_Script_copyFrom_6 : decode m_Script_copyFrom.2.1 6 = .ok (.getfield 9, 3) := by decide +kernel
theorem d_Script_copyFrom_9 : decode m_Script_copyFrom.2.1 9 = .ok (.iconst 0, 1) := by decide +kernel
theorem d_Script_copyFrom_10 : decode m_Script_copyFrom.2.1 10 = .ok (.bipush 6, 2) := by decide +kernel
theorem d_Script_copyFrom_12 : decode m_Script_copyFrom.2.1 12 = .ok (.invokestatic 60, 3) := by decide +kernel
theorem d_Script_copyFrom_15 : decode m_Script_copyFrom.2.1 15 = .ok (.aload_n 1, 1) := by decide +kernel
theorem d_Script_copyFrom_16 : decode m_Script_copyFrom.2.1 16 = .ok (.getfield 15, 3) := by decide +kernel
theorem d_Script_copyFrom_19 : decode m_Script_copyFrom.2.1 19 = .ok (.iconst 0, 1) := by decide +kernel
theorem d_Script_copyFrom_20 : decode m_Script_copyFrom.2.1 20 = .ok (.aload_n 0, 1) := by decide +kernel
theorem d_Script_copyFrom_21 : decode m_Script_copyFrom.2.1 21 = .ok (.getfield 15, 3) := by decide +kernel
theorem d_Script_copyFrom_24 : decode m_Script_copyFrom.2.1 24 = .ok (.iconst 0, 1) := by decide +kernel
theorem d_Script_copyFrom_25 : decode m_Script_copyFrom.2.1 25 = .ok (.bipush 6, 2) := by decide +kernel
theorem d_Script_copyFrom_27 : decode m_Script_copyFrom.2.1 27 = .ok (.invokestatic 60, 3) := by decide +kernel
theorem d_Script_copyFrom_30 : decode m_Script_copyFrom.2.1 30 = .ok (.aload_n 1, 1) := by decide +kernel
theorem d_Script_copyFrom_31 : decode m_Script_copyFrom.2.1 31 = .ok (.getfield 18, 3) := by decide +kernel
theorem d_Script_copyFrom_34 : decode m_Script_copyFrom.2.1 34 = .ok (.iconst 0, 1) := by decide +kernel
theorem d_Script_copyFrom_35 : decode m_Script_copyFrom.2.1 35 = .ok (.aload_n 0, 1) := by decide +kernel
theorem d_Script_copyFrom_36 : decode m_Script_copyFrom.2.1 36 = .ok (.getfield 18, 3) := by decide +kernel
theorem d_Script_copyFrom_39 : decode m_Script_copyFrom.2.1 39 = .ok (.iconst 0, 1) := by decide +kernel
theorem d_Script_copyFrom_40 : decode m_Script_copyFrom.2.1 40 = .ok (.bipush 6, 2) := by decide +kernel
theorem d_Script_copyFrom_42 : decode m_Script_copyFrom.2.1 42 = .ok (.invokestatic 60, 3) := by decide +kernel
theorem d_Script_copyFrom_45 : decode m_Script_copyFrom.2.1 45 = .ok (.aload_n 1, 1) := by decide +kernel
theorem d_Script_copyFrom_46 : decode m_Script_copyFrom.2.1 46 = .ok (.getfield 21, 3) := by decide +kernel
theorem d_Script_copyFrom_49 : decode m_Script_copyFrom.2.1 49 = .ok (.iconst 0, 1) := by decide +kernel
theorem d_Script_copyFrom_50 : decode m_Script_copyFrom.2.1 50 = .ok (.aload_n 0, 1) := by decide +kernel
theorem d_Script_copyFrom_51 : decode m_Script_copyFrom.2.1 51 = .ok (.getfield 21, 3) := by decide +kernel
theorem d_Script_copyFrom_54 : decode m_Script_copyFrom.2.1 54 = .ok (.iconst 0, 1) := by decide +kernel
theorem d_Script_copyFrom_55 : decode m_Script_copyFrom.2.1 55 = .ok (.bipush 6, 2) := by decide +kernel
theorem d_Script_copyFrom_57 : decode m_Script_copyFrom.2.1 57 = .ok (.invokestatic 60, 3) := by decide +kernel
theorem d_Script_copyFrom_60 : decode m_Script_copyFrom.2.1 60 = .ok (.aload_n 0, 1) := by decide +kernel
theorem d_Script_copyFrom_61 : decode m_Script_copyFrom.2.1 61 = .ok (.aload_n 1, 1) := by decide +kernel
theorem d_Script_copyFrom_62 : decode m_Script_copyFrom.2.1 62 = .ok (.getfield 24, 3) := by decide +kernel
theorem d_Script_copyFrom_65 : decode m_Script_copyFrom.2.1 65 = .ok (.putfield 24, 3) := by decide +kernel
theorem d_Script_copyFrom_68 : decode m_Script_copyFrom.2.1 68 = .ok (.aload_n 0, 1) := by decide +kernel
theorem d_Script_copyFrom_69 : decode m_Script_copyFrom.2.1 69 = .ok (.aload_n 1, 1) := by decide +kernel
theorem d_Script_copyFrom_70 : decode m_Script_copyFrom.2.1 70 = .ok (.getfield 28, 3) := by decide +kernel
theorem d_Script_copyFrom_73 : decode m_Script_copyFrom.2.1 73 = .ok (.putfield 28, 3) := by decide +kernel
theorem d_Script_copyFrom_76 : decode m_Script_copyFrom.2.1 76 = .ok (.aload_n 1, 1) := by decide +kernel
theorem d_Script_copyFrom_77 : decode m_Script_copyFrom.2.1 77 = .ok (.getfield 31, 3) := by decide +kernel
theorem d_Script_copyFrom_80 : decode m_Script_copyFrom.2.1 80 = .ok (.iconst 0, 1) := by decide +kernel
theorem d_Script_copyFrom_81 : decode m_Script_copyFrom.2.1 81 = .ok (.aload_n 0, 1) := by decide +kernel
theorem d_Script_copyFrom_82 : decode m_Script_copyFrom.2.1 82 = .ok (.getfield 31, 3) := by decide +kernel
theorem d_Script_copyFrom_85 : decode m_Script_copyFrom.2.1 85 = .ok (.iconst 0, 1) := by decide +kernel
theorem d_Script_copyFrom_86 : decode m_Script_copyFrom.2.1 86 = .ok (.iconst 3, 1) := by decide +kernel
theorem d_Script_copyFrom_87 : decode m_Script_copyFrom.2.1 87 = .ok (.invokestatic 60, 3) := by decide +kernel
theorem d_Script_copyFrom_90 : decode m_Script_copyFrom.2.1 90 = .ok (.aload_n 1, 1) := by decide +kernel
theorem d_Script_copyFrom_91 : decode m_Script_copyFrom.2.1 91 = .ok (.getfield 34, 3) := by decide +kernel
theorem d_Script_copyFrom_94 : decode m_Script_copyFrom.2.1 94 = .ok (.iconst 0, 1) := by decide +kernel
theorem d_Script_copyFrom_95 : decode m_Script_copyFrom.2.1 95 = .ok (.aload_n 0, 1) := by decide +kernel
theorem d_Script_copyFrom_96 : decode m_Script_copyFrom.2.1 96 = .ok (.getfield 34, 3) := by decide +kernel
theorem d_Script_copyFrom_99 : decode m_Script_copyFrom.2.1 99 = .ok (.iconst 0, 1) := by decide +kernel
theorem d_Script_copyFrom_100 : decode m_Script_copyFrom.2.1 100 = .ok (.iconst 3, 1) := by decide +kernel
theorem d_Script_copyFrom_101 : decode m_Script_copyFrom.2.1 101 = .ok (.invokestatic 60, 3) := by decide +kernel
theorem d_Script_copyFrom_104 : decode m_Script_copyFrom.2.1 104 = .ok (.aload_n 1, 1) := by decide +kernel
theorem d_Script_copyFrom_105 : decode m_Script_copyFrom.2.1 105 = .ok (.getfield 37, 3) := by decide +kernel
theorem d_Script_copyFrom_108 : decode m_Script_copyFrom.2.1 108 = .ok (.iconst 0, 1) := by decide +kernel
theorem d_Script_copyFrom_109 : decode m_Script_copyFrom.2.1 109 = .ok (.aload_n 0, 1) := by decide +kernel
theorem d_Script_copyFrom_110 : decode m_Script_copyFrom.2.1 110 = .ok (.getfield 37, 3) := by decide +kernel
theorem d_Script_copyFrom_113 : decode m_Script_copyFrom.2.1 113 = .ok (.iconst 0, 1) := by decide +kernel
theorem d_Script_copyFrom_114 : decode m_Script_copyFrom.2.1 114 = .ok (.iconst 3, 1) := by decide +kernel
theorem d_Script_copyFrom_115 : decode m_Script_copyFrom.2.1 115 = .ok (.invokestatic 60, 3) := by decide +kernel
theorem d_Script_copyFrom_118 : decode m_Script_copyFrom.2.1 118 = .ok (.aload_n 0, 1) := by decide +kernel
theorem d_Script_copyFrom_119 : decode m_Script_copyFrom.2.1 119 = .ok (.aload_n 1, 1) := by decide +kernel
theorem d_Script_copyFrom_120 : decode m_Script_copyFrom.2.1 120 = .ok (.getfield 40, 3) := by decide +kernel
theorem d_Script_copyFrom_123 : decode m_Script_copyFrom.2.1 123 = .ok (.putfield 40, 3) := by decide +kernel
theorem d_Script_copyFrom_126 : decode m_Script_copyFrom.2.1 126 = .ok (.aload_n 0, 1) := by decide +kernel
theorem d_Script_copyFrom_127 : decode m_Script_copyFrom.2.1 127 = .ok (.aload_n 1, 1) := by decide +kernel
theorem d_Script_copyFrom_128 : decode m_Script_copyFrom.2.1 128 = .ok (.getfield 43, 3) := by decide +kernel
theorem d_Script_copyFrom_131 : decode m_Script_copyFrom.2.1 131 = .ok (.putfield 43, 3) := by decide +kernel
theorem d_Script_copyFrom_134 : decode m_Script_copyFrom.2.1 134 = .ok (.aload_n 0, 1) := by decide +kernel
theorem d_Script_copyFrom_135 : decode m_Script_copyFrom.2.1 135 = .ok (.aload_n 1, 1) := by decide +kernel
theorem d_Script_copyFrom_136 : decode m_Script_copyFrom.2.1 136 = .ok (.getfield 46, 3) := by decide +kernel
theorem d_Script_copyFrom_139 : decode m_Script_copyFrom.2.1 139 = .ok (.putfield 46, 3) := by decide +kernel
theorem d_Script_copyFrom_142 : decode m_Script_copyFrom.2.1 142 = .ok (.aload_n 0, 1) := by decide +kernel
theorem d_Script_copyFrom_143 : decode m_Script_copyFrom.2.1 143 = .ok (.getfield 53, 3) := by decide +kernel
theorem d_Script_copyFrom_146 : decode m_Script_copyFrom.2.1 146 = .ok (.aload_n 1, 1) := by decide +kernel
theorem d_Script_copyFrom_147 : decode m_Script_copyFrom.2.1 147 = .ok (.getfield 53, 3) := by decide +kernel
theorem d_Script_copyFrom_150 : decode m_Script_copyFrom.2.1 150 = .ok (.invokevirtual 66, 3) := by decide +kernel
theorem d_Script_copyFrom_153 : decode m_Script_copyFrom.2.1 153 = .ok (.return_, 1) := by decide +kernel
theorem d_Laws_copyFrom_0 : decode m_Laws_copyFrom.2.1 0 = .ok (.aload_n 0, 1) := by decide +kernel
theorem d_Laws_copyFrom_1 : decode m_Laws_copyFrom.2.1 1 = .ok (.aload_n 1, 1) := by decide +kernel
theorem d_Laws_copyFrom_2 : decode m_Laws_copyFrom.2.1 2 = .ok (.getfield 21, 3) := by decide +kernel
theorem d_Laws_copyFrom_5 : decode m_Laws_copyFrom.2.1 5 = .ok (.putfield 21, 3) := by decide +kernel
theorem d_Laws_copyFrom_8 : decode m_Laws_copyFrom.2.1 8 = .ok (.iconst 0, 1) := by decide +kernel
theorem d_Laws_copyFrom_9 : decode m_Laws_copyFrom.2.1 9 = .ok (.istore_n 2, 1) := by decide +kernel
theorem d_Laws_copyFrom_10 : decode m_Laws_copyFrom.2.1 10 = .ok (.iload_n 2, 1) := by decide +kernel
theorem d_Laws_copyFrom_11 : decode m_Laws_copyFrom.2.1 11 = .ok (.aload_n 0, 1) := by decide +kernel
theorem d_Laws_copyFrom_12 : decode m_Laws_copyFrom.2.1 12 = .ok (.getfield 21, 3) := by decide +kernel
theorem d_Laws_copyFrom_15 : decode m_Laws_copyFrom.2.1 15 = .ok (.if_icmp .ge 33, 3) := by decide +kernel
theorem d_Laws_copyFrom_18 : decode m_Laws_copyFrom.2.1 18 = .ok (.aload_n 0, 1) := by decide +kernel
theorem d_Laws_copyFrom_19 : decode m_Laws_copyFrom.2.1 19 = .ok (.getfield 11, 3) := by decide +kernel
theorem d_Laws_copyFrom_22 : decode m_Laws_copyFrom.2.1 22 = .ok (.iload_n 2, 1) := by decide +kernel
theorem d_Laws_copyFrom_23 : decode m_Laws_copyFrom.2.1 23 = .ok (.aload_n 1, 1) := by decide +kernel
theorem d_Laws_copyFrom_24 : decode m_Laws_copyFrom.2.1 24 = .ok (.getfield 11, 3) := by decide +kernel
theorem d_Laws_copyFrom_27 : decode m_Laws_copyFrom.2.1 27 = .ok (.iload_n 2, 1) := by decide +kernel
theorem d_Laws_copyFrom_28 : decode m_Laws_copyFrom.2.1 28 = .ok (.aaload, 1) := by decide +kernel
theorem d_Laws_copyFrom_29 : decode m_Laws_copyFrom.2.1 29 = .ok (.aastore, 1) := by decide +kernel
theorem d_Laws_copyFrom_30 : decode m_Laws_copyFrom.2.1 30 = .ok (.aload_n 0, 1) := by decide +kernel
theorem d_Laws_copyFrom_31 : decode m_Laws_copyFrom.2.1 31 = .ok (.getfield 17, 3) := by decide +kernel
theorem d_Laws_copyFrom_34 : decode m_Laws_copyFrom.2.1 34 = .ok (.iload_n 2, 1) := by decide +kernel
theorem d_Laws_copyFrom_35 : decode m_Laws_copyFrom.2.1 35 = .ok (.aload_n 1, 1) := by decide +kernel
theorem d_Laws_copyFrom_36 : decode m_Laws_copyFrom.2.1 36 = .ok (.getfield 17, 3) := by decide +kernel
theorem d_Laws_copyFrom_39 : decode m_Laws_copyFrom.2.1 39 = .ok (.iload_n 2, 1) := by decide +kernel
theorem d_Laws_copyFrom_40 : decode m_Laws_copyFrom.2.1 40 = .ok (.iaload, 1) := by decide +kernel
theorem d_Laws_copyFrom_41 : decode m_Laws_copyFrom.2.1 41 = .ok (.iastore, 1) := by decide +kernel
theorem d_Laws_copyFrom_42 : decode m_Laws_copyFrom.2.1 42 = .ok (.iinc 2 1, 3) := by decide +kernel
theorem d_Laws_copyFrom_45 : decode m_Laws_copyFrom.2.1 45 = .ok (.goto (-35), 3) := by decide +kernel
theorem d_Laws_copyFrom_48 : decode m_Laws_copyFrom.2.1 48 = .ok (.aload_n 1, 1) := by decide +kernel
theorem d_Laws_copyFrom_49 : decode m_Laws_copyFrom.2.1 49 = .ok (.getfield 25, 3) := by decide +kernel
theorem d_Laws_copyFrom_52 : decode m_Laws_copyFrom.2.1 52 = .ok (.iconst 0, 1) := by decide +kernel
theorem d_Laws_copyFrom_53 : decode m_Laws_copyFrom.2.1 53 = .ok (.aload_n 0, 1) := by decide +kernel
theorem d_Laws_copyFrom_54 : decode m_Laws_copyFrom.2.1 54 = .ok (.getfield 25, 3) := by decide +kernel
theorem d_Laws_copyFrom_57 : decode m_Laws_copyFrom.2.1 57 = .ok (.iconst 0, 1) := by decide +kernel
theorem d_Laws_copyFrom_58 : decode m_Laws_copyFrom.2.1 58 = .ok (.iconst 4, 1) := by decide +kernel
theorem d_Laws_copyFrom_59 : decode m_Laws_copyFrom.2.1 59 = .ok (.invokestatic 60, 3) := by decide +kernel
theorem d_Laws_copyFrom_62 : decode m_Laws_copyFrom.2.1 62 = .ok (.aload_n 1, 1) := by decide +kernel
theorem d_Laws_copyFrom_63 : decode m_Laws_copyFrom.2.1 63 = .ok (.getfield 28, 3) := by decide +kernel
theorem d_Laws_copyFrom_66 : decode m_Laws_copyFrom.2.1 66 = .ok (.iconst 0, 1) := by decide +kernel
theorem d_Laws_copyFrom_67 : decode m_Laws_copyFrom.2.1 67 = .ok (.aload_n 0, 1) := by decide +kernel
theorem d_Laws_copyFrom_68 : decode m_Laws_copyFrom.2.1 68 = .ok (.getfield 28, 3) := by decide +kernel
theorem d_Laws_copyFrom_71 : decode m_Laws_copyFrom.2.1 71 = .ok (.iconst 0, 1) := by decide +kernel
theorem d_Laws_copyFrom_72 : decode m_Laws_copyFrom.2.1 72 = .ok (.iconst 4, 1) := by decide +kernel
theorem d_Laws_copyFrom_73 : decode m_Laws_copyFrom.2.1 73 = .ok (.invokestatic 60, 3) := by decide +kernel
theorem d_Laws_copyFrom_76 : decode m_Laws_copyFrom.2.1 76 = .ok (.return_, 1) := by decide +kernel
theorem d_Plan_clear_0 : decode m_Plan_clear.2.1 0 = .ok (.iconst 0, 1) := by decide +kernel
theorem d_Plan_clear_1 : decode m_Plan_clear.2.1 1 = .ok (.istore_n 1, 1) := by decide +kernel
theorem d_Plan_clear_2 : decode m_Plan_clear.2.1 2 = .ok (.iload_n 1, 1) := by decide +kernel
theorem d_Plan_clear_3 : decode m_Plan_clear.2.1 3 = .ok (.iconst 3, 1) := by decide +kernel
theorem d_Plan_clear_4 : decode m_Plan_clear.2.1 4 = .ok (.if_icmp .ge 16, 3) := by decide +kernel
theorem d_Plan_clear_7 : decode m_Plan_clear.2.1 7 = .ok (.aload_n 0, 1) := by decide +kernel
theorem d_Plan_clear_8 : decode m_Plan_clear.2.1 8 = .ok (.getfield 16, 3) := by decide +kernel
theorem d_Plan_clear_11 : decode m_Plan_clear.2.1 11 = .ok (.iload_n 1, 1) := by decide +kernel
theorem d_Plan_clear_12 : decode m_Plan_clear.2.1 12 = .ok (.iconst 0, 1) := by decide +kernel
theorem d_Plan_clear_13 : decode m_Plan_clear.2.1 13 = .ok (.iastore, 1) := by decide +kernel
theorem d_Plan_clear_14 : decode m_Plan_clear.2.1 14 = .ok (.iinc 1 1, 3) := by decide +kernel
theorem d_Plan_clear_17 : decode m_Plan_clear.2.1 17 = .ok (.goto (-15), 3) := by decide +kernel
theorem d_Plan_clear_20 : decode m_Plan_clear.2.1 20 = .ok (.aload_n 0, 1) := by decide +kernel
theorem d_Plan_clear_21 : decode m_Plan_clear.2.1 21 = .ok (.iconst 0, 1) := by decide +kernel
theorem d_Plan_clear_22 : decode m_Plan_clear.2.1 22 = .ok (.putfield 20, 3) := by decide +kernel
theorem d_Plan_clear_25 : decode m_Plan_clear.2.1 25 = .ok (.aload_n 0, 1) := by decide +kernel
theorem d_Plan_clear_26 : decode m_Plan_clear.2.1 26 = .ok (.iconst 0, 1) := by decide +kernel
theorem d_Plan_clear_27 : decode m_Plan_clear.2.1 27 = .ok (.putfield 24, 3) := by decide +kernel
theorem d_Plan_clear_30 : decode m_Plan_clear.2.1 30 = .ok (.return_, 1) := by decide +kernel
theorem d_Night_clear_0 : decode m_Night_clear.2.1 0 = .ok (.aload_n 0, 1) := by decide +kernel
theorem d_Night_clear_1 : decode m_Night_clear.2.1 1 = .ok (.iconst 0, 1) := by decide +kernel
theorem d_Night_clear_2 : decode m_Night_clear.2.1 2 = .ok (.putfield 18, 3) := by decide +kernel
theorem d_Night_clear_5 : decode m_Night_clear.2.1 5 = .ok (.aload_n 0, 1) := by decide +kernel
theorem d_Night_clear_6 : decode m_Night_clear.2.1 6 = .ok (.iload_n 1, 1) := by decide +kernel
theorem d_Night_clear_7 : decode m_Night_clear.2.1 7 = .ok (.putfield 22, 3) := by decide +kernel
theorem d_Night_clear_10 : decode m_Night_clear.2.1 10 = .ok (.return_, 1) := by decide +kernel
theorem d_Tracks_clear_0 : decode m_Tracks_clear.2.1 0 = .ok (.aload_n 0, 1) := by decide +kernel
theorem d_Tracks_clear_1 : decode m_Tracks_clear.2.1 1 = .ok (.iconst 0, 1) := by decide +kernel
theorem d_Tracks_clear_2 : decode m_Tracks_clear.2.1 2 = .ok (.putfield 24, 3) := by decide +kernel
theorem d_Tracks_clear_5 : decode m_Tracks_clear.2.1 5 = .ok (.aload_n 0, 1) := by decide +kernel
theorem d_Tracks_clear_6 : decode m_Tracks_clear.2.1 6 = .ok (.iconst (-1), 1) := by decide +kernel
theorem d_Tracks_clear_7 : decode m_Tracks_clear.2.1 7 = .ok (.putfield 28, 3) := by decide +kernel
theorem d_Tracks_clear_10 : decode m_Tracks_clear.2.1 10 = .ok (.return_, 1) := by decide +kernel
theorem d_Past_clear_0 : decode m_Past_clear.2.1 0 = .ok (.aload_n 0, 1) := by decide +kernel
theorem d_Past_clear_1 : decode m_Past_clear.2.1 1 = .ok (.iconst 0, 1) := by decide +kernel
theorem d_Past_clear_2 : decode m_Past_clear.2.1 2 = .ok (.putfield 21, 3) := by decide +kernel
theorem d_Past_clear_5 : decode m_Past_clear.2.1 5 = .ok (.return_, 1) := by decide +kernel
theorem d_Fs_fault_0 : decode m_Fs_fault.2.1 0 = .ok (.iload_n 1, 1) := by decide +kernel
theorem d_Fs_fault_1 : decode m_Fs_fault.2.1 1 = .ok (.ifCond .ne 11, 3) := by decide +kernel
theorem d_Fs_fault_4 : decode m_Fs_fault.2.1 4 = .ok (.aload_n 0, 1) := by decide +kernel
theorem d_Fs_fault_5 : decode m_Fs_fault.2.1 5 = .ok (.getfield 24, 3) := by decide +kernel
theorem d_Fs_fault_8 : decode m_Fs_fault.2.1 8 = .ok (.getfield 127, 3) := by decide +kernel
theorem d_Fs_fault_11 : decode m_Fs_fault.2.1 11 = .ok (.ireturn, 1) := by decide +kernel
theorem d_Fs_fault_12 : decode m_Fs_fault.2.1 12 = .ok (.iload_n 1, 1) := by decide +kernel
theorem d_Fs_fault_13 : decode m_Fs_fault.2.1 13 = .ok (.iconst 1, 1) := by decide +kernel
theorem d_Fs_fault_14 : decode m_Fs_fault.2.1 14 = .ok (.if_icmp .ne 13, 3) := by decide +kernel
theorem d_Fs_fault_17 : decode m_Fs_fault.2.1 17 = .ok (.aload_n 0, 1) := by decide +kernel
theorem d_Fs_fault_18 : decode m_Fs_fault.2.1 18 = .ok (.getfield 24, 3) := by decide +kernel
theorem d_Fs_fault_21 : decode m_Fs_fault.2.1 21 = .ok (.getfield 130, 3) := by decide +kernel
theorem d_Fs_fault_24 : decode m_Fs_fault.2.1 24 = .ok (.goto 4, 3) := by decide +kernel
theorem d_Fs_fault_27 : decode m_Fs_fault.2.1 27 = .ok (.iconst (-1), 1) := by decide +kernel
theorem d_Fs_fault_28 : decode m_Fs_fault.2.1 28 = .ok (.ireturn, 1) := by decide +kernel
theorem d_Fs_named_0 : decode m_Fs_named.2.1 0 = .ok (.iload_n 1, 1) := by decide +kernel
theorem d_Fs_named_1 : decode m_Fs_named.2.1 1 = .ok (.ifCond .ne 22, 3) := by decide +kernel
theorem d_Fs_named_4 : decode m_Fs_named.2.1 4 = .ok (.aload_n 0, 1) := by decide +kernel
theorem d_Fs_named_5 : decode m_Fs_named.2.1 5 = .ok (.getfield 12, 3) := by decide +kernel
theorem d_Fs_named_8 : decode m_Fs_named.2.1 8 = .ok (.getfield 133, 3) := by decide +kernel
theorem d_Fs_named_11 : decode m_Fs_named.2.1 11 = .ok (.aload_n 0, 1) := by decide +kernel
theorem d_Fs_named_12 : decode m_Fs_named.2.1 12 = .ok (.getfield 12, 3) := by decide +kernel
theorem d_Fs_named_15 : decode m_Fs_named.2.1 15 = .ok (.getfield 137, 3) := by decide +kernel
theorem d_Fs_named_18 : decode m_Fs_named.2.1 18 = .ok (.iload_n 2, 1) := by decide +kernel
theorem d_Fs_named_19 : decode m_Fs_named.2.1 19 = .ok (.invokestatic 140, 3) := by decide +kernel
theorem d_Fs_named_22 : decode m_Fs_named.2.1 22 = .ok (.ireturn, 1) := by decide +kernel
theorem d_Fs_named_23 : decode m_Fs_named.2.1 23 = .ok (.iload_n 1, 1) := by decide +kernel
theorem d_Fs_named_24 : decode m_Fs_named.2.1 24 = .ok (.iconst 1, 1) := by decide +kernel
theorem d_Fs_named_25 : decode m_Fs_named.2.1 25 = .ok (.if_icmp .ne 24, 3) := by decide +kernel
theorem d_Fs_named_28 : decode m_Fs_named.2.1 28 = .ok (.aload_n 0, 1) := by decide +kernel
theorem d_Fs_named_29 : decode m_Fs_named.2.1 29 = .ok (.getfield 12, 3) := by decide +kernel
theorem d_Fs_named_32 : decode m_Fs_named.2.1 32 = .ok (.getfield 144, 3) := by decide +kernel
theorem d_Fs_named_35 : decode m_Fs_named.2.1 35 = .ok (.aload_n 0, 1) := by decide +kernel
theorem d_Fs_named_36 : decode m_Fs_named.2.1 36 = .ok (.getfield 12, 3) := by decide +kernel
theorem d_Fs_named_39 : decode m_Fs_named.2.1 39 = .ok (.getfield 147, 3) := by decide +kernel
theorem d_Fs_named_42 : decode m_Fs_named.2.1 42 = .ok (.iload_n 2, 1) := by decide +kernel
theorem d_Fs_named_43 : decode m_Fs_named.2.1 43 = .ok (.invokestatic 140, 3) := by decide +kernel
theorem d_Fs_named_46 : decode m_Fs_named.2.1 46 = .ok (.goto 4, 3) := by decide +kernel
theorem d_Fs_named_49 : decode m_Fs_named.2.1 49 = .ok (.iconst (-1), 1) := by decide +kernel
theorem d_Fs_named_50 : decode m_Fs_named.2.1 50 = .ok (.ireturn, 1) := by decide +kernel
theorem d_Fs_dark_0 : decode m_Fs_dark.2.1 0 = .ok (.aload_n 0, 1) := by decide +kernel
theorem d_Fs_dark_1 : decode m_Fs_dark.2.1 1 = .ok (.getfield 12, 3) := by decide +kernel
theorem d_Fs_dark_4 : decode m_Fs_dark.2.1 4 = .ok (.iload_n 1, 1) := by decide +kernel
theorem d_Fs_dark_5 : decode m_Fs_dark.2.1 5 = .ok (.invokevirtual 188, 3) := by decide +kernel
theorem d_Fs_dark_8 : decode m_Fs_dark.2.1 8 = .ok (.ifCond .eq 7, 3) := by decide +kernel
theorem d_Fs_dark_11 : decode m_Fs_dark.2.1 11 = .ok (.iload_n 2, 1) := by decide +kernel
theorem d_Fs_dark_12 : decode m_Fs_dark.2.1 12 = .ok (.ifCond .ge 5, 3) := by decide +kernel
theorem d_Fs_dark_15 : decode m_Fs_dark.2.1 15 = .ok (.iconst (-1), 1) := by decide +kernel
theorem d_Fs_dark_16 : decode m_Fs_dark.2.1 16 = .ok (.ireturn, 1) := by decide +kernel
theorem d_Fs_dark_17 : decode m_Fs_dark.2.1 17 = .ok (.iload_n 2, 1) := by decide +kernel
theorem d_Fs_dark_18 : decode m_Fs_dark.2.1 18 = .ok (.tableswitch 56 0 2 #[26, 36, 46], 26) := by decide +kernel
theorem d_Fs_dark_44 : decode m_Fs_dark.2.1 44 = .ok (.aload_n 0, 1) := by decide +kernel
theorem d_Fs_dark_45 : decode m_Fs_dark.2.1 45 = .ok (.getfield 12, 3) := by decide +kernel
theorem d_Fs_dark_48 : decode m_Fs_dark.2.1 48 = .ok (.getfield 191, 3) := by decide +kernel
theorem d_Fs_dark_51 : decode m_Fs_dark.2.1 51 = .ok (.iload_n 1, 1) := by decide +kernel
theorem d_Fs_dark_52 : decode m_Fs_dark.2.1 52 = .ok (.iaload, 1) := by decide +kernel
theorem d_Fs_dark_53 : decode m_Fs_dark.2.1 53 = .ok (.ireturn, 1) := by decide +kernel
theorem d_Fs_dark_54 : decode m_Fs_dark.2.1 54 = .ok (.aload_n 0, 1) := by decide +kernel
theorem d_Fs_dark_55 : decode m_Fs_dark.2.1 55 = .ok (.getfield 12, 3) := by decide +kernel
theorem d_Fs_dark_58 : decode m_Fs_dark.2.1 58 = .ok (.getfield 194, 3) := by decide +kernel
theorem d_Fs_dark_61 : decode m_Fs_dark.2.1 61 = .ok (.iload_n 1, 1) := by decide +kernel
theorem d_Fs_dark_62 : decode m_Fs_dark.2.1 62 = .ok (.iaload, 1) := by decide +kernel
theorem d_Fs_dark_63 : decode m_Fs_dark.2.1 63 = .ok (.ireturn, 1) := by decide +kernel
theorem d_Fs_dark_64 : decode m_Fs_dark.2.1 64 = .ok (.aload_n 0, 1) := by decide +kernel
theorem d_Fs_dark_65 : decode m_Fs_dark.2.1 65 = .ok (.getfield 31, 3) := by decide +kernel
theorem d_Fs_dark_68 : decode m_Fs_dark.2.1 68 = .ok (.getfield 197, 3) := by decide +kernel
theorem d_Fs_dark_71 : decode m_Fs_dark.2.1 71 = .ok (.iload_n 1, 1) := by decide +kernel
theorem d_Fs_dark_72 : decode m_Fs_dark.2.1 72 = .ok (.iaload, 1) := by decide +kernel
theorem d_Fs_dark_73 : decode m_Fs_dark.2.1 73 = .ok (.ireturn, 1) := by decide +kernel
theorem d_Fs_dark_74 : decode m_Fs_dark.2.1 74 = .ok (.iload_n 2, 1) := by decide +kernel
theorem d_Fs_dark_75 : decode m_Fs_dark.2.1 75 = .ok (.iconst 3, 1) := by decide +kernel
theorem d_Fs_dark_76 : decode m_Fs_dark.2.1 76 = .ok (.isub, 1) := by decide +kernel
theorem d_Fs_dark_77 : decode m_Fs_dark.2.1 77 = .ok (.aload_n 0, 1) := by decide +kernel
theorem d_Fs_dark_78 : decode m_Fs_dark.2.1 78 = .ok (.getfield 31, 3) := by decide +kernel
theorem d_Fs_dark_81 : decode m_Fs_dark.2.1 81 = .ok (.getfield 197, 3) := by decide +kernel
theorem d_Fs_dark_84 : decode m_Fs_dark.2.1 84 = .ok (.iload_n 1, 1) := by decide +kernel
theorem d_Fs_dark_85 : decode m_Fs_dark.2.1 85 = .ok (.iaload, 1) := by decide +kernel
theorem d_Fs_dark_86 : decode m_Fs_dark.2.1 86 = .ok (.if_icmp .ge 19, 3) := by decide +kernel
theorem d_Fs_dark_89 : decode m_Fs_dark.2.1 89 = .ok (.aload_n 0, 1) := by decide +kernel
theorem d_Fs_dark_90 : decode m_Fs_dark.2.1 90 = .ok (.getfield 31, 3) := by decide +kernel
theorem d_Fs_dark_93 : decode m_Fs_dark.2.1 93 = .ok (.getfield 200, 3) := by decide +kernel
theorem d_Fs_dark_96 : decode m_Fs_dark.2.1 96 = .ok (.iload_n 1, 1) := by decide +kernel
theorem d_Fs_dark_97 : decode m_Fs_dark.2.1 97 = .ok (.aaload, 1) := by decide +kernel
theorem d_Fs_dark_98 : decode m_Fs_dark.2.1 98 = .ok (.iload_n 2, 1) := by decide +kernel
theorem d_Fs_dark_99 : decode m_Fs_dark.2.1 99 = .ok (.iconst 3, 1) := by decide +kernel
theorem d_Fs_dark_100 : decode m_Fs_dark.2.1 100 = .ok (.isub, 1) := by decide +kernel
theorem d_Fs_dark_101 : decode m_Fs_dark.2.1 101 = .ok (.iaload, 1) := by decide +kernel
theorem d_Fs_dark_102 : decode m_Fs_dark.2.1 102 = .ok (.goto 4, 3) := by decide +kernel
theorem d_Fs_dark_105 : decode m_Fs_dark.2.1 105 = .ok (.iconst (-1), 1) := by decide +kernel
theorem d_Fs_dark_106 : decode m_Fs_dark.2.1 106 = .ok (.ireturn, 1) := by decide +kernel
theorem d_Script_hasDark_0 : decode m_Script_hasDark.2.1 0 = .ok (.iload_n 1, 1) := by decide +kernel
theorem d_Script_hasDark_1 : decode m_Script_hasDark.2.1 1 = .ok (.ifCond .lt 15, 3) := by decide +kernel
theorem d_Script_hasDark_4 : decode m_Script_hasDark.2.1 4 = .ok (.iload_n 1, 1) := by decide +kernel
theorem d_Script_hasDark_5 : decode m_Script_hasDark.2.1 5 = .ok (.aload_n 0, 1) := by decide +kernel
theorem d_Script_hasDark_6 : decode m_Script_hasDark.2.1 6 = .ok (.getfield 40, 3) := by decide +kernel
theorem d_Script_hasDark_9 : decode m_Script_hasDark.2.1 9 = .ok (.if_icmp .ge 7, 3) := by decide +kernel
theorem d_Script_hasDark_12 : decode m_Script_hasDark.2.1 12 = .ok (.iconst 1, 1) := by decide +kernel
theorem d_Script_hasDark_13 : decode m_Script_hasDark.2.1 13 = .ok (.goto 4, 3) := by decide +kernel
theorem d_Script_hasDark_16 : decode m_Script_hasDark.2.1 16 = .ok (.iconst 0, 1) := by decide +kernel
theorem d_Script_hasDark_17 : decode m_Script_hasDark.2.1 17 = .ok (.ireturn, 1) := by decide +kernel
theorem d_Fs_walk_0 : decode m_Fs_walk.2.1 0 = .ok (.iload_n 2, 1) := by decide +kernel
theorem d_Fs_walk_1 : decode m_Fs_walk.2.1 1 = .ok (.iconst (-1), 1) := by decide +kernel
theorem d_Fs_walk_2 : decode m_Fs_walk.2.1 2 = .ok (.if_icmp .eq 14, 3) := by decide +kernel
theorem d_Fs_walk_5 : decode m_Fs_walk.2.1 5 = .ok (.aload_n 0, 1) := by decide +kernel
theorem d_Fs_walk_6 : decode m_Fs_walk.2.1 6 = .ok (.getfield 12, 3) := by decide +kernel
theorem d_Fs_walk_9 : decode m_Fs_walk.2.1 9 = .ok (.iload_n 2, 1) := by decide +kernel
theorem d_Fs_walk_10 : decode m_Fs_walk.2.1 10 = .ok (.invokevirtual 150, 3) := by decide +kernel
theorem d_Fs_walk_13 : decode m_Fs_walk.2.1 13 = .ok (.ifCond .eq 7, 3) := by decide +kernel
theorem d_Fs_walk_16 : decode m_Fs_walk.2.1 16 = .ok (.iconst 1, 1) := by decide +kernel
theorem d_Fs_walk_17 : decode m_Fs_walk.2.1 17 = .ok (.goto 4, 3) := by decide +kernel
theorem d_Fs_walk_20 : decode m_Fs_walk.2.1 20 = .ok (.iconst 0, 1) := by decide +kernel
theorem d_Fs_walk_21 : decode m_Fs_walk.2.1 21 = .ok (.istore 6, 2) := by decide +kernel
theorem d_Fs_walk_23 : decode m_Fs_walk.2.1 23 = .ok (.aload_n 0, 1) := by decide +kernel
theorem d_Fs_walk_24 : decode m_Fs_walk.2.1 24 = .ok (.getfield 12, 3) := by decide +kernel
theorem d_Fs_walk_27 : decode m_Fs_walk.2.1 27 = .ok (.iload_n 1, 1) := by decide +kernel
theorem d_Fs_walk_28 : decode m_Fs_walk.2.1 28 = .ok (.invokevirtual 188, 3) := by decide +kernel
theorem d_Fs_walk_31 : decode m_Fs_walk.2.1 31 = .ok (.ifCond .eq 35, 3) := by decide +kernel
theorem d_Fs_walk_34 : decode m_Fs_walk.2.1 34 = .ok (.iload 6, 2) := by decide +kernel
theorem d_Fs_walk_36 : decode m_Fs_walk.2.1 36 = .ok (.ifCond .eq 30, 3) := by decide +kernel
theorem d_Fs_walk_39 : decode m_Fs_walk.2.1 39 = .ok (.aload_n 0, 1) := by decide +kernel
theorem d_Fs_walk_40 : decode m_Fs_walk.2.1 40 = .ok (.getfield 12, 3) := by decide +kernel
theorem d_Fs_walk_43 : decode m_Fs_walk.2.1 43 = .ok (.iload_n 3, 1) := by decide +kernel
theorem d_Fs_walk_44 : decode m_Fs_walk.2.1 44 = .ok (.invokevirtual 150, 3) := by decide +kernel
theorem d_Fs_walk_47 : decode m_Fs_walk.2.1 47 = .ok (.ifCond .eq 19, 3) := by decide +kernel
theorem d_Fs_walk_50 : decode m_Fs_walk.2.1 50 = .ok (.iload 4, 2) := by decide +kernel
theorem d_Fs_walk_52 : decode m_Fs_walk.2.1 52 = .ok (.invokestatic 204, 3) := by decide +kernel
theorem d_Fs_walk_55 : decode m_Fs_walk.2.1 55 = .ok (.ifCond .eq 11, 3) := by decide +kernel
theorem d_Fs_walk_58 : decode m_Fs_walk.2.1 58 = .ok (.iload 5, 2) := by decide +kernel
theorem d_Fs_walk_60 : decode m_Fs_walk.2.1 60 = .ok (.invokestatic 207, 3) := by decide +kernel
theorem d_Fs_walk_63 : decode m_Fs_walk.2.1 63 = .ok (.ifCond .ne 5, 3) := by decide +kernel
theorem d_Fs_walk_66 : decode m_Fs_walk.2.1 66 = .ok (.iconst (-1), 1) := by decide +kernel
theorem d_Fs_walk_67 : decode m_Fs_walk.2.1 67 = .ok (.ireturn, 1) := by decide +kernel
theorem d_Fs_walk_68 : decode m_Fs_walk.2.1 68 = .ok (.iload_n 2, 1) := by decide +kernel
theorem d_Fs_walk_69 : decode m_Fs_walk.2.1 69 = .ok (.iconst (-1), 1) := by decide +kernel
theorem d_Fs_walk_70 : decode m_Fs_walk.2.1 70 = .ok (.if_icmp .ne 15, 3) := by decide +kernel
theorem d_Fs_walk_73 : decode m_Fs_walk.2.1 73 = .ok (.aload_n 0, 1) := by decide +kernel
theorem d_Fs_walk_74 : decode m_Fs_walk.2.1 74 = .ok (.getfield 12, 3) := by decide +kernel
theorem d_Fs_walk_77 : decode m_Fs_walk.2.1 77 = .ok (.getfield 191, 3) := by decide +kernel
theorem d_Fs_walk_80 : decode m_Fs_walk.2.1 80 = .ok (.iload_n 1, 1) := by decide +kernel
theorem d_Fs_walk_81 : decode m_Fs_walk.2.1 81 = .ok (.iaload, 1) := by decide +kernel
theorem d_Fs_walk_82 : decode m_Fs_walk.2.1 82 = .ok (.goto 12, 3) := by decide +kernel
theorem d_Fs_walk_85 : decode m_Fs_walk.2.1 85 = .ok (.aload_n 0, 1) := by decide +kernel
theorem d_Fs_walk_86 : decode m_Fs_walk.2.1 86 = .ok (.getfield 12, 3) := by decide +kernel
theorem d_Fs_walk_89 : decode m_Fs_walk.2.1 89 = .ok (.getfield 161, 3) := by decide +kernel
theorem d_Fs_walk_92 : decode m_Fs_walk.2.1 92 = .ok (.iload_n 2, 1) := by decide +kernel
theorem d_Fs_walk_93 : decode m_Fs_walk.2.1 93 = .ok (.iaload, 1) := by decide +kernel
theorem d_Fs_walk_94 : decode m_Fs_walk.2.1 94 = .ok (.istore 7, 2) := by decide +kernel
theorem d_Fs_walk_96 : decode m_Fs_walk.2.1 96 = .ok (.aload_n 0, 1) := by decide +kernel
theorem d_Fs_walk_97 : decode m_Fs_walk.2.1 97 = .ok (.getfield 12, 3) := by decide +kernel
theorem d_Fs_walk_100 : decode m_Fs_walk.2.1 100 = .ok (.getfield 161, 3) := by decide +kernel
theorem d_Fs_walk_103 : decode m_Fs_walk.2.1 103 = .ok (.iload_n 3, 1) := by decide +kernel
theorem d_Fs_walk_104 : decode m_Fs_walk.2.1 104 = .ok (.iaload, 1) := by decide +kernel
theorem d_Fs_walk_105 : decode m_Fs_walk.2.1 105 = .ok (.istore 8, 2) := by decide +kernel
theorem d_Fs_walk_107 : decode m_Fs_walk.2.1 107 = .ok (.aload_n 0, 1) := by decide +kernel
theorem d_Fs_walk_108 : decode m_Fs_walk.2.1 108 = .ok (.getfield 12, 3) := by decide +kernel
theorem d_Fs_walk_111 : decode m_Fs_walk.2.1 111 = .ok (.getfield 210, 3) := by decide +kernel
theorem d_Fs_walk_114 : decode m_Fs_walk.2.1 114 = .ok (.iload 8, 2) := by decide +kernel
theorem d_Fs_walk_116 : decode m_Fs_walk.2.1 116 = .ok (.iload 7, 2) := by decide +kernel
theorem d_Fs_walk_118 : decode m_Fs_walk.2.1 118 = .ok (.isub, 1) := by decide +kernel
theorem d_Fs_walk_119 : decode m_Fs_walk.2.1 119 = .ok (.iload 4, 2) := by decide +kernel
theorem d_Fs_walk_121 : decode m_Fs_walk.2.1 121 = .ok (.iload 5, 2) := by decide +kernel
theorem d_Fs_walk_123 : decode m_Fs_walk.2.1 123 = .ok (.aload_n 0, 1) := by decide +kernel
theorem d_Fs_walk_124 : decode m_Fs_walk.2.1 124 = .ok (.getfield 12, 3) := by decide +kernel
theorem d_Fs_walk_127 : decode m_Fs_walk.2.1 127 = .ok (.getfield 194, 3) := by decide +kernel
theorem d_Fs_walk_130 : decode m_Fs_walk.2.1 130 = .ok (.iload_n 1, 1) := by decide +kernel
theorem d_Fs_walk_131 : decode m_Fs_walk.2.1 131 = .ok (.iaload, 1) := by decide +kernel
theorem d_Fs_walk_132 : decode m_Fs_walk.2.1 132 = .ok (.aload_n 0, 1) := by decide +kernel
theorem d_Fs_walk_133 : decode m_Fs_walk.2.1 133 = .ok (.getfield 12, 3) := by decide +kernel
theorem d_Fs_walk_136 : decode m_Fs_walk.2.1 136 = .ok (.getfield 164, 3) := by decide +kernel
theorem d_Fs_walk_139 : decode m_Fs_walk.2.1 139 = .ok (.iload_n 3, 1) := by decide +kernel
theorem d_Fs_walk_140 : decode m_Fs_walk.2.1 140 = .ok (.iaload, 1) := by decide +kernel
theorem d_Fs_walk_141 : decode m_Fs_walk.2.1 141 = .ok (.invokevirtual 214, 3) := by decide +kernel
theorem d_Fs_walk_144 : decode m_Fs_walk.2.1 144 = .ok (.ireturn, 1) := by decide +kernel
theorem d_Script_hasHouse_0 : decode m_Script_hasHouse.2.1 0 = .ok (.iload_n 1, 1) := by decide +kernel
theorem d_Script_hasHouse_1 : decode m_Script_hasHouse.2.1 1 = .ok (.ifCond .lt 15, 3) := by decide +kernel
theorem d_Script_hasHouse_4 : decode m_Script_hasHouse.2.1 4 = .ok (.iload_n 1, 1) := by decide +kernel
theorem d_Script_hasHouse_5 : decode m_Script_hasHouse.2.1 5 = .ok (.aload_n 0, 1) := by decide +kernel
theorem d_Script_hasHouse_6 : decode m_Script_hasHouse.2.1 6 = .ok (.getfield 28, 3) := by decide +kernel
theorem d_Script_hasHouse_9 : decode m_Script_hasHouse.2.1 9 = .ok (.if_icmp .ge 7, 3) := by decide +kernel
theorem d_Script_hasHouse_12 : decode m_Script_hasHouse.2.1 12 = .ok (.iconst 1, 1) := by decide +kernel
theorem d_Script_hasHouse_13 : decode m_Script_hasHouse.2.1 13 = .ok (.goto 4, 3) := by decide +kernel
theorem d_Script_hasHouse_16 : decode m_Script_hasHouse.2.1 16 = .ok (.iconst 0, 1) := by decide +kernel
theorem d_Script_hasHouse_17 : decode m_Script_hasHouse.2.1 17 = .ok (.ireturn, 1) := by decide +kernel
theorem d_Fs_isMinute_0 : decode m_Fs_isMinute.2.1 0 = .ok (.iload_n 0, 1) := by decide +kernel
theorem d_Fs_isMinute_1 : decode m_Fs_isMinute.2.1 1 = .ok (.iconst 1, 1) := by decide +kernel
theorem d_Fs_isMinute_2 : decode m_Fs_isMinute.2.1 2 = .ok (.if_icmp .lt 14, 3) := by decide +kernel
theorem d_Fs_isMinute_5 : decode m_Fs_isMinute.2.1 5 = .ok (.iload_n 0, 1) := by decide +kernel
theorem d_Fs_isMinute_6 : decode m_Fs_isMinute.2.1 6 = .ok (.sipush 240, 3) := by decide +kernel
theorem d_Fs_isMinute_9 : decode m_Fs_isMinute.2.1 9 = .ok (.if_icmp .gt 7, 3) := by decide +kernel
theorem d_Fs_isMinute_12 : decode m_Fs_isMinute.2.1 12 = .ok (.iconst 1, 1) := by decide +kernel
theorem d_Fs_isMinute_13 : decode m_Fs_isMinute.2.1 13 = .ok (.goto 4, 3) := by decide +kernel
theorem d_Fs_isMinute_16 : decode m_Fs_isMinute.2.1 16 = .ok (.iconst 0, 1) := by decide +kernel
theorem d_Fs_isMinute_17 : decode m_Fs_isMinute.2.1 17 = .ok (.ireturn, 1) := by decide +kernel
theorem d_Fs_isGlasses_0 : decode m_Fs_isGlasses.2.1 0 = .ok (.iload_n 0, 1) := by decide +kernel
theorem d_Fs_isGlasses_1 : decode m_Fs_isGlasses.2.1 1 = .ok (.ifCond .lt 13, 3) := by decide +kernel
theorem d_Fs_isGlasses_4 : decode m_Fs_isGlasses.2.1 4 = .ok (.iload_n 0, 1) := by decide +kernel
theorem d_Fs_isGlasses_5 : decode m_Fs_isGlasses.2.1 5 = .ok (.bipush 9, 2) := by decide +kernel
theorem d_Fs_isGlasses_7 : decode m_Fs_isGlasses.2.1 7 = .ok (.if_icmp .gt 7, 3) := by decide +kernel
theorem d_Fs_isGlasses_10 : decode m_Fs_isGlasses.2.1 10 = .ok (.iconst 1, 1) := by decide +kernel
theorem d_Fs_isGlasses_11 : decode m_Fs_isGlasses.2.1 11 = .ok (.goto 4, 3) := by decide +kernel
theorem d_Fs_isGlasses_14 : decode m_Fs_isGlasses.2.1 14 = .ok (.iconst 0, 1) := by decide +kernel
theorem d_Fs_isGlasses_15 : decode m_Fs_isGlasses.2.1 15 = .ok (.ireturn, 1) := by decide +kernel
theorem d_Laws_walkTime_0 : decode m_Laws_walkTime.2.1 0 = .ok (.aload_n 0, 1) := by decide +kernel
theorem d_Laws_walkTime_1 : decode m_Laws_walkTime.2.1 1 = .ok (.iload_n 2, 1) := by decide +kernel
theorem d_Laws_walkTime_2 : decode m_Laws_walkTime.2.1 2 = .ok (.iload_n 3, 1) := by decide +kernel
theorem d_Laws_walkTime_3 : decode m_Laws_walkTime.2.1 3 = .ok (.iload 4, 2) := by decide +kernel
theorem d_Laws_walkTime_5 : decode m_Laws_walkTime.2.1 5 = .ok (.iload 5, 2) := by decide +kernel
theorem d_Laws_walkTime_7 : decode m_Laws_walkTime.2.1 7 = .ok (.invokevirtual 66, 3) := by decide +kernel
theorem d_Laws_walkTime_10 : decode m_Laws_walkTime.2.1 10 = .ok (.aload_n 0, 1) := by decide +kernel
theorem d_Laws_walkTime_11 : decode m_Laws_walkTime.2.1 11 = .ok (.iload_n 1, 1) := by decide +kernel
theorem d_Laws_walkTime_12 : decode m_Laws_walkTime.2.1 12 = .ok (.invokestatic 70, 3) := by decide +kernel
theorem d_Laws_walkTime_15 : decode m_Laws_walkTime.2.1 15 = .ok (.putfield 39, 3) := by decide +kernel
theorem d_Laws_walkTime_18 : decode m_Laws_walkTime.2.1 18 = .ok (.aload_n 0, 1) := by decide +kernel
theorem d_Laws_walkTime_19 : decode m_Laws_walkTime.2.1 19 = .ok (.iload_n 1, 1) := by decide +kernel
theorem d_Laws_walkTime_20 : decode m_Laws_walkTime.2.1 20 = .ok (.ifCond .le 7, 3) := by decide +kernel
theorem d_Laws_walkTime_23 : decode m_Laws_walkTime.2.1 23 = .ok (.iconst 1, 1) := by decide +kernel
theorem d_Laws_walkTime_24 : decode m_Laws_walkTime.2.1 24 = .ok (.goto 4, 3) := by decide +kernel
theorem d_Laws_walkTime_27 : decode m_Laws_walkTime.2.1 27 = .ok (.iconst 0, 1) := by decide +kernel
theorem d_Laws_walkTime_28 : decode m_Laws_walkTime.2.1 28 = .ok (.putfield 42, 3) := by decide +kernel
theorem d_Laws_walkTime_31 : decode m_Laws_walkTime.2.1 31 = .ok (.aload_n 0, 1) := by decide +kernel
theorem d_Laws_walkTime_32 : decode m_Laws_walkTime.2.1 32 = .ok (.iconst 0, 1) := by decide +kernel
theorem d_Laws_walkTime_33 : decode m_Laws_walkTime.2.1 33 = .ok (.invokevirtual 76, 3) := by decide +kernel
theorem d_Laws_walkTime_36 : decode m_Laws_walkTime.2.1 36 = .ok (.ifCond .eq 13, 3) := by decide +kernel
theorem d_Laws_walkTime_39 : decode m_Laws_walkTime.2.1 39 = .ok (.aload_n 0, 1) := by decide +kernel
theorem d_Laws_walkTime_40 : decode m_Laws_walkTime.2.1 40 = .ok (.sipush 240, 3) := by decide +kernel
theorem d_Laws_walkTime_43 : decode m_Laws_walkTime.2.1 43 = .ok (.invokevirtual 80, 3) := by decide +kernel
theorem d_Laws_walkTime_46 : decode m_Laws_walkTime.2.1 46 = .ok (.goto 7, 3) := by decide +kernel
theorem d_Laws_walkTime_49 : decode m_Laws_walkTime.2.1 49 = .ok (.aload_n 0, 1) := by decide +kernel
theorem d_Laws_walkTime_50 : decode m_Laws_walkTime.2.1 50 = .ok (.getfield 39, 3) := by decide +kernel
theorem d_Laws_walkTime_53 : decode m_Laws_walkTime.2.1 53 = .ok (.ireturn, 1) := by decide +kernel
theorem d_Laws_putNames_0 : decode m_Laws_putNames.2.1 0 = .ok (.aload_n 0, 1) := by decide +kernel
theorem d_Laws_putNames_1 : decode m_Laws_putNames.2.1 1 = .ok (.iload_n 1, 1) := by decide +kernel
theorem d_Laws_putNames_2 : decode m_Laws_putNames.2.1 2 = .ok (.putfield 45, 3) := by decide +kernel
theorem d_Laws_putNames_5 : decode m_Laws_putNames.2.1 5 = .ok (.aload_n 0, 1) := by decide +kernel
theorem d_Laws_putNames_6 : decode m_Laws_putNames.2.1 6 = .ok (.iload_n 2, 1) := by decide +kernel
theorem d_Laws_putNames_7 : decode m_Laws_putNames.2.1 7 = .ok (.putfield 48, 3) := by decide +kernel
theorem d_Laws_putNames_10 : decode m_Laws_putNames.2.1 10 = .ok (.aload_n 0, 1) := by decide +kernel
theorem d_Laws_putNames_11 : decode m_Laws_putNames.2.1 11 = .ok (.iload_n 3, 1) := by decide +kernel
theorem d_Laws_putNames_12 : decode m_Laws_putNames.2.1 12 = .ok (.putfield 51, 3) := by decide +kernel
theorem d_Laws_putNames_15 : decode m_Laws_putNames.2.1 15 = .ok (.aload_n 0, 1) := by decide +kernel
theorem d_Laws_putNames_16 : decode m_Laws_putNames.2.1 16 = .ok (.iload 4, 2) := by decide +kernel
theorem d_Laws_putNames_18 : decode m_Laws_putNames.2.1 18 = .ok (.putfield 54, 3) := by decide +kernel
theorem d_Laws_putNames_21 : decode m_Laws_putNames.2.1 21 = .ok (.aload_n 0, 1) := by decide +kernel
theorem d_Laws_putNames_22 : decode m_Laws_putNames.2.1 22 = .ok (.iconst 0, 1) := by decide +kernel
theorem d_Laws_putNames_23 : decode m_Laws_putNames.2.1 23 = .ok (.putfield 39, 3) := by decide +kernel
theorem d_Laws_putNames_26 : decode m_Laws_putNames.2.1 26 = .ok (.aload_n 0, 1) := by decide +kernel
theorem d_Laws_putNames_27 : decode m_Laws_putNames.2.1 27 = .ok (.iconst 0, 1) := by decide +kernel
theorem d_Laws_putNames_28 : decode m_Laws_putNames.2.1 28 = .ok (.putfield 42, 3) := by decide +kernel
theorem d_Laws_putNames_31 : decode m_Laws_putNames.2.1 31 = .ok (.aload_n 0, 1) := by decide +kernel
theorem d_Laws_putNames_32 : decode m_Laws_putNames.2.1 32 = .ok (.iconst 0, 1) := by decide +kernel
theorem d_Laws_putNames_33 : decode m_Laws_putNames.2.1 33 = .ok (.putfield 57, 3) := by decide +kernel
theorem d_Laws_putNames_36 : decode m_Laws_putNames.2.1 36 = .ok (.return_, 1) := by decide +kernel
theorem d_Laws_isWorkedOut_0 : decode m_Laws_isWorkedOut.2.1 0 = .ok (.iconst 0, 1) := by decide +kernel
theorem d_Laws_isWorkedOut_1 : decode m_Laws_isWorkedOut.2.1 1 = .ok (.istore_n 2, 1) := by decide +kernel
theorem d_Laws_isWorkedOut_2 : decode m_Laws_isWorkedOut.2.1 2 = .ok (.aload_n 0, 1) := by decide +kernel
theorem d_Laws_isWorkedOut_3 : decode m_Laws_isWorkedOut.2.1 3 = .ok (.getfield 25, 3) := by decide +kernel
theorem d_Laws_isWorkedOut_6 : decode m_Laws_isWorkedOut.2.1 6 = .ok (.iload_n 1, 1) := by decide +kernel
theorem d_Laws_isWorkedOut_7 : decode m_Laws_isWorkedOut.2.1 7 = .ok (.iaload, 1) := by decide +kernel
theorem d_Laws_isWorkedOut_8 : decode m_Laws_isWorkedOut.2.1 8 = .ok (.istore_n 3, 1) := by decide +kernel
theorem d_Laws_isWorkedOut_9 : decode m_Laws_isWorkedOut.2.1 9 = .ok (.iload_n 3, 1) := by decide +kernel
theorem d_Laws_isWorkedOut_10 : decode m_Laws_isWorkedOut.2.1 10 = .ok (.aload_n 0, 1) := by decide +kernel
theorem d_Laws_isWorkedOut_11 : decode m_Laws_isWorkedOut.2.1 11 = .ok (.getfield 28, 3) := by decide +kernel
theorem d_Laws_isWorkedOut_14 : decode m_Laws_isWorkedOut.2.1 14 = .ok (.iload_n 1, 1) := by decide +kernel
theorem d_Laws_isWorkedOut_15 : decode m_Laws_isWorkedOut.2.1 15 = .ok (.iaload, 1) := by decide +kernel
theorem d_Laws_isWorkedOut_16 : decode m_Laws_isWorkedOut.2.1 16 = .ok (.if_icmp .ge 149, 3) := by decide +kernel
theorem d_Laws_isWorkedOut_19 : decode m_Laws_isWorkedOut.2.1 19 = .ok (.aload_n 0, 1) := by decide +kernel
theorem d_Laws_isWorkedOut_20 : decode m_Laws_isWorkedOut.2.1 20 = .ok (.getfield 11, 3) := by decide +kernel
theorem d_Laws_isWorkedOut_23 : decode m_Laws_isWorkedOut.2.1 23 = .ok (.iload_n 3, 1) := by decide +kernel
theorem d_Laws_isWorkedOut_24 : decode m_Laws_isWorkedOut.2.1 24 = .ok (.aaload, 1) := by decide +kernel
theorem d_Laws_isWorkedOut_25 : decode m_Laws_isWorkedOut.2.1 25 = .ok (.astore 4, 2) := by decide +kernel
theorem d_Laws_isWorkedOut_27 : decode m_Laws_isWorkedOut.2.1 27 = .ok (.aload 4, 2) := by decide +kernel
theorem d_Laws_isWorkedOut_29 : decode m_Laws_isWorkedOut.2.1 29 = .ok (.getfield 93, 3) := by decide +kernel
theorem d_Laws_isWorkedOut_32 : decode m_Laws_isWorkedOut.2.1 32 = .ok (.bipush 6, 2) := by decide +kernel
theorem d_Laws_isWorkedOut_34 : decode m_Laws_isWorkedOut.2.1 34 = .ok (.if_icmp .ne 34, 3) := by decide +kernel
theorem d_Laws_isWorkedOut_37 : decode m_Laws_isWorkedOut.2.1 37 = .ok (.iload_n 2, 1) := by decide +kernel
theorem d_Laws_isWorkedOut_38 : decode m_Laws_isWorkedOut.2.1 38 = .ok (.bipush 64, 2) := by decide +kernel
theorem d_Laws_isWorkedOut_40 : decode m_Laws_isWorkedOut.2.1 40 = .ok (.if_icmp .ge 28, 3) := by decide +kernel
theorem d_Laws_isWorkedOut_43 : decode m_Laws_isWorkedOut.2.1 43 = .ok (.aload_n 0, 1) := by decide +kernel
theorem d_Laws_isWorkedOut_44 : decode m_Laws_isWorkedOut.2.1 44 = .ok (.getfield 31, 3) := by decide +kernel
theorem d_Laws_isWorkedOut_47 : decode m_Laws_isWorkedOut.2.1 47 = .ok (.iload_n 2, 1) := by decide +kernel
theorem d_Laws_isWorkedOut_48 : decode m_Laws_isWorkedOut.2.1 48 = .ok (.aload_n 0, 1) := by decide +kernel
theorem d_Laws_isWorkedOut_49 : decode m_Laws_isWorkedOut.2.1 49 = .ok (.aload 4, 2) := by decide +kernel
theorem d_Laws_isWorkedOut_51 : decode m_Laws_isWorkedOut.2.1 51 = .ok (.aload_n 0, 1) := by decide +kernel
theorem d_Laws_isWorkedOut_52 : decode m_Laws_isWorkedOut.2.1 52 = .ok (.getfield 17, 3) := by decide +kernel
theorem d_Laws_isWorkedOut_55 : decode m_Laws_isWorkedOut.2.1 55 = .ok (.iload_n 3, 1) := by decide +kernel
theorem d_Laws_isWorkedOut_56 : decode m_Laws_isWorkedOut.2.1 56 = .ok (.iaload, 1) := by decide +kernel
theorem d_Laws_isWorkedOut_57 : decode m_Laws_isWorkedOut.2.1 57 = .ok (.invokevirtual 96, 3) := by decide +kernel
theorem d_Laws_isWorkedOut_60 : decode m_Laws_isWorkedOut.2.1 60 = .ok (.i2l, 1) := by decide +kernel
theorem d_Laws_isWorkedOut_61 : decode m_Laws_isWorkedOut.2.1 61 = .ok (.lastore, 1) := by decide +kernel
theorem d_Laws_isWorkedOut_62 : decode m_Laws_isWorkedOut.2.1 62 = .ok (.iinc 2 1, 3) := by decide +kernel
theorem d_Laws_isWorkedOut_65 : decode m_Laws_isWorkedOut.2.1 65 = .ok (.goto 94, 3) := by decide +kernel
theorem d_Laws_isWorkedOut_68 : decode m_Laws_isWorkedOut.2.1 68 = .ok (.aload 4, 2) := by decide +kernel
theorem d_Laws_isWorkedOut_70 : decode m_Laws_isWorkedOut.2.1 70 = .ok (.getstatic 100, 3) := by decide +kernel
theorem d_Laws_isWorkedOut_73 : decode m_Laws_isWorkedOut.2.1 73 = .ok (.if_acmp .ne 36, 3) := by decide +kernel
theorem d_Laws_isWorkedOut_76 : decode m_Laws_isWorkedOut.2.1 76 = .ok (.iload_n 2, 1) := by decide +kernel
theorem d_Laws_isWorkedOut_77 : decode m_Laws_isWorkedOut.2.1 77 = .ok (.ifCond .le 32, 3) := by decide +kernel
theorem d_Laws_isWorkedOut_80 : decode m_Laws_isWorkedOut.2.1 80 = .ok (.aload_n 0, 1) := by decide +kernel
theorem d_Laws_isWorkedOut_81 : decode m_Laws_isWorkedOut.2.1 81 = .ok (.getfield 31, 3) := by decide +kernel
theorem d_Laws_isWorkedOut_84 : decode m_Laws_isWorkedOut.2.1 84 = .ok (.iload_n 2, 1) := by decide +kernel
theorem d_Laws_isWorkedOut_85 : decode m_Laws_isWorkedOut.2.1 85 = .ok (.iconst 1, 1) := by decide +kernel
theorem d_Laws_isWorkedOut_86 : decode m_Laws_isWorkedOut.2.1 86 = .ok (.isub, 1) := by decide +kernel
theorem d_Laws_isWorkedOut_87 : decode m_Laws_isWorkedOut.2.1 87 = .ok (.aload_n 0, 1) := by decide +kernel
theorem d_Laws_isWorkedOut_88 : decode m_Laws_isWorkedOut.2.1 88 = .ok (.getfield 31, 3) := by decide +kernel
theorem d_Laws_isWorkedOut_91 : decode m_Laws_isWorkedOut.2.1 91 = .ok (.iload_n 2, 1) := by decide +kernel
theorem d_Laws_isWorkedOut_92 : decode m_Laws_isWorkedOut.2.1 92 = .ok (.iconst 1, 1) := by decide +kernel
theorem d_Laws_isWorkedOut_93 : decode m_Laws_isWorkedOut.2.1 93 = .ok (.isub, 1) := by decide +kernel
theorem d_Laws_isWorkedOut_94 : decode m_Laws_isWorkedOut.2.1 94 = .ok (.laload, 1) := by decide +kernel
theorem d_Laws_isWorkedOut_95 : decode m_Laws_isWorkedOut.2.1 95 = .ok (.lconst 0, 1) := by decide +kernel
theorem d_Laws_isWorkedOut_96 : decode m_Laws_isWorkedOut.2.1 96 = .ok (.lcmp, 1) := by decide +kernel
theorem d_Laws_isWorkedOut_97 : decode m_Laws_isWorkedOut.2.1 97 = .ok (.ifCond .ne 7, 3) := by decide +kernel
theorem d_Laws_isWorkedOut_100 : decode m_Laws_isWorkedOut.2.1 100 = .ok (.lconst 1, 1) := by decide +kernel
theorem d_Laws_isWorkedOut_101 : decode m_Laws_isWorkedOut.2.1 101 = .ok (.goto 4, 3) := by decide +kernel
theorem d_Laws_isWorkedOut_104 : decode m_Laws_isWorkedOut.2.1 104 = .ok (.lconst 0, 1) := by decide +kernel
theorem d_Laws_isWorkedOut_105 : decode m_Laws_isWorkedOut.2.1 105 = .ok (.lastore, 1) := by decide +kernel
theorem d_Laws_isWorkedOut_106 : decode m_Laws_isWorkedOut.2.1 106 = .ok (.goto 53, 3) := by decide +kernel
theorem d_Laws_isWorkedOut_109 : decode m_Laws_isWorkedOut.2.1 109 = .ok (.iload_n 2, 1) := by decide +kernel
theorem d_Laws_isWorkedOut_110 : decode m_Laws_isWorkedOut.2.1 110 = .ok (.iconst 1, 1) := by decide +kernel
theorem d_Laws_isWorkedOut_111 : decode m_Laws_isWorkedOut.2.1 111 = .ok (.if_icmp .le 46, 3) := by decide +kernel
theorem d_Laws_isWorkedOut_114 : decode m_Laws_isWorkedOut.2.1 114 = .ok (.aload_n 0, 1) := by decide +kernel
theorem d_Laws_isWorkedOut_115 : decode m_Laws_isWorkedOut.2.1 115 = .ok (.aload 4, 2) := by decide +kernel
theorem d_Laws_isWorkedOut_117 : decode m_Laws_isWorkedOut.2.1 117 = .ok (.aload_n 0, 1) := by decide +kernel
theorem d_Laws_isWorkedOut_118 : decode m_Laws_isWorkedOut.2.1 118 = .ok (.getfield 31, 3) := by decide +kernel
theorem d_Laws_isWorkedOut_121 : decode m_Laws_isWorkedOut.2.1 121 = .ok (.iload_n 2, 1) := by decide +kernel
theorem d_Laws_isWorkedOut_122 : decode m_Laws_isWorkedOut.2.1 122 = .ok (.iconst 2, 1) := by decide +kernel
theorem d_Laws_isWorkedOut_123 : decode m_Laws_isWorkedOut.2.1 123 = .ok (.isub, 1) := by decide +kernel
theorem d_Laws_isWorkedOut_124 : decode m_Laws_isWorkedOut.2.1 124 = .ok (.laload, 1) := by decide +kernel
theorem d_Laws_isWorkedOut_125 : decode m_Laws_isWorkedOut.2.1 125 = .ok (.aload_n 0, 1) := by decide +kernel
theorem d_Laws_isWorkedOut_126 : decode m_Laws_isWorkedOut.2.1 126 = .ok (.getfield 31, 3) := by decide +kernel
theorem d_Laws_isWorkedOut_129 : decode m_Laws_isWorkedOut.2.1 129 = .ok (.iload_n 2, 1) := by decide +kernel
theorem d_Laws_isWorkedOut_130 : decode m_Laws_isWorkedOut.2.1 130 = .ok (.iconst 1, 1) := by decide +kernel
theorem d_Laws_isWorkedOut_131 : decode m_Laws_isWorkedOut.2.1 131 = .ok (.isub, 1) := by decide +kernel
theorem d_Laws_isWorkedOut_132 : decode m_Laws_isWorkedOut.2.1 132 = .ok (.laload, 1) := by decide +kernel
theorem d_Laws_isWorkedOut_133 : decode m_Laws_isWorkedOut.2.1 133 = .ok (.invokevirtual 104, 3) := by decide +kernel
theorem d_Laws_isWorkedOut_136 : decode m_Laws_isWorkedOut.2.1 136 = .ok (.ifCond .eq 21, 3) := by decide +kernel
theorem d_Laws_isWorkedOut_139 : decode m_Laws_isWorkedOut.2.1 139 = .ok (.iinc 2 (-1), 3) := by decide +kernel
theorem d_Laws_isWorkedOut_142 : decode m_Laws_isWorkedOut.2.1 142 = .ok (.aload_n 0, 1) := by decide +kernel
theorem d_Laws_isWorkedOut_143 : decode m_Laws_isWorkedOut.2.1 143 = .ok (.getfield 31, 3) := by decide +kernel
theorem d_Laws_isWorkedOut_146 : decode m_Laws_isWorkedOut.2.1 146 = .ok (.iload_n 2, 1) := by decide +kernel
theorem d_Laws_isWorkedOut_147 : decode m_Laws_isWorkedOut.2.1 147 = .ok (.iconst 1, 1) := by decide +kernel
theorem d_Laws_isWorkedOut_148 : decode m_Laws_isWorkedOut.2.1 148 = .ok (.isub, 1) := by decide +kernel
theorem d_Laws_isWorkedOut_149 : decode m_Laws_isWorkedOut.2.1 149 = .ok (.aload_n 0, 1) := by decide +kernel
theorem d_Laws_isWorkedOut_150 : decode m_Laws_isWorkedOut.2.1 150 = .ok (.getfield 35, 3) := by decide +kernel
theorem d_Laws_isWorkedOut_153 : decode m_Laws_isWorkedOut.2.1 153 = .ok (.lastore, 1) := by decide +kernel
theorem d_Laws_isWorkedOut_154 : decode m_Laws_isWorkedOut.2.1 154 = .ok (.goto 5, 3) := by decide +kernel
theorem d_Laws_isWorkedOut_157 : decode m_Laws_isWorkedOut.2.1 157 = .ok (.iconst 0, 1) := by decide +kernel
theorem d_Laws_isWorkedOut_158 : decode m_Laws_isWorkedOut.2.1 158 = .ok (.ireturn, 1) := by decide +kernel
theorem d_Laws_isWorkedOut_159 : decode m_Laws_isWorkedOut.2.1 159 = .ok (.iinc 3 1, 3) := by decide +kernel
theorem d_Laws_isWorkedOut_162 : decode m_Laws_isWorkedOut.2.1 162 = .ok (.goto (-153), 3) := by decide +kernel
theorem d_Laws_isWorkedOut_165 : decode m_Laws_isWorkedOut.2.1 165 = .ok (.aload_n 0, 1) := by decide +kernel
theorem d_Laws_isWorkedOut_166 : decode m_Laws_isWorkedOut.2.1 166 = .ok (.aload_n 0, 1) := by decide +kernel
theorem d_Laws_isWorkedOut_167 : decode m_Laws_isWorkedOut.2.1 167 = .ok (.getfield 31, 3) := by decide +kernel
theorem d_Laws_isWorkedOut_170 : decode m_Laws_isWorkedOut.2.1 170 = .ok (.iconst 0, 1) := by decide +kernel
theorem d_Laws_isWorkedOut_171 : decode m_Laws_isWorkedOut.2.1 171 = .ok (.laload, 1) := by decide +kernel
theorem d_Laws_isWorkedOut_172 : decode m_Laws_isWorkedOut.2.1 172 = .ok (.putfield 35, 3) := by decide +kernel
theorem d_Laws_isWorkedOut_175 : decode m_Laws_isWorkedOut.2.1 175 = .ok (.iload_n 2, 1) := by decide +kernel
theorem d_Laws_isWorkedOut_176 : decode m_Laws_isWorkedOut.2.1 176 = .ok (.iconst 1, 1) := by decide +kernel
theorem d_Laws_isWorkedOut_177 : decode m_Laws_isWorkedOut.2.1 177 = .ok (.if_icmp .ne 7, 3) := by decide +kernel
theorem d_Laws_isWorkedOut_180 : decode m_Laws_isWorkedOut.2.1 180 = .ok (.iconst 1, 1) := by decide +kernel
theorem d_Laws_isWorkedOut_181 : decode m_Laws_isWorkedOut.2.1 181 = .ok (.goto 4, 3) := by decide +kernel
theorem d_Laws_isWorkedOut_184 : decode m_Laws_isWorkedOut.2.1 184 = .ok (.iconst 0, 1) := by decide +kernel
theorem d_Laws_isWorkedOut_185 : decode m_Laws_isWorkedOut.2.1 185 = .ok (.ireturn, 1) := by decide +kernel
theorem d_Laws_valueOf_0 : decode m_Laws_valueOf.2.1 0 = .ok (.getstatic 108, 3) := by decide +kernel
theorem d_Laws_valueOf_3 : decode m_Laws_valueOf.2.1 3 = .ok (.aload_n 1, 1) := by decide +kernel
theorem d_Laws_valueOf_4 : decode m_Laws_valueOf.2.1 4 = .ok (.invokevirtual 113, 3) := by decide +kernel
theorem d_Laws_valueOf_7 : decode m_Laws_valueOf.2.1 7 = .ok (.iaload, 1) := by decide +kernel
theorem d_Laws_valueOf_8 : decode m_Laws_valueOf.2.1 8 = .ok (.tableswitch 79 5 11 #[44, 49, 54, 59, 64, 69, 74], 44) := by decide +kernel
theorem d_Laws_valueOf_52 : decode m_Laws_valueOf.2.1 52 = .ok (.aload_n 0, 1) := by decide +kernel
theorem d_Laws_valueOf_53 : decode m_Laws_valueOf.2.1 53 = .ok (.getfield 39, 3) := by decide +kernel
theorem d_Laws_valueOf_56 : decode m_Laws_valueOf.2.1 56 = .ok (.ireturn, 1) := by decide +kernel
theorem d_Laws_valueOf_57 : decode m_Laws_valueOf.2.1 57 = .ok (.aload_n 0, 1) := by decide +kernel
theorem d_Laws_valueOf_58 : decode m_Laws_valueOf.2.1 58 = .ok (.getfield 48, 3) := by decide +kernel
theorem d_Laws_valueOf_61 : decode m_Laws_valueOf.2.1 61 = .ok (.ireturn, 1) := by decide +kernel
theorem d_Laws_valueOf_62 : decode m_Laws_valueOf.2.1 62 = .ok (.aload_n 0, 1) := by decide +kernel
theorem d_Laws_valueOf_63 : decode m_Laws_valueOf.2.1 63 = .ok (.getfield 45, 3) := by decide +kernel
theorem d_Laws_valueOf_66 : decode m_Laws_valueOf.2.1 66 = .ok (.ireturn, 1) := by decide +kernel
theorem d_Laws_valueOf_67 : decode m_Laws_valueOf.2.1 67 = .ok (.aload_n 0, 1) := by decide +kernel
theorem d_Laws_valueOf_68 : decode m_Laws_valueOf.2.1 68 = .ok (.getfield 42, 3) := by decide +kernel
theorem d_Laws_valueOf_71 : decode m_Laws_valueOf.2.1 71 = .ok (.ireturn, 1) := by decide +kernel
theorem d_Laws_valueOf_72 : decode m_Laws_valueOf.2.1 72 = .ok (.aload_n 0, 1) := by decide +kernel
theorem d_Laws_valueOf_73 : decode m_Laws_valueOf.2.1 73 = .ok (.getfield 51, 3) := by decide +kernel
theorem d_Laws_valueOf_76 : decode m_Laws_valueOf.2.1 76 = .ok (.ireturn, 1) := by decide +kernel
theorem d_Laws_valueOf_77 : decode m_Laws_valueOf.2.1 77 = .ok (.aload_n 0, 1) := by decide +kernel
theorem d_Laws_valueOf_78 : decode m_Laws_valueOf.2.1 78 = .ok (.getfield 54, 3) := by decide +kernel
theorem d_Laws_valueOf_81 : decode m_Laws_valueOf.2.1 81 = .ok (.ireturn, 1) := by decide +kernel
theorem d_Laws_valueOf_82 : decode m_Laws_valueOf.2.1 82 = .ok (.aload_n 0, 1) := by decide +kernel
theorem d_Laws_valueOf_83 : decode m_Laws_valueOf.2.1 83 = .ok (.getfield 57, 3) := by decide +kernel
theorem d_Laws_valueOf_86 : decode m_Laws_valueOf.2.1 86 = .ok (.ireturn, 1) := by decide +kernel
theorem d_Laws_valueOf_87 : decode m_Laws_valueOf.2.1 87 = .ok (.iload_n 2, 1) := by decide +kernel
theorem d_Laws_valueOf_88 : decode m_Laws_valueOf.2.1 88 = .ok (.ireturn, 1) := by decide +kernel
theorem d_Laws_isJoined_0 : decode m_Laws_isJoined.2.1 0 = .ok (.getstatic 108, 3) := by decide +kernel
theorem d_Laws_isJoined_3 : decode m_Laws_isJoined.2.1 3 = .ok (.aload_n 1, 1) := by decide +kernel
theorem d_Laws_isJoined_4 : decode m_Laws_isJoined.2.1 4 = .ok (.invokevirtual 113, 3) := by decide +kernel
theorem d_Laws_isJoined_7 : decode m_Laws_isJoined.2.1 7 = .ok (.iaload, 1) := by decide +kernel
theorem d_Laws_isJoined_8 : decode m_Laws_isJoined.2.1 8 = .ok (.tableswitch 317 12 23 #[64, 88, 112, 130, 148, 166, 184, 202, 220, 231, 242, 297], 64) := by decide +kernel
theorem d_Laws_isJoined_72 : decode m_Laws_isJoined.2.1 72 = .ok (.aload_n 0, 1) := by decide +kernel
theorem d_Laws_isJoined_73 : decode m_Laws_isJoined.2.1 73 = .ok (.lload_n 2, 1) := by decide +kernel
theorem d_Laws_isJoined_74 : decode m_Laws_isJoined.2.1 74 = .ok (.lconst 0, 1) := by decide +kernel
theorem d_Laws_isJoined_75 : decode m_Laws_isJoined.2.1 75 = .ok (.lcmp, 1) := by decide +kernel
theorem d_Laws_isJoined_76 : decode m_Laws_isJoined.2.1 76 = .ok (.ifCond .ne 10, 3) := by decide +kernel
theorem d_Laws_isJoined_79 : decode m_Laws_isJoined.2.1 79 = .ok (.lload 4, 2) := by decide +kernel
theorem d_Laws_isJoined_81 : decode m_Laws_isJoined.2.1 81 = .ok (.lconst 0, 1) := by decide +kernel
theorem d_Laws_isJoined_82 : decode m_Laws_isJoined.2.1 82 = .ok (.lcmp, 1) := by decide +kernel
theorem d_Laws_isJoined_83 : decode m_Laws_isJoined.2.1 83 = .ok (.ifCond .eq 7, 3) := by decide +kernel
theorem d_Laws_isJoined_86 : decode m_Laws_isJoined.2.1 86 = .ok (.lconst 1, 1) := by decide +kernel
theorem d_Laws_isJoined_87 : decode m_Laws_isJoined.2.1 87 = .ok (.goto 4, 3) := by decide +kernel
theorem d_Laws_isJoined_90 : decode m_Laws_isJoined.2.1 90 = .ok (.lconst 0, 1) := by decide +kernel
theorem d_Laws_isJoined_91 : decode m_Laws_isJoined.2.1 91 = .ok (.putfield 35, 3) := by decide +kernel
theorem d_Laws_isJoined_94 : decode m_Laws_isJoined.2.1 94 = .ok (.iconst 1, 1) := by decide +kernel
theorem d_Laws_isJoined_95 : decode m_Laws_isJoined.2.1 95 = .ok (.ireturn, 1) := by decide +kernel
theorem d_Laws_isJoined_96 : decode m_Laws_isJoined.2.1 96 = .ok (.aload_n 0, 1) := by decide +kernel
theorem d_Laws_isJoined_97 : decode m_Laws_isJoined.2.1 97 = .ok (.lload_n 2, 1) := by decide +kernel
theorem d_Laws_isJoined_98 : decode m_Laws_isJoined.2.1 98 = .ok (.lconst 0, 1) := by decide +kernel
theorem d_Laws_isJoined_99 : decode m_Laws_isJoined.2.1 99 = .ok (.lcmp, 1) := by decide +kernel
theorem d_Laws_isJoined_100 : decode m_Laws_isJoined.2.1 100 = .ok (.ifCond .eq 14, 3) := by decide +kernel
theorem d_Laws_isJoined_103 : decode m_Laws_isJoined.2.1 103 = .ok (.lload 4, 2) := by decide +kernel
theorem d_Laws_isJoined_105 : decode m_Laws_isJoined.2.1 105 = .ok (.lconst 0, 1) := by decide +kernel
theorem d_Laws_isJoined_106 : decode m_Laws_isJoined.2.1 106 = .ok (.lcmp, 1) := by decide +kernel
theorem d_Laws_isJoined_107 : decode m_Laws_isJoined.2.1 107 = .ok (.ifCond .eq 7, 3) := by decide +kernel
theorem d_Laws_isJoined_110 : decode m_Laws_isJoined.2.1 110 = .ok (.lconst 1, 1) := by decide +kernel
theorem d_Laws_isJoined_111 : decode m_Laws_isJoined.2.1 111 = .ok (.goto 4, 3) := by decide +kernel
theorem d_Laws_isJoined_114 : decode m_Laws_isJoined.2.1 114 = .ok (.lconst 0, 1) := by decide +kernel
theorem d_Laws_isJoined_115 : decode m_Laws_isJoined.2.1 115 = .ok (.putfield 35, 3) := by decide +kernel
theorem d_Laws_isJoined_118 : decode m_Laws_isJoined.2.1 118 = .ok (.iconst 1, 1) := by decide +kernel
theorem d_Laws_isJoined_119 : decode m_Laws_isJoined.2.1 119 = .ok (.ireturn, 1) := by decide +kernel
theorem d_Laws_isJoined_120 : decode m_Laws_isJoined.2.1 120 = .ok (.aload_n 0, 1) := by decide +kernel
theorem d_Laws_isJoined_121 : decode m_Laws_isJoined.2.1 121 = .ok (.lload_n 2, 1) := by decide +kernel
theorem d_Laws_isJoined_122 : decode m_Laws_isJoined.2.1 122 = .ok (.lload 4, 2) := by decide +kernel
theorem d_Laws_isJoined_124 : decode m_Laws_isJoined.2.1 124 = .ok (.lcmp, 1) := by decide +kernel
theorem d_Laws_isJoined_125 : decode m_Laws_isJoined.2.1 125 = .ok (.ifCond .ge 7, 3) := by decide +kernel
theorem d_Laws_isJoined_128 : decode m_Laws_isJoined.2.1 128 = .ok (.lconst 1, 1) := by decide +kernel
theorem d_Laws_isJoined_129 : decode m_Laws_isJoined.2.1 129 = .ok (.goto 4, 3) := by decide +kernel
theorem d_Laws_isJoined_132 : decode m_Laws_isJoined.2.1 132 = .ok (.lconst 0, 1) := by decide +kernel
theorem d_Laws_isJoined_133 : decode m_Laws_isJoined.2.1 133 = .ok (.putfield 35, 3) := by decide +kernel
theorem d_Laws_isJoined_136 : decode m_Laws_isJoined.2.1 136 = .ok (.iconst 1, 1) := by decide +kernel
theorem d_Laws_isJoined_137 : decode m_Laws_isJoined.2.1 137 = .ok (.ireturn, 1) := by decide +kernel
theorem d_Laws_isJoined_138 : decode m_Laws_isJoined.2.1 138 = .ok (.aload_n 0, 1) := by decide +kernel
theorem d_Laws_isJoined_139 : decode m_Laws_isJoined.2.1 139 = .ok (.lload_n 2, 1) := by decide +kernel
theorem d_Laws_isJoined_140 : decode m_Laws_isJoined.2.1 140 = .ok (.lload 4, 2) := by decide +kernel
theorem d_Laws_isJoined_142 : decode m_Laws_isJoined.2.1 142 = .ok (.lcmp, 1) := by decide +kernel
theorem d_Laws_isJoined_143 : decode m_Laws_isJoined.2.1 143 = .ok (.ifCond .gt 7, 3) := by decide +kernel
theorem d_Laws_isJoined_146 : decode m_Laws_isJoined.2.1 146 = .ok (.lconst 1, 1) := by decide +kernel
theorem d_Laws_isJoined_147 : decode m_Laws_isJoined.2.1 147 = .ok (.goto 4, 3) := by decide +kernel
theorem d_Laws_isJoined_150 : decode m_Laws_isJoined.2.1 150 = .ok (.lconst 0, 1) := by decide +kernel
theorem d_Laws_isJoined_151 : decode m_Laws_isJoined.2.1 151 = .ok (.putfield 35, 3) := by decide +kernel
theorem d_Laws_isJoined_154 : decode m_Laws_isJoined.2.1 154 = .ok (.iconst 1, 1) := by decide +kernel
theorem d_Laws_isJoined_155 : decode m_Laws_isJoined.2.1 155 = .ok (.ireturn, 1) := by decide +kernel
theorem d_Laws_isJoined_156 : decode m_Laws_isJoined.2.1 156 = .ok (.aload_n 0, 1) := by decide +kernel
theorem d_Laws_isJoined_157 : decode m_Laws_isJoined.2.1 157 = .ok (.lload_n 2, 1) := by decide +kernel
theorem d_Laws_isJoined_158 : decode m_Laws_isJoined.2.1 158 = .ok (.lload 4, 2) := by decide +kernel
theorem d_Laws_isJoined_160 : decode m_Laws_isJoined.2.1 160 = .ok (.lcmp, 1) := by decide +kernel
theorem d_Laws_isJoined_161 : decode m_Laws_isJoined.2.1 161 = .ok (.ifCond .ne 7, 3) := by decide +kernel
theorem d_Laws_isJoined_164 : decode m_Laws_isJoined.2.1 164 = .ok (.lconst 1, 1) := by decide +kernel
theorem d_Laws_isJoined_165 : decode m_Laws_isJoined.2.1 165 = .ok (.goto 4, 3) := by decide +kernel
theorem d_Laws_isJoined_168 : decode m_Laws_isJoined.2.1 168 = .ok (.lconst 0, 1) := by decide +kernel
theorem d_Laws_isJoined_169 : decode m_Laws_isJoined.2.1 169 = .ok (.putfield 35, 3) := by decide +kernel
theorem d_Laws_isJoined_172 : decode m_Laws_isJoined.2.1 172 = .ok (.iconst 1, 1) := by decide +kernel
theorem d_Laws_isJoined_173 : decode m_Laws_isJoined.2.1 173 = .ok (.ireturn, 1) := by decide +kernel
theorem d_Laws_isJoined_174 : decode m_Laws_isJoined.2.1 174 = .ok (.aload_n 0, 1) := by decide +kernel
theorem d_Laws_isJoined_175 : decode m_Laws_isJoined.2.1 175 = .ok (.lload_n 2, 1) := by decide +kernel
theorem d_Laws_isJoined_176 : decode m_Laws_isJoined.2.1 176 = .ok (.lload 4, 2) := by decide +kernel
theorem d_Laws_isJoined_178 : decode m_Laws_isJoined.2.1 178 = .ok (.lcmp, 1) := by decide +kernel
theorem d_Laws_isJoined_179 : decode m_Laws_isJoined.2.1 179 = .ok (.ifCond .eq 7, 3) := by decide +kernel
theorem d_Laws_isJoined_182 : decode m_Laws_isJoined.2.1 182 = .ok (.lconst 1, 1) := by decide +kernel
theorem d_Laws_isJoined_183 : decode m_Laws_isJoined.2.1 183 = .ok (.goto 4, 3) := by decide +kernel
theorem d_Laws_isJoined_186 : decode m_Laws_isJoined.2.1 186 = .ok (.lconst 0, 1) := by decide +kernel
theorem d_Laws_isJoined_187 : decode m_Laws_isJoined.2.1 187 = .ok (.putfield 35, 3) := by decide +kernel
theorem d_Laws_isJoined_190 : decode m_Laws_isJoined.2.1 190 = .ok (.iconst 1, 1) := by decide +kernel
theorem d_Laws_isJoined_191 : decode m_Laws_isJoined.2.1 191 = .ok (.ireturn, 1) := by decide +kernel
theorem d_Laws_isJoined_192 : decode m_Laws_isJoined.2.1 192 = .ok (.aload_n 0, 1) := by decide +kernel
theorem d_Laws_isJoined_193 : decode m_Laws_isJoined.2.1 193 = .ok (.lload_n 2, 1) := by decide +kernel
theorem d_Laws_isJoined_194 : decode m_Laws_isJoined.2.1 194 = .ok (.lload 4, 2) := by decide +kernel
theorem d_Laws_isJoined_196 : decode m_Laws_isJoined.2.1 196 = .ok (.lcmp, 1) := by decide +kernel
theorem d_Laws_isJoined_197 : decode m_Laws_isJoined.2.1 197 = .ok (.ifCond .lt 7, 3) := by decide +kernel
theorem d_Laws_isJoined_200 : decode m_Laws_isJoined.2.1 200 = .ok (.lconst 1, 1) := by decide +kernel
theorem d_Laws_isJoined_201 : decode m_Laws_isJoined.2.1 201 = .ok (.goto 4, 3) := by decide +kernel
theorem d_Laws_isJoined_204 : decode m_Laws_isJoined.2.1 204 = .ok (.lconst 0, 1) := by decide +kernel
theorem d_Laws_isJoined_205 : decode m_Laws_isJoined.2.1 205 = .ok (.putfield 35, 3) := by decide +kernel
theorem d_Laws_isJoined_208 : decode m_Laws_isJoined.2.1 208 = .ok (.iconst 1, 1) := by decide +kernel
theorem d_Laws_isJoined_209 : decode m_Laws_isJoined.2.1 209 = .ok (.ireturn, 1) := by decide +kernel
theorem d_Laws_isJoined_210 : decode m_Laws_isJoined.2.1 210 = .ok (.aload_n 0, 1) := by decide +kernel
theorem d_Laws_isJoined_211 : decode m_Laws_isJoined.2.1 211 = .ok (.lload_n 2, 1) := by decide +kernel
theorem d_Laws_isJoined_212 : decode m_Laws_isJoined.2.1 212 = .ok (.lload 4, 2) := by decide +kernel
theorem d_Laws_isJoined_214 : decode m_Laws_isJoined.2.1 214 = .ok (.lcmp, 1) := by decide +kernel
theorem d_Laws_isJoined_215 : decode m_Laws_isJoined.2.1 215 = .ok (.ifCond .le 7, 3) := by decide +kernel
theorem d_Laws_isJoined_218 : decode m_Laws_isJoined.2.1 218 = .ok (.lconst 1, 1) := by decide +kernel
theorem d_Laws_isJoined_219 : decode m_Laws_isJoined.2.1 219 = .ok (.goto 4, 3) := by decide +kernel
theorem d_Laws_isJoined_222 : decode m_Laws_isJoined.2.1 222 = .ok (.lconst 0, 1) := by decide +kernel
theorem d_Laws_isJoined_223 : decode m_Laws_isJoined.2.1 223 = .ok (.putfield 35, 3) := by decide +kernel
theorem d_Laws_isJoined_226 : decode m_Laws_isJoined.2.1 226 = .ok (.iconst 1, 1) := by decide +kernel
theorem d_Laws_isJoined_227 : decode m_Laws_isJoined.2.1 227 = .ok (.ireturn, 1) := by decide +kernel
theorem d_Laws_isJoined_228 : decode m_Laws_isJoined.2.1 228 = .ok (.aload_n 0, 1) := by decide +kernel
theorem d_Laws_isJoined_229 : decode m_Laws_isJoined.2.1 229 = .ok (.lload_n 2, 1) := by decide +kernel
theorem d_Laws_isJoined_230 : decode m_Laws_isJoined.2.1 230 = .ok (.lload 4, 2) := by decide +kernel
theorem d_Laws_isJoined_232 : decode m_Laws_isJoined.2.1 232 = .ok (.ladd, 1) := by decide +kernel
theorem d_Laws_isJoined_233 : decode m_Laws_isJoined.2.1 233 = .ok (.putfield 35, 3) := by decide +kernel
theorem d_Laws_isJoined_236 : decode m_Laws_isJoined.2.1 236 = .ok (.goto 91, 3) := by decide +kernel
theorem d_Laws_isJoined_239 : decode m_Laws_isJoined.2.1 239 = .ok (.aload_n 0, 1) := by decide +kernel
theorem d_Laws_isJoined_240 : decode m_Laws_isJoined.2.1 240 = .ok (.lload_n 2, 1) := by decide +kernel
theorem d_Laws_isJoined_241 : decode m_Laws_isJoined.2.1 241 = .ok (.lload 4, 2) := by decide +kernel
theorem d_Laws_isJoined_243 : decode m_Laws_isJoined.2.1 243 = .ok (.lsub, 1) := by decide +kernel
theorem d_Laws_isJoined_244 : decode m_Laws_isJoined.2.1 244 = .ok (.putfield 35, 3) := by decide +kernel
theorem d_Laws_isJoined_247 : decode m_Laws_isJoined.2.1 247 = .ok (.goto 80, 3) := by decide +kernel
theorem d_Laws_isJoined_250 : decode m_Laws_isJoined.2.1 250 = .ok (.lload 4, 2) := by decide +kernel
theorem d_Laws_isJoined_252 : decode m_Laws_isJoined.2.1 252 = .ok (.lconst 0, 1) := by decide +kernel
theorem d_Laws_isJoined_253 : decode m_Laws_isJoined.2.1 253 = .ok (.lcmp, 1) := by decide +kernel
theorem d_Laws_isJoined_254 : decode m_Laws_isJoined.2.1 254 = .ok (.ifCond .eq 40, 3) := by decide +kernel
theorem d_Laws_isJoined_257 : decode m_Laws_isJoined.2.1 257 = .ok (.lload_n 2, 1) := by decide +kernel
theorem d_Laws_isJoined_258 : decode m_Laws_isJoined.2.1 258 = .ok (.lconst 0, 1) := by decide +kernel
theorem d_Laws_isJoined_259 : decode m_Laws_isJoined.2.1 259 = .ok (.lcmp, 1) := by decide +kernel
theorem d_Laws_isJoined_260 : decode m_Laws_isJoined.2.1 260 = .ok (.ifCond .ge 8, 3) := by decide +kernel
theorem d_Laws_isJoined_263 : decode m_Laws_isJoined.2.1 263 = .ok (.lload_n 2, 1) := by decide +kernel
theorem d_Laws_isJoined_264 : decode m_Laws_isJoined.2.1 264 = .ok (.lneg, 1) := by decide +kernel
theorem d_Laws_isJoined_265 : decode m_Laws_isJoined.2.1 265 = .ok (.goto 4, 3) := by decide +kernel
theorem d_Laws_isJoined_268 : decode m_Laws_isJoined.2.1 268 = .ok (.lload_n 2, 1) := by decide +kernel
theorem d_Laws_isJoined_269 : decode m_Laws_isJoined.2.1 269 = .ok (.ldc2_w 117, 3) := by decide +kernel
theorem d_Laws_isJoined_272 : decode m_Laws_isJoined.2.1 272 = .ok (.lload 4, 2) := by decide +kernel
theorem d_Laws_isJoined_274 : decode m_Laws_isJoined.2.1 274 = .ok (.lconst 0, 1) := by decide +kernel
theorem d_Laws_isJoined_275 : decode m_Laws_isJoined.2.1 275 = .ok (.lcmp, 1) := by decide +kernel
theorem d_Laws_isJoined_276 : decode m_Laws_isJoined.2.1 276 = .ok (.ifCond .ge 9, 3) := by decide +kernel
theorem d_Laws_isJoined_279 : decode m_Laws_isJoined.2.1 279 = .ok (.lload 4, 2) := by decide +kernel
theorem d_Laws_isJoined_281 : decode m_Laws_isJoined.2.1 281 = .ok (.lneg, 1) := by decide +kernel
theorem d_Laws_isJoined_282 : decode m_Laws_isJoined.2.1 282 = .ok (.goto 5, 3) := by decide +kernel
theorem d_Laws_isJoined_285 : decode m_Laws_isJoined.2.1 285 = .ok (.lload 4, 2) := by decide +kernel
theorem d_Laws_isJoined_287 : decode m_Laws_isJoined.2.1 287 = .ok (.ldiv, 1) := by decide +kernel
theorem d_Laws_isJoined_288 : decode m_Laws_isJoined.2.1 288 = .ok (.lcmp, 1) := by decide +kernel
theorem d_Laws_isJoined_289 : decode m_Laws_isJoined.2.1 289 = .ok (.ifCond .le 5, 3) := by decide +kernel
theorem d_Laws_isJoined_292 : decode m_Laws_isJoined.2.1 292 = .ok (.iconst 0, 1) := by decide +kernel
theorem d_Laws_isJoined_293 : decode m_Laws_isJoined.2.1 293 = .ok (.ireturn, 1) := by decide +kernel
theorem d_Laws_isJoined_294 : decode m_Laws_isJoined.2.1 294 = .ok (.aload_n 0, 1) := by decide +kernel
theorem d_Laws_isJoined_295 : decode m_Laws_isJoined.2.1 295 = .ok (.lload_n 2, 1) := by decide +kernel
theorem d_Laws_isJoined_296 : decode m_Laws_isJoined.2.1 296 = .ok (.lload 4, 2) := by decide +kernel
theorem d_Laws_isJoined_298 : decode m_Laws_isJoined.2.1 298 = .ok (.lmul, 1) := by decide +kernel
theorem d_Laws_isJoined_299 : decode m_Laws_isJoined.2.1 299 = .ok (.putfield 35, 3) := by decide +kernel
theorem d_Laws_isJoined_302 : decode m_Laws_isJoined.2.1 302 = .ok (.goto 25, 3) := by decide +kernel
theorem d_Laws_isJoined_305 : decode m_Laws_isJoined.2.1 305 = .ok (.lload 4, 2) := by decide +kernel
theorem d_Laws_isJoined_307 : decode m_Laws_isJoined.2.1 307 = .ok (.lconst 0, 1) := by decide +kernel
theorem d_Laws_isJoined_308 : decode m_Laws_isJoined.2.1 308 = .ok (.lcmp, 1) := by decide +kernel
theorem d_Laws_isJoined_309 : decode m_Laws_isJoined.2.1 309 = .ok (.ifCond .ne 5, 3) := by decide +kernel
theorem d_Laws_isJoined_312 : decode m_Laws_isJoined.2.1 312 = .ok (.iconst 0, 1) := by decide +kernel
theorem d_Laws_isJoined_313 : decode m_Laws_isJoined.2.1 313 = .ok (.ireturn, 1) := by decide +kernel
theorem d_Laws_isJoined_314 : decode m_Laws_isJoined.2.1 314 = .ok (.aload_n 0, 1) := by decide +kernel
theorem d_Laws_isJoined_315 : decode m_Laws_isJoined.2.1 315 = .ok (.lload_n 2, 1) := by decide +kernel
theorem d_Laws_isJoined_316 : decode m_Laws_isJoined.2.1 316 = .ok (.lload 4, 2) := by decide +kernel
theorem d_Laws_isJoined_318 : decode m_Laws_isJoined.2.1 318 = .ok (.ldiv, 1) := by decide +kernel
theorem d_Laws_isJoined_319 : decode m_Laws_isJoined.2.1 319 = .ok (.putfield 35, 3) := by decide +kernel
theorem d_Laws_isJoined_322 : decode m_Laws_isJoined.2.1 322 = .ok (.goto 5, 3) := by decide +kernel
theorem d_Laws_isJoined_325 : decode m_Laws_isJoined.2.1 325 = .ok (.iconst 0, 1) := by decide +kernel
theorem d_Laws_isJoined_326 : decode m_Laws_isJoined.2.1 326 = .ok (.ireturn, 1) := by decide +kernel
theorem d_Laws_isJoined_327 : decode m_Laws_isJoined.2.1 327 = .ok (.aload_n 0, 1) := by decide +kernel
theorem d_Laws_isJoined_328 : decode m_Laws_isJoined.2.1 328 = .ok (.getfield 35, 3) := by decide +kernel
theorem d_Laws_isJoined_331 : decode m_Laws_isJoined.2.1 331 = .ok (.ldc2_w 117, 3) := by decide +kernel
theorem d_Laws_isJoined_334 : decode m_Laws_isJoined.2.1 334 = .ok (.lcmp, 1) := by decide +kernel
theorem d_Laws_isJoined_335 : decode m_Laws_isJoined.2.1 335 = .ok (.ifCond .gt 18, 3) := by decide +kernel
theorem d_Laws_isJoined_338 : decode m_Laws_isJoined.2.1 338 = .ok (.aload_n 0, 1) := by decide +kernel
theorem d_Laws_isJoined_339 : decode m_Laws_isJoined.2.1 339 = .ok (.getfield 35, 3) := by decide +kernel
theorem d_Laws_isJoined_342 : decode m_Laws_isJoined.2.1 342 = .ok (.ldc2_w 119, 3) := by decide +kernel
theorem d_Laws_isJoined_345 : decode m_Laws_isJoined.2.1 345 = .ok (.lcmp, 1) := by decide +kernel
theorem d_Laws_isJoined_346 : decode m_Laws_isJoined.2.1 346 = .ok (.ifCond .lt 7, 3) := by decide +kernel
theorem d_Laws_isJoined_349 : decode m_Laws_isJoined.2.1 349 = .ok (.iconst 1, 1) := by decide +kernel
theorem d_Laws_isJoined_350 : decode m_Laws_isJoined.2.1 350 = .ok (.goto 4, 3) := by decide +kernel
theorem d_Laws_isJoined_353 : decode m_Laws_isJoined.2.1 353 = .ok (.iconst 0, 1) := by decide +kernel
theorem d_Laws_isJoined_354 : decode m_Laws_isJoined.2.1 354 = .ok (.ireturn, 1) := by decide +kernel
theorem d_Laws_within_0 : decode m_Laws_within.2.1 0 = .ok (.lconst 0, 1) := by decide +kernel
theorem d_Laws_within_1 : decode m_Laws_within.2.1 1 = .ok (.aload_n 0, 1) := by decide +kernel
theorem d_Laws_within_2 : decode m_Laws_within.2.1 2 = .ok (.getfield 35, 3) := by decide +kernel
theorem d_Laws_within_5 : decode m_Laws_within.2.1 5 = .ok (.iload_n 1, 1) := by decide +kernel
theorem d_Laws_within_6 : decode m_Laws_within.2.1 6 = .ok (.i2l, 1) := by decide +kernel
theorem d_Laws_within_7 : decode m_Laws_within.2.1 7 = .ok (.invokestatic 86, 3) := by decide +kernel
theorem d_Laws_within_10 : decode m_Laws_within.2.1 10 = .ok (.invokestatic 90, 3) := by decide +kernel
theorem d_Laws_within_13 : decode m_Laws_within.2.1 13 = .ok (.l2i, 1) := by decide +kernel
theorem d_Laws_within_14 : decode m_Laws_within.2.1 14 = .ok (.ireturn, 1) := by decide +kernel
theorem d_Fs_stays_0 : decode m_Fs_stays.2.1 0 = .ok (.aload_n 0, 1) := by decide +kernel
theorem d_Fs_stays_1 : decode m_Fs_stays.2.1 1 = .ok (.getfield 12, 3) := by decide +kernel
theorem d_Fs_stays_4 : decode m_Fs_stays.2.1 4 = .ok (.iload_n 1, 1) := by decide +kernel
theorem d_Fs_stays_5 : decode m_Fs_stays.2.1 5 = .ok (.invokevirtual 188, 3) := by decide +kernel
theorem d_Fs_stays_8 : decode m_Fs_stays.2.1 8 = .ok (.ifCond .eq 29, 3) := by decide +kernel
theorem d_Fs_stays_11 : decode m_Fs_stays.2.1 11 = .ok (.aload_n 0, 1) := by decide +kernel
theorem d_Fs_stays_12 : decode m_Fs_stays.2.1 12 = .ok (.getfield 12, 3) := by decide +kernel
theorem d_Fs_stays_15 : decode m_Fs_stays.2.1 15 = .ok (.iload_n 2, 1) := by decide +kernel
theorem d_Fs_stays_16 : decode m_Fs_stays.2.1 16 = .ok (.invokevirtual 150, 3) := by decide +kernel
theorem d_Fs_stays_19 : decode m_Fs_stays.2.1 19 = .ok (.ifCond .eq 18, 3) := by decide +kernel
theorem d_Fs_stays_22 : decode m_Fs_stays.2.1 22 = .ok (.iload_n 3, 1) := by decide +kernel
theorem d_Fs_stays_23 : decode m_Fs_stays.2.1 23 = .ok (.invokestatic 204, 3) := by decide +kernel
theorem d_Fs_stays_26 : decode m_Fs_stays.2.1 26 = .ok (.ifCond .eq 11, 3) := by decide +kernel
theorem d_Fs_stays_29 : decode m_Fs_stays.2.1 29 = .ok (.iload 4, 2) := by decide +kernel
theorem d_Fs_stays_31 : decode m_Fs_stays.2.1 31 = .ok (.invokestatic 207, 3) := by decide +kernel
theorem d_Fs_stays_34 : decode m_Fs_stays.2.1 34 = .ok (.ifCond .ne 5, 3) := by decide +kernel
theorem d_Fs_stays_37 : decode m_Fs_stays.2.1 37 = .ok (.iconst (-1), 1) := by decide +kernel
theorem d_Fs_stays_38 : decode m_Fs_stays.2.1 38 = .ok (.ireturn, 1) := by decide +kernel
theorem d_Fs_stays_39 : decode m_Fs_stays.2.1 39 = .ok (.aload_n 0, 1) := by decide +kernel
theorem d_Fs_stays_40 : decode m_Fs_stays.2.1 40 = .ok (.getfield 12, 3) := by decide +kernel
theorem d_Fs_stays_43 : decode m_Fs_stays.2.1 43 = .ok (.getfield 194, 3) := by decide +kernel
theorem d_Fs_stays_46 : decode m_Fs_stays.2.1 46 = .ok (.iload_n 1, 1) := by decide +kernel
theorem d_Fs_stays_47 : decode m_Fs_stays.2.1 47 = .ok (.iaload, 1) := by decide +kernel
theorem d_Fs_stays_48 : decode m_Fs_stays.2.1 48 = .ok (.istore 6, 2) := by decide +kernel
theorem d_Fs_stays_50 : decode m_Fs_stays.2.1 50 = .ok (.aload_n 0, 1) := by decide +kernel
theorem d_Fs_stays_51 : decode m_Fs_stays.2.1 51 = .ok (.getfield 12, 3) := by decide +kernel
theorem d_Fs_stays_54 : decode m_Fs_stays.2.1 54 = .ok (.getfield 164, 3) := by decide +kernel
theorem d_Fs_stays_57 : decode m_Fs_stays.2.1 57 = .ok (.iload_n 2, 1) := by decide +kernel
theorem d_Fs_stays_58 : decode m_Fs_stays.2.1 58 = .ok (.iaload, 1) := by decide +kernel
theorem d_Fs_stays_59 : decode m_Fs_stays.2.1 59 = .ok (.istore 7, 2) := by decide +kernel
theorem d_Fs_stays_61 : decode m_Fs_stays.2.1 61 = .ok (.iload 5, 2) := by decide +kernel
theorem d_Fs_stays_63 : decode m_Fs_stays.2.1 63 = .ok (.ifCond .ne 21, 3) := by decide +kernel
theorem d_Fs_stays_66 : decode m_Fs_stays.2.1 66 = .ok (.aload_n 0, 1) := by decide +kernel
theorem d_Fs_stays_67 : decode m_Fs_stays.2.1 67 = .ok (.getfield 12, 3) := by decide +kernel
theorem d_Fs_stays_70 : decode m_Fs_stays.2.1 70 = .ok (.getfield 210, 3) := by decide +kernel
theorem d_Fs_stays_73 : decode m_Fs_stays.2.1 73 = .ok (.iload_n 3, 1) := by decide +kernel
theorem d_Fs_stays_74 : decode m_Fs_stays.2.1 74 = .ok (.iload 4, 2) := by decide +kernel
theorem d_Fs_stays_76 : decode m_Fs_stays.2.1 76 = .ok (.iload 6, 2) := by decide +kernel
theorem d_Fs_stays_78 : decode m_Fs_stays.2.1 78 = .ok (.iload 7, 2) := by decide +kernel
theorem d_Fs_stays_80 : decode m_Fs_stays.2.1 80 = .ok (.invokevirtual 220, 3) := by decide +kernel
theorem d_Fs_stays_83 : decode m_Fs_stays.2.1 83 = .ok (.ireturn, 1) := by decide +kernel
theorem d_Fs_stays_84 : decode m_Fs_stays.2.1 84 = .ok (.iload 5, 2) := by decide +kernel
theorem d_Fs_stays_86 : decode m_Fs_stays.2.1 86 = .ok (.iconst 1, 1) := by decide +kernel
theorem d_Fs_stays_87 : decode m_Fs_stays.2.1 87 = .ok (.if_icmp .ne 30, 3) := by decide +kernel
theorem d_Fs_stays_90 : decode m_Fs_stays.2.1 90 = .ok (.aload_n 0, 1) := by decide +kernel
theorem d_Fs_stays_91 : decode m_Fs_stays.2.1 91 = .ok (.getfield 12, 3) := by decide +kernel
theorem d_Fs_stays_94 : decode m_Fs_stays.2.1 94 = .ok (.getfield 210, 3) := by decide +kernel
theorem d_Fs_stays_97 : decode m_Fs_stays.2.1 97 = .ok (.iload_n 3, 1) := by decide +kernel
theorem d_Fs_stays_98 : decode m_Fs_stays.2.1 98 = .ok (.iload 4, 2) := by decide +kernel
theorem d_Fs_stays_100 : decode m_Fs_stays.2.1 100 = .ok (.iload 6, 2) := by decide +kernel
theorem d_Fs_stays_102 : decode m_Fs_stays.2.1 102 = .ok (.iload 7, 2) := by decide +kernel
theorem d_Fs_stays_104 : decode m_Fs_stays.2.1 104 = .ok (.iconst 0, 1) := by decide +kernel
theorem d_Fs_stays_105 : decode m_Fs_stays.2.1 105 = .ok (.invokevirtual 224, 3) := by decide +kernel
theorem d_Fs_stays_108 : decode m_Fs_stays.2.1 108 = .ok (.ifCond .eq 7, 3) := by decide +kernel
theorem d_Fs_stays_111 : decode m_Fs_stays.2.1 111 = .ok (.iconst 1, 1) := by decide +kernel
theorem d_Fs_stays_112 : decode m_Fs_stays.2.1 112 = .ok (.goto 4, 3) := by decide +kernel
theorem d_Fs_stays_115 : decode m_Fs_stays.2.1 115 = .ok (.iconst 0, 1) := by decide +kernel
theorem d_Fs_stays_116 : decode m_Fs_stays.2.1 116 = .ok (.ireturn, 1) := by decide +kernel
theorem d_Fs_stays_117 : decode m_Fs_stays.2.1 117 = .ok (.iconst (-1), 1) := by decide +kernel
theorem d_Fs_stays_118 : decode m_Fs_stays.2.1 118 = .ok (.ireturn, 1) := by decide +kernel
theorem d_Laws_stayTime_0 : decode m_Laws_stayTime.2.1 0 = .ok (.aload_n 0, 1) := by decide +kernel
theorem d_Laws_stayTime_1 : decode m_Laws_stayTime.2.1 1 = .ok (.iload_n 1, 1) := by decide +kernel
theorem d_Laws_stayTime_2 : decode m_Laws_stayTime.2.1 2 = .ok (.iload_n 2, 1) := by decide +kernel
theorem d_Laws_stayTime_3 : decode m_Laws_stayTime.2.1 3 = .ok (.iload_n 3, 1) := by decide +kernel
theorem d_Laws_stayTime_4 : decode m_Laws_stayTime.2.1 4 = .ok (.iload 4, 2) := by decide +kernel
theorem d_Laws_stayTime_6 : decode m_Laws_stayTime.2.1 6 = .ok (.invokevirtual 66, 3) := by decide +kernel
theorem d_Laws_stayTime_9 : decode m_Laws_stayTime.2.1 9 = .ok (.aload_n 0, 1) := by decide +kernel
theorem d_Laws_stayTime_10 : decode m_Laws_stayTime.2.1 10 = .ok (.iconst 1, 1) := by decide +kernel
theorem d_Laws_stayTime_11 : decode m_Laws_stayTime.2.1 11 = .ok (.invokevirtual 76, 3) := by decide +kernel
theorem d_Laws_stayTime_14 : decode m_Laws_stayTime.2.1 14 = .ok (.ifCond .eq 12, 3) := by decide +kernel
theorem d_Laws_stayTime_17 : decode m_Laws_stayTime.2.1 17 = .ok (.aload_n 0, 1) := by decide +kernel
theorem d_Laws_stayTime_18 : decode m_Laws_stayTime.2.1 18 = .ok (.bipush 60, 2) := by decide +kernel
theorem d_Laws_stayTime_20 : decode m_Laws_stayTime.2.1 20 = .ok (.invokevirtual 80, 3) := by decide +kernel
theorem d_Laws_stayTime_23 : decode m_Laws_stayTime.2.1 23 = .ok (.goto 4, 3) := by decide +kernel
theorem d_Laws_stayTime_26 : decode m_Laws_stayTime.2.1 26 = .ok (.iconst 2, 1) := by decide +kernel
theorem d_Laws_stayTime_27 : decode m_Laws_stayTime.2.1 27 = .ok (.ireturn, 1) := by decide +kernel
theorem d_Laws_allows_0 : decode m_Laws_allows.2.1 0 = .ok (.aload_n 0, 1) := by decide +kernel
theorem d_Laws_allows_1 : decode m_Laws_allows.2.1 1 = .ok (.iconst 2, 1) := by decide +kernel
theorem d_Laws_allows_2 : decode m_Laws_allows.2.1 2 = .ok (.invokevirtual 83, 3) := by decide +kernel
theorem d_Laws_allows_5 : decode m_Laws_allows.2.1 5 = .ok (.ifCond .ne 5, 3) := by decide +kernel
theorem d_Laws_allows_8 : decode m_Laws_allows.2.1 8 = .ok (.iconst 1, 1) := by decide +kernel
theorem d_Laws_allows_9 : decode m_Laws_allows.2.1 9 = .ok (.ireturn, 1) := by decide +kernel
theorem d_Laws_allows_10 : decode m_Laws_allows.2.1 10 = .ok (.aload_n 0, 1) := by decide +kernel
theorem d_Laws_allows_11 : decode m_Laws_allows.2.1 11 = .ok (.iload_n 1, 1) := by decide +kernel
theorem d_Laws_allows_12 : decode m_Laws_allows.2.1 12 = .ok (.iload_n 2, 1) := by decide +kernel
theorem d_Laws_allows_13 : decode m_Laws_allows.2.1 13 = .ok (.iload_n 3, 1) := by decide +kernel
theorem d_Laws_allows_14 : decode m_Laws_allows.2.1 14 = .ok (.iload 4, 2) := by decide +kernel
theorem d_Laws_allows_16 : decode m_Laws_allows.2.1 16 = .ok (.invokevirtual 66, 3) := by decide +kernel
theorem d_Laws_allows_19 : decode m_Laws_allows.2.1 19 = .ok (.aload_n 0, 1) := by decide +kernel
theorem d_Laws_allows_20 : decode m_Laws_allows.2.1 20 = .ok (.iload 5, 2) := by decide +kernel
theorem d_Laws_allows_22 : decode m_Laws_allows.2.1 22 = .ok (.putfield 57, 3) := by decide +kernel
theorem d_Laws_allows_25 : decode m_Laws_allows.2.1 25 = .ok (.aload_n 0, 1) := by decide +kernel
theorem d_Laws_allows_26 : decode m_Laws_allows.2.1 26 = .ok (.iconst 2, 1) := by decide +kernel
theorem d_Laws_allows_27 : decode m_Laws_allows.2.1 27 = .ok (.invokevirtual 76, 3) := by decide +kernel
theorem d_Laws_allows_30 : decode m_Laws_allows.2.1 30 = .ok (.ifCond .eq 16, 3) := by decide +kernel
theorem d_Laws_allows_33 : decode m_Laws_allows.2.1 33 = .ok (.aload_n 0, 1) := by decide +kernel
theorem d_Laws_allows_34 : decode m_Laws_allows.2.1 34 = .ok (.getfield 35, 3) := by decide +kernel
theorem d_Laws_allows_37 : decode m_Laws_allows.2.1 37 = .ok (.lconst 0, 1) := by decide +kernel
theorem d_Laws_allows_38 : decode m_Laws_allows.2.1 38 = .ok (.lcmp, 1) := by decide +kernel
theorem d_Laws_allows_39 : decode m_Laws_allows.2.1 39 = .ok (.ifCond .le 7, 3) := by decide +kernel
theorem d_Laws_allows_42 : decode m_Laws_allows.2.1 42 = .ok (.iconst 1, 1) := by decide +kernel
theorem d_Laws_allows_43 : decode m_Laws_allows.2.1 43 = .ok (.goto 4, 3) := by decide +kernel
theorem d_Laws_allows_46 : decode m_Laws_allows.2.1 46 = .ok (.iconst 0, 1) := by decide +kernel
theorem d_Laws_allows_47 : decode m_Laws_allows.2.1 47 = .ok (.ireturn, 1) := by decide +kernel
theorem d_Fs_cat_0 : decode m_Fs_cat.2.1 0 = .ok (.aload_n 0, 1) := by decide +kernel
theorem d_Fs_cat_1 : decode m_Fs_cat.2.1 1 = .ok (.getfield 12, 3) := by decide +kernel
theorem d_Fs_cat_4 : decode m_Fs_cat.2.1 4 = .ok (.iload_n 1, 1) := by decide +kernel
theorem d_Fs_cat_5 : decode m_Fs_cat.2.1 5 = .ok (.invokevirtual 150, 3) := by decide +kernel
theorem d_Fs_cat_8 : decode m_Fs_cat.2.1 8 = .ok (.ifCond .eq 10, 3) := by decide +kernel
theorem d_Fs_cat_11 : decode m_Fs_cat.2.1 11 = .ok (.iload_n 2, 1) := by decide +kernel
theorem d_Fs_cat_12 : decode m_Fs_cat.2.1 12 = .ok (.invokestatic 204, 3) := by decide +kernel
theorem d_Fs_cat_15 : decode m_Fs_cat.2.1 15 = .ok (.ifCond .ne 5, 3) := by decide +kernel
theorem d_Fs_cat_18 : decode m_Fs_cat.2.1 18 = .ok (.iconst (-1), 1) := by decide +kernel
theorem d_Fs_cat_19 : decode m_Fs_cat.2.1 19 = .ok (.ireturn, 1) := by decide +kernel
theorem d_Fs_cat_20 : decode m_Fs_cat.2.1 20 = .ok (.aload_n 0, 1) := by decide +kernel
theorem d_Fs_cat_21 : decode m_Fs_cat.2.1 21 = .ok (.getfield 12, 3) := by decide +kernel
theorem d_Fs_cat_24 : decode m_Fs_cat.2.1 24 = .ok (.getfield 210, 3) := by decide +kernel
theorem d_Fs_cat_27 : decode m_Fs_cat.2.1 27 = .ok (.iload_n 2, 1) := by decide +kernel
theorem d_Fs_cat_28 : decode m_Fs_cat.2.1 28 = .ok (.aload_n 0, 1) := by decide +kernel
theorem d_Fs_cat_29 : decode m_Fs_cat.2.1 29 = .ok (.getfield 12, 3) := by decide +kernel
theorem d_Fs_cat_32 : decode m_Fs_cat.2.1 32 = .ok (.getfield 164, 3) := by decide +kernel
theorem d_Fs_cat_35 : decode m_Fs_cat.2.1 35 = .ok (.iload_n 1, 1) := by decide +kernel
theorem d_Fs_cat_36 : decode m_Fs_cat.2.1 36 = .ok (.iaload, 1) := by decide +kernel
theorem d_Fs_cat_37 : decode m_Fs_cat.2.1 37 = .ok (.invokevirtual 228, 3) := by decide +kernel
theorem d_Fs_cat_40 : decode m_Fs_cat.2.1 40 = .ok (.ireturn, 1) := by decide +kernel
theorem d_Laws_catChance_0 : decode m_Laws_catChance.2.1 0 = .ok (.aload_n 0, 1) := by decide +kernel
theorem d_Laws_catChance_1 : decode m_Laws_catChance.2.1 1 = .ok (.iload_n 1, 1) := by decide +kernel
theorem d_Laws_catChance_2 : decode m_Laws_catChance.2.1 2 = .ok (.iconst 0, 1) := by decide +kernel
theorem d_Laws_catChance_3 : decode m_Laws_catChance.2.1 3 = .ok (.iconst 0, 1) := by decide +kernel
theorem d_Laws_catChance_4 : decode m_Laws_catChance.2.1 4 = .ok (.iload_n 2, 1) := by decide +kernel
theorem d_Laws_catChance_5 : decode m_Laws_catChance.2.1 5 = .ok (.invokevirtual 66, 3) := by decide +kernel
theorem d_Laws_catChance_8 : decode m_Laws_catChance.2.1 8 = .ok (.aload_n 0, 1) := by decide +kernel
theorem d_Laws_catChance_9 : decode m_Laws_catChance.2.1 9 = .ok (.iconst 3, 1) := by decide +kernel
theorem d_Laws_catChance_10 : decode m_Laws_catChance.2.1 10 = .ok (.invokevirtual 76, 3) := by decide +kernel
theorem d_Laws_catChance_13 : decode m_Laws_catChance.2.1 13 = .ok (.ifCond .eq 13, 3) := by decide +kernel
theorem d_Laws_catChance_16 : decode m_Laws_catChance.2.1 16 = .ok (.aload_n 0, 1) := by decide +kernel
theorem d_Laws_catChance_17 : decode m_Laws_catChance.2.1 17 = .ok (.sipush 1000, 3) := by decide +kernel
theorem d_Laws_catChance_20 : decode m_Laws_catChance.2.1 20 = .ok (.invokevirtual 80, 3) := by decide +kernel
theorem d_Laws_catChance_23 : decode m_Laws_catChance.2.1 23 = .ok (.goto 4, 3) := by decide +kernel
theorem d_Laws_catChance_26 : decode m_Laws_catChance.2.1 26 = .ok (.iconst 0, 1) := by decide +kernel
theorem d_Laws_catChance_27 : decode m_Laws_catChance.2.1 27 = .ok (.ireturn, 1) := by decide +kernel
theorem d_Fs_send_0 : decode m_Fs_send.2.1 0 = .ok (.aload_n 0, 1) := by decide +kernel
theorem d_Fs_send_1 : decode m_Fs_send.2.1 1 = .ok (.getfield 12, 3) := by decide +kernel
theorem d_Fs_send_4 : decode m_Fs_send.2.1 4 = .ok (.iload_n 1, 1) := by decide +kernel
theorem d_Fs_send_5 : decode m_Fs_send.2.1 5 = .ok (.invokevirtual 188, 3) := by decide +kernel
theorem d_Fs_send_8 : decode m_Fs_send.2.1 8 = .ok (.ifCond .eq 28, 3) := by decide +kernel
theorem d_Fs_send_11 : decode m_Fs_send.2.1 11 = .ok (.aload_n 0, 1) := by decide +kernel
theorem d_Fs_send_12 : decode m_Fs_send.2.1 12 = .ok (.getfield 12, 3) := by decide +kernel
theorem d_Fs_send_15 : decode m_Fs_send.2.1 15 = .ok (.iload_n 2, 1) := by decide +kernel
theorem d_Fs_send_16 : decode m_Fs_send.2.1 16 = .ok (.invokevirtual 150, 3) := by decide +kernel
theorem d_Fs_send_19 : decode m_Fs_send.2.1 19 = .ok (.ifCond .eq 17, 3) := by decide +kernel
theorem d_Fs_send_22 : decode m_Fs_send.2.1 22 = .ok (.aload_n 0, 1) := by decide +kernel
theorem d_Fs_send_23 : decode m_Fs_send.2.1 23 = .ok (.getfield 31, 3) := by decide +kernel
theorem d_Fs_send_26 : decode m_Fs_send.2.1 26 = .ok (.getfield 197, 3) := by decide +kernel
theorem d_Fs_send_29 : decode m_Fs_send.2.1 29 = .ok (.iload_n 1, 1) := by decide +kernel
theorem d_Fs_send_30 : decode m_Fs_send.2.1 30 = .ok (.iaload, 1) := by decide +kernel
theorem d_Fs_send_31 : decode m_Fs_send.2.1 31 = .ok (.bipush 9, 2) := by decide +kernel
theorem d_Fs_send_33 : decode m_Fs_send.2.1 33 = .ok (.if_icmp .lt 5, 3) := by decide +kernel
theorem d_Fs_send_36 : decode m_Fs_send.2.1 36 = .ok (.iconst (-1), 1) := by decide +kernel
theorem d_Fs_send_37 : decode m_Fs_send.2.1 37 = .ok (.ireturn, 1) := by decide +kernel
theorem d_Fs_send_38 : decode m_Fs_send.2.1 38 = .ok (.aload_n 0, 1) := by decide +kernel
theorem d_Fs_send_39 : decode m_Fs_send.2.1 39 = .ok (.getfield 76, 3) := by decide +kernel
theorem d_Fs_send_42 : decode m_Fs_send.2.1 42 = .ok (.aload_n 0, 1) := by decide +kernel
theorem d_Fs_send_43 : decode m_Fs_send.2.1 43 = .ok (.getfield 31, 3) := by decide +kernel
theorem d_Fs_send_46 : decode m_Fs_send.2.1 46 = .ok (.invokevirtual 231, 3) := by decide +kernel
theorem d_Fs_send_49 : decode m_Fs_send.2.1 49 = .ok (.aload_n 0, 1) := by decide +kernel
theorem d_Fs_send_50 : decode m_Fs_send.2.1 50 = .ok (.getfield 31, 3) := by decide +kernel
theorem d_Fs_send_53 : decode m_Fs_send.2.1 53 = .ok (.getfield 200, 3) := by decide +kernel
theorem d_Fs_send_56 : decode m_Fs_send.2.1 56 = .ok (.iload_n 1, 1) := by decide +kernel
theorem d_Fs_send_57 : decode m_Fs_send.2.1 57 = .ok (.aaload, 1) := by decide +kernel
theorem d_Fs_send_58 : decode m_Fs_send.2.1 58 = .ok (.aload_n 0, 1) := by decide +kernel
theorem d_Fs_send_59 : decode m_Fs_send.2.1 59 = .ok (.getfield 31, 3) := by decide +kernel
theorem d_Fs_send_62 : decode m_Fs_send.2.1 62 = .ok (.getfield 197, 3) := by decide +kernel
theorem d_Fs_send_65 : decode m_Fs_send.2.1 65 = .ok (.iload_n 1, 1) := by decide +kernel
theorem d_Fs_send_66 : decode m_Fs_send.2.1 66 = .ok (.iaload, 1) := by decide +kernel
theorem d_Fs_send_67 : decode m_Fs_send.2.1 67 = .ok (.iload_n 2, 1) := by decide +kernel
theorem d_Fs_send_68 : decode m_Fs_send.2.1 68 = .ok (.iastore, 1) := by decide +kernel
theorem d_Fs_send_69 : decode m_Fs_send.2.1 69 = .ok (.aload_n 0, 1) := by decide +kernel
theorem d_Fs_send_70 : decode m_Fs_send.2.1 70 = .ok (.getfield 31, 3) := by decide +kernel
theorem d_Fs_send_73 : decode m_Fs_send.2.1 73 = .ok (.getfield 197, 3) := by decide +kernel
theorem d_Fs_send_76 : decode m_Fs_send.2.1 76 = .ok (.iload_n 1, 1) := by decide +kernel
theorem d_Fs_send_77 : decode m_Fs_send.2.1 77 = .ok (.dup2, 1) := by decide +kernel
theorem d_Fs_send_78 : decode m_Fs_send.2.1 78 = .ok (.iaload, 1) := by decide +kernel
theorem d_Fs_send_79 : decode m_Fs_send.2.1 79 = .ok (.iconst 1, 1) := by decide +kernel
theorem d_Fs_send_80 : decode m_Fs_send.2.1 80 = .ok (.iadd, 1) := by decide +kernel
theorem d_Fs_send_81 : decode m_Fs_send.2.1 81 = .ok (.iastore, 1) := by decide +kernel
theorem d_Fs_send_82 : decode m_Fs_send.2.1 82 = .ok (.aload_n 0, 1) := by decide +kernel
theorem d_Fs_send_83 : decode m_Fs_send.2.1 83 = .ok (.getfield 31, 3) := by decide +kernel
theorem d_Fs_send_86 : decode m_Fs_send.2.1 86 = .ok (.getfield 197, 3) := by decide +kernel
theorem d_Fs_send_89 : decode m_Fs_send.2.1 89 = .ok (.iload_n 1, 1) := by decide +kernel
theorem d_Fs_send_90 : decode m_Fs_send.2.1 90 = .ok (.iaload, 1) := by decide +kernel
theorem d_Fs_send_91 : decode m_Fs_send.2.1 91 = .ok (.ireturn, 1) := by decide +kernel
theorem d_Past_remember_0 : decode m_Past_remember.2.1 0 = .ok (.aload_n 0, 1) := by decide +kernel
theorem d_Past_remember_1 : decode m_Past_remember.2.1 1 = .ok (.getfield 21, 3) := by decide +kernel
theorem d_Past_remember_4 : decode m_Past_remember.2.1 4 = .ok (.bipush 20, 2) := by decide +kernel
theorem d_Past_remember_6 : decode m_Past_remember.2.1 6 = .ok (.if_icmp .ne 26, 3) := by decide +kernel
theorem d_Past_remember_9 : decode m_Past_remember.2.1 9 = .ok (.aload_n 0, 1) := by decide +kernel
theorem d_Past_remember_10 : decode m_Past_remember.2.1 10 = .ok (.aload_n 0, 1) := by decide +kernel
theorem d_Past_remember_11 : decode m_Past_remember.2.1 11 = .ok (.getfield 17, 3) := by decide +kernel
theorem d_Past_remember_14 : decode m_Past_remember.2.1 14 = .ok (.iconst 1, 1) := by decide +kernel
theorem d_Past_remember_15 : decode m_Past_remember.2.1 15 = .ok (.iadd, 1) := by decide +kernel
theorem d_Past_remember_16 : decode m_Past_remember.2.1 16 = .ok (.bipush 20, 2) := by decide +kernel
theorem d_Past_remember_18 : decode m_Past_remember.2.1 18 = .ok (.irem, 1) := by decide +kernel
theorem d_Past_remember_19 : decode m_Past_remember.2.1 19 = .ok (.putfield 17, 3) := by decide +kernel
theorem d_Past_remember_22 : decode m_Past_remember.2.1 22 = .ok (.aload_n 0, 1) := by decide +kernel
theorem d_Past_remember_23 : decode m_Past_remember.2.1 23 = .ok (.dup, 1) := by decide +kernel
theorem d_Past_remember_24 : decode m_Past_remember.2.1 24 = .ok (.getfield 21, 3) := by decide +kernel
theorem d_Past_remember_27 : decode m_Past_remember.2.1 27 = .ok (.iconst 1, 1) := by decide +kernel
theorem d_Past_remember_28 : decode m_Past_remember.2.1 28 = .ok (.isub, 1) := by decide +kernel
theorem d_Past_remember_29 : decode m_Past_remember.2.1 29 = .ok (.putfield 21, 3) := by decide +kernel
theorem d_Past_remember_32 : decode m_Past_remember.2.1 32 = .ok (.aload_n 0, 1) := by decide +kernel
theorem d_Past_remember_33 : decode m_Past_remember.2.1 33 = .ok (.getfield 11, 3) := by decide +kernel
theorem d_Past_remember_36 : decode m_Past_remember.2.1 36 = .ok (.aload_n 0, 1) := by decide +kernel
theorem d_Past_remember_37 : decode m_Past_remember.2.1 37 = .ok (.getfield 17, 3) := by decide +kernel
theorem d_Past_remember_40 : decode m_Past_remember.2.1 40 = .ok (.aload_n 0, 1) := by decide +kernel
theorem d_Past_remember_41 : decode m_Past_remember.2.1 41 = .ok (.getfield 21, 3) := by decide +kernel
theorem d_Past_remember_44 : decode m_Past_remember.2.1 44 = .ok (.iadd, 1) := by decide +kernel
theorem d_Past_remember_45 : decode m_Past_remember.2.1 45 = .ok (.bipush 20, 2) := by decide +kernel
theorem d_Past_remember_47 : decode m_Past_remember.2.1 47 = .ok (.irem, 1) := by decide +kernel
theorem d_Past_remember_48 : decode m_Past_remember.2.1 48 = .ok (.aaload, 1) := by decide +kernel
theorem d_Past_remember_49 : decode m_Past_remember.2.1 49 = .ok (.aload_n 1, 1) := by decide +kernel
theorem d_Past_remember_50 : decode m_Past_remember.2.1 50 = .ok (.invokevirtual 25, 3) := by decide +kernel
theorem d_Past_remember_53 : decode m_Past_remember.2.1 53 = .ok (.aload_n 0, 1) := by decide +kernel
theorem d_Past_remember_54 : decode m_Past_remember.2.1 54 = .ok (.dup, 1) := by decide +kernel
theorem d_Past_remember_55 : decode m_Past_remember.2.1 55 = .ok (.getfield 21, 3) := by decide +kernel
theorem d_Past_remember_58 : decode m_Past_remember.2.1 58 = .ok (.iconst 1, 1) := by decide +kernel
theorem d_Past_remember_59 : decode m_Past_remember.2.1 59 = .ok (.iadd, 1) := by decide +kernel
theorem d_Past_remember_60 : decode m_Past_remember.2.1 60 = .ok (.putfield 21, 3) := by decide +kernel
theorem d_Past_remember_63 : decode m_Past_remember.2.1 63 = .ok (.return_, 1) := by decide +kernel
theorem d_Plan_copyFrom_0 : decode m_Plan_copyFrom.2.1 0 = .ok (.iconst 0, 1) := by decide +kernel
theorem d_Plan_copyFrom_1 : decode m_Plan_copyFrom.2.1 1 = .ok (.istore_n 2, 1) := by decide +kernel
theorem d_Plan_copyFrom_2 : decode m_Plan_copyFrom.2.1 2 = .ok (.iload_n 2, 1) := by decide +kernel
theorem d_Plan_copyFrom_3 : decode m_Plan_copyFrom.2.1 3 = .ok (.iconst 3, 1) := by decide +kernel
theorem d_Plan_copyFrom_4 : decode m_Plan_copyFrom.2.1 4 = .ok (.if_icmp .ge 40, 3) := by decide +kernel
theorem d_Plan_copyFrom_7 : decode m_Plan_copyFrom.2.1 7 = .ok (.aload_n 1, 1) := by decide +kernel
theorem d_Plan_copyFrom_8 : decode m_Plan_copyFrom.2.1 8 = .ok (.getfield 11, 3) := by decide +kernel
theorem d_Plan_copyFrom_11 : decode m_Plan_copyFrom.2.1 11 = .ok (.iload_n 2, 1) := by decide +kernel
theorem d_Plan_copyFrom_12 : decode m_Plan_copyFrom.2.1 12 = .ok (.aaload, 1) := by decide +kernel
theorem d_Plan_copyFrom_13 : decode m_Plan_copyFrom.2.1 13 = .ok (.iconst 0, 1) := by decide +kernel
theorem d_Plan_copyFrom_14 : decode m_Plan_copyFrom.2.1 14 = .ok (.aload_n 0, 1) := by decide +kernel
theorem d_Plan_copyFrom_15 : decode m_Plan_copyFrom.2.1 15 = .ok (.getfield 11, 3) := by decide +kernel
theorem d_Plan_copyFrom_18 : decode m_Plan_copyFrom.2.1 18 = .ok (.iload_n 2, 1) := by decide +kernel
theorem d_Plan_copyFrom_19 : decode m_Plan_copyFrom.2.1 19 = .ok (.aaload, 1) := by decide +kernel
theorem d_Plan_copyFrom_20 : decode m_Plan_copyFrom.2.1 20 = .ok (.iconst 0, 1) := by decide +kernel
theorem d_Plan_copyFrom_21 : decode m_Plan_copyFrom.2.1 21 = .ok (.bipush 9, 2) := by decide +kernel
theorem d_Plan_copyFrom_23 : decode m_Plan_copyFrom.2.1 23 = .ok (.invokestatic 27, 3) := by decide +kernel
theorem d_Plan_copyFrom_26 : decode m_Plan_copyFrom.2.1 26 = .ok (.aload_n 0, 1) := by decide +kernel
theorem d_Plan_copyFrom_27 : decode m_Plan_copyFrom.2.1 27 = .ok (.getfield 16, 3) := by decide +kernel
theorem d_Plan_copyFrom_30 : decode m_Plan_copyFrom.2.1 30 = .ok (.iload_n 2, 1) := by decide +kernel
theorem d_Plan_copyFrom_31 : decode m_Plan_copyFrom.2.1 31 = .ok (.aload_n 1, 1) := by decide +kernel
theorem d_Plan_copyFrom_32 : decode m_Plan_copyFrom.2.1 32 = .ok (.getfield 16, 3) := by decide +kernel
theorem d_Plan_copyFrom_35 : decode m_Plan_copyFrom.2.1 35 = .ok (.iload_n 2, 1) := by decide +kernel
theorem d_Plan_copyFrom_36 : decode m_Plan_copyFrom.2.1 36 = .ok (.iaload, 1) := by decide +kernel
theorem d_Plan_copyFrom_37 : decode m_Plan_copyFrom.2.1 37 = .ok (.iastore, 1) := by decide +kernel
theorem d_Plan_copyFrom_38 : decode m_Plan_copyFrom.2.1 38 = .ok (.iinc 2 1, 3) := by decide +kernel
theorem d_Plan_copyFrom_41 : decode m_Plan_copyFrom.2.1 41 = .ok (.goto (-39), 3) := by decide +kernel
theorem d_Plan_copyFrom_44 : decode m_Plan_copyFrom.2.1 44 = .ok (.aload_n 0, 1) := by decide +kernel
theorem d_Plan_copyFrom_45 : decode m_Plan_copyFrom.2.1 45 = .ok (.aload_n 1, 1) := by decide +kernel
theorem d_Plan_copyFrom_46 : decode m_Plan_copyFrom.2.1 46 = .ok (.getfield 20, 3) := by decide +kernel
theorem d_Plan_copyFrom_49 : decode m_Plan_copyFrom.2.1 49 = .ok (.putfield 20, 3) := by decide +kernel
theorem d_Plan_copyFrom_52 : decode m_Plan_copyFrom.2.1 52 = .ok (.aload_n 0, 1) := by decide +kernel
theorem d_Plan_copyFrom_53 : decode m_Plan_copyFrom.2.1 53 = .ok (.aload_n 1, 1) := by decide +kernel
theorem d_Plan_copyFrom_54 : decode m_Plan_copyFrom.2.1 54 = .ok (.getfield 24, 3) := by decide +kernel
theorem d_Plan_copyFrom_57 : decode m_Plan_copyFrom.2.1 57 = .ok (.putfield 24, 3) := by decide +kernel
theorem d_Plan_copyFrom_60 : decode m_Plan_copyFrom.2.1 60 = .ok (.return_, 1) := by decide +kernel
theorem d_Fs_drop_0 : decode m_Fs_drop.2.1 0 = .ok (.aload_n 0, 1) := by decide +kernel
theorem d_Fs_drop_1 : decode m_Fs_drop.2.1 1 = .ok (.getfield 12, 3) := by decide +kernel
theorem d_Fs_drop_4 : decode m_Fs_drop.2.1 4 = .ok (.iload_n 1, 1) := by decide +kernel
theorem d_Fs_drop_5 : decode m_Fs_drop.2.1 5 = .ok (.invokevirtual 188, 3) := by decide +kernel
theorem d_Fs_drop_8 : decode m_Fs_drop.2.1 8 = .ok (.ifCond .eq 15, 3) := by decide +kernel
theorem d_Fs_drop_11 : decode m_Fs_drop.2.1 11 = .ok (.aload_n 0, 1) := by decide +kernel
theorem d_Fs_drop_12 : decode m_Fs_drop.2.1 12 = .ok (.getfield 31, 3) := by decide +kernel
theorem d_Fs_drop_15 : decode m_Fs_drop.2.1 15 = .ok (.getfield 197, 3) := by decide +kernel
theorem d_Fs_drop_18 : decode m_Fs_drop.2.1 18 = .ok (.iload_n 1, 1) := by decide +kernel
theorem d_Fs_drop_19 : decode m_Fs_drop.2.1 19 = .ok (.iaload, 1) := by decide +kernel
theorem d_Fs_drop_20 : decode m_Fs_drop.2.1 20 = .ok (.ifCond .ne 5, 3) := by decide +kernel
theorem d_Fs_drop_23 : decode m_Fs_drop.2.1 23 = .ok (.iconst (-1), 1) := by decide +kernel
theorem d_Fs_drop_24 : decode m_Fs_drop.2.1 24 = .ok (.ireturn, 1) := by decide +kernel
theorem d_Fs_drop_25 : decode m_Fs_drop.2.1 25 = .ok (.aload_n 0, 1) := by decide +kernel
theorem d_Fs_drop_26 : decode m_Fs_drop.2.1 26 = .ok (.getfield 76, 3) := by decide +kernel
theorem d_Fs_drop_29 : decode m_Fs_drop.2.1 29 = .ok (.aload_n 0, 1) := by decide +kernel
theorem d_Fs_drop_30 : decode m_Fs_drop.2.1 30 = .ok (.getfield 31, 3) := by decide +kernel
theorem d_Fs_drop_33 : decode m_Fs_drop.2.1 33 = .ok (.invokevirtual 231, 3) := by decide +kernel
theorem d_Fs_drop_36 : decode m_Fs_drop.2.1 36 = .ok (.aload_n 0, 1) := by decide +kernel
theorem d_Fs_drop_37 : decode m_Fs_drop.2.1 37 = .ok (.getfield 31, 3) := by decide +kernel
theorem d_Fs_drop_40 : decode m_Fs_drop.2.1 40 = .ok (.getfield 197, 3) := by decide +kernel
theorem d_Fs_drop_43 : decode m_Fs_drop.2.1 43 = .ok (.iload_n 1, 1) := by decide +kernel
theorem d_Fs_drop_44 : decode m_Fs_drop.2.1 44 = .ok (.dup2, 1) := by decide +kernel
theorem d_Fs_drop_45 : decode m_Fs_drop.2.1 45 = .ok (.iaload, 1) := by decide +kernel
theorem d_Fs_drop_46 : decode m_Fs_drop.2.1 46 = .ok (.iconst 1, 1) := by decide +kernel
theorem d_Fs_drop_47 : decode m_Fs_drop.2.1 47 = .ok (.isub, 1) := by decide +kernel
theorem d_Fs_drop_48 : decode m_Fs_drop.2.1 48 = .ok (.iastore, 1) := by decide +kernel
theorem d_Fs_drop_49 : decode m_Fs_drop.2.1 49 = .ok (.aload_n 0, 1) := by decide +kernel
theorem d_Fs_drop_50 : decode m_Fs_drop.2.1 50 = .ok (.getfield 31, 3) := by decide +kernel
theorem d_Fs_drop_53 : decode m_Fs_drop.2.1 53 = .ok (.getfield 200, 3) := by decide +kernel
theorem d_Fs_drop_56 : decode m_Fs_drop.2.1 56 = .ok (.iload_n 1, 1) := by decide +kernel
theorem d_Fs_drop_57 : decode m_Fs_drop.2.1 57 = .ok (.aaload, 1) := by decide +kernel
theorem d_Fs_drop_58 : decode m_Fs_drop.2.1 58 = .ok (.aload_n 0, 1) := by decide +kernel
theorem d_Fs_drop_59 : decode m_Fs_drop.2.1 59 = .ok (.getfield 31, 3) := by decide +kernel
theorem d_Fs_drop_62 : decode m_Fs_drop.2.1 62 = .ok (.getfield 197, 3) := by decide +kernel
theorem d_Fs_drop_65 : decode m_Fs_drop.2.1 65 = .ok (.iload_n 1, 1) := by decide +kernel
theorem d_Fs_drop_66 : decode m_Fs_drop.2.1 66 = .ok (.iaload, 1) := by decide +kernel
theorem d_Fs_drop_67 : decode m_Fs_drop.2.1 67 = .ok (.iaload, 1) := by decide +kernel
theorem d_Fs_drop_68 : decode m_Fs_drop.2.1 68 = .ok (.ireturn, 1) := by decide +kernel
theorem d_Fs_glass_0 : decode m_Fs_glass.2.1 0 = .ok (.aload_n 0, 1) := by decide +kernel
theorem d_Fs_glass_1 : decode m_Fs_glass.2.1 1 = .ok (.getfield 12, 3) := by decide +kernel
theorem d_Fs_glass_4 : decode m_Fs_glass.2.1 4 = .ok (.iload_n 1, 1) := by decide +kernel
theorem d_Fs_glass_5 : decode m_Fs_glass.2.1 5 = .ok (.invokevirtual 150, 3) := by decide +kernel
theorem d_Fs_glass_8 : decode m_Fs_glass.2.1 8 = .ok (.ifCond .eq 27, 3) := by decide +kernel
theorem d_Fs_glass_11 : decode m_Fs_glass.2.1 11 = .ok (.aload_n 0, 1) := by decide +kernel
theorem d_Fs_glass_12 : decode m_Fs_glass.2.1 12 = .ok (.getfield 31, 3) := by decide +kernel
theorem d_Fs_glass_15 : decode m_Fs_glass.2.1 15 = .ok (.getfield 177, 3) := by decide +kernel
theorem d_Fs_glass_18 : decode m_Fs_glass.2.1 18 = .ok (.iload_n 1, 1) := by decide +kernel
theorem d_Fs_glass_19 : decode m_Fs_glass.2.1 19 = .ok (.invokestatic 173, 3) := by decide +kernel
theorem d_Fs_glass_22 : decode m_Fs_glass.2.1 22 = .ok (.iconst 1, 1) := by decide +kernel
theorem d_Fs_glass_23 : decode m_Fs_glass.2.1 23 = .ok (.if_icmp .ne 7, 3) := by decide +kernel
theorem d_Fs_glass_26 : decode m_Fs_glass.2.1 26 = .ok (.iconst 1, 1) := by decide +kernel
theorem d_Fs_glass_27 : decode m_Fs_glass.2.1 27 = .ok (.goto 4, 3) := by decide +kernel
theorem d_Fs_glass_30 : decode m_Fs_glass.2.1 30 = .ok (.iconst 0, 1) := by decide +kernel
theorem d_Fs_glass_31 : decode m_Fs_glass.2.1 31 = .ok (.iload_n 2, 1) := by decide +kernel
theorem d_Fs_glass_32 : decode m_Fs_glass.2.1 32 = .ok (.if_icmp .ne 5, 3) := by decide +kernel
theorem d_Fs_glass_35 : decode m_Fs_glass.2.1 35 = .ok (.iconst 0, 1) := by decide +kernel
theorem d_Fs_glass_36 : decode m_Fs_glass.2.1 36 = .ok (.ireturn, 1) := by decide +kernel
theorem d_Fs_glass_37 : decode m_Fs_glass.2.1 37 = .ok (.aload_n 0, 1) := by decide +kernel
theorem d_Fs_glass_38 : decode m_Fs_glass.2.1 38 = .ok (.getfield 76, 3) := by decide +kernel
theorem d_Fs_glass_41 : decode m_Fs_glass.2.1 41 = .ok (.aload_n 0, 1) := by decide +kernel
theorem d_Fs_glass_42 : decode m_Fs_glass.2.1 42 = .ok (.getfield 31, 3) := by decide +kernel
theorem d_Fs_glass_45 : decode m_Fs_glass.2.1 45 = .ok (.invokevirtual 231, 3) := by decide +kernel
theorem d_Fs_glass_48 : decode m_Fs_glass.2.1 48 = .ok (.aload_n 0, 1) := by decide +kernel
theorem d_Fs_glass_49 : decode m_Fs_glass.2.1 49 = .ok (.getfield 31, 3) := by decide +kernel
theorem d_Fs_glass_52 : decode m_Fs_glass.2.1 52 = .ok (.dup, 1) := by decide +kernel
theorem d_Fs_glass_53 : decode m_Fs_glass.2.1 53 = .ok (.getfield 177, 3) := by decide +kernel
theorem d_Fs_glass_56 : decode m_Fs_glass.2.1 56 = .ok (.iconst 1, 1) := by decide +kernel
theorem d_Fs_glass_57 : decode m_Fs_glass.2.1 57 = .ok (.iload_n 1, 1) := by decide +kernel
theorem d_Fs_glass_58 : decode m_Fs_glass.2.1 58 = .ok (.ishl, 1) := by decide +kernel
theorem d_Fs_glass_59 : decode m_Fs_glass.2.1 59 = .ok (.ixor, 1) := by decide +kernel
theorem d_Fs_glass_60 : decode m_Fs_glass.2.1 60 = .ok (.putfield 177, 3) := by decide +kernel
theorem d_Fs_glass_63 : decode m_Fs_glass.2.1 63 = .ok (.aload_n 0, 1) := by decide +kernel
theorem d_Fs_glass_64 : decode m_Fs_glass.2.1 64 = .ok (.getfield 62, 3) := by decide +kernel
theorem d_Fs_glass_67 : decode m_Fs_glass.2.1 67 = .ok (.iconst 0, 1) := by decide +kernel
theorem d_Fs_glass_68 : decode m_Fs_glass.2.1 68 = .ok (.putfield 124, 3) := by decide +kernel
theorem d_Fs_glass_71 : decode m_Fs_glass.2.1 71 = .ok (.iconst 1, 1) := by decide +kernel
theorem d_Fs_glass_72 : decode m_Fs_glass.2.1 72 = .ok (.ireturn, 1) := by decide +kernel
theorem d_Fs_bit_0 : decode m_Fs_bit.2.1 0 = .ok (.iload_n 0, 1) := by decide +kernel
theorem d_Fs_bit_1 : decode m_Fs_bit.2.1 1 = .ok (.iload_n 1, 1) := by decide +kernel
theorem d_Fs_bit_2 : decode m_Fs_bit.2.1 2 = .ok (.ishr, 1) := by decide +kernel
theorem d_Fs_bit_3 : decode m_Fs_bit.2.1 3 = .ok (.iconst 1, 1) := by decide +kernel
theorem d_Fs_bit_4 : decode m_Fs_bit.2.1 4 = .ok (.iand, 1) := by decide +kernel
theorem d_Fs_bit_5 : decode m_Fs_bit.2.1 5 = .ok (.ireturn, 1) := by decide +kernel
theorem d_Fs_out_0 : decode m_Fs_out.2.1 0 = .ok (.aload_n 0, 1) := by decide +kernel
theorem d_Fs_out_1 : decode m_Fs_out.2.1 1 = .ok (.getfield 12, 3) := by decide +kernel
theorem d_Fs_out_4 : decode m_Fs_out.2.1 4 = .ok (.iload_n 1, 1) := by decide +kernel
theorem d_Fs_out_5 : decode m_Fs_out.2.1 5 = .ok (.invokevirtual 150, 3) := by decide +kernel
theorem d_Fs_out_8 : decode m_Fs_out.2.1 8 = .ok (.ifCond .eq 41, 3) := by decide +kernel
theorem d_Fs_out_11 : decode m_Fs_out.2.1 11 = .ok (.aload_n 0, 1) := by decide +kernel
theorem d_Fs_out_12 : decode m_Fs_out.2.1 12 = .ok (.getfield 12, 3) := by decide +kernel
theorem d_Fs_out_15 : decode m_Fs_out.2.1 15 = .ok (.getfield 170, 3) := by decide +kernel
theorem d_Fs_out_18 : decode m_Fs_out.2.1 18 = .ok (.iload_n 1, 1) := by decide +kernel
theorem d_Fs_out_19 : decode m_Fs_out.2.1 19 = .ok (.invokestatic 173, 3) := by decide +kernel
theorem d_Fs_out_22 : decode m_Fs_out.2.1 22 = .ok (.ifCond .eq 27, 3) := by decide +kernel
theorem d_Fs_out_25 : decode m_Fs_out.2.1 25 = .ok (.aload_n 0, 1) := by decide +kernel
theorem d_Fs_out_26 : decode m_Fs_out.2.1 26 = .ok (.getfield 31, 3) := by decide +kernel
theorem d_Fs_out_29 : decode m_Fs_out.2.1 29 = .ok (.getfield 180, 3) := by decide +kernel
theorem d_Fs_out_32 : decode m_Fs_out.2.1 32 = .ok (.iload_n 1, 1) := by decide +kernel
theorem d_Fs_out_33 : decode m_Fs_out.2.1 33 = .ok (.invokestatic 173, 3) := by decide +kernel
theorem d_Fs_out_36 : decode m_Fs_out.2.1 36 = .ok (.iconst 1, 1) := by decide +kernel
theorem d_Fs_out_37 : decode m_Fs_out.2.1 37 = .ok (.if_icmp .ne 7, 3) := by decide +kernel
theorem d_Fs_out_40 : decode m_Fs_out.2.1 40 = .ok (.iconst 1, 1) := by decide +kernel
theorem d_Fs_out_41 : decode m_Fs_out.2.1 41 = .ok (.goto 4, 3) := by decide +kernel
theorem d_Fs_out_44 : decode m_Fs_out.2.1 44 = .ok (.iconst 0, 1) := by decide +kernel
theorem d_Fs_out_45 : decode m_Fs_out.2.1 45 = .ok (.iload_n 2, 1) := by decide +kernel
theorem d_Fs_out_46 : decode m_Fs_out.2.1 46 = .ok (.if_icmp .ne 5, 3) := by decide +kernel
theorem d_Fs_out_49 : decode m_Fs_out.2.1 49 = .ok (.iconst 0, 1) := by decide +kernel
theorem d_Fs_out_50 : decode m_Fs_out.2.1 50 = .ok (.ireturn, 1) := by decide +kernel
theorem d_Fs_out_51 : decode m_Fs_out.2.1 51 = .ok (.aload_n 0, 1) := by decide +kernel
theorem d_Fs_out_52 : decode m_Fs_out.2.1 52 = .ok (.getfield 76, 3) := by decide +kernel
theorem d_Fs_out_55 : decode m_Fs_out.2.1 55 = .ok (.aload_n 0, 1) := by decide +kernel
theorem d_Fs_out_56 : decode m_Fs_out.2.1 56 = .ok (.getfield 31, 3) := by decide +kernel
theorem d_Fs_out_59 : decode m_Fs_out.2.1 59 = .ok (.invokevirtual 231, 3) := by decide +kernel
theorem d_Fs_out_62 : decode m_Fs_out.2.1 62 = .ok (.aload_n 0, 1) := by decide +kernel
theorem d_Fs_out_63 : decode m_Fs_out.2.1 63 = .ok (.getfield 31, 3) := by decide +kernel
theorem d_Fs_out_66 : decode m_Fs_out.2.1 66 = .ok (.dup, 1) := by decide +kernel
theorem d_Fs_out_67 : decode m_Fs_out.2.1 67 = .ok (.getfield 180, 3) := by decide +kernel
theorem d_Fs_out_70 : decode m_Fs_out.2.1 70 = .ok (.iconst 1, 1) := by decide +kernel
theorem d_Fs_out_71 : decode m_Fs_out.2.1 71 = .ok (.iload_n 1, 1) := by decide +kernel
theorem d_Fs_out_72 : decode m_Fs_out.2.1 72 = .ok (.ishl, 1) := by decide +kernel
theorem d_Fs_out_73 : decode m_Fs_out.2.1 73 = .ok (.ixor, 1) := by decide +kernel
theorem d_Fs_out_74 : decode m_Fs_out.2.1 74 = .ok (.putfield 180, 3) := by decide +kernel
theorem d_Fs_out_77 : decode m_Fs_out.2.1 77 = .ok (.aload_n 0, 1) := by decide +kernel
theorem d_Fs_out_78 : decode m_Fs_out.2.1 78 = .ok (.getfield 62, 3) := by decide +kernel
theorem d_Fs_out_81 : decode m_Fs_out.2.1 81 = .ok (.iconst 0, 1) := by decide +kernel
theorem d_Fs_out_82 : decode m_Fs_out.2.1 82 = .ok (.putfield 124, 3) := by decide +kernel
theorem d_Fs_out_85 : decode m_Fs_out.2.1 85 = .ok (.iconst 1, 1) := by decide +kernel
theorem d_Fs_out_86 : decode m_Fs_out.2.1 86 = .ok (.ireturn, 1) := by decide +kernel
theorem d_Fs_done_0 : decode m_Fs_done.2.1 0 = .ok (.aload_n 0, 1) := by decide +kernel
theorem d_Fs_done_1 : decode m_Fs_done.2.1 1 = .ok (.getfield 12, 3) := by decide +kernel
theorem d_Fs_done_4 : decode m_Fs_done.2.1 4 = .ok (.iload_n 1, 1) := by decide +kernel
theorem d_Fs_done_5 : decode m_Fs_done.2.1 5 = .ok (.invokevirtual 150, 3) := by decide +kernel
theorem d_Fs_done_8 : decode m_Fs_done.2.1 8 = .ok (.ifCond .eq 12, 3) := by decide +kernel
theorem d_Fs_done_11 : decode m_Fs_done.2.1 11 = .ok (.iload_n 2, 1) := by decide +kernel
theorem d_Fs_done_12 : decode m_Fs_done.2.1 12 = .ok (.ifCond .lt 8, 3) := by decide +kernel
theorem d_Fs_done_15 : decode m_Fs_done.2.1 15 = .ok (.iload_n 2, 1) := by decide +kernel
theorem d_Fs_done_16 : decode m_Fs_done.2.1 16 = .ok (.iconst 1, 1) := by decide +kernel
theorem d_Fs_done_17 : decode m_Fs_done.2.1 17 = .ok (.if_icmp .le 5, 3) := by decide +kernel
theorem d_Fs_done_20 : decode m_Fs_done.2.1 20 = .ok (.iconst (-1), 1) := by decide +kernel
theorem d_Fs_done_21 : decode m_Fs_done.2.1 21 = .ok (.ireturn, 1) := by decide +kernel
theorem d_Fs_done_22 : decode m_Fs_done.2.1 22 = .ok (.aload_n 0, 1) := by decide +kernel
theorem d_Fs_done_23 : decode m_Fs_done.2.1 23 = .ok (.getfield 43, 3) := by decide +kernel
theorem d_Fs_done_26 : decode m_Fs_done.2.1 26 = .ok (.aload_n 0, 1) := by decide +kernel
theorem d_Fs_done_27 : decode m_Fs_done.2.1 27 = .ok (.getfield 31, 3) := by decide +kernel
theorem d_Fs_done_30 : decode m_Fs_done.2.1 30 = .ok (.iconst (-1), 1) := by decide +kernel
theorem d_Fs_done_31 : decode m_Fs_done.2.1 31 = .ok (.invokevirtual 235, 3) := by decide +kernel
theorem d_Fs_done_34 : decode m_Fs_done.2.1 34 = .ok (.iload_n 2, 1) := by decide +kernel
theorem d_Fs_done_35 : decode m_Fs_done.2.1 35 = .ok (.ifCond .ne 15, 3) := by decide +kernel
theorem d_Fs_done_38 : decode m_Fs_done.2.1 38 = .ok (.aload_n 0, 1) := by decide +kernel
theorem d_Fs_done_39 : decode m_Fs_done.2.1 39 = .ok (.getfield 43, 3) := by decide +kernel
theorem d_Fs_done_42 : decode m_Fs_done.2.1 42 = .ok (.getfield 239, 3) := by decide +kernel
theorem d_Fs_done_45 : decode m_Fs_done.2.1 45 = .ok (.iload_n 1, 1) := by decide +kernel
theorem d_Fs_done_46 : decode m_Fs_done.2.1 46 = .ok (.iaload, 1) := by decide +kernel
theorem d_Fs_done_47 : decode m_Fs_done.2.1 47 = .ok (.goto 12, 3) := by decide +kernel
theorem d_Fs_done_50 : decode m_Fs_done.2.1 50 = .ok (.aload_n 0, 1) := by decide +kernel
theorem d_Fs_done_51 : decode m_Fs_done.2.1 51 = .ok (.getfield 43, 3) := by decide +kernel
theorem d_Fs_done_54 : decode m_Fs_done.2.1 54 = .ok (.getfield 242, 3) := by decide +kernel
theorem d_Fs_done_57 : decode m_Fs_done.2.1 57 = .ok (.iload_n 1, 1) := by decide +kernel
theorem d_Fs_done_58 : decode m_Fs_done.2.1 58 = .ok (.iaload, 1) := by decide +kernel
theorem d_Fs_done_59 : decode m_Fs_done.2.1 59 = .ok (.ireturn, 1) := by decide +kernel
theorem d_Course_run_0 : decode m_Course_run.2.1 0 = .ok (.aload_n 0, 1) := by decide +kernel
theorem d_Course_run_1 : decode m_Course_run.2.1 1 = .ok (.aload_n 1, 1) := by decide +kernel
theorem d_Course_run_2 : decode m_Course_run.2.1 2 = .ok (.iload_n 2, 1) := by decide +kernel
theorem d_Course_run_3 : decode m_Course_run.2.1 3 = .ok (.invokevirtual 45, 3) := by decide +kernel
theorem d_Course_run_6 : decode m_Course_run.2.1 6 = .ok (.aload_n 0, 1) := by decide +kernel
theorem d_Course_run_7 : decode m_Course_run.2.1 7 = .ok (.sipush 240, 3) := by decide +kernel
theorem d_Course_run_10 : decode m_Course_run.2.1 10 = .ok (.invokevirtual 49, 3) := by decide +kernel
theorem d_Course_run_13 : decode m_Course_run.2.1 13 = .ok (.return_, 1) := by decide +kernel
theorem d_Course_begin_0 : decode m_Course_begin.2.1 0 = .ok (.aload_n 0, 1) := by decide +kernel
theorem d_Course_begin_1 : decode m_Course_begin.2.1 1 = .ok (.aload_n 1, 1) := by decide +kernel
theorem d_Course_begin_2 : decode m_Course_begin.2.1 2 = .ok (.putfield 40, 3) := by decide +kernel
theorem d_Course_begin_5 : decode m_Course_begin.2.1 5 = .ok (.aload_n 0, 1) := by decide +kernel
theorem d_Course_begin_6 : decode m_Course_begin.2.1 6 = .ok (.iload_n 2, 1) := by decide +kernel
theorem d_Course_begin_7 : decode m_Course_begin.2.1 7 = .ok (.putfield 9, 3) := by decide +kernel
theorem d_Course_begin_10 : decode m_Course_begin.2.1 10 = .ok (.aload_n 0, 1) := by decide +kernel
theorem d_Course_begin_11 : decode m_Course_begin.2.1 11 = .ok (.iconst 0, 1) := by decide +kernel
theorem d_Course_begin_12 : decode m_Course_begin.2.1 12 = .ok (.putfield 33, 3) := by decide +kernel
theorem d_Course_begin_15 : decode m_Course_begin.2.1 15 = .ok (.iconst 0, 1) := by decide +kernel
theorem d_Course_begin_16 : decode m_Course_begin.2.1 16 = .ok (.istore_n 3, 1) := by decide +kernel
theorem d_Course_begin_17 : decode m_Course_begin.2.1 17 = .ok (.iload_n 3, 1) := by decide +kernel
theorem d_Course_begin_18 : decode m_Course_begin.2.1 18 = .ok (.aload_n 0, 1) := by decide +kernel
theorem d_Course_begin_19 : decode m_Course_begin.2.1 19 = .ok (.getfield 36, 3) := by decide +kernel
theorem d_Course_begin_22 : decode m_Course_begin.2.1 22 = .ok (.getfield 53, 3) := by decide +kernel
theorem d_Course_begin_25 : decode m_Course_begin.2.1 25 = .ok (.if_icmp .ge 49, 3) := by decide +kernel
theorem d_Course_begin_28 : decode m_Course_begin.2.1 28 = .ok (.aload_n 0, 1) := by decide +kernel
theorem d_Course_begin_29 : decode m_Course_begin.2.1 29 = .ok (.iload_n 3, 1) := by decide +kernel
theorem d_Course_begin_30 : decode m_Course_begin.2.1 30 = .ok (.invokevirtual 58, 3) := by decide +kernel
theorem d_Course_begin_33 : decode m_Course_begin.2.1 33 = .ok (.istore 4, 2) := by decide +kernel
theorem d_Course_begin_35 : decode m_Course_begin.2.1 35 = .ok (.aload_n 0, 1) := by decide +kernel
theorem d_Course_begin_36 : decode m_Course_begin.2.1 36 = .ok (.getfield 26, 3) := by decide +kernel
theorem d_Course_begin_39 : decode m_Course_begin.2.1 39 = .ok (.iload_n 3, 1) := by decide +kernel
theorem d_Course_begin_40 : decode m_Course_begin.2.1 40 = .ok (.iload 4, 2) := by decide +kernel
theorem d_Course_begin_42 : decode m_Course_begin.2.1 42 = .ok (.ifCond .eq 8, 3) := by decide +kernel
theorem d_Course_begin_45 : decode m_Course_begin.2.1 45 = .ok (.bipush (-2), 2) := by decide +kernel
theorem d_Course_begin_47 : decode m_Course_begin.2.1 47 = .ok (.goto 4, 3) := by decide +kernel
theorem d_Course_begin_50 : decode m_Course_begin.2.1 50 = .ok (.iconst (-1), 1) := by decide +kernel
theorem d_Course_begin_51 : decode m_Course_begin.2.1 51 = .ok (.iastore, 1) := by decide +kernel
theorem d_Course_begin_52 : decode m_Course_begin.2.1 52 = .ok (.aload_n 0, 1) := by decide +kernel
theorem d_Course_begin_53 : decode m_Course_begin.2.1 53 = .ok (.getfield 30, 3) := by decide +kernel
theorem d_Course_begin_56 : decode m_Course_begin.2.1 56 = .ok (.iload_n 3, 1) := by decide +kernel
theorem d_Course_begin_57 : decode m_Course_begin.2.1 57 = .ok (.iload 4, 2) := by decide +kernel
theorem d_Course_begin_59 : decode m_Course_begin.2.1 59 = .ok (.ifCond .eq 7, 3) := by decide +kernel
theorem d_Course_begin_62 : decode m_Course_begin.2.1 62 = .ok (.iconst 1, 1) := by decide +kernel
theorem d_Course_begin_63 : decode m_Course_begin.2.1 63 = .ok (.goto 4, 3) := by decide +kernel
theorem d_Course_begin_66 : decode m_Course_begin.2.1 66 = .ok (.iconst (-1), 1) := by decide +kernel
theorem d_Course_begin_67 : decode m_Course_begin.2.1 67 = .ok (.iastore, 1) := by decide +kernel
theorem d_Course_begin_68 : decode m_Course_begin.2.1 68 = .ok (.iinc 3 1, 3) := by decide +kernel
theorem d_Course_begin_71 : decode m_Course_begin.2.1 71 = .ok (.goto (-54), 3) := by decide +kernel
theorem d_Course_begin_74 : decode m_Course_begin.2.1 74 = .ok (.iconst 0, 1) := by decide +kernel
theorem d_Course_begin_75 : decode m_Course_begin.2.1 75 = .ok (.istore_n 3, 1) := by decide +kernel
theorem d_Course_begin_76 : decode m_Course_begin.2.1 76 = .ok (.iload_n 3, 1) := by decide +kernel
theorem d_Course_begin_77 : decode m_Course_begin.2.1 77 = .ok (.aload_n 0, 1) := by decide +kernel
theorem d_Course_begin_78 : decode m_Course_begin.2.1 78 = .ok (.getfield 36, 3) := by decide +kernel
theorem d_Course_begin_81 : decode m_Course_begin.2.1 81 = .ok (.getfield 62, 3) := by decide +kernel
theorem d_Course_begin_84 : decode m_Course_begin.2.1 84 = .ok (.if_icmp .ge 52, 3) := by decide +kernel
theorem d_Course_begin_87 : decode m_Course_begin.2.1 87 = .ok (.aload_n 0, 1) := by decide +kernel
theorem d_Course_begin_88 : decode m_Course_begin.2.1 88 = .ok (.getfield 17, 3) := by decide +kernel
theorem d_Course_begin_91 : decode m_Course_begin.2.1 91 = .ok (.iload_n 3, 1) := by decide +kernel
theorem d_Course_begin_92 : decode m_Course_begin.2.1 92 = .ok (.aaload, 1) := by decide +kernel
theorem d_Course_begin_93 : decode m_Course_begin.2.1 93 = .ok (.aload_n 0, 1) := by decide +kernel
theorem d_Course_begin_94 : decode m_Course_begin.2.1 94 = .ok (.getfield 36, 3) := by decide +kernel
theorem d_Course_begin_97 : decode m_Course_begin.2.1 97 = .ok (.getfield 65, 3) := by decide +kernel
theorem d_Course_begin_100 : decode m_Course_begin.2.1 100 = .ok (.iload_n 3, 1) := by decide +kernel
theorem d_Course_begin_101 : decode m_Course_begin.2.1 101 = .ok (.iaload, 1) := by decide +kernel
theorem d_Course_begin_102 : decode m_Course_begin.2.1 102 = .ok (.aload_n 0, 1) := by decide +kernel
theorem d_Course_begin_103 : decode m_Course_begin.2.1 103 = .ok (.getfield 36, 3) := by decide +kernel
theorem d_Course_begin_106 : decode m_Course_begin.2.1 106 = .ok (.getfield 68, 3) := by decide +kernel
theorem d_Course_begin_109 : decode m_Course_begin.2.1 109 = .ok (.iload_n 3, 1) := by decide +kernel
theorem d_Course_begin_110 : decode m_Course_begin.2.1 110 = .ok (.iaload, 1) := by decide +kernel
theorem d_Course_begin_111 : decode m_Course_begin.2.1 111 = .ok (.invokevirtual 71, 3) := by decide +kernel
theorem d_Course_begin_114 : decode m_Course_begin.2.1 114 = .ok (.aload_n 0, 1) := by decide +kernel
theorem d_Course_begin_115 : decode m_Course_begin.2.1 115 = .ok (.aload_n 0, 1) := by decide +kernel
theorem d_Course_begin_116 : decode m_Course_begin.2.1 116 = .ok (.getfield 17, 3) := by decide +kernel
theorem d_Course_begin_119 : decode m_Course_begin.2.1 119 = .ok (.iload_n 3, 1) := by decide +kernel
theorem d_Course_begin_120 : decode m_Course_begin.2.1 120 = .ok (.aaload, 1) := by decide +kernel
theorem d_Course_begin_121 : decode m_Course_begin.2.1 121 = .ok (.aload_n 1, 1) := by decide +kernel
theorem d_Course_begin_122 : decode m_Course_begin.2.1 122 = .ok (.iload_n 3, 1) := by decide +kernel
theorem d_Course_begin_123 : decode m_Course_begin.2.1 123 = .ok (.iconst 0, 1) := by decide +kernel
theorem d_Course_begin_124 : decode m_Course_begin.2.1 124 = .ok (.invokevirtual 74, 3) := by decide +kernel
theorem d_Course_begin_127 : decode m_Course_begin.2.1 127 = .ok (.invokevirtual 80, 3) := by decide +kernel
theorem d_Course_begin_130 : decode m_Course_begin.2.1 130 = .ok (.iinc 3 1, 3) := by decide +kernel
theorem d_Course_begin_133 : decode m_Course_begin.2.1 133 = .ok (.goto (-57), 3) := by decide +kernel
theorem d_Course_begin_136 : decode m_Course_begin.2.1 136 = .ok (.return_, 1) := by decide +kernel
theorem d_Course_isDoneByItself_0 : decode m_Course_isDoneByItself.2.1 0 = .ok (.aload_n 0, 1) := by decide +kernel
theorem d_Course_isDoneByItself_1 : decode m_Course_isDoneByItself.2.1 1 = .ok (.getfield 40, 3) := by decide +kernel
theorem d_Course_isDoneByItself_4 : decode m_Course_isDoneByItself.2.1 4 = .ok (.getfield 84, 3) := by decide +kernel
theorem d_Course_isDoneByItself_7 : decode m_Course_isDoneByItself.2.1 7 = .ok (.iload_n 1, 1) := by decide +kernel
theorem d_Course_isDoneByItself_8 : decode m_Course_isDoneByItself.2.1 8 = .ok (.invokestatic 87, 3) := by decide +kernel
theorem d_Course_isDoneByItself_11 : decode m_Course_isDoneByItself.2.1 11 = .ok (.iconst 1, 1) := by decide +kernel
theorem d_Course_isDoneByItself_12 : decode m_Course_isDoneByItself.2.1 12 = .ok (.if_icmp .ne 41, 3) := by decide +kernel
theorem d_Course_isDoneByItself_15 : decode m_Course_isDoneByItself.2.1 15 = .ok (.aload_n 0, 1) := by decide +kernel
theorem d_Course_isDoneByItself_16 : decode m_Course_isDoneByItself.2.1 16 = .ok (.getfield 9, 3) := by decide +kernel
theorem d_Course_isDoneByItself_19 : decode m_Course_isDoneByItself.2.1 19 = .ok (.iconst 5, 1) := by decide +kernel
theorem d_Course_isDoneByItself_20 : decode m_Course_isDoneByItself.2.1 20 = .ok (.if_icmp .eq 29, 3) := by decide +kernel
theorem d_Course_isDoneByItself_23 : decode m_Course_isDoneByItself.2.1 23 = .ok (.aload_n 0, 1) := by decide +kernel
theorem d_Course_isDoneByItself_24 : decode m_Course_isDoneByItself.2.1 24 = .ok (.getfield 36, 3) := by decide +kernel
theorem d_Course_isDoneByItself_27 : decode m_Course_isDoneByItself.2.1 27 = .ok (.getfield 90, 3) := by decide +kernel
theorem d_Course_isDoneByItself_30 : decode m_Course_isDoneByItself.2.1 30 = .ok (.iconst 1, 1) := by decide +kernel
theorem d_Course_isDoneByItself_31 : decode m_Course_isDoneByItself.2.1 31 = .ok (.iconst 0, 1) := by decide +kernel
theorem d_Course_isDoneByItself_32 : decode m_Course_isDoneByItself.2.1 32 = .ok (.iconst 0, 1) := by decide +kernel
theorem d_Course_isDoneByItself_33 : decode m_Course_isDoneByItself.2.1 33 = .ok (.aload_n 0, 1) := by decide +kernel
theorem d_Course_isDoneByItself_34 : decode m_Course_isDoneByItself.2.1 34 = .ok (.getfield 36, 3) := by decide +kernel
theorem d_Course_isDoneByItself_37 : decode m_Course_isDoneByItself.2.1 37 = .ok (.getfield 94, 3) := by decide +kernel
theorem d_Course_isDoneByItself_40 : decode m_Course_isDoneByItself.2.1 40 = .ok (.iload_n 1, 1) := by decide +kernel
theorem d_Course_isDoneByItself_41 : decode m_Course_isDoneByItself.2.1 41 = .ok (.iaload, 1) := by decide +kernel
theorem d_Course_isDoneByItself_42 : decode m_Course_isDoneByItself.2.1 42 = .ok (.iconst 1, 1) := by decide +kernel
theorem d_Course_isDoneByItself_43 : decode m_Course_isDoneByItself.2.1 43 = .ok (.invokevirtual 97, 3) := by decide +kernel
theorem d_Course_isDoneByItself_46 : decode m_Course_isDoneByItself.2.1 46 = .ok (.ifCond .eq 7, 3) := by decide +kernel
theorem d_Course_isDoneByItself_49 : decode m_Course_isDoneByItself.2.1 49 = .ok (.iconst 1, 1) := by decide +kernel
theorem d_Course_isDoneByItself_50 : decode m_Course_isDoneByItself.2.1 50 = .ok (.goto 4, 3) := by decide +kernel
theorem d_Course_isDoneByItself_53 : decode m_Course_isDoneByItself.2.1 53 = .ok (.iconst 0, 1) := by decide +kernel
theorem d_Course_isDoneByItself_54 : decode m_Course_isDoneByItself.2.1 54 = .ok (.ireturn, 1) := by decide +kernel
theorem d_Goer_begin_0 : decode m_Goer_begin.2.1 0 = .ok (.aload_n 0, 1) := by decide +kernel
