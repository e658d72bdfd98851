-- ===== printed by program (wip/whole/gen11.py): what stands at each place of a method =====
theorem d_Goer_begin_1 : decode m_Goer_begin.2.1 1 = .ok (.iload_n 1, 1) := by decide +kernel
theorem d_Goer_begin_2 : decode m_Goer_begin.2.1 2 = .ok (.putfield 7, 3) := by decide +kernel
theorem d_Goer_begin_5 : decode m_Goer_begin.2.1 5 = .ok (.aload_n 0, 1) := by decide +kernel
theorem d_Goer_begin_6 : decode m_Goer_begin.2.1 6 = .ok (.iload_n 2, 1) := by decide +kernel
theorem d_Goer_begin_7 : decode m_Goer_begin.2.1 7 = .ok (.putfield 19, 3) := by decide +kernel
theorem d_Goer_begin_10 : decode m_Goer_begin.2.1 10 = .ok (.aload_n 0, 1) := by decide +kernel
theorem d_Goer_begin_11 : decode m_Goer_begin.2.1 11 = .ok (.iconst 1, 1) := by decide +kernel
theorem d_Goer_begin_12 : decode m_Goer_begin.2.1 12 = .ok (.putfield 13, 3) := by decide +kernel
theorem d_Goer_begin_15 : decode m_Goer_begin.2.1 15 = .ok (.aload_n 0, 1) := by decide +kernel
theorem d_Goer_begin_16 : decode m_Goer_begin.2.1 16 = .ok (.iconst 0, 1) := by decide +kernel
theorem d_Goer_begin_17 : decode m_Goer_begin.2.1 17 = .ok (.putfield 16, 3) := by decide +kernel
theorem d_Goer_begin_20 : decode m_Goer_begin.2.1 20 = .ok (.aload_n 0, 1) := by decide +kernel
theorem d_Goer_begin_21 : decode m_Goer_begin.2.1 21 = .ok (.iconst 0, 1) := by decide +kernel
theorem d_Goer_begin_22 : decode m_Goer_begin.2.1 22 = .ok (.putfield 22, 3) := by decide +kernel
theorem d_Goer_begin_25 : decode m_Goer_begin.2.1 25 = .ok (.aload_n 0, 1) := by decide +kernel
theorem d_Goer_begin_26 : decode m_Goer_begin.2.1 26 = .ok (.iconst 0, 1) := by decide +kernel
theorem d_Goer_begin_27 : decode m_Goer_begin.2.1 27 = .ok (.putfield 25, 3) := by decide +kernel
theorem d_Goer_begin_30 : decode m_Goer_begin.2.1 30 = .ok (.aload_n 0, 1) := by decide +kernel
theorem d_Goer_begin_31 : decode m_Goer_begin.2.1 31 = .ok (.iconst 0, 1) := by decide +kernel
theorem d_Goer_begin_32 : decode m_Goer_begin.2.1 32 = .ok (.putfield 28, 3) := by decide +kernel
theorem d_Goer_begin_35 : decode m_Goer_begin.2.1 35 = .ok (.return_, 1) := by decide +kernel
theorem d_Plan_houseOf_0 : decode m_Plan_houseOf.2.1 0 = .ok (.iload_n 2, 1) := by decide +kernel
theorem d_Plan_houseOf_1 : decode m_Plan_houseOf.2.1 1 = .ok (.aload_n 0, 1) := by decide +kernel
theorem d_Plan_houseOf_2 : decode m_Plan_houseOf.2.1 2 = .ok (.getfield 16, 3) := by decide +kernel
theorem d_Plan_houseOf_5 : decode m_Plan_houseOf.2.1 5 = .ok (.iload_n 1, 1) := by decide +kernel
theorem d_Plan_houseOf_6 : decode m_Plan_houseOf.2.1 6 = .ok (.iaload, 1) := by decide +kernel
theorem d_Plan_houseOf_7 : decode m_Plan_houseOf.2.1 7 = .ok (.if_icmp .ge 14, 3) := by decide +kernel
theorem d_Plan_houseOf_10 : decode m_Plan_houseOf.2.1 10 = .ok (.aload_n 0, 1) := by decide +kernel
theorem d_Plan_houseOf_11 : decode m_Plan_houseOf.2.1 11 = .ok (.getfield 11, 3) := by decide +kernel
theorem d_Plan_houseOf_14 : decode m_Plan_houseOf.2.1 14 = .ok (.iload_n 1, 1) := by decide +kernel
theorem d_Plan_houseOf_15 : decode m_Plan_houseOf.2.1 15 = .ok (.aaload, 1) := by decide +kernel
theorem d_Plan_houseOf_16 : decode m_Plan_houseOf.2.1 16 = .ok (.iload_n 2, 1) := by decide +kernel
theorem d_Plan_houseOf_17 : decode m_Plan_houseOf.2.1 17 = .ok (.iaload, 1) := by decide +kernel
theorem d_Plan_houseOf_18 : decode m_Plan_houseOf.2.1 18 = .ok (.goto 4, 3) := by decide +kernel
theorem d_Plan_houseOf_21 : decode m_Plan_houseOf.2.1 21 = .ok (.iconst (-1), 1) := by decide +kernel
theorem d_Plan_houseOf_22 : decode m_Plan_houseOf.2.1 22 = .ok (.ireturn, 1) := by decide +kernel
theorem d_Course_setOut_0 : decode m_Course_setOut.2.1 0 = .ok (.iload_n 2, 1) := by decide +kernel
theorem d_Course_setOut_1 : decode m_Course_setOut.2.1 1 = .ok (.iconst (-1), 1) := by decide +kernel
theorem d_Course_setOut_2 : decode m_Course_setOut.2.1 2 = .ok (.if_icmp .ne 11, 3) := by decide +kernel
theorem d_Course_setOut_5 : decode m_Course_setOut.2.1 5 = .ok (.aload_n 1, 1) := by decide +kernel
theorem d_Course_setOut_6 : decode m_Course_setOut.2.1 6 = .ok (.sipush 1000, 3) := by decide +kernel
theorem d_Course_setOut_9 : decode m_Course_setOut.2.1 9 = .ok (.putfield 103, 3) := by decide +kernel
theorem d_Course_setOut_12 : decode m_Course_setOut.2.1 12 = .ok (.return_, 1) := by decide +kernel
theorem d_Course_setOut_13 : decode m_Course_setOut.2.1 13 = .ok (.aload_n 0, 1) := by decide +kernel
theorem d_Course_setOut_14 : decode m_Course_setOut.2.1 14 = .ok (.getfield 9, 3) := by decide +kernel
theorem d_Course_setOut_17 : decode m_Course_setOut.2.1 17 = .ok (.iconst 2, 1) := by decide +kernel
theorem d_Course_setOut_18 : decode m_Course_setOut.2.1 18 = .ok (.if_icmp .ne 7, 3) := by decide +kernel
theorem d_Course_setOut_21 : decode m_Course_setOut.2.1 21 = .ok (.iconst 0, 1) := by decide +kernel
theorem d_Course_setOut_22 : decode m_Course_setOut.2.1 22 = .ok (.goto 17, 3) := by decide +kernel
theorem d_Course_setOut_25 : decode m_Course_setOut.2.1 25 = .ok (.aload_n 0, 1) := by decide +kernel
theorem d_Course_setOut_26 : decode m_Course_setOut.2.1 26 = .ok (.getfield 36, 3) := by decide +kernel
theorem d_Course_setOut_29 : decode m_Course_setOut.2.1 29 = .ok (.getfield 106, 3) := by decide +kernel
theorem d_Course_setOut_32 : decode m_Course_setOut.2.1 32 = .ok (.iload_n 2, 1) := by decide +kernel
theorem d_Course_setOut_33 : decode m_Course_setOut.2.1 33 = .ok (.iaload, 1) := by decide +kernel
theorem d_Course_setOut_34 : decode m_Course_setOut.2.1 34 = .ok (.aload_n 1, 1) := by decide +kernel
theorem d_Course_setOut_35 : decode m_Course_setOut.2.1 35 = .ok (.getfield 109, 3) := by decide +kernel
theorem d_Course_setOut_38 : decode m_Course_setOut.2.1 38 = .ok (.isub, 1) := by decide +kernel
theorem d_Course_setOut_39 : decode m_Course_setOut.2.1 39 = .ok (.istore_n 3, 1) := by decide +kernel
theorem d_Course_setOut_40 : decode m_Course_setOut.2.1 40 = .ok (.aload_n 0, 1) := by decide +kernel
theorem d_Course_setOut_41 : decode m_Course_setOut.2.1 41 = .ok (.getfield 36, 3) := by decide +kernel
theorem d_Course_setOut_44 : decode m_Course_setOut.2.1 44 = .ok (.getfield 90, 3) := by decide +kernel
theorem d_Course_setOut_47 : decode m_Course_setOut.2.1 47 = .ok (.iload_n 3, 1) := by decide +kernel
theorem d_Course_setOut_48 : decode m_Course_setOut.2.1 48 = .ok (.aload_n 1, 1) := by decide +kernel
theorem d_Course_setOut_49 : decode m_Course_setOut.2.1 49 = .ok (.getfield 112, 3) := by decide +kernel
theorem d_Course_setOut_52 : decode m_Course_setOut.2.1 52 = .ok (.aload_n 1, 1) := by decide +kernel
theorem d_Course_setOut_53 : decode m_Course_setOut.2.1 53 = .ok (.getfield 115, 3) := by decide +kernel
theorem d_Course_setOut_56 : decode m_Course_setOut.2.1 56 = .ok (.aload_n 1, 1) := by decide +kernel
theorem d_Course_setOut_57 : decode m_Course_setOut.2.1 57 = .ok (.getfield 118, 3) := by decide +kernel
theorem d_Course_setOut_60 : decode m_Course_setOut.2.1 60 = .ok (.aload_n 0, 1) := by decide +kernel
theorem d_Course_setOut_61 : decode m_Course_setOut.2.1 61 = .ok (.getfield 36, 3) := by decide +kernel
theorem d_Course_setOut_64 : decode m_Course_setOut.2.1 64 = .ok (.getfield 94, 3) := by decide +kernel
theorem d_Course_setOut_67 : decode m_Course_setOut.2.1 67 = .ok (.iload_n 2, 1) := by decide +kernel
theorem d_Course_setOut_68 : decode m_Course_setOut.2.1 68 = .ok (.iaload, 1) := by decide +kernel
theorem d_Course_setOut_69 : decode m_Course_setOut.2.1 69 = .ok (.invokevirtual 121, 3) := by decide +kernel
theorem d_Course_setOut_72 : decode m_Course_setOut.2.1 72 = .ok (.istore 4, 2) := by decide +kernel
theorem d_Course_setOut_74 : decode m_Course_setOut.2.1 74 = .ok (.aload_n 1, 1) := by decide +kernel
theorem d_Course_setOut_75 : decode m_Course_setOut.2.1 75 = .ok (.aload_n 1, 1) := by decide +kernel
theorem d_Course_setOut_76 : decode m_Course_setOut.2.1 76 = .ok (.getfield 112, 3) := by decide +kernel
theorem d_Course_setOut_79 : decode m_Course_setOut.2.1 79 = .ok (.iload 4, 2) := by decide +kernel
theorem d_Course_setOut_81 : decode m_Course_setOut.2.1 81 = .ok (.iadd, 1) := by decide +kernel
theorem d_Course_setOut_82 : decode m_Course_setOut.2.1 82 = .ok (.sipush 240, 3) := by decide +kernel
theorem d_Course_setOut_85 : decode m_Course_setOut.2.1 85 = .ok (.if_icmp .le 9, 3) := by decide +kernel
theorem d_Course_setOut_88 : decode m_Course_setOut.2.1 88 = .ok (.sipush 1000, 3) := by decide +kernel
theorem d_Course_setOut_91 : decode m_Course_setOut.2.1 91 = .ok (.goto 10, 3) := by decide +kernel
theorem d_Course_setOut_94 : decode m_Course_setOut.2.1 94 = .ok (.aload_n 1, 1) := by decide +kernel
theorem d_Course_setOut_95 : decode m_Course_setOut.2.1 95 = .ok (.getfield 112, 3) := by decide +kernel
theorem d_Course_setOut_98 : decode m_Course_setOut.2.1 98 = .ok (.iload 4, 2) := by decide +kernel
theorem d_Course_setOut_100 : decode m_Course_setOut.2.1 100 = .ok (.iadd, 1) := by decide +kernel
theorem d_Course_setOut_101 : decode m_Course_setOut.2.1 101 = .ok (.putfield 103, 3) := by decide +kernel
theorem d_Course_setOut_104 : decode m_Course_setOut.2.1 104 = .ok (.return_, 1) := by decide +kernel
theorem d_Course_comeUntil_0 : decode m_Course_comeUntil.2.1 0 = .ok (.iconst 0, 1) := by decide +kernel
theorem d_Course_comeUntil_1 : decode m_Course_comeUntil.2.1 1 = .ok (.istore_n 2, 1) := by decide +kernel
theorem d_Course_comeUntil_2 : decode m_Course_comeUntil.2.1 2 = .ok (.iload_n 2, 1) := by decide +kernel
theorem d_Course_comeUntil_3 : decode m_Course_comeUntil.2.1 3 = .ok (.bipush 27, 2) := by decide +kernel
theorem d_Course_comeUntil_5 : decode m_Course_comeUntil.2.1 5 = .ok (.if_icmp .gt 168, 3) := by decide +kernel
theorem d_Course_comeUntil_8 : decode m_Course_comeUntil.2.1 8 = .ok (.aload_n 0, 1) := by decide +kernel
theorem d_Course_comeUntil_9 : decode m_Course_comeUntil.2.1 9 = .ok (.invokevirtual 125, 3) := by decide +kernel
theorem d_Course_comeUntil_12 : decode m_Course_comeUntil.2.1 12 = .ok (.istore_n 3, 1) := by decide +kernel
theorem d_Course_comeUntil_13 : decode m_Course_comeUntil.2.1 13 = .ok (.iload_n 3, 1) := by decide +kernel
theorem d_Course_comeUntil_14 : decode m_Course_comeUntil.2.1 14 = .ok (.iconst (-1), 1) := by decide +kernel
theorem d_Course_comeUntil_15 : decode m_Course_comeUntil.2.1 15 = .ok (.if_icmp .eq 16, 3) := by decide +kernel
theorem d_Course_comeUntil_18 : decode m_Course_comeUntil.2.1 18 = .ok (.aload_n 0, 1) := by decide +kernel
theorem d_Course_comeUntil_19 : decode m_Course_comeUntil.2.1 19 = .ok (.getfield 17, 3) := by decide +kernel
theorem d_Course_comeUntil_22 : decode m_Course_comeUntil.2.1 22 = .ok (.iload_n 3, 1) := by decide +kernel
theorem d_Course_comeUntil_23 : decode m_Course_comeUntil.2.1 23 = .ok (.aaload, 1) := by decide +kernel
theorem d_Course_comeUntil_24 : decode m_Course_comeUntil.2.1 24 = .ok (.getfield 103, 3) := by decide +kernel
theorem d_Course_comeUntil_27 : decode m_Course_comeUntil.2.1 27 = .ok (.iload_n 1, 1) := by decide +kernel
theorem d_Course_comeUntil_28 : decode m_Course_comeUntil.2.1 28 = .ok (.if_icmp .le 4, 3) := by decide +kernel
theorem d_Course_comeUntil_31 : decode m_Course_comeUntil.2.1 31 = .ok (.return_, 1) := by decide +kernel
theorem d_Course_comeUntil_32 : decode m_Course_comeUntil.2.1 32 = .ok (.aload_n 0, 1) := by decide +kernel
theorem d_Course_comeUntil_33 : decode m_Course_comeUntil.2.1 33 = .ok (.getfield 17, 3) := by decide +kernel
theorem d_Course_comeUntil_36 : decode m_Course_comeUntil.2.1 36 = .ok (.iload_n 3, 1) := by decide +kernel
theorem d_Course_comeUntil_37 : decode m_Course_comeUntil.2.1 37 = .ok (.aaload, 1) := by decide +kernel
theorem d_Course_comeUntil_38 : decode m_Course_comeUntil.2.1 38 = .ok (.astore 4, 2) := by decide +kernel
theorem d_Course_comeUntil_40 : decode m_Course_comeUntil.2.1 40 = .ok (.aload_n 0, 1) := by decide +kernel
theorem d_Course_comeUntil_41 : decode m_Course_comeUntil.2.1 41 = .ok (.getfield 40, 3) := by decide +kernel
theorem d_Course_comeUntil_44 : decode m_Course_comeUntil.2.1 44 = .ok (.getfield 129, 3) := by decide +kernel
theorem d_Course_comeUntil_47 : decode m_Course_comeUntil.2.1 47 = .ok (.iload_n 3, 1) := by decide +kernel
theorem d_Course_comeUntil_48 : decode m_Course_comeUntil.2.1 48 = .ok (.aaload, 1) := by decide +kernel
theorem d_Course_comeUntil_49 : decode m_Course_comeUntil.2.1 49 = .ok (.aload 4, 2) := by decide +kernel
theorem d_Course_comeUntil_51 : decode m_Course_comeUntil.2.1 51 = .ok (.getfield 132, 3) := by decide +kernel
theorem d_Course_comeUntil_54 : decode m_Course_comeUntil.2.1 54 = .ok (.iaload, 1) := by decide +kernel
theorem d_Course_comeUntil_55 : decode m_Course_comeUntil.2.1 55 = .ok (.istore 5, 2) := by decide +kernel
theorem d_Course_comeUntil_57 : decode m_Course_comeUntil.2.1 57 = .ok (.aload_n 0, 1) := by decide +kernel
theorem d_Course_comeUntil_58 : decode m_Course_comeUntil.2.1 58 = .ok (.getfield 23, 3) := by decide +kernel
theorem d_Course_comeUntil_61 : decode m_Course_comeUntil.2.1 61 = .ok (.iload_n 3, 1) := by decide +kernel
theorem d_Course_comeUntil_62 : decode m_Course_comeUntil.2.1 62 = .ok (.aaload, 1) := by decide +kernel
theorem d_Course_comeUntil_63 : decode m_Course_comeUntil.2.1 63 = .ok (.aload 4, 2) := by decide +kernel
theorem d_Course_comeUntil_65 : decode m_Course_comeUntil.2.1 65 = .ok (.getfield 132, 3) := by decide +kernel
theorem d_Course_comeUntil_68 : decode m_Course_comeUntil.2.1 68 = .ok (.aload 4, 2) := by decide +kernel
theorem d_Course_comeUntil_70 : decode m_Course_comeUntil.2.1 70 = .ok (.getfield 103, 3) := by decide +kernel
theorem d_Course_comeUntil_73 : decode m_Course_comeUntil.2.1 73 = .ok (.iastore, 1) := by decide +kernel
theorem d_Course_comeUntil_74 : decode m_Course_comeUntil.2.1 74 = .ok (.aload_n 0, 1) := by decide +kernel
theorem d_Course_comeUntil_75 : decode m_Course_comeUntil.2.1 75 = .ok (.aload 4, 2) := by decide +kernel
theorem d_Course_comeUntil_77 : decode m_Course_comeUntil.2.1 77 = .ok (.iload 5, 2) := by decide +kernel
theorem d_Course_comeUntil_79 : decode m_Course_comeUntil.2.1 79 = .ok (.aload_n 0, 1) := by decide +kernel
theorem d_Course_comeUntil_80 : decode m_Course_comeUntil.2.1 80 = .ok (.getfield 26, 3) := by decide +kernel
theorem d_Course_comeUntil_83 : decode m_Course_comeUntil.2.1 83 = .ok (.iload 5, 2) := by decide +kernel
theorem d_Course_comeUntil_85 : decode m_Course_comeUntil.2.1 85 = .ok (.iaload, 1) := by decide +kernel
theorem d_Course_comeUntil_86 : decode m_Course_comeUntil.2.1 86 = .ok (.iconst (-1), 1) := by decide +kernel
theorem d_Course_comeUntil_87 : decode m_Course_comeUntil.2.1 87 = .ok (.if_icmp .ne 7, 3) := by decide +kernel
theorem d_Course_comeUntil_90 : decode m_Course_comeUntil.2.1 90 = .ok (.iconst 1, 1) := by decide +kernel
theorem d_Course_comeUntil_91 : decode m_Course_comeUntil.2.1 91 = .ok (.goto 4, 3) := by decide +kernel
theorem d_Course_comeUntil_94 : decode m_Course_comeUntil.2.1 94 = .ok (.iconst 0, 1) := by decide +kernel
theorem d_Course_comeUntil_95 : decode m_Course_comeUntil.2.1 95 = .ok (.invokevirtual 135, 3) := by decide +kernel
theorem d_Course_comeUntil_98 : decode m_Course_comeUntil.2.1 98 = .ok (.ifCond .eq 26, 3) := by decide +kernel
theorem d_Course_comeUntil_101 : decode m_Course_comeUntil.2.1 101 = .ok (.aload_n 0, 1) := by decide +kernel
theorem d_Course_comeUntil_102 : decode m_Course_comeUntil.2.1 102 = .ok (.getfield 26, 3) := by decide +kernel
theorem d_Course_comeUntil_105 : decode m_Course_comeUntil.2.1 105 = .ok (.iload 5, 2) := by decide +kernel
theorem d_Course_comeUntil_107 : decode m_Course_comeUntil.2.1 107 = .ok (.iload_n 3, 1) := by decide +kernel
theorem d_Course_comeUntil_108 : decode m_Course_comeUntil.2.1 108 = .ok (.iastore, 1) := by decide +kernel
theorem d_Course_comeUntil_109 : decode m_Course_comeUntil.2.1 109 = .ok (.aload_n 0, 1) := by decide +kernel
theorem d_Course_comeUntil_110 : decode m_Course_comeUntil.2.1 110 = .ok (.getfield 30, 3) := by decide +kernel
theorem d_Course_comeUntil_113 : decode m_Course_comeUntil.2.1 113 = .ok (.iload 5, 2) := by decide +kernel
theorem d_Course_comeUntil_115 : decode m_Course_comeUntil.2.1 115 = .ok (.aload 4, 2) := by decide +kernel
theorem d_Course_comeUntil_117 : decode m_Course_comeUntil.2.1 117 = .ok (.getfield 103, 3) := by decide +kernel
theorem d_Course_comeUntil_120 : decode m_Course_comeUntil.2.1 120 = .ok (.iastore, 1) := by decide +kernel
theorem d_Course_comeUntil_121 : decode m_Course_comeUntil.2.1 121 = .ok (.goto 16, 3) := by decide +kernel
theorem d_Course_comeUntil_124 : decode m_Course_comeUntil.2.1 124 = .ok (.aload_n 0, 1) := by decide +kernel
theorem d_Course_comeUntil_125 : decode m_Course_comeUntil.2.1 125 = .ok (.dup, 1) := by decide +kernel
theorem d_Course_comeUntil_126 : decode m_Course_comeUntil.2.1 126 = .ok (.getfield 33, 3) := by decide +kernel
theorem d_Course_comeUntil_129 : decode m_Course_comeUntil.2.1 129 = .ok (.iconst 1, 1) := by decide +kernel
theorem d_Course_comeUntil_130 : decode m_Course_comeUntil.2.1 130 = .ok (.iload 5, 2) := by decide +kernel
theorem d_Course_comeUntil_132 : decode m_Course_comeUntil.2.1 132 = .ok (.ishl, 1) := by decide +kernel
theorem d_Course_comeUntil_133 : decode m_Course_comeUntil.2.1 133 = .ok (.ior, 1) := by decide +kernel
theorem d_Course_comeUntil_134 : decode m_Course_comeUntil.2.1 134 = .ok (.putfield 33, 3) := by decide +kernel
theorem d_Course_comeUntil_137 : decode m_Course_comeUntil.2.1 137 = .ok (.aload 4, 2) := by decide +kernel
theorem d_Course_comeUntil_139 : decode m_Course_comeUntil.2.1 139 = .ok (.dup, 1) := by decide +kernel
theorem d_Course_comeUntil_140 : decode m_Course_comeUntil.2.1 140 = .ok (.getfield 132, 3) := by decide +kernel
theorem d_Course_comeUntil_143 : decode m_Course_comeUntil.2.1 143 = .ok (.iconst 1, 1) := by decide +kernel
theorem d_Course_comeUntil_144 : decode m_Course_comeUntil.2.1 144 = .ok (.iadd, 1) := by decide +kernel
theorem d_Course_comeUntil_145 : decode m_Course_comeUntil.2.1 145 = .ok (.putfield 132, 3) := by decide +kernel
theorem d_Course_comeUntil_148 : decode m_Course_comeUntil.2.1 148 = .ok (.aload_n 0, 1) := by decide +kernel
theorem d_Course_comeUntil_149 : decode m_Course_comeUntil.2.1 149 = .ok (.aload 4, 2) := by decide +kernel
theorem d_Course_comeUntil_151 : decode m_Course_comeUntil.2.1 151 = .ok (.aload_n 0, 1) := by decide +kernel
theorem d_Course_comeUntil_152 : decode m_Course_comeUntil.2.1 152 = .ok (.getfield 40, 3) := by decide +kernel
theorem d_Course_comeUntil_155 : decode m_Course_comeUntil.2.1 155 = .ok (.iload_n 3, 1) := by decide +kernel
theorem d_Course_comeUntil_156 : decode m_Course_comeUntil.2.1 156 = .ok (.aload 4, 2) := by decide +kernel
theorem d_Course_comeUntil_158 : decode m_Course_comeUntil.2.1 158 = .ok (.getfield 132, 3) := by decide +kernel
theorem d_Course_comeUntil_161 : decode m_Course_comeUntil.2.1 161 = .ok (.invokevirtual 74, 3) := by decide +kernel
theorem d_Course_comeUntil_164 : decode m_Course_comeUntil.2.1 164 = .ok (.invokevirtual 80, 3) := by decide +kernel
theorem d_Course_comeUntil_167 : decode m_Course_comeUntil.2.1 167 = .ok (.iinc 2 1, 3) := by decide +kernel
theorem d_Course_comeUntil_170 : decode m_Course_comeUntil.2.1 170 = .ok (.goto (-168), 3) := by decide +kernel
theorem d_Course_comeUntil_173 : decode m_Course_comeUntil.2.1 173 = .ok (.return_, 1) := by decide +kernel
theorem d_Course_firstToCome_0 : decode m_Course_firstToCome.2.1 0 = .ok (.iconst (-1), 1) := by decide +kernel
theorem d_Course_firstToCome_1 : decode m_Course_firstToCome.2.1 1 = .ok (.istore_n 1, 1) := by decide +kernel
theorem d_Course_firstToCome_2 : decode m_Course_firstToCome.2.1 2 = .ok (.sipush 1000, 3) := by decide +kernel
theorem d_Course_firstToCome_5 : decode m_Course_firstToCome.2.1 5 = .ok (.istore_n 2, 1) := by decide +kernel
theorem d_Course_firstToCome_6 : decode m_Course_firstToCome.2.1 6 = .ok (.iconst 0, 1) := by decide +kernel
theorem d_Course_firstToCome_7 : decode m_Course_firstToCome.2.1 7 = .ok (.istore_n 3, 1) := by decide +kernel
theorem d_Course_firstToCome_8 : decode m_Course_firstToCome.2.1 8 = .ok (.iload_n 3, 1) := by decide +kernel
theorem d_Course_firstToCome_9 : decode m_Course_firstToCome.2.1 9 = .ok (.aload_n 0, 1) := by decide +kernel
theorem d_Course_firstToCome_10 : decode m_Course_firstToCome.2.1 10 = .ok (.getfield 36, 3) := by decide +kernel
theorem d_Course_firstToCome_13 : decode m_Course_firstToCome.2.1 13 = .ok (.getfield 62, 3) := by decide +kernel
theorem d_Course_firstToCome_16 : decode m_Course_firstToCome.2.1 16 = .ok (.if_icmp .ge 34, 3) := by decide +kernel
theorem d_Course_firstToCome_19 : decode m_Course_firstToCome.2.1 19 = .ok (.aload_n 0, 1) := by decide +kernel
theorem d_Course_firstToCome_20 : decode m_Course_firstToCome.2.1 20 = .ok (.getfield 17, 3) := by decide +kernel
theorem d_Course_firstToCome_23 : decode m_Course_firstToCome.2.1 23 = .ok (.iload_n 3, 1) := by decide +kernel
theorem d_Course_firstToCome_24 : decode m_Course_firstToCome.2.1 24 = .ok (.aaload, 1) := by decide +kernel
theorem d_Course_firstToCome_25 : decode m_Course_firstToCome.2.1 25 = .ok (.getfield 103, 3) := by decide +kernel
theorem d_Course_firstToCome_28 : decode m_Course_firstToCome.2.1 28 = .ok (.iload_n 2, 1) := by decide +kernel
theorem d_Course_firstToCome_29 : decode m_Course_firstToCome.2.1 29 = .ok (.if_icmp .ge 15, 3) := by decide +kernel
theorem d_Course_firstToCome_32 : decode m_Course_firstToCome.2.1 32 = .ok (.iload_n 3, 1) := by decide +kernel
theorem d_Course_firstToCome_33 : decode m_Course_firstToCome.2.1 33 = .ok (.istore_n 1, 1) := by decide +kernel
theorem d_Course_firstToCome_34 : decode m_Course_firstToCome.2.1 34 = .ok (.aload_n 0, 1) := by decide +kernel
theorem d_Course_firstToCome_35 : decode m_Course_firstToCome.2.1 35 = .ok (.getfield 17, 3) := by decide +kernel
theorem d_Course_firstToCome_38 : decode m_Course_firstToCome.2.1 38 = .ok (.iload_n 3, 1) := by decide +kernel
theorem d_Course_firstToCome_39 : decode m_Course_firstToCome.2.1 39 = .ok (.aaload, 1) := by decide +kernel
theorem d_Course_firstToCome_40 : decode m_Course_firstToCome.2.1 40 = .ok (.getfield 103, 3) := by decide +kernel
theorem d_Course_firstToCome_43 : decode m_Course_firstToCome.2.1 43 = .ok (.istore_n 2, 1) := by decide +kernel
theorem d_Course_firstToCome_44 : decode m_Course_firstToCome.2.1 44 = .ok (.iinc 3 1, 3) := by decide +kernel
theorem d_Course_firstToCome_47 : decode m_Course_firstToCome.2.1 47 = .ok (.goto (-39), 3) := by decide +kernel
theorem d_Course_firstToCome_50 : decode m_Course_firstToCome.2.1 50 = .ok (.iload_n 1, 1) := by decide +kernel
theorem d_Course_firstToCome_51 : decode m_Course_firstToCome.2.1 51 = .ok (.ireturn, 1) := by decide +kernel
theorem d_Course_doesIt_0 : decode m_Course_doesIt.2.1 0 = .ok (.aload_n 1, 1) := by decide +kernel
theorem d_Course_doesIt_1 : decode m_Course_doesIt.2.1 1 = .ok (.getfield 103, 3) := by decide +kernel
theorem d_Course_doesIt_4 : decode m_Course_doesIt.2.1 4 = .ok (.istore 4, 2) := by decide +kernel
theorem d_Course_doesIt_6 : decode m_Course_doesIt.2.1 6 = .ok (.aload_n 0, 1) := by decide +kernel
theorem d_Course_doesIt_7 : decode m_Course_doesIt.2.1 7 = .ok (.getfield 36, 3) := by decide +kernel
theorem d_Course_doesIt_10 : decode m_Course_doesIt.2.1 10 = .ok (.getfield 94, 3) := by decide +kernel
theorem d_Course_doesIt_13 : decode m_Course_doesIt.2.1 13 = .ok (.iload_n 2, 1) := by decide +kernel
theorem d_Course_doesIt_14 : decode m_Course_doesIt.2.1 14 = .ok (.iaload, 1) := by decide +kernel
theorem d_Course_doesIt_15 : decode m_Course_doesIt.2.1 15 = .ok (.istore 5, 2) := by decide +kernel
theorem d_Course_doesIt_17 : decode m_Course_doesIt.2.1 17 = .ok (.aload_n 0, 1) := by decide +kernel
theorem d_Course_doesIt_18 : decode m_Course_doesIt.2.1 18 = .ok (.getfield 36, 3) := by decide +kernel
theorem d_Course_doesIt_21 : decode m_Course_doesIt.2.1 21 = .ok (.getfield 90, 3) := by decide +kernel
theorem d_Course_doesIt_24 : decode m_Course_doesIt.2.1 24 = .ok (.astore 6, 2) := by decide +kernel
theorem d_Course_doesIt_26 : decode m_Course_doesIt.2.1 26 = .ok (.aload_n 1, 1) := by decide +kernel
theorem d_Course_doesIt_27 : decode m_Course_doesIt.2.1 27 = .ok (.aload_n 0, 1) := by decide +kernel
theorem d_Course_doesIt_28 : decode m_Course_doesIt.2.1 28 = .ok (.getfield 36, 3) := by decide +kernel
theorem d_Course_doesIt_31 : decode m_Course_doesIt.2.1 31 = .ok (.getfield 106, 3) := by decide +kernel
theorem d_Course_doesIt_34 : decode m_Course_doesIt.2.1 34 = .ok (.iload_n 2, 1) := by decide +kernel
theorem d_Course_doesIt_35 : decode m_Course_doesIt.2.1 35 = .ok (.iaload, 1) := by decide +kernel
theorem d_Course_doesIt_36 : decode m_Course_doesIt.2.1 36 = .ok (.putfield 109, 3) := by decide +kernel
theorem d_Course_doesIt_39 : decode m_Course_doesIt.2.1 39 = .ok (.aload_n 1, 1) := by decide +kernel
theorem d_Course_doesIt_40 : decode m_Course_doesIt.2.1 40 = .ok (.iload 4, 2) := by decide +kernel
theorem d_Course_doesIt_42 : decode m_Course_doesIt.2.1 42 = .ok (.putfield 112, 3) := by decide +kernel
theorem d_Course_doesIt_45 : decode m_Course_doesIt.2.1 45 = .ok (.iload_n 3, 1) := by decide +kernel
theorem d_Course_doesIt_46 : decode m_Course_doesIt.2.1 46 = .ok (.ifCond .eq 39, 3) := by decide +kernel
theorem d_Course_doesIt_49 : decode m_Course_doesIt.2.1 49 = .ok (.aload_n 1, 1) := by decide +kernel
theorem d_Course_doesIt_50 : decode m_Course_doesIt.2.1 50 = .ok (.getfield 118, 3) := by decide +kernel
theorem d_Course_doesIt_53 : decode m_Course_doesIt.2.1 53 = .ok (.ifCond .eq 32, 3) := by decide +kernel
theorem d_Course_doesIt_56 : decode m_Course_doesIt.2.1 56 = .ok (.aload_n 0, 1) := by decide +kernel
theorem d_Course_doesIt_57 : decode m_Course_doesIt.2.1 57 = .ok (.getfield 9, 3) := by decide +kernel
theorem d_Course_doesIt_60 : decode m_Course_doesIt.2.1 60 = .ok (.iconst 5, 1) := by decide +kernel
theorem d_Course_doesIt_61 : decode m_Course_doesIt.2.1 61 = .ok (.if_icmp .eq 26, 3) := by decide +kernel
theorem d_Course_doesIt_64 : decode m_Course_doesIt.2.1 64 = .ok (.aload 6, 2) := by decide +kernel
theorem d_Course_doesIt_66 : decode m_Course_doesIt.2.1 66 = .ok (.iload 4, 2) := by decide +kernel
theorem d_Course_doesIt_68 : decode m_Course_doesIt.2.1 68 = .ok (.aload_n 1, 1) := by decide +kernel
theorem d_Course_doesIt_69 : decode m_Course_doesIt.2.1 69 = .ok (.getfield 115, 3) := by decide +kernel
theorem d_Course_doesIt_72 : decode m_Course_doesIt.2.1 72 = .ok (.aload_n 1, 1) := by decide +kernel
theorem d_Course_doesIt_73 : decode m_Course_doesIt.2.1 73 = .ok (.getfield 118, 3) := by decide +kernel
theorem d_Course_doesIt_76 : decode m_Course_doesIt.2.1 76 = .ok (.iload 5, 2) := by decide +kernel
theorem d_Course_doesIt_78 : decode m_Course_doesIt.2.1 78 = .ok (.iconst 0, 1) := by decide +kernel
theorem d_Course_doesIt_79 : decode m_Course_doesIt.2.1 79 = .ok (.invokevirtual 97, 3) := by decide +kernel
theorem d_Course_doesIt_82 : decode m_Course_doesIt.2.1 82 = .ok (.ifCond .ne 5, 3) := by decide +kernel
theorem d_Course_doesIt_85 : decode m_Course_doesIt.2.1 85 = .ok (.iconst 0, 1) := by decide +kernel
theorem d_Course_doesIt_86 : decode m_Course_doesIt.2.1 86 = .ok (.ireturn, 1) := by decide +kernel
theorem d_Course_doesIt_87 : decode m_Course_doesIt.2.1 87 = .ok (.aload_n 0, 1) := by decide +kernel
theorem d_Course_doesIt_88 : decode m_Course_doesIt.2.1 88 = .ok (.getfield 40, 3) := by decide +kernel
theorem d_Course_doesIt_91 : decode m_Course_doesIt.2.1 91 = .ok (.getfield 139, 3) := by decide +kernel
theorem d_Course_doesIt_94 : decode m_Course_doesIt.2.1 94 = .ok (.iload_n 2, 1) := by decide +kernel
theorem d_Course_doesIt_95 : decode m_Course_doesIt.2.1 95 = .ok (.invokestatic 87, 3) := by decide +kernel
theorem d_Course_doesIt_98 : decode m_Course_doesIt.2.1 98 = .ok (.ifCond .ne 37, 3) := by decide +kernel
theorem d_Course_doesIt_101 : decode m_Course_doesIt.2.1 101 = .ok (.aload_n 1, 1) := by decide +kernel
theorem d_Course_doesIt_102 : decode m_Course_doesIt.2.1 102 = .ok (.iload 4, 2) := by decide +kernel
theorem d_Course_doesIt_104 : decode m_Course_doesIt.2.1 104 = .ok (.aload 6, 2) := by decide +kernel
theorem d_Course_doesIt_106 : decode m_Course_doesIt.2.1 106 = .ok (.iload 4, 2) := by decide +kernel
theorem d_Course_doesIt_108 : decode m_Course_doesIt.2.1 108 = .ok (.aload_n 1, 1) := by decide +kernel
theorem d_Course_doesIt_109 : decode m_Course_doesIt.2.1 109 = .ok (.getfield 115, 3) := by decide +kernel
theorem d_Course_doesIt_112 : decode m_Course_doesIt.2.1 112 = .ok (.aload_n 1, 1) := by decide +kernel
theorem d_Course_doesIt_113 : decode m_Course_doesIt.2.1 113 = .ok (.getfield 118, 3) := by decide +kernel
theorem d_Course_doesIt_116 : decode m_Course_doesIt.2.1 116 = .ok (.iload 5, 2) := by decide +kernel
theorem d_Course_doesIt_118 : decode m_Course_doesIt.2.1 118 = .ok (.invokevirtual 142, 3) := by decide +kernel
theorem d_Course_doesIt_121 : decode m_Course_doesIt.2.1 121 = .ok (.iadd, 1) := by decide +kernel
theorem d_Course_doesIt_122 : decode m_Course_doesIt.2.1 122 = .ok (.putfield 112, 3) := by decide +kernel
theorem d_Course_doesIt_125 : decode m_Course_doesIt.2.1 125 = .ok (.aload_n 1, 1) := by decide +kernel
theorem d_Course_doesIt_126 : decode m_Course_doesIt.2.1 126 = .ok (.dup, 1) := by decide +kernel
theorem d_Course_doesIt_127 : decode m_Course_doesIt.2.1 127 = .ok (.getfield 115, 3) := by decide +kernel
theorem d_Course_doesIt_130 : decode m_Course_doesIt.2.1 130 = .ok (.iconst 1, 1) := by decide +kernel
theorem d_Course_doesIt_131 : decode m_Course_doesIt.2.1 131 = .ok (.iadd, 1) := by decide +kernel
theorem d_Course_doesIt_132 : decode m_Course_doesIt.2.1 132 = .ok (.putfield 115, 3) := by decide +kernel
theorem d_Course_doesIt_135 : decode m_Course_doesIt.2.1 135 = .ok (.aload_n 0, 1) := by decide +kernel
theorem d_Course_doesIt_136 : decode m_Course_doesIt.2.1 136 = .ok (.getfield 9, 3) := by decide +kernel
theorem d_Course_doesIt_139 : decode m_Course_doesIt.2.1 139 = .ok (.iconst 1, 1) := by decide +kernel
theorem d_Course_doesIt_140 : decode m_Course_doesIt.2.1 140 = .ok (.if_icmp .eq 13, 3) := by decide +kernel
theorem d_Course_doesIt_143 : decode m_Course_doesIt.2.1 143 = .ok (.aload_n 1, 1) := by decide +kernel
theorem d_Course_doesIt_144 : decode m_Course_doesIt.2.1 144 = .ok (.dup, 1) := by decide +kernel
theorem d_Course_doesIt_145 : decode m_Course_doesIt.2.1 145 = .ok (.getfield 118, 3) := by decide +kernel
theorem d_Course_doesIt_148 : decode m_Course_doesIt.2.1 148 = .ok (.iconst 1, 1) := by decide +kernel
theorem d_Course_doesIt_149 : decode m_Course_doesIt.2.1 149 = .ok (.isub, 1) := by decide +kernel
theorem d_Course_doesIt_150 : decode m_Course_doesIt.2.1 150 = .ok (.putfield 118, 3) := by decide +kernel
theorem d_Course_doesIt_153 : decode m_Course_doesIt.2.1 153 = .ok (.aload_n 1, 1) := by decide +kernel
theorem d_Course_doesIt_154 : decode m_Course_doesIt.2.1 154 = .ok (.dup, 1) := by decide +kernel
theorem d_Course_doesIt_155 : decode m_Course_doesIt.2.1 155 = .ok (.getfield 146, 3) := by decide +kernel
theorem d_Course_doesIt_158 : decode m_Course_doesIt.2.1 158 = .ok (.iconst 1, 1) := by decide +kernel
theorem d_Course_doesIt_159 : decode m_Course_doesIt.2.1 159 = .ok (.iadd, 1) := by decide +kernel
theorem d_Course_doesIt_160 : decode m_Course_doesIt.2.1 160 = .ok (.putfield 146, 3) := by decide +kernel
theorem d_Course_doesIt_163 : decode m_Course_doesIt.2.1 163 = .ok (.iconst 1, 1) := by decide +kernel
theorem d_Course_doesIt_164 : decode m_Course_doesIt.2.1 164 = .ok (.ireturn, 1) := by decide +kernel
theorem d_Fs_where_0 : decode m_Fs_where.2.1 0 = .ok (.aload_n 0, 1) := by decide +kernel
theorem d_Fs_where_1 : decode m_Fs_where.2.1 1 = .ok (.getfield 12, 3) := by decide +kernel
theorem d_Fs_where_4 : decode m_Fs_where.2.1 4 = .ok (.iload_n 1, 1) := by decide +kernel
theorem d_Fs_where_5 : decode m_Fs_where.2.1 5 = .ok (.invokevirtual 188, 3) := by decide +kernel
theorem d_Fs_where_8 : decode m_Fs_where.2.1 8 = .ok (.ifCond .eq 10, 3) := by decide +kernel
theorem d_Fs_where_11 : decode m_Fs_where.2.1 11 = .ok (.iload_n 2, 1) := by decide +kernel
theorem d_Fs_where_12 : decode m_Fs_where.2.1 12 = .ok (.invokestatic 204, 3) := by decide +kernel
theorem d_Fs_where_15 : decode m_Fs_where.2.1 15 = .ok (.ifCond .ne 5, 3) := by decide +kernel
theorem d_Fs_where_18 : decode m_Fs_where.2.1 18 = .ok (.iconst (-1), 1) := by decide +kernel
theorem d_Fs_where_19 : decode m_Fs_where.2.1 19 = .ok (.ireturn, 1) := by decide +kernel
theorem d_Fs_where_20 : decode m_Fs_where.2.1 20 = .ok (.aload_n 0, 1) := by decide +kernel
theorem d_Fs_where_21 : decode m_Fs_where.2.1 21 = .ok (.getfield 43, 3) := by decide +kernel
theorem d_Fs_where_24 : decode m_Fs_where.2.1 24 = .ok (.aload_n 0, 1) := by decide +kernel
theorem d_Fs_where_25 : decode m_Fs_where.2.1 25 = .ok (.getfield 31, 3) := by decide +kernel
theorem d_Fs_where_28 : decode m_Fs_where.2.1 28 = .ok (.iconst (-1), 1) := by decide +kernel
theorem d_Fs_where_29 : decode m_Fs_where.2.1 29 = .ok (.invokevirtual 235, 3) := by decide +kernel
theorem d_Fs_where_32 : decode m_Fs_where.2.1 32 = .ok (.bipush (-2), 2) := by decide +kernel
theorem d_Fs_where_34 : decode m_Fs_where.2.1 34 = .ok (.istore_n 3, 1) := by decide +kernel
theorem d_Fs_where_35 : decode m_Fs_where.2.1 35 = .ok (.iconst 0, 1) := by decide +kernel
theorem d_Fs_where_36 : decode m_Fs_where.2.1 36 = .ok (.istore 4, 2) := by decide +kernel
theorem d_Fs_where_38 : decode m_Fs_where.2.1 38 = .ok (.iload 4, 2) := by decide +kernel
theorem d_Fs_where_40 : decode m_Fs_where.2.1 40 = .ok (.aload_n 0, 1) := by decide +kernel
theorem d_Fs_where_41 : decode m_Fs_where.2.1 41 = .ok (.getfield 43, 3) := by decide +kernel
theorem d_Fs_where_44 : decode m_Fs_where.2.1 44 = .ok (.getfield 245, 3) := by decide +kernel
theorem d_Fs_where_47 : decode m_Fs_where.2.1 47 = .ok (.iload_n 1, 1) := by decide +kernel
theorem d_Fs_where_48 : decode m_Fs_where.2.1 48 = .ok (.aaload, 1) := by decide +kernel
theorem d_Fs_where_49 : decode m_Fs_where.2.1 49 = .ok (.getfield 249, 3) := by decide +kernel
theorem d_Fs_where_52 : decode m_Fs_where.2.1 52 = .ok (.if_icmp .ge 28, 3) := by decide +kernel
theorem d_Fs_where_55 : decode m_Fs_where.2.1 55 = .ok (.aload_n 0, 1) := by decide +kernel
theorem d_Fs_where_56 : decode m_Fs_where.2.1 56 = .ok (.getfield 43, 3) := by decide +kernel
theorem d_Fs_where_59 : decode m_Fs_where.2.1 59 = .ok (.getfield 254, 3) := by decide +kernel
theorem d_Fs_where_62 : decode m_Fs_where.2.1 62 = .ok (.iload_n 1, 1) := by decide +kernel
theorem d_Fs_where_63 : decode m_Fs_where.2.1 63 = .ok (.aaload, 1) := by decide +kernel
theorem d_Fs_where_64 : decode m_Fs_where.2.1 64 = .ok (.iload 4, 2) := by decide +kernel
theorem d_Fs_where_66 : decode m_Fs_where.2.1 66 = .ok (.iaload, 1) := by decide +kernel
theorem d_Fs_where_67 : decode m_Fs_where.2.1 67 = .ok (.iload_n 2, 1) := by decide +kernel
theorem d_Fs_where_68 : decode m_Fs_where.2.1 68 = .ok (.if_icmp .gt 6, 3) := by decide +kernel
theorem d_Fs_where_71 : decode m_Fs_where.2.1 71 = .ok (.iload 4, 2) := by decide +kernel
theorem d_Fs_where_73 : decode m_Fs_where.2.1 73 = .ok (.istore_n 3, 1) := by decide +kernel
theorem d_Fs_where_74 : decode m_Fs_where.2.1 74 = .ok (.iinc 4 1, 3) := by decide +kernel
theorem d_Fs_where_77 : decode m_Fs_where.2.1 77 = .ok (.goto (-39), 3) := by decide +kernel
theorem d_Fs_where_80 : decode m_Fs_where.2.1 80 = .ok (.iload_n 3, 1) := by decide +kernel
theorem d_Fs_where_81 : decode m_Fs_where.2.1 81 = .ok (.ireturn, 1) := by decide +kernel
theorem d_Fs_gain_0 : decode m_Fs_gain.2.1 0 = .ok (.aload_n 0, 1) := by decide +kernel
theorem d_Fs_gain_1 : decode m_Fs_gain.2.1 1 = .ok (.getfield 43, 3) := by decide +kernel
theorem d_Fs_gain_4 : decode m_Fs_gain.2.1 4 = .ok (.aload_n 0, 1) := by decide +kernel
theorem d_Fs_gain_5 : decode m_Fs_gain.2.1 5 = .ok (.getfield 31, 3) := by decide +kernel
theorem d_Fs_gain_8 : decode m_Fs_gain.2.1 8 = .ok (.iconst (-1), 1) := by decide +kernel
theorem d_Fs_gain_9 : decode m_Fs_gain.2.1 9 = .ok (.invokevirtual 235, 3) := by decide +kernel
theorem d_Fs_gain_12 : decode m_Fs_gain.2.1 12 = .ok (.aload_n 0, 1) := by decide +kernel
theorem d_Fs_gain_13 : decode m_Fs_gain.2.1 13 = .ok (.getfield 43, 3) := by decide +kernel
theorem d_Fs_gain_16 : decode m_Fs_gain.2.1 16 = .ok (.aload_n 0, 1) := by decide +kernel
theorem d_Fs_gain_17 : decode m_Fs_gain.2.1 17 = .ok (.getfield 31, 3) := by decide +kernel
theorem d_Fs_gain_20 : decode m_Fs_gain.2.1 20 = .ok (.getfield 177, 3) := by decide +kernel
theorem d_Fs_gain_23 : decode m_Fs_gain.2.1 23 = .ok (.invokevirtual 257, 3) := by decide +kernel
theorem d_Fs_gain_26 : decode m_Fs_gain.2.1 26 = .ok (.ireturn, 1) := by decide +kernel
theorem d_Course_gained_0 : decode m_Course_gained.2.1 0 = .ok (.iconst 0, 1) := by decide +kernel
theorem d_Course_gained_1 : decode m_Course_gained.2.1 1 = .ok (.istore_n 2, 1) := by decide +kernel
theorem d_Course_gained_2 : decode m_Course_gained.2.1 2 = .ok (.iconst 0, 1) := by decide +kernel
theorem d_Course_gained_3 : decode m_Course_gained.2.1 3 = .ok (.istore_n 3, 1) := by decide +kernel
theorem d_Course_gained_4 : decode m_Course_gained.2.1 4 = .ok (.iload_n 3, 1) := by decide +kernel
theorem d_Course_gained_5 : decode m_Course_gained.2.1 5 = .ok (.aload_n 0, 1) := by decide +kernel
theorem d_Course_gained_6 : decode m_Course_gained.2.1 6 = .ok (.getfield 36, 3) := by decide +kernel
theorem d_Course_gained_9 : decode m_Course_gained.2.1 9 = .ok (.getfield 53, 3) := by decide +kernel
theorem d_Course_gained_12 : decode m_Course_gained.2.1 12 = .ok (.if_icmp .ge 73, 3) := by decide +kernel
theorem d_Course_gained_15 : decode m_Course_gained.2.1 15 = .ok (.aload_n 0, 1) := by decide +kernel
theorem d_Course_gained_16 : decode m_Course_gained.2.1 16 = .ok (.iload_n 3, 1) := by decide +kernel
theorem d_Course_gained_17 : decode m_Course_gained.2.1 17 = .ok (.invokevirtual 155, 3) := by decide +kernel
theorem d_Course_gained_20 : decode m_Course_gained.2.1 20 = .ok (.ifCond .eq 59, 3) := by decide +kernel
theorem d_Course_gained_23 : decode m_Course_gained.2.1 23 = .ok (.aload_n 0, 1) := by decide +kernel
theorem d_Course_gained_24 : decode m_Course_gained.2.1 24 = .ok (.getfield 26, 3) := by decide +kernel
theorem d_Course_gained_27 : decode m_Course_gained.2.1 27 = .ok (.iload_n 3, 1) := by decide +kernel
theorem d_Course_gained_28 : decode m_Course_gained.2.1 28 = .ok (.iaload, 1) := by decide +kernel
theorem d_Course_gained_29 : decode m_Course_gained.2.1 29 = .ok (.ifCond .lt 16, 3) := by decide +kernel
theorem d_Course_gained_32 : decode m_Course_gained.2.1 32 = .ok (.iload_n 1, 1) := by decide +kernel
theorem d_Course_gained_33 : decode m_Course_gained.2.1 33 = .ok (.iload_n 3, 1) := by decide +kernel
theorem d_Course_gained_34 : decode m_Course_gained.2.1 34 = .ok (.invokestatic 87, 3) := by decide +kernel
theorem d_Course_gained_37 : decode m_Course_gained.2.1 37 = .ok (.iconst 1, 1) := by decide +kernel
theorem d_Course_gained_38 : decode m_Course_gained.2.1 38 = .ok (.if_icmp .ne 7, 3) := by decide +kernel
theorem d_Course_gained_41 : decode m_Course_gained.2.1 41 = .ok (.iconst 1, 1) := by decide +kernel
theorem d_Course_gained_42 : decode m_Course_gained.2.1 42 = .ok (.goto 4, 3) := by decide +kernel
theorem d_Course_gained_45 : decode m_Course_gained.2.1 45 = .ok (.iconst 0, 1) := by decide +kernel
theorem d_Course_gained_46 : decode m_Course_gained.2.1 46 = .ok (.istore 4, 2) := by decide +kernel
theorem d_Course_gained_48 : decode m_Course_gained.2.1 48 = .ok (.iload_n 2, 1) := by decide +kernel
theorem d_Course_gained_49 : decode m_Course_gained.2.1 49 = .ok (.iload 4, 2) := by decide +kernel
theorem d_Course_gained_51 : decode m_Course_gained.2.1 51 = .ok (.ifCond .eq 17, 3) := by decide +kernel
theorem d_Course_gained_54 : decode m_Course_gained.2.1 54 = .ok (.aload_n 0, 1) := by decide +kernel
theorem d_Course_gained_55 : decode m_Course_gained.2.1 55 = .ok (.getfield 36, 3) := by decide +kernel
theorem d_Course_gained_58 : decode m_Course_gained.2.1 58 = .ok (.getfield 94, 3) := by decide +kernel
theorem d_Course_gained_61 : decode m_Course_gained.2.1 61 = .ok (.iload_n 3, 1) := by decide +kernel
theorem d_Course_gained_62 : decode m_Course_gained.2.1 62 = .ok (.iaload, 1) := by decide +kernel
theorem d_Course_gained_63 : decode m_Course_gained.2.1 63 = .ok (.iconst 2, 1) := by decide +kernel
theorem d_Course_gained_64 : decode m_Course_gained.2.1 64 = .ok (.idiv, 1) := by decide +kernel
theorem d_Course_gained_65 : decode m_Course_gained.2.1 65 = .ok (.goto 12, 3) := by decide +kernel
theorem d_Course_gained_68 : decode m_Course_gained.2.1 68 = .ok (.aload_n 0, 1) := by decide +kernel
theorem d_Course_gained_69 : decode m_Course_gained.2.1 69 = .ok (.getfield 36, 3) := by decide +kernel
theorem d_Course_gained_72 : decode m_Course_gained.2.1 72 = .ok (.getfield 94, 3) := by decide +kernel
theorem d_Course_gained_75 : decode m_Course_gained.2.1 75 = .ok (.iload_n 3, 1) := by decide +kernel
theorem d_Course_gained_76 : decode m_Course_gained.2.1 76 = .ok (.iaload, 1) := by decide +kernel
theorem d_Course_gained_77 : decode m_Course_gained.2.1 77 = .ok (.iadd, 1) := by decide +kernel
theorem d_Course_gained_78 : decode m_Course_gained.2.1 78 = .ok (.istore_n 2, 1) := by decide +kernel
theorem d_Course_gained_79 : decode m_Course_gained.2.1 79 = .ok (.iinc 3 1, 3) := by decide +kernel
theorem d_Course_gained_82 : decode m_Course_gained.2.1 82 = .ok (.goto (-78), 3) := by decide +kernel
theorem d_Course_gained_85 : decode m_Course_gained.2.1 85 = .ok (.iload_n 2, 1) := by decide +kernel
theorem d_Course_gained_86 : decode m_Course_gained.2.1 86 = .ok (.ireturn, 1) := by decide +kernel
theorem d_Course_isInTime_0 : decode m_Course_isInTime.2.1 0 = .ok (.aload_n 0, 1) := by decide +kernel
theorem d_Course_isInTime_1 : decode m_Course_isInTime.2.1 1 = .ok (.iload_n 1, 1) := by decide +kernel
theorem d_Course_isInTime_2 : decode m_Course_isInTime.2.1 2 = .ok (.invokevirtual 149, 3) := by decide +kernel
theorem d_Course_isInTime_5 : decode m_Course_isInTime.2.1 5 = .ok (.ifCond .eq 25, 3) := by decide +kernel
theorem d_Course_isInTime_8 : decode m_Course_isInTime.2.1 8 = .ok (.aload_n 0, 1) := by decide +kernel
theorem d_Course_isInTime_9 : decode m_Course_isInTime.2.1 9 = .ok (.getfield 30, 3) := by decide +kernel
theorem d_Course_isInTime_12 : decode m_Course_isInTime.2.1 12 = .ok (.iload_n 1, 1) := by decide +kernel
theorem d_Course_isInTime_13 : decode m_Course_isInTime.2.1 13 = .ok (.iaload, 1) := by decide +kernel
theorem d_Course_isInTime_14 : decode m_Course_isInTime.2.1 14 = .ok (.aload_n 0, 1) := by decide +kernel
theorem d_Course_isInTime_15 : decode m_Course_isInTime.2.1 15 = .ok (.getfield 36, 3) := by decide +kernel
theorem d_Course_isInTime_18 : decode m_Course_isInTime.2.1 18 = .ok (.getfield 152, 3) := by decide +kernel
theorem d_Course_isInTime_21 : decode m_Course_isInTime.2.1 21 = .ok (.iload_n 1, 1) := by decide +kernel
theorem d_Course_isInTime_22 : decode m_Course_isInTime.2.1 22 = .ok (.iaload, 1) := by decide +kernel
theorem d_Course_isInTime_23 : decode m_Course_isInTime.2.1 23 = .ok (.if_icmp .gt 7, 3) := by decide +kernel
theorem d_Course_isInTime_26 : decode m_Course_isInTime.2.1 26 = .ok (.iconst 1, 1) := by decide +kernel
theorem d_Course_isInTime_27 : decode m_Course_isInTime.2.1 27 = .ok (.goto 4, 3) := by decide +kernel
theorem d_Course_isInTime_30 : decode m_Course_isInTime.2.1 30 = .ok (.iconst 0, 1) := by decide +kernel
theorem d_Course_isInTime_31 : decode m_Course_isInTime.2.1 31 = .ok (.ireturn, 1) := by decide +kernel
theorem d_Course_isDone_0 : decode m_Course_isDone.2.1 0 = .ok (.aload_n 0, 1) := by decide +kernel
theorem d_Course_isDone_1 : decode m_Course_isDone.2.1 1 = .ok (.getfield 26, 3) := by decide +kernel
theorem d_Course_isDone_4 : decode m_Course_isDone.2.1 4 = .ok (.iload_n 1, 1) := by decide +kernel
theorem d_Course_isDone_5 : decode m_Course_isDone.2.1 5 = .ok (.iaload, 1) := by decide +kernel
theorem d_Course_isDone_6 : decode m_Course_isDone.2.1 6 = .ok (.ifCond .ge 14, 3) := by decide +kernel
theorem d_Course_isDone_9 : decode m_Course_isDone.2.1 9 = .ok (.aload_n 0, 1) := by decide +kernel
theorem d_Course_isDone_10 : decode m_Course_isDone.2.1 10 = .ok (.getfield 26, 3) := by decide +kernel
theorem d_Course_isDone_13 : decode m_Course_isDone.2.1 13 = .ok (.iload_n 1, 1) := by decide +kernel
theorem d_Course_isDone_14 : decode m_Course_isDone.2.1 14 = .ok (.iaload, 1) := by decide +kernel
theorem d_Course_isDone_15 : decode m_Course_isDone.2.1 15 = .ok (.bipush (-2), 2) := by decide +kernel
theorem d_Course_isDone_17 : decode m_Course_isDone.2.1 17 = .ok (.if_icmp .ne 7, 3) := by decide +kernel
theorem d_Course_isDone_20 : decode m_Course_isDone.2.1 20 = .ok (.iconst 1, 1) := by decide +kernel
theorem d_Course_isDone_21 : decode m_Course_isDone.2.1 21 = .ok (.goto 4, 3) := by decide +kernel
theorem d_Course_isDone_24 : decode m_Course_isDone.2.1 24 = .ok (.iconst 0, 1) := by decide +kernel
theorem d_Course_isDone_25 : decode m_Course_isDone.2.1 25 = .ok (.ireturn, 1) := by decide +kernel
theorem d_Fs_after_0 : decode m_Fs_after.2.1 0 = .ok (.aload_n 0, 1) := by decide +kernel
theorem d_Fs_after_1 : decode m_Fs_after.2.1 1 = .ok (.getfield 12, 3) := by decide +kernel
theorem d_Fs_after_4 : decode m_Fs_after.2.1 4 = .ok (.iload_n 1, 1) := by decide +kernel
theorem d_Fs_after_5 : decode m_Fs_after.2.1 5 = .ok (.invokevirtual 188, 3) := by decide +kernel
theorem d_Fs_after_8 : decode m_Fs_after.2.1 8 = .ok (.ifCond .ne 5, 3) := by decide +kernel
theorem d_Fs_after_11 : decode m_Fs_after.2.1 11 = .ok (.iconst (-1), 1) := by decide +kernel
theorem d_Fs_after_12 : decode m_Fs_after.2.1 12 = .ok (.ireturn, 1) := by decide +kernel
theorem d_Fs_after_13 : decode m_Fs_after.2.1 13 = .ok (.aload_n 0, 1) := by decide +kernel
theorem d_Fs_after_14 : decode m_Fs_after.2.1 14 = .ok (.getfield 43, 3) := by decide +kernel
theorem d_Fs_after_17 : decode m_Fs_after.2.1 17 = .ok (.aload_n 0, 1) := by decide +kernel
theorem d_Fs_after_18 : decode m_Fs_after.2.1 18 = .ok (.getfield 31, 3) := by decide +kernel
theorem d_Fs_after_21 : decode m_Fs_after.2.1 21 = .ok (.iconst (-1), 1) := by decide +kernel
theorem d_Fs_after_22 : decode m_Fs_after.2.1 22 = .ok (.invokevirtual 235, 3) := by decide +kernel
theorem d_Fs_after_25 : decode m_Fs_after.2.1 25 = .ok (.aload_n 0, 1) := by decide +kernel
theorem d_Fs_after_26 : decode m_Fs_after.2.1 26 = .ok (.getfield 43, 3) := by decide +kernel
theorem d_Fs_after_29 : decode m_Fs_after.2.1 29 = .ok (.getfield 245, 3) := by decide +kernel
theorem d_Fs_after_32 : decode m_Fs_after.2.1 32 = .ok (.iload_n 1, 1) := by decide +kernel
theorem d_Fs_after_33 : decode m_Fs_after.2.1 33 = .ok (.aaload, 1) := by decide +kernel
theorem d_Fs_after_34 : decode m_Fs_after.2.1 34 = .ok (.astore_n 3, 1) := by decide +kernel
theorem d_Fs_after_35 : decode m_Fs_after.2.1 35 = .ok (.iload_n 2, 1) := by decide +kernel
theorem d_Fs_after_36 : decode m_Fs_after.2.1 36 = .ok (.tableswitch 61 0 4 #[36, 41, 46, 51, 56], 36) := by decide +kernel
theorem d_Fs_after_72 : decode m_Fs_after.2.1 72 = .ok (.aload_n 3, 1) := by decide +kernel
theorem d_Fs_after_73 : decode m_Fs_after.2.1 73 = .ok (.getfield 260, 3) := by decide +kernel
theorem d_Fs_after_76 : decode m_Fs_after.2.1 76 = .ok (.ireturn, 1) := by decide +kernel
theorem d_Fs_after_77 : decode m_Fs_after.2.1 77 = .ok (.aload_n 3, 1) := by decide +kernel
theorem d_Fs_after_78 : decode m_Fs_after.2.1 78 = .ok (.getfield 263, 3) := by decide +kernel
theorem d_Fs_after_81 : decode m_Fs_after.2.1 81 = .ok (.ireturn, 1) := by decide +kernel
theorem d_Fs_after_82 : decode m_Fs_after.2.1 82 = .ok (.aload_n 3, 1) := by decide +kernel
theorem d_Fs_after_83 : decode m_Fs_after.2.1 83 = .ok (.getfield 266, 3) := by decide +kernel
theorem d_Fs_after_86 : decode m_Fs_after.2.1 86 = .ok (.ireturn, 1) := by decide +kernel
theorem d_Fs_after_87 : decode m_Fs_after.2.1 87 = .ok (.aload_n 3, 1) := by decide +kernel
theorem d_Fs_after_88 : decode m_Fs_after.2.1 88 = .ok (.getfield 269, 3) := by decide +kernel
theorem d_Fs_after_91 : decode m_Fs_after.2.1 91 = .ok (.ireturn, 1) := by decide +kernel
theorem d_Fs_after_92 : decode m_Fs_after.2.1 92 = .ok (.aload_n 3, 1) := by decide +kernel
theorem d_Fs_after_93 : decode m_Fs_after.2.1 93 = .ok (.getfield 272, 3) := by decide +kernel
theorem d_Fs_after_96 : decode m_Fs_after.2.1 96 = .ok (.ireturn, 1) := by decide +kernel
theorem d_Fs_after_97 : decode m_Fs_after.2.1 97 = .ok (.iconst (-1), 1) := by decide +kernel
theorem d_Fs_after_98 : decode m_Fs_after.2.1 98 = .ok (.ireturn, 1) := by decide +kernel
theorem d_Fs_which_0 : decode m_Fs_which.2.1 0 = .ok (.iload_n 1, 1) := by decide +kernel
theorem d_Fs_which_1 : decode m_Fs_which.2.1 1 = .ok (.ifCond .lt 8, 3) := by decide +kernel
theorem d_Fs_which_4 : decode m_Fs_which.2.1 4 = .ok (.iload_n 1, 1) := by decide +kernel
theorem d_Fs_which_5 : decode m_Fs_which.2.1 5 = .ok (.iconst 2, 1) := by decide +kernel
theorem d_Fs_which_6 : decode m_Fs_which.2.1 6 = .ok (.if_icmp .le 5, 3) := by decide +kernel
theorem d_Fs_which_9 : decode m_Fs_which.2.1 9 = .ok (.iconst (-1), 1) := by decide +kernel
theorem d_Fs_which_10 : decode m_Fs_which.2.1 10 = .ok (.ireturn, 1) := by decide +kernel
theorem d_Fs_which_11 : decode m_Fs_which.2.1 11 = .ok (.aload_n 0, 1) := by decide +kernel
theorem d_Fs_which_12 : decode m_Fs_which.2.1 12 = .ok (.getfield 43, 3) := by decide +kernel
theorem d_Fs_which_15 : decode m_Fs_which.2.1 15 = .ok (.aload_n 0, 1) := by decide +kernel
theorem d_Fs_which_16 : decode m_Fs_which.2.1 16 = .ok (.getfield 31, 3) := by decide +kernel
theorem d_Fs_which_19 : decode m_Fs_which.2.1 19 = .ok (.iconst (-1), 1) := by decide +kernel
theorem d_Fs_which_20 : decode m_Fs_which.2.1 20 = .ok (.invokevirtual 235, 3) := by decide +kernel
theorem d_Fs_which_23 : decode m_Fs_which.2.1 23 = .ok (.iload_n 1, 1) := by decide +kernel
theorem d_Fs_which_24 : decode m_Fs_which.2.1 24 = .ok (.iconst 2, 1) := by decide +kernel
theorem d_Fs_which_25 : decode m_Fs_which.2.1 25 = .ok (.if_icmp .ne 11, 3) := by decide +kernel
theorem d_Fs_which_28 : decode m_Fs_which.2.1 28 = .ok (.aload_n 0, 1) := by decide +kernel
theorem d_Fs_which_29 : decode m_Fs_which.2.1 29 = .ok (.getfield 43, 3) := by decide +kernel
theorem d_Fs_which_32 : decode m_Fs_which.2.1 32 = .ok (.getfield 275, 3) := by decide +kernel
theorem d_Fs_which_35 : decode m_Fs_which.2.1 35 = .ok (.ireturn, 1) := by decide +kernel
theorem d_Fs_which_36 : decode m_Fs_which.2.1 36 = .ok (.iconst 0, 1) := by decide +kernel
theorem d_Fs_which_37 : decode m_Fs_which.2.1 37 = .ok (.istore_n 2, 1) := by decide +kernel
theorem d_Fs_which_38 : decode m_Fs_which.2.1 38 = .ok (.iconst 0, 1) := by decide +kernel
theorem d_Fs_which_39 : decode m_Fs_which.2.1 39 = .ok (.istore_n 3, 1) := by decide +kernel
theorem d_Fs_which_40 : decode m_Fs_which.2.1 40 = .ok (.iload_n 3, 1) := by decide +kernel
theorem d_Fs_which_41 : decode m_Fs_which.2.1 41 = .ok (.aload_n 0, 1) := by decide +kernel
theorem d_Fs_which_42 : decode m_Fs_which.2.1 42 = .ok (.getfield 12, 3) := by decide +kernel
theorem d_Fs_which_45 : decode m_Fs_which.2.1 45 = .ok (.getfield 137, 3) := by decide +kernel
theorem d_Fs_which_48 : decode m_Fs_which.2.1 48 = .ok (.if_icmp .ge 77, 3) := by decide +kernel
theorem d_Fs_which_51 : decode m_Fs_which.2.1 51 = .ok (.aload_n 0, 1) := by decide +kernel
theorem d_Fs_which_52 : decode m_Fs_which.2.1 52 = .ok (.getfield 43, 3) := by decide +kernel
theorem d_Fs_which_55 : decode m_Fs_which.2.1 55 = .ok (.iload_n 3, 1) := by decide +kernel
theorem d_Fs_which_56 : decode m_Fs_which.2.1 56 = .ok (.invokevirtual 278, 3) := by decide +kernel
theorem d_Fs_which_59 : decode m_Fs_which.2.1 59 = .ok (.ifCond .eq 28, 3) := by decide +kernel
theorem d_Fs_which_62 : decode m_Fs_which.2.1 62 = .ok (.aload_n 0, 1) := by decide +kernel
theorem d_Fs_which_63 : decode m_Fs_which.2.1 63 = .ok (.getfield 43, 3) := by decide +kernel
theorem d_Fs_which_66 : decode m_Fs_which.2.1 66 = .ok (.getfield 242, 3) := by decide +kernel
theorem d_Fs_which_69 : decode m_Fs_which.2.1 69 = .ok (.iload_n 3, 1) := by decide +kernel
theorem d_Fs_which_70 : decode m_Fs_which.2.1 70 = .ok (.iaload, 1) := by decide +kernel
theorem d_Fs_which_71 : decode m_Fs_which.2.1 71 = .ok (.aload_n 0, 1) := by decide +kernel
theorem d_Fs_which_72 : decode m_Fs_which.2.1 72 = .ok (.getfield 12, 3) := by decide +kernel
theorem d_Fs_which_75 : decode m_Fs_which.2.1 75 = .ok (.getfield 167, 3) := by decide +kernel
theorem d_Fs_which_78 : decode m_Fs_which.2.1 78 = .ok (.iload_n 3, 1) := by decide +kernel
theorem d_Fs_which_79 : decode m_Fs_which.2.1 79 = .ok (.iaload, 1) := by decide +kernel
theorem d_Fs_which_80 : decode m_Fs_which.2.1 80 = .ok (.if_icmp .le 7, 3) := by decide +kernel
theorem d_Fs_which_83 : decode m_Fs_which.2.1 83 = .ok (.iconst 1, 1) := by decide +kernel
theorem d_Fs_which_84 : decode m_Fs_which.2.1 84 = .ok (.goto 4, 3) := by decide +kernel
theorem d_Fs_which_87 : decode m_Fs_which.2.1 87 = .ok (.iconst 0, 1) := by decide +kernel
theorem d_Fs_which_88 : decode m_Fs_which.2.1 88 = .ok (.istore 4, 2) := by decide +kernel
theorem d_Fs_which_90 : decode m_Fs_which.2.1 90 = .ok (.iload_n 1, 1) := by decide +kernel
theorem d_Fs_which_91 : decode m_Fs_which.2.1 91 = .ok (.ifCond .ne 11, 3) := by decide +kernel
theorem d_Fs_which_94 : decode m_Fs_which.2.1 94 = .ok (.iload 4, 2) := by decide +kernel
theorem d_Fs_which_96 : decode m_Fs_which.2.1 96 = .ok (.ifCond .eq 23, 3) := by decide +kernel
theorem d_Fs_which_99 : decode m_Fs_which.2.1 99 = .ok (.goto 14, 3) := by decide +kernel
theorem d_Fs_which_102 : decode m_Fs_which.2.1 102 = .ok (.aload_n 0, 1) := by decide +kernel
theorem d_Fs_which_103 : decode m_Fs_which.2.1 103 = .ok (.getfield 43, 3) := by decide +kernel
theorem d_Fs_which_106 : decode m_Fs_which.2.1 106 = .ok (.iload_n 3, 1) := by decide +kernel
theorem d_Fs_which_107 : decode m_Fs_which.2.1 107 = .ok (.invokevirtual 278, 3) := by decide +kernel
theorem d_Fs_which_110 : decode m_Fs_which.2.1 110 = .ok (.ifCond .ne 9, 3) := by decide +kernel
theorem d_Fs_which_113 : decode m_Fs_which.2.1 113 = .ok (.iload_n 2, 1) := by decide +kernel
theorem d_Fs_which_114 : decode m_Fs_which.2.1 114 = .ok (.iconst 1, 1) := by decide +kernel
theorem d_Fs_which_115 : decode m_Fs_which.2.1 115 = .ok (.iload_n 3, 1) := by decide +kernel
theorem d_Fs_which_116 : decode m_Fs_which.2.1 116 = .ok (.ishl, 1) := by decide +kernel
theorem d_Fs_which_117 : decode m_Fs_which.2.1 117 = .ok (.ior, 1) := by decide +kernel
theorem d_Fs_which_118 : decode m_Fs_which.2.1 118 = .ok (.istore_n 2, 1) := by decide +kernel
theorem d_Fs_which_119 : decode m_Fs_which.2.1 119 = .ok (.iinc 3 1, 3) := by decide +kernel
theorem d_Fs_which_122 : decode m_Fs_which.2.1 122 = .ok (.goto (-82), 3) := by decide +kernel
theorem d_Fs_which_125 : decode m_Fs_which.2.1 125 = .ok (.iload_n 2, 1) := by decide +kernel
theorem d_Fs_which_126 : decode m_Fs_which.2.1 126 = .ok (.ireturn, 1) := by decide +kernel
theorem d_Fs_night_0 : decode m_Fs_night.2.1 0 = .ok (.aload_n 0, 1) := by decide +kernel
theorem d_Fs_night_1 : decode m_Fs_night.2.1 1 = .ok (.getfield 43, 3) := by decide +kernel
theorem d_Fs_night_4 : decode m_Fs_night.2.1 4 = .ok (.aload_n 0, 1) := by decide +kernel
theorem d_Fs_night_5 : decode m_Fs_night.2.1 5 = .ok (.getfield 31, 3) := by decide +kernel
theorem d_Fs_night_8 : decode m_Fs_night.2.1 8 = .ok (.iconst (-1), 1) := by decide +kernel
theorem d_Fs_night_9 : decode m_Fs_night.2.1 9 = .ok (.invokevirtual 281, 3) := by decide +kernel
theorem d_Fs_night_12 : decode m_Fs_night.2.1 12 = .ok (.aload_n 0, 1) := by decide +kernel
theorem d_Fs_night_13 : decode m_Fs_night.2.1 13 = .ok (.getfield 50, 3) := by decide +kernel
theorem d_Fs_night_16 : decode m_Fs_night.2.1 16 = .ok (.aload_n 0, 1) := by decide +kernel
theorem d_Fs_night_17 : decode m_Fs_night.2.1 17 = .ok (.getfield 43, 3) := by decide +kernel
theorem d_Fs_night_20 : decode m_Fs_night.2.1 20 = .ok (.invokevirtual 284, 3) := by decide +kernel
theorem d_Fs_night_23 : decode m_Fs_night.2.1 23 = .ok (.aload_n 0, 1) := by decide +kernel
theorem d_Fs_night_24 : decode m_Fs_night.2.1 24 = .ok (.getfield 43, 3) := by decide +kernel
theorem d_Fs_night_27 : decode m_Fs_night.2.1 27 = .ok (.aload_n 0, 1) := by decide +kernel
theorem d_Fs_night_28 : decode m_Fs_night.2.1 28 = .ok (.getfield 31, 3) := by decide +kernel
theorem d_Fs_night_31 : decode m_Fs_night.2.1 31 = .ok (.getfield 177, 3) := by decide +kernel
theorem d_Fs_night_34 : decode m_Fs_night.2.1 34 = .ok (.invokevirtual 257, 3) := by decide +kernel
theorem d_Fs_night_37 : decode m_Fs_night.2.1 37 = .ok (.ireturn, 1) := by decide +kernel
theorem d_Night_pass_0 : decode m_Night_pass.2.1 0 = .ok (.iconst 1, 1) := by decide +kernel
theorem d_Night_pass_1 : decode m_Night_pass.2.1 1 = .ok (.istore_n 2, 1) := by decide +kernel
theorem d_Night_pass_2 : decode m_Night_pass.2.1 2 = .ok (.iload_n 2, 1) := by decide +kernel
theorem d_Night_pass_3 : decode m_Night_pass.2.1 3 = .ok (.sipush 240, 3) := by decide +kernel
theorem d_Night_pass_6 : decode m_Night_pass.2.1 6 = .ok (.if_icmp .gt 20, 3) := by decide +kernel
theorem d_Night_pass_9 : decode m_Night_pass.2.1 9 = .ok (.aload_n 1, 1) := by decide +kernel
theorem d_Night_pass_10 : decode m_Night_pass.2.1 10 = .ok (.iload_n 2, 1) := by decide +kernel
theorem d_Night_pass_11 : decode m_Night_pass.2.1 11 = .ok (.invokevirtual 31, 3) := by decide +kernel
theorem d_Night_pass_14 : decode m_Night_pass.2.1 14 = .ok (.aload_n 0, 1) := by decide +kernel
theorem d_Night_pass_15 : decode m_Night_pass.2.1 15 = .ok (.aload_n 1, 1) := by decide +kernel
theorem d_Night_pass_16 : decode m_Night_pass.2.1 16 = .ok (.iload_n 2, 1) := by decide +kernel
theorem d_Night_pass_17 : decode m_Night_pass.2.1 17 = .ok (.invokevirtual 37, 3) := by decide +kernel
theorem d_Night_pass_20 : decode m_Night_pass.2.1 20 = .ok (.iinc 2 1, 3) := by decide +kernel
theorem d_Night_pass_23 : decode m_Night_pass.2.1 23 = .ok (.goto (-21), 3) := by decide +kernel
theorem d_Night_pass_26 : decode m_Night_pass.2.1 26 = .ok (.aload_n 1, 1) := by decide +kernel
theorem d_Night_pass_27 : decode m_Night_pass.2.1 27 = .ok (.getfield 41, 3) := by decide +kernel
theorem d_Night_pass_30 : decode m_Night_pass.2.1 30 = .ok (.iconst 0, 1) := by decide +kernel
theorem d_Night_pass_31 : decode m_Night_pass.2.1 31 = .ok (.aload_n 0, 1) := by decide +kernel
theorem d_Night_pass_32 : decode m_Night_pass.2.1 32 = .ok (.getfield 9, 3) := by decide +kernel
theorem d_Night_pass_35 : decode m_Night_pass.2.1 35 = .ok (.iconst 0, 1) := by decide +kernel
theorem d_Night_pass_36 : decode m_Night_pass.2.1 36 = .ok (.bipush 6, 2) := by decide +kernel
theorem d_Night_pass_38 : decode m_Night_pass.2.1 38 = .ok (.invokestatic 25, 3) := by decide +kernel
theorem d_Night_pass_41 : decode m_Night_pass.2.1 41 = .ok (.aload_n 1, 1) := by decide +kernel
theorem d_Night_pass_42 : decode m_Night_pass.2.1 42 = .ok (.getfield 42, 3) := by decide +kernel
theorem d_Night_pass_45 : decode m_Night_pass.2.1 45 = .ok (.iconst 0, 1) := by decide +kernel
theorem d_Night_pass_46 : decode m_Night_pass.2.1 46 = .ok (.aload_n 0, 1) := by decide +kernel
theorem d_Night_pass_47 : decode m_Night_pass.2.1 47 = .ok (.getfield 15, 3) := by decide +kernel
theorem d_Night_pass_50 : decode m_Night_pass.2.1 50 = .ok (.iconst 0, 1) := by decide +kernel
theorem d_Night_pass_51 : decode m_Night_pass.2.1 51 = .ok (.bipush 6, 2) := by decide +kernel
theorem d_Night_pass_53 : decode m_Night_pass.2.1 53 = .ok (.invokestatic 25, 3) := by decide +kernel
theorem d_Night_pass_56 : decode m_Night_pass.2.1 56 = .ok (.aload_n 0, 1) := by decide +kernel
theorem d_Night_pass_57 : decode m_Night_pass.2.1 57 = .ok (.dup, 1) := by decide +kernel
theorem d_Night_pass_58 : decode m_Night_pass.2.1 58 = .ok (.getfield 18, 3) := by decide +kernel
theorem d_Night_pass_61 : decode m_Night_pass.2.1 61 = .ok (.iconst 1, 1) := by decide +kernel
theorem d_Night_pass_62 : decode m_Night_pass.2.1 62 = .ok (.iadd, 1) := by decide +kernel
theorem d_Night_pass_63 : decode m_Night_pass.2.1 63 = .ok (.putfield 18, 3) := by decide +kernel
theorem d_Night_pass_66 : decode m_Night_pass.2.1 66 = .ok (.return_, 1) := by decide +kernel
theorem d_Night_letCats_0 : decode m_Night_letCats.2.1 0 = .ok (.aload_n 1, 1) := by decide +kernel
theorem d_Night_letCats_1 : decode m_Night_letCats.2.1 1 = .ok (.getfield 43, 3) := by decide +kernel
theorem d_Night_letCats_4 : decode m_Night_letCats.2.1 4 = .ok (.astore_n 3, 1) := by decide +kernel
theorem d_Night_letCats_5 : decode m_Night_letCats.2.1 5 = .ok (.iconst 0, 1) := by decide +kernel
theorem d_Night_letCats_6 : decode m_Night_letCats.2.1 6 = .ok (.istore 4, 2) := by decide +kernel
theorem d_Night_letCats_8 : decode m_Night_letCats.2.1 8 = .ok (.iload 4, 2) := by decide +kernel
theorem d_Night_letCats_10 : decode m_Night_letCats.2.1 10 = .ok (.aload_n 3, 1) := by decide +kernel
theorem d_Night_letCats_11 : decode m_Night_letCats.2.1 11 = .ok (.getfield 47, 3) := by decide +kernel
theorem d_Night_letCats_14 : decode m_Night_letCats.2.1 14 = .ok (.if_icmp .ge 72, 3) := by decide +kernel
theorem d_Night_letCats_17 : decode m_Night_letCats.2.1 17 = .ok (.aload_n 1, 1) := by decide +kernel
theorem d_Night_letCats_18 : decode m_Night_letCats.2.1 18 = .ok (.getfield 41, 3) := by decide +kernel
theorem d_Night_letCats_21 : decode m_Night_letCats.2.1 21 = .ok (.iload 4, 2) := by decide +kernel
theorem d_Night_letCats_23 : decode m_Night_letCats.2.1 23 = .ok (.iaload, 1) := by decide +kernel
theorem d_Night_letCats_24 : decode m_Night_letCats.2.1 24 = .ok (.iconst (-1), 1) := by decide +kernel
theorem d_Night_letCats_25 : decode m_Night_letCats.2.1 25 = .ok (.if_icmp .ne 55, 3) := by decide +kernel
theorem d_Night_letCats_28 : decode m_Night_letCats.2.1 28 = .ok (.aload_n 3, 1) := by decide +kernel
theorem d_Night_letCats_29 : decode m_Night_letCats.2.1 29 = .ok (.getfield 52, 3) := by decide +kernel
theorem d_Night_letCats_32 : decode m_Night_letCats.2.1 32 = .ok (.iload_n 2, 1) := by decide +kernel
theorem d_Night_letCats_33 : decode m_Night_letCats.2.1 33 = .ok (.aload_n 3, 1) := by decide +kernel
theorem d_Night_letCats_34 : decode m_Night_letCats.2.1 34 = .ok (.getfield 56, 3) := by decide +kernel
theorem d_Night_letCats_37 : decode m_Night_letCats.2.1 37 = .ok (.iload 4, 2) := by decide +kernel
theorem d_Night_letCats_39 : decode m_Night_letCats.2.1 39 = .ok (.iaload, 1) := by decide +kernel
theorem d_Night_letCats_40 : decode m_Night_letCats.2.1 40 = .ok (.invokevirtual 59, 3) := by decide +kernel
theorem d_Night_letCats_43 : decode m_Night_letCats.2.1 43 = .ok (.istore 5, 2) := by decide +kernel
theorem d_Night_letCats_45 : decode m_Night_letCats.2.1 45 = .ok (.iload 5, 2) := by decide +kernel
theorem d_Night_letCats_47 : decode m_Night_letCats.2.1 47 = .ok (.ifCond .le 33, 3) := by decide +kernel
theorem d_Night_letCats_50 : decode m_Night_letCats.2.1 50 = .ok (.aload_n 0, 1) := by decide +kernel
theorem d_Night_letCats_51 : decode m_Night_letCats.2.1 51 = .ok (.invokevirtual 65, 3) := by decide +kernel
theorem d_Night_letCats_54 : decode m_Night_letCats.2.1 54 = .ok (.sipush 1000, 3) := by decide +kernel
theorem d_Night_letCats_57 : decode m_Night_letCats.2.1 57 = .ok (.irem, 1) := by decide +kernel
theorem d_Night_letCats_58 : decode m_Night_letCats.2.1 58 = .ok (.iload 5, 2) := by decide +kernel
theorem d_Night_letCats_60 : decode m_Night_letCats.2.1 60 = .ok (.if_icmp .ge 20, 3) := by decide +kernel
theorem d_Night_letCats_63 : decode m_Night_letCats.2.1 63 = .ok (.aload_n 1, 1) := by decide +kernel
theorem d_Night_letCats_64 : decode m_Night_letCats.2.1 64 = .ok (.getfield 41, 3) := by decide +kernel
theorem d_Night_letCats_67 : decode m_Night_letCats.2.1 67 = .ok (.iload 4, 2) := by decide +kernel
theorem d_Night_letCats_69 : decode m_Night_letCats.2.1 69 = .ok (.bipush (-3), 2) := by decide +kernel
theorem d_Night_letCats_71 : decode m_Night_letCats.2.1 71 = .ok (.iastore, 1) := by decide +kernel
theorem d_Night_letCats_72 : decode m_Night_letCats.2.1 72 = .ok (.aload_n 1, 1) := by decide +kernel
theorem d_Night_letCats_73 : decode m_Night_letCats.2.1 73 = .ok (.getfield 42, 3) := by decide +kernel
theorem d_Night_letCats_76 : decode m_Night_letCats.2.1 76 = .ok (.iload 4, 2) := by decide +kernel
theorem d_Night_letCats_78 : decode m_Night_letCats.2.1 78 = .ok (.iload_n 2, 1) := by decide +kernel
theorem d_Night_letCats_79 : decode m_Night_letCats.2.1 79 = .ok (.iastore, 1) := by decide +kernel
theorem d_Night_letCats_80 : decode m_Night_letCats.2.1 80 = .ok (.iinc 4 1, 3) := by decide +kernel
theorem d_Night_letCats_83 : decode m_Night_letCats.2.1 83 = .ok (.goto (-75), 3) := by decide +kernel
theorem d_Night_letCats_86 : decode m_Night_letCats.2.1 86 = .ok (.return_, 1) := by decide +kernel
theorem d_Night_draw_0 : decode m_Night_draw.2.1 0 = .ok (.aload_n 0, 1) := by decide +kernel
theorem d_Night_draw_1 : decode m_Night_draw.2.1 1 = .ok (.aload_n 0, 1) := by decide +kernel
theorem d_Night_draw_2 : decode m_Night_draw.2.1 2 = .ok (.getfield 22, 3) := by decide +kernel
theorem d_Night_draw_5 : decode m_Night_draw.2.1 5 = .ok (.i2l, 1) := by decide +kernel
theorem d_Night_draw_6 : decode m_Night_draw.2.1 6 = .ok (.ldc2_w 69, 3) := by decide +kernel
theorem d_Night_draw_9 : decode m_Night_draw.2.1 9 = .ok (.lmul, 1) := by decide +kernel
theorem d_Night_draw_10 : decode m_Night_draw.2.1 10 = .ok (.ldc2_w 71, 3) := by decide +kernel
theorem d_Night_draw_13 : decode m_Night_draw.2.1 13 = .ok (.ladd, 1) := by decide +kernel
theorem d_Night_draw_14 : decode m_Night_draw.2.1 14 = .ok (.ldc2_w 73, 3) := by decide +kernel
theorem d_Night_draw_17 : decode m_Night_draw.2.1 17 = .ok (.land, 1) := by decide +kernel
theorem d_Night_draw_18 : decode m_Night_draw.2.1 18 = .ok (.l2i, 1) := by decide +kernel
theorem d_Night_draw_19 : decode m_Night_draw.2.1 19 = .ok (.putfield 22, 3) := by decide +kernel
theorem d_Night_draw_22 : decode m_Night_draw.2.1 22 = .ok (.aload_n 0, 1) := by decide +kernel
theorem d_Night_draw_23 : decode m_Night_draw.2.1 23 = .ok (.getfield 22, 3) := by decide +kernel
theorem d_Night_draw_26 : decode m_Night_draw.2.1 26 = .ok (.ldc 75, 2) := by decide +kernel
theorem d_Night_draw_28 : decode m_Night_draw.2.1 28 = .ok (.idiv, 1) := by decide +kernel
theorem d_Night_draw_29 : decode m_Night_draw.2.1 29 = .ok (.ireturn, 1) := by decide +kernel
theorem d_Fs_was_0 : decode m_Fs_was.2.1 0 = .ok (.aload_n 0, 1) := by decide +kernel
theorem d_Fs_was_1 : decode m_Fs_was.2.1 1 = .ok (.getfield 12, 3) := by decide +kernel
theorem d_Fs_was_4 : decode m_Fs_was.2.1 4 = .ok (.iload_n 1, 1) := by decide +kernel
theorem d_Fs_was_5 : decode m_Fs_was.2.1 5 = .ok (.invokevirtual 150, 3) := by decide +kernel
theorem d_Fs_was_8 : decode m_Fs_was.2.1 8 = .ok (.ifCond .eq 12, 3) := by decide +kernel
theorem d_Fs_was_11 : decode m_Fs_was.2.1 11 = .ok (.iload_n 2, 1) := by decide +kernel
theorem d_Fs_was_12 : decode m_Fs_was.2.1 12 = .ok (.ifCond .lt 8, 3) := by decide +kernel
theorem d_Fs_was_15 : decode m_Fs_was.2.1 15 = .ok (.iload_n 2, 1) := by decide +kernel
theorem d_Fs_was_16 : decode m_Fs_was.2.1 16 = .ok (.iconst 1, 1) := by decide +kernel
theorem d_Fs_was_17 : decode m_Fs_was.2.1 17 = .ok (.if_icmp .le 5, 3) := by decide +kernel
theorem d_Fs_was_20 : decode m_Fs_was.2.1 20 = .ok (.iconst (-1), 1) := by decide +kernel
theorem d_Fs_was_21 : decode m_Fs_was.2.1 21 = .ok (.ireturn, 1) := by decide +kernel
theorem d_Fs_was_22 : decode m_Fs_was.2.1 22 = .ok (.aload_n 0, 1) := by decide +kernel
theorem d_Fs_was_23 : decode m_Fs_was.2.1 23 = .ok (.getfield 50, 3) := by decide +kernel
theorem d_Fs_was_26 : decode m_Fs_was.2.1 26 = .ok (.getfield 288, 3) := by decide +kernel
theorem d_Fs_was_29 : decode m_Fs_was.2.1 29 = .ok (.ifCond .ne 6, 3) := by decide +kernel
theorem d_Fs_was_32 : decode m_Fs_was.2.1 32 = .ok (.bipush (-4), 2) := by decide +kernel
theorem d_Fs_was_34 : decode m_Fs_was.2.1 34 = .ok (.ireturn, 1) := by decide +kernel
theorem d_Fs_was_35 : decode m_Fs_was.2.1 35 = .ok (.iload_n 2, 1) := by decide +kernel
theorem d_Fs_was_36 : decode m_Fs_was.2.1 36 = .ok (.ifCond .ne 15, 3) := by decide +kernel
theorem d_Fs_was_39 : decode m_Fs_was.2.1 39 = .ok (.aload_n 0, 1) := by decide +kernel
theorem d_Fs_was_40 : decode m_Fs_was.2.1 40 = .ok (.getfield 50, 3) := by decide +kernel
theorem d_Fs_was_43 : decode m_Fs_was.2.1 43 = .ok (.getfield 291, 3) := by decide +kernel
theorem d_Fs_was_46 : decode m_Fs_was.2.1 46 = .ok (.iload_n 1, 1) := by decide +kernel
theorem d_Fs_was_47 : decode m_Fs_was.2.1 47 = .ok (.iaload, 1) := by decide +kernel
theorem d_Fs_was_48 : decode m_Fs_was.2.1 48 = .ok (.goto 12, 3) := by decide +kernel
theorem d_Fs_was_51 : decode m_Fs_was.2.1 51 = .ok (.aload_n 0, 1) := by decide +kernel
theorem d_Fs_was_52 : decode m_Fs_was.2.1 52 = .ok (.getfield 50, 3) := by decide +kernel
theorem d_Fs_was_55 : decode m_Fs_was.2.1 55 = .ok (.getfield 292, 3) := by decide +kernel
theorem d_Fs_was_58 : decode m_Fs_was.2.1 58 = .ok (.iload_n 1, 1) := by decide +kernel
theorem d_Fs_was_59 : decode m_Fs_was.2.1 59 = .ok (.iaload, 1) := by decide +kernel
theorem d_Fs_was_60 : decode m_Fs_was.2.1 60 = .ok (.ireturn, 1) := by decide +kernel
theorem d_Fs_chance_0 : decode m_Fs_chance.2.1 0 = .ok (.iload_n 1, 1) := by decide +kernel
theorem d_Fs_chance_1 : decode m_Fs_chance.2.1 1 = .ok (.ifCond .lt 14, 3) := by decide +kernel
theorem d_Fs_chance_4 : decode m_Fs_chance.2.1 4 = .ok (.aload_n 0, 1) := by decide +kernel
theorem d_Fs_chance_5 : decode m_Fs_chance.2.1 5 = .ok (.getfield 12, 3) := by decide +kernel
theorem d_Fs_chance_8 : decode m_Fs_chance.2.1 8 = .ok (.iload_n 2, 1) := by decide +kernel
theorem d_Fs_chance_9 : decode m_Fs_chance.2.1 9 = .ok (.invokevirtual 150, 3) := by decide +kernel
theorem d_Fs_chance_12 : decode m_Fs_chance.2.1 12 = .ok (.ifCond .ne 5, 3) := by decide +kernel
theorem d_Fs_chance_15 : decode m_Fs_chance.2.1 15 = .ok (.iconst (-1), 1) := by decide +kernel
theorem d_Fs_chance_16 : decode m_Fs_chance.2.1 16 = .ok (.ireturn, 1) := by decide +kernel
theorem d_Fs_chance_17 : decode m_Fs_chance.2.1 17 = .ok (.aload_n 0, 1) := by decide +kernel
theorem d_Fs_chance_18 : decode m_Fs_chance.2.1 18 = .ok (.getfield 54, 3) := by decide +kernel
theorem d_Fs_chance_21 : decode m_Fs_chance.2.1 21 = .ok (.iload_n 1, 1) := by decide +kernel
theorem d_Fs_chance_22 : decode m_Fs_chance.2.1 22 = .ok (.invokevirtual 120, 3) := by decide +kernel
theorem d_Fs_chance_25 : decode m_Fs_chance.2.1 25 = .ok (.iconst 0, 1) := by decide +kernel
theorem d_Fs_chance_26 : decode m_Fs_chance.2.1 26 = .ok (.istore_n 3, 1) := by decide +kernel
theorem d_Fs_chance_27 : decode m_Fs_chance.2.1 27 = .ok (.iconst 0, 1) := by decide +kernel
theorem d_Fs_chance_28 : decode m_Fs_chance.2.1 28 = .ok (.istore 4, 2) := by decide +kernel
theorem d_Fs_chance_30 : decode m_Fs_chance.2.1 30 = .ok (.iload 4, 2) := by decide +kernel
theorem d_Fs_chance_32 : decode m_Fs_chance.2.1 32 = .ok (.bipush 10, 2) := by decide +kernel
theorem d_Fs_chance_34 : decode m_Fs_chance.2.1 34 = .ok (.if_icmp .ge 46, 3) := by decide +kernel
theorem d_Fs_chance_37 : decode m_Fs_chance.2.1 37 = .ok (.aload_n 0, 1) := by decide +kernel
theorem d_Fs_chance_38 : decode m_Fs_chance.2.1 38 = .ok (.getfield 43, 3) := by decide +kernel
theorem d_Fs_chance_41 : decode m_Fs_chance.2.1 41 = .ok (.aload_n 0, 1) := by decide +kernel
theorem d_Fs_chance_42 : decode m_Fs_chance.2.1 42 = .ok (.getfield 31, 3) := by decide +kernel
theorem d_Fs_chance_45 : decode m_Fs_chance.2.1 45 = .ok (.iconst (-1), 1) := by decide +kernel
theorem d_Fs_chance_46 : decode m_Fs_chance.2.1 46 = .ok (.invokevirtual 281, 3) := by decide +kernel
theorem d_Fs_chance_49 : decode m_Fs_chance.2.1 49 = .ok (.aload_n 0, 1) := by decide +kernel
theorem d_Fs_chance_50 : decode m_Fs_chance.2.1 50 = .ok (.getfield 54, 3) := by decide +kernel
theorem d_Fs_chance_53 : decode m_Fs_chance.2.1 53 = .ok (.aload_n 0, 1) := by decide +kernel
theorem d_Fs_chance_54 : decode m_Fs_chance.2.1 54 = .ok (.getfield 43, 3) := by decide +kernel
theorem d_Fs_chance_57 : decode m_Fs_chance.2.1 57 = .ok (.invokevirtual 284, 3) := by decide +kernel
theorem d_Fs_chance_60 : decode m_Fs_chance.2.1 60 = .ok (.aload_n 0, 1) := by decide +kernel
theorem d_Fs_chance_61 : decode m_Fs_chance.2.1 61 = .ok (.getfield 43, 3) := by decide +kernel
theorem d_Fs_chance_64 : decode m_Fs_chance.2.1 64 = .ok (.iload_n 2, 1) := by decide +kernel
theorem d_Fs_chance_65 : decode m_Fs_chance.2.1 65 = .ok (.invokevirtual 293, 3) := by decide +kernel
theorem d_Fs_chance_68 : decode m_Fs_chance.2.1 68 = .ok (.ifCond .eq 6, 3) := by decide +kernel
theorem d_Fs_chance_71 : decode m_Fs_chance.2.1 71 = .ok (.iinc 3 1, 3) := by decide +kernel
theorem d_Fs_chance_74 : decode m_Fs_chance.2.1 74 = .ok (.iinc 4 1, 3) := by decide +kernel
theorem d_Fs_chance_77 : decode m_Fs_chance.2.1 77 = .ok (.goto (-47), 3) := by decide +kernel
theorem d_Fs_chance_80 : decode m_Fs_chance.2.1 80 = .ok (.iload_n 3, 1) := by decide +kernel
theorem d_Fs_chance_81 : decode m_Fs_chance.2.1 81 = .ok (.ireturn, 1) := by decide +kernel
theorem d_Fs_best_0 : decode m_Fs_best.2.1 0 = .ok (.iload_n 1, 1) := by decide +kernel
theorem d_Fs_best_1 : decode m_Fs_best.2.1 1 = .ok (.ifCond .lt 14, 3) := by decide +kernel
theorem d_Fs_best_4 : decode m_Fs_best.2.1 4 = .ok (.iload_n 1, 1) := by decide +kernel
theorem d_Fs_best_5 : decode m_Fs_best.2.1 5 = .ok (.aload_n 0, 1) := by decide +kernel
theorem d_Fs_best_6 : decode m_Fs_best.2.1 6 = .ok (.getfield 12, 3) := by decide +kernel
theorem d_Fs_best_9 : decode m_Fs_best.2.1 9 = .ok (.getfield 147, 3) := by decide +kernel
theorem d_Fs_best_12 : decode m_Fs_best.2.1 12 = .ok (.if_icmp .le 5, 3) := by decide +kernel
theorem d_Fs_best_15 : decode m_Fs_best.2.1 15 = .ok (.iconst (-1), 1) := by decide +kernel
theorem d_Fs_best_16 : decode m_Fs_best.2.1 16 = .ok (.ireturn, 1) := by decide +kernel
theorem d_Fs_best_17 : decode m_Fs_best.2.1 17 = .ok (.aload_n 0, 1) := by decide +kernel
theorem d_Fs_best_18 : decode m_Fs_best.2.1 18 = .ok (.getfield 62, 3) := by decide +kernel
theorem d_Fs_best_21 : decode m_Fs_best.2.1 21 = .ok (.aload_n 0, 1) := by decide +kernel
theorem d_Fs_best_22 : decode m_Fs_best.2.1 22 = .ok (.getfield 31, 3) := by decide +kernel
theorem d_Fs_best_25 : decode m_Fs_best.2.1 25 = .ok (.invokevirtual 296, 3) := by decide +kernel
theorem d_Fs_best_28 : decode m_Fs_best.2.1 28 = .ok (.aload_n 0, 1) := by decide +kernel
theorem d_Fs_best_29 : decode m_Fs_best.2.1 29 = .ok (.getfield 62, 3) := by decide +kernel
theorem d_Fs_best_32 : decode m_Fs_best.2.1 32 = .ok (.iload_n 1, 1) := by decide +kernel
theorem d_Fs_best_33 : decode m_Fs_best.2.1 33 = .ok (.invokevirtual 299, 3) := by decide +kernel
theorem d_Fs_best_36 : decode m_Fs_best.2.1 36 = .ok (.ireturn, 1) := by decide +kernel
theorem d_Book_write_0 : decode m_Book_write.2.1 0 = .ok (.aload_n 0, 1) := by decide +kernel
theorem d_Book_write_1 : decode m_Book_write.2.1 1 = .ok (.getfield 32, 3) := by decide +kernel
theorem d_Book_write_4 : decode m_Book_write.2.1 4 = .ok (.ifCond .eq 4, 3) := by decide +kernel
theorem d_Book_write_7 : decode m_Book_write.2.1 7 = .ok (.return_, 1) := by decide +kernel
theorem d_Book_write_8 : decode m_Book_write.2.1 8 = .ok (.aload_n 0, 1) := by decide +kernel
theorem d_Book_write_9 : decode m_Book_write.2.1 9 = .ok (.aload_n 1, 1) := by decide +kernel
theorem d_Book_write_10 : decode m_Book_write.2.1 10 = .ok (.getfield 69, 3) := by decide +kernel
theorem d_Book_write_13 : decode m_Book_write.2.1 13 = .ok (.putfield 36, 3) := by decide +kernel
theorem d_Book_write_16 : decode m_Book_write.2.1 16 = .ok (.aload_n 0, 1) := by decide +kernel
theorem d_Book_write_17 : decode m_Book_write.2.1 17 = .ok (.iconst 0, 1) := by decide +kernel
theorem d_Book_write_18 : decode m_Book_write.2.1 18 = .ok (.putfield 39, 3) := by decide +kernel
theorem d_Book_write_21 : decode m_Book_write.2.1 21 = .ok (.aload_n 0, 1) := by decide +kernel
theorem d_Book_write_22 : decode m_Book_write.2.1 22 = .ok (.iconst 0, 1) := by decide +kernel
theorem d_Book_write_23 : decode m_Book_write.2.1 23 = .ok (.putfield 18, 3) := by decide +kernel
theorem d_Book_write_26 : decode m_Book_write.2.1 26 = .ok (.aload_n 0, 1) := by decide +kernel
theorem d_Book_write_27 : decode m_Book_write.2.1 27 = .ok (.getfield 64, 3) := by decide +kernel
theorem d_Book_write_30 : decode m_Book_write.2.1 30 = .ok (.aload_n 1, 1) := by decide +kernel
theorem d_Book_write_31 : decode m_Book_write.2.1 31 = .ok (.iconst (-1), 1) := by decide +kernel
theorem d_Book_write_32 : decode m_Book_write.2.1 32 = .ok (.invokevirtual 72, 3) := by decide +kernel
theorem d_Book_write_35 : decode m_Book_write.2.1 35 = .ok (.iconst 0, 1) := by decide +kernel
theorem d_Book_write_36 : decode m_Book_write.2.1 36 = .ok (.istore_n 2, 1) := by decide +kernel
theorem d_Book_write_37 : decode m_Book_write.2.1 37 = .ok (.iload_n 2, 1) := by decide +kernel
theorem d_Book_write_38 : decode m_Book_write.2.1 38 = .ok (.aload_n 0, 1) := by decide +kernel
theorem d_Book_write_39 : decode m_Book_write.2.1 39 = .ok (.getfield 60, 3) := by decide +kernel
theorem d_Book_write_42 : decode m_Book_write.2.1 42 = .ok (.getfield 78, 3) := by decide +kernel
theorem d_Book_write_45 : decode m_Book_write.2.1 45 = .ok (.if_icmp .ge 35, 3) := by decide +kernel
theorem d_Book_write_48 : decode m_Book_write.2.1 48 = .ok (.aload_n 0, 1) := by decide +kernel
theorem d_Book_write_49 : decode m_Book_write.2.1 49 = .ok (.getfield 64, 3) := by decide +kernel
theorem d_Book_write_52 : decode m_Book_write.2.1 52 = .ok (.getfield 83, 3) := by decide +kernel
theorem d_Book_write_55 : decode m_Book_write.2.1 55 = .ok (.iload_n 2, 1) := by decide +kernel
theorem d_Book_write_56 : decode m_Book_write.2.1 56 = .ok (.iaload, 1) := by decide +kernel
theorem d_Book_write_57 : decode m_Book_write.2.1 57 = .ok (.bipush (-2), 2) := by decide +kernel
theorem d_Book_write_59 : decode m_Book_write.2.1 59 = .ok (.if_icmp .ne 15, 3) := by decide +kernel
theorem d_Book_write_62 : decode m_Book_write.2.1 62 = .ok (.aload_n 0, 1) := by decide +kernel
theorem d_Book_write_63 : decode m_Book_write.2.1 63 = .ok (.dup, 1) := by decide +kernel
theorem d_Book_write_64 : decode m_Book_write.2.1 64 = .ok (.getfield 39, 3) := by decide +kernel
theorem d_Book_write_67 : decode m_Book_write.2.1 67 = .ok (.iconst 1, 1) := by decide +kernel
theorem d_Book_write_68 : decode m_Book_write.2.1 68 = .ok (.iload_n 2, 1) := by decide +kernel
theorem d_Book_write_69 : decode m_Book_write.2.1 69 = .ok (.ishl, 1) := by decide +kernel
theorem d_Book_write_70 : decode m_Book_write.2.1 70 = .ok (.ior, 1) := by decide +kernel
theorem d_Book_write_71 : decode m_Book_write.2.1 71 = .ok (.putfield 39, 3) := by decide +kernel
theorem d_Book_write_74 : decode m_Book_write.2.1 74 = .ok (.iinc 2 1, 3) := by decide +kernel
theorem d_Book_write_77 : decode m_Book_write.2.1 77 = .ok (.goto (-40), 3) := by decide +kernel
theorem d_Book_write_80 : decode m_Book_write.2.1 80 = .ok (.aload_n 0, 1) := by decide +kernel
theorem d_Book_write_81 : decode m_Book_write.2.1 81 = .ok (.iconst 0, 1) := by decide +kernel
theorem d_Book_write_82 : decode m_Book_write.2.1 82 = .ok (.iconst 0, 1) := by decide +kernel
theorem d_Book_write_83 : decode m_Book_write.2.1 83 = .ok (.iconst 0, 1) := by decide +kernel
theorem d_Book_write_84 : decode m_Book_write.2.1 84 = .ok (.invokevirtual 86, 3) := by decide +kernel
theorem d_Book_write_87 : decode m_Book_write.2.1 87 = .ok (.iconst 0, 1) := by decide +kernel
theorem d_Book_write_88 : decode m_Book_write.2.1 88 = .ok (.istore_n 2, 1) := by decide +kernel
theorem d_Book_write_89 : decode m_Book_write.2.1 89 = .ok (.iload_n 2, 1) := by decide +kernel
theorem d_Book_write_90 : decode m_Book_write.2.1 90 = .ok (.aload_n 0, 1) := by decide +kernel
theorem d_Book_write_91 : decode m_Book_write.2.1 91 = .ok (.getfield 60, 3) := by decide +kernel
theorem d_Book_write_94 : decode m_Book_write.2.1 94 = .ok (.getfield 90, 3) := by decide +kernel
theorem d_Book_write_97 : decode m_Book_write.2.1 97 = .ok (.if_icmp .ge 45, 3) := by decide +kernel
theorem d_Book_write_100 : decode m_Book_write.2.1 100 = .ok (.aload_n 0, 1) := by decide +kernel
theorem d_Book_write_101 : decode m_Book_write.2.1 101 = .ok (.getfield 44, 3) := by decide +kernel
theorem d_Book_write_104 : decode m_Book_write.2.1 104 = .ok (.iconst 0, 1) := by decide +kernel
theorem d_Book_write_105 : decode m_Book_write.2.1 105 = .ok (.aaload, 1) := by decide +kernel
theorem d_Book_write_106 : decode m_Book_write.2.1 106 = .ok (.aload_n 0, 1) := by decide +kernel
theorem d_Book_write_107 : decode m_Book_write.2.1 107 = .ok (.getfield 60, 3) := by decide +kernel
theorem d_Book_write_110 : decode m_Book_write.2.1 110 = .ok (.getfield 93, 3) := by decide +kernel
theorem d_Book_write_113 : decode m_Book_write.2.1 113 = .ok (.iload_n 2, 1) := by decide +kernel
theorem d_Book_write_114 : decode m_Book_write.2.1 114 = .ok (.iaload, 1) := by decide +kernel
theorem d_Book_write_115 : decode m_Book_write.2.1 115 = .ok (.aload_n 0, 1) := by decide +kernel
theorem d_Book_write_116 : decode m_Book_write.2.1 116 = .ok (.getfield 60, 3) := by decide +kernel
theorem d_Book_write_119 : decode m_Book_write.2.1 119 = .ok (.getfield 96, 3) := by decide +kernel
theorem d_Book_write_122 : decode m_Book_write.2.1 122 = .ok (.iload_n 2, 1) := by decide +kernel
theorem d_Book_write_123 : decode m_Book_write.2.1 123 = .ok (.iaload, 1) := by decide +kernel
theorem d_Book_write_124 : decode m_Book_write.2.1 124 = .ok (.invokevirtual 99, 3) := by decide +kernel
theorem d_Book_write_127 : decode m_Book_write.2.1 127 = .ok (.aload_n 0, 1) := by decide +kernel
theorem d_Book_write_128 : decode m_Book_write.2.1 128 = .ok (.iload_n 2, 1) := by decide +kernel
theorem d_Book_write_129 : decode m_Book_write.2.1 129 = .ok (.iconst 0, 1) := by decide +kernel
theorem d_Book_write_130 : decode m_Book_write.2.1 130 = .ok (.iconst 0, 1) := by decide +kernel
theorem d_Book_write_131 : decode m_Book_write.2.1 131 = .ok (.lconst 0, 1) := by decide +kernel
theorem d_Book_write_132 : decode m_Book_write.2.1 132 = .ok (.invokevirtual 102, 3) := by decide +kernel
theorem d_Book_write_135 : decode m_Book_write.2.1 135 = .ok (.pop, 1) := by decide +kernel
theorem d_Book_write_136 : decode m_Book_write.2.1 136 = .ok (.iinc 2 1, 3) := by decide +kernel
theorem d_Book_write_139 : decode m_Book_write.2.1 139 = .ok (.goto (-50), 3) := by decide +kernel
theorem d_Book_write_142 : decode m_Book_write.2.1 142 = .ok (.aload_n 0, 1) := by decide +kernel
theorem d_Book_write_143 : decode m_Book_write.2.1 143 = .ok (.iconst 1, 1) := by decide +kernel
theorem d_Book_write_144 : decode m_Book_write.2.1 144 = .ok (.putfield 32, 3) := by decide +kernel
theorem d_Book_write_147 : decode m_Book_write.2.1 147 = .ok (.return_, 1) := by decide +kernel
theorem d_Book_addRows_0 : decode m_Book_addRows.2.1 0 = .ok (.aload_n 0, 1) := by decide +kernel
theorem d_Book_addRows_1 : decode m_Book_addRows.2.1 1 = .ok (.getfield 18, 3) := by decide +kernel
theorem d_Book_addRows_4 : decode m_Book_addRows.2.1 4 = .ok (.sipush 1957, 3) := by decide +kernel
theorem d_Book_addRows_7 : decode m_Book_addRows.2.1 7 = .ok (.if_icmp .lt 4, 3) := by decide +kernel
theorem d_Book_addRows_10 : decode m_Book_addRows.2.1 10 = .ok (.return_, 1) := by decide +kernel
theorem d_Book_addRows_11 : decode m_Book_addRows.2.1 11 = .ok (.aload_n 0, 1) := by decide +kernel
theorem d_Book_addRows_12 : decode m_Book_addRows.2.1 12 = .ok (.getfield 9, 3) := by decide +kernel
theorem d_Book_addRows_15 : decode m_Book_addRows.2.1 15 = .ok (.aload_n 0, 1) := by decide +kernel
theorem d_Book_addRows_16 : decode m_Book_addRows.2.1 16 = .ok (.getfield 18, 3) := by decide +kernel
theorem d_Book_addRows_19 : decode m_Book_addRows.2.1 19 = .ok (.iload_n 1, 1) := by decide +kernel
theorem d_Book_addRows_20 : decode m_Book_addRows.2.1 20 = .ok (.iastore, 1) := by decide +kernel
theorem d_Book_addRows_21 : decode m_Book_addRows.2.1 21 = .ok (.aload_n 0, 1) := by decide +kernel
theorem d_Book_addRows_22 : decode m_Book_addRows.2.1 22 = .ok (.getfield 15, 3) := by decide +kernel
theorem d_Book_addRows_25 : decode m_Book_addRows.2.1 25 = .ok (.aload_n 0, 1) := by decide +kernel
theorem d_Book_addRows_26 : decode m_Book_addRows.2.1 26 = .ok (.getfield 18, 3) := by decide +kernel
theorem d_Book_addRows_29 : decode m_Book_addRows.2.1 29 = .ok (.iload_n 3, 1) := by decide +kernel
theorem d_Book_addRows_30 : decode m_Book_addRows.2.1 30 = .ok (.iastore, 1) := by decide +kernel
theorem d_Book_addRows_31 : decode m_Book_addRows.2.1 31 = .ok (.aload_n 0, 1) := by decide +kernel
theorem d_Book_addRows_32 : decode m_Book_addRows.2.1 32 = .ok (.dup, 1) := by decide +kernel
theorem d_Book_addRows_33 : decode m_Book_addRows.2.1 33 = .ok (.getfield 18, 3) := by decide +kernel
theorem d_Book_addRows_36 : decode m_Book_addRows.2.1 36 = .ok (.iconst 1, 1) := by decide +kernel
theorem d_Book_addRows_37 : decode m_Book_addRows.2.1 37 = .ok (.iadd, 1) := by decide +kernel
theorem d_Book_addRows_38 : decode m_Book_addRows.2.1 38 = .ok (.putfield 18, 3) := by decide +kernel
theorem d_Book_addRows_41 : decode m_Book_addRows.2.1 41 = .ok (.iconst 0, 1) := by decide +kernel
theorem d_Book_addRows_42 : decode m_Book_addRows.2.1 42 = .ok (.istore 4, 2) := by decide +kernel
theorem d_Book_addRows_44 : decode m_Book_addRows.2.1 44 = .ok (.iload 4, 2) := by decide +kernel
theorem d_Book_addRows_46 : decode m_Book_addRows.2.1 46 = .ok (.aload_n 0, 1) := by decide +kernel
theorem d_Book_addRows_47 : decode m_Book_addRows.2.1 47 = .ok (.getfield 60, 3) := by decide +kernel
theorem d_Book_addRows_50 : decode m_Book_addRows.2.1 50 = .ok (.getfield 78, 3) := by decide +kernel
theorem d_Book_addRows_53 : decode m_Book_addRows.2.1 53 = .ok (.if_icmp .ge 47, 3) := by decide +kernel
theorem d_Book_addRows_56 : decode m_Book_addRows.2.1 56 = .ok (.iload_n 2, 1) := by decide +kernel
theorem d_Book_addRows_57 : decode m_Book_addRows.2.1 57 = .ok (.bipush 6, 2) := by decide +kernel
theorem d_Book_addRows_59 : decode m_Book_addRows.2.1 59 = .ok (.if_icmp .ge 41, 3) := by decide +kernel
theorem d_Book_addRows_62 : decode m_Book_addRows.2.1 62 = .ok (.iload_n 3, 1) := by decide +kernel
theorem d_Book_addRows_63 : decode m_Book_addRows.2.1 63 = .ok (.iload 4, 2) := by decide +kernel
theorem d_Book_addRows_65 : decode m_Book_addRows.2.1 65 = .ok (.invokestatic 106, 3) := by decide +kernel
theorem d_Book_addRows_68 : decode m_Book_addRows.2.1 68 = .ok (.ifCond .ne 26, 3) := by decide +kernel
theorem d_Book_addRows_71 : decode m_Book_addRows.2.1 71 = .ok (.aload_n 0, 1) := by decide +kernel
theorem d_Book_addRows_72 : decode m_Book_addRows.2.1 72 = .ok (.iload_n 1, 1) := by decide +kernel
theorem d_Book_addRows_73 : decode m_Book_addRows.2.1 73 = .ok (.iload 4, 2) := by decide +kernel
theorem d_Book_addRows_75 : decode m_Book_addRows.2.1 75 = .ok (.iconst 1, 1) := by decide +kernel
theorem d_Book_addRows_76 : decode m_Book_addRows.2.1 76 = .ok (.iadd, 1) := by decide +kernel
theorem d_Book_addRows_77 : decode m_Book_addRows.2.1 77 = .ok (.iconst 3, 1) := by decide +kernel
theorem d_Book_addRows_78 : decode m_Book_addRows.2.1 78 = .ok (.iload_n 2, 1) := by decide +kernel
theorem d_Book_addRows_79 : decode m_Book_addRows.2.1 79 = .ok (.imul, 1) := by decide +kernel
theorem d_Book_addRows_80 : decode m_Book_addRows.2.1 80 = .ok (.ishl, 1) := by decide +kernel
theorem d_Book_addRows_81 : decode m_Book_addRows.2.1 81 = .ok (.ior, 1) := by decide +kernel
theorem d_Book_addRows_82 : decode m_Book_addRows.2.1 82 = .ok (.iload_n 2, 1) := by decide +kernel
theorem d_Book_addRows_83 : decode m_Book_addRows.2.1 83 = .ok (.iconst 1, 1) := by decide +kernel
theorem d_Book_addRows_84 : decode m_Book_addRows.2.1 84 = .ok (.iadd, 1) := by decide +kernel
theorem d_Book_addRows_85 : decode m_Book_addRows.2.1 85 = .ok (.iload_n 3, 1) := by decide +kernel
theorem d_Book_addRows_86 : decode m_Book_addRows.2.1 86 = .ok (.iconst 1, 1) := by decide +kernel
theorem d_Book_addRows_87 : decode m_Book_addRows.2.1 87 = .ok (.iload 4, 2) := by decide +kernel
theorem d_Book_addRows_89 : decode m_Book_addRows.2.1 89 = .ok (.ishl, 1) := by decide +kernel
theorem d_Book_addRows_90 : decode m_Book_addRows.2.1 90 = .ok (.ior, 1) := by decide +kernel
theorem d_Book_addRows_91 : decode m_Book_addRows.2.1 91 = .ok (.invokevirtual 86, 3) := by decide +kernel
theorem d_Book_addRows_94 : decode m_Book_addRows.2.1 94 = .ok (.iinc 4 1, 3) := by decide +kernel
theorem d_Book_addRows_97 : decode m_Book_addRows.2.1 97 = .ok (.goto (-53), 3) := by decide +kernel
theorem d_Book_addRows_100 : decode m_Book_addRows.2.1 100 = .ok (.return_, 1) := by decide +kernel
theorem d_Book_goOn_0 : decode m_Book_goOn.2.1 0 = .ok (.iload_n 2, 1) := by decide +kernel
theorem d_Book_goOn_1 : decode m_Book_goOn.2.1 1 = .ok (.sipush 1957, 3) := by decide +kernel
theorem d_Book_goOn_4 : decode m_Book_goOn.2.1 4 = .ok (.if_icmp .lt 5, 3) := by decide +kernel
theorem d_Book_goOn_7 : decode m_Book_goOn.2.1 7 = .ok (.iload_n 2, 1) := by decide +kernel
theorem d_Book_goOn_8 : decode m_Book_goOn.2.1 8 = .ok (.ireturn, 1) := by decide +kernel
theorem d_Book_goOn_9 : decode m_Book_goOn.2.1 9 = .ok (.aload_n 0, 1) := by decide +kernel
theorem d_Book_goOn_10 : decode m_Book_goOn.2.1 10 = .ok (.getfield 24, 3) := by decide +kernel
theorem d_Book_goOn_13 : decode m_Book_goOn.2.1 13 = .ok (.iload_n 1, 1) := by decide +kernel
theorem d_Book_goOn_14 : decode m_Book_goOn.2.1 14 = .ok (.aaload, 1) := by decide +kernel
theorem d_Book_goOn_15 : decode m_Book_goOn.2.1 15 = .ok (.iload_n 2, 1) := by decide +kernel
theorem d_Book_goOn_16 : decode m_Book_goOn.2.1 16 = .ok (.lload 4, 2) := by decide +kernel
theorem d_Book_goOn_18 : decode m_Book_goOn.2.1 18 = .ok (.lastore, 1) := by decide +kernel
theorem d_Book_goOn_19 : decode m_Book_goOn.2.1 19 = .ok (.aload_n 0, 1) := by decide +kernel
theorem d_Book_goOn_20 : decode m_Book_goOn.2.1 20 = .ok (.getfield 29, 3) := by decide +kernel
theorem d_Book_goOn_23 : decode m_Book_goOn.2.1 23 = .ok (.iload_n 1, 1) := by decide +kernel
theorem d_Book_goOn_24 : decode m_Book_goOn.2.1 24 = .ok (.aaload, 1) := by decide +kernel
theorem d_Book_goOn_25 : decode m_Book_goOn.2.1 25 = .ok (.iload_n 2, 1) := by decide +kernel
theorem d_Book_goOn_26 : decode m_Book_goOn.2.1 26 = .ok (.aload_n 0, 1) := by decide +kernel
theorem d_Book_goOn_27 : decode m_Book_goOn.2.1 27 = .ok (.lload 4, 2) := by decide +kernel
theorem d_Book_goOn_29 : decode m_Book_goOn.2.1 29 = .ok (.invokevirtual 110, 3) := by decide +kernel
theorem d_Book_goOn_32 : decode m_Book_goOn.2.1 32 = .ok (.iastore, 1) := by decide +kernel
theorem d_Book_goOn_33 : decode m_Book_goOn.2.1 33 = .ok (.iload_n 2, 1) := by decide +kernel
theorem d_Book_goOn_34 : decode m_Book_goOn.2.1 34 = .ok (.iconst 1, 1) := by decide +kernel
theorem d_Book_goOn_35 : decode m_Book_goOn.2.1 35 = .ok (.iadd, 1) := by decide +kernel
theorem d_Book_goOn_36 : decode m_Book_goOn.2.1 36 = .ok (.istore 6, 2) := by decide +kernel
theorem d_Book_goOn_38 : decode m_Book_goOn.2.1 38 = .ok (.iconst 0, 1) := by decide +kernel
theorem d_Book_goOn_39 : decode m_Book_goOn.2.1 39 = .ok (.istore 7, 2) := by decide +kernel
theorem d_Book_goOn_41 : decode m_Book_goOn.2.1 41 = .ok (.iload 7, 2) := by decide +kernel
theorem d_Book_goOn_43 : decode m_Book_goOn.2.1 43 = .ok (.aload_n 0, 1) := by decide +kernel
theorem d_Book_goOn_44 : decode m_Book_goOn.2.1 44 = .ok (.getfield 60, 3) := by decide +kernel
theorem d_Book_goOn_47 : decode m_Book_goOn.2.1 47 = .ok (.getfield 78, 3) := by decide +kernel
theorem d_Book_goOn_50 : decode m_Book_goOn.2.1 50 = .ok (.if_icmp .ge 75, 3) := by decide +kernel
theorem d_Book_goOn_53 : decode m_Book_goOn.2.1 53 = .ok (.iload_n 3, 1) := by decide +kernel
theorem d_Book_goOn_54 : decode m_Book_goOn.2.1 54 = .ok (.bipush 6, 2) := by decide +kernel
theorem d_Book_goOn_56 : decode m_Book_goOn.2.1 56 = .ok (.if_icmp .ge 69, 3) := by decide +kernel
theorem d_Book_goOn_59 : decode m_Book_goOn.2.1 59 = .ok (.aload_n 0, 1) := by decide +kernel
theorem d_Book_goOn_60 : decode m_Book_goOn.2.1 60 = .ok (.getfield 15, 3) := by decide +kernel
theorem d_Book_goOn_63 : decode m_Book_goOn.2.1 63 = .ok (.iload_n 2, 1) := by decide +kernel
theorem d_Book_goOn_64 : decode m_Book_goOn.2.1 64 = .ok (.iaload, 1) := by decide +kernel
theorem d_Book_goOn_65 : decode m_Book_goOn.2.1 65 = .ok (.iload 7, 2) := by decide +kernel
theorem d_Book_goOn_67 : decode m_Book_goOn.2.1 67 = .ok (.invokestatic 106, 3) := by decide +kernel
theorem d_Book_goOn_70 : decode m_Book_goOn.2.1 70 = .ok (.ifCond .ne 49, 3) := by decide +kernel
theorem d_Book_goOn_73 : decode m_Book_goOn.2.1 73 = .ok (.aload_n 0, 1) := by decide +kernel
theorem d_Book_goOn_74 : decode m_Book_goOn.2.1 74 = .ok (.getfield 44, 3) := by decide +kernel
theorem d_Book_goOn_77 : decode m_Book_goOn.2.1 77 = .ok (.iload_n 3, 1) := by decide +kernel
theorem d_Book_goOn_78 : decode m_Book_goOn.2.1 78 = .ok (.iconst 1, 1) := by decide +kernel
theorem d_Book_goOn_79 : decode m_Book_goOn.2.1 79 = .ok (.iadd, 1) := by decide +kernel
theorem d_Book_goOn_80 : decode m_Book_goOn.2.1 80 = .ok (.aaload, 1) := by decide +kernel
theorem d_Book_goOn_81 : decode m_Book_goOn.2.1 81 = .ok (.aload_n 0, 1) := by decide +kernel
theorem d_Book_goOn_82 : decode m_Book_goOn.2.1 82 = .ok (.getfield 44, 3) := by decide +kernel
theorem d_Book_goOn_85 : decode m_Book_goOn.2.1 85 = .ok (.iload_n 3, 1) := by decide +kernel
theorem d_Book_goOn_86 : decode m_Book_goOn.2.1 86 = .ok (.aaload, 1) := by decide +kernel
theorem d_Book_goOn_87 : decode m_Book_goOn.2.1 87 = .ok (.invokevirtual 114, 3) := by decide +kernel
theorem d_Book_goOn_90 : decode m_Book_goOn.2.1 90 = .ok (.aload_n 0, 1) := by decide +kernel
theorem d_Book_goOn_91 : decode m_Book_goOn.2.1 91 = .ok (.iload_n 1, 1) := by decide +kernel
theorem d_Book_goOn_92 : decode m_Book_goOn.2.1 92 = .ok (.iload 6, 2) := by decide +kernel
theorem d_Book_goOn_94 : decode m_Book_goOn.2.1 94 = .ok (.iload_n 3, 1) := by decide +kernel
theorem d_Book_goOn_95 : decode m_Book_goOn.2.1 95 = .ok (.iconst 1, 1) := by decide +kernel
theorem d_Book_goOn_96 : decode m_Book_goOn.2.1 96 = .ok (.iadd, 1) := by decide +kernel
theorem d_Book_goOn_97 : decode m_Book_goOn.2.1 97 = .ok (.lload 4, 2) := by decide +kernel
theorem d_Book_goOn_99 : decode m_Book_goOn.2.1 99 = .ok (.aload_n 0, 1) := by decide +kernel
theorem d_Book_goOn_100 : decode m_Book_goOn.2.1 100 = .ok (.aload_n 0, 1) := by decide +kernel
theorem d_Book_goOn_101 : decode m_Book_goOn.2.1 101 = .ok (.getfield 44, 3) := by decide +kernel
theorem d_Book_goOn_104 : decode m_Book_goOn.2.1 104 = .ok (.iload_n 3, 1) := by decide +kernel
theorem d_Book_goOn_105 : decode m_Book_goOn.2.1 105 = .ok (.iconst 1, 1) := by decide +kernel
theorem d_Book_goOn_106 : decode m_Book_goOn.2.1 106 = .ok (.iadd, 1) := by decide +kernel
theorem d_Book_goOn_107 : decode m_Book_goOn.2.1 107 = .ok (.aaload, 1) := by decide +kernel
theorem d_Book_goOn_108 : decode m_Book_goOn.2.1 108 = .ok (.iload 7, 2) := by decide +kernel
theorem d_Book_goOn_110 : decode m_Book_goOn.2.1 110 = .ok (.invokevirtual 118, 3) := by decide +kernel
theorem d_Book_goOn_113 : decode m_Book_goOn.2.1 113 = .ok (.lor, 1) := by decide +kernel
theorem d_Book_goOn_114 : decode m_Book_goOn.2.1 114 = .ok (.invokevirtual 102, 3) := by decide +kernel
theorem d_Book_goOn_117 : decode m_Book_goOn.2.1 117 = .ok (.istore 6, 2) := by decide +kernel
theorem d_Book_goOn_119 : decode m_Book_goOn.2.1 119 = .ok (.iinc 7 1, 3) := by decide +kernel
theorem d_Book_goOn_122 : decode m_Book_goOn.2.1 122 = .ok (.goto (-81), 3) := by decide +kernel
theorem d_Book_goOn_125 : decode m_Book_goOn.2.1 125 = .ok (.iload 6, 2) := by decide +kernel
theorem d_Book_goOn_127 : decode m_Book_goOn.2.1 127 = .ok (.ireturn, 1) := by decide +kernel
theorem d_Book_housesInTime_0 : decode m_Book_housesInTime.2.1 0 = .ok (.iconst 0, 1) := by decide +kernel
theorem d_Book_housesInTime_1 : decode m_Book_housesInTime.2.1 1 = .ok (.istore_n 3, 1) := by decide +kernel
theorem d_Book_housesInTime_2 : decode m_Book_housesInTime.2.1 2 = .ok (.iconst 0, 1) := by decide +kernel
theorem d_Book_housesInTime_3 : decode m_Book_housesInTime.2.1 3 = .ok (.istore 4, 2) := by decide +kernel
theorem d_Book_housesInTime_5 : decode m_Book_housesInTime.2.1 5 = .ok (.iload 4, 2) := by decide +kernel
theorem d_Book_housesInTime_7 : decode m_Book_housesInTime.2.1 7 = .ok (.aload_n 0, 1) := by decide +kernel
theorem d_Book_housesInTime_8 : decode m_Book_housesInTime.2.1 8 = .ok (.getfield 60, 3) := by decide +kernel
theorem d_Book_housesInTime_11 : decode m_Book_housesInTime.2.1 11 = .ok (.getfield 78, 3) := by decide +kernel
theorem d_Book_housesInTime_14 : decode m_Book_housesInTime.2.1 14 = .ok (.if_icmp .ge 44, 3) := by decide +kernel
theorem d_Book_housesInTime_17 : decode m_Book_housesInTime.2.1 17 = .ok (.lload_n 1, 1) := by decide +kernel
theorem d_Book_housesInTime_18 : decode m_Book_housesInTime.2.1 18 = .ok (.iload 4, 2) := by decide +kernel
theorem d_Book_housesInTime_20 : decode m_Book_housesInTime.2.1 20 = .ok (.invokestatic 133, 3) := by decide +kernel
theorem d_Book_housesInTime_23 : decode m_Book_housesInTime.2.1 23 = .ok (.istore 5, 2) := by decide +kernel
theorem d_Book_housesInTime_25 : decode m_Book_housesInTime.2.1 25 = .ok (.iload 5, 2) := by decide +kernel
theorem d_Book_housesInTime_27 : decode m_Book_housesInTime.2.1 27 = .ok (.ifCond .le 25, 3) := by decide +kernel
theorem d_Book_housesInTime_30 : decode m_Book_housesInTime.2.1 30 = .ok (.iload 5, 2) := by decide +kernel
theorem d_Book_housesInTime_32 : decode m_Book_housesInTime.2.1 32 = .ok (.aload_n 0, 1) := by decide +kernel
theorem d_Book_housesInTime_33 : decode m_Book_housesInTime.2.1 33 = .ok (.getfield 60, 3) := by decide +kernel
theorem d_Book_housesInTime_36 : decode m_Book_housesInTime.2.1 36 = .ok (.getfield 137, 3) := by decide +kernel
theorem d_Book_housesInTime_39 : decode m_Book_housesInTime.2.1 39 = .ok (.iload 4, 2) := by decide +kernel
theorem d_Book_housesInTime_41 : decode m_Book_housesInTime.2.1 41 = .ok (.iaload, 1) := by decide +kernel
theorem d_Book_housesInTime_42 : decode m_Book_housesInTime.2.1 42 = .ok (.if_icmp .gt 10, 3) := by decide +kernel
theorem d_Book_housesInTime_45 : decode m_Book_housesInTime.2.1 45 = .ok (.iload_n 3, 1) := by decide +kernel
theorem d_Book_housesInTime_46 : decode m_Book_housesInTime.2.1 46 = .ok (.iconst 1, 1) := by decide +kernel
theorem d_Book_housesInTime_47 : decode m_Book_housesInTime.2.1 47 = .ok (.iload 4, 2) := by decide +kernel
theorem d_Book_housesInTime_49 : decode m_Book_housesInTime.2.1 49 = .ok (.ishl, 1) := by decide +kernel
theorem d_Book_housesInTime_50 : decode m_Book_housesInTime.2.1 50 = .ok (.ior, 1) := by decide +kernel
theorem d_Book_housesInTime_51 : decode m_Book_housesInTime.2.1 51 = .ok (.istore_n 3, 1) := by decide +kernel
theorem d_Book_housesInTime_52 : decode m_Book_housesInTime.2.1 52 = .ok (.iinc 4 1, 3) := by decide +kernel
theorem d_Book_housesInTime_55 : decode m_Book_housesInTime.2.1 55 = .ok (.goto (-50), 3) := by decide +kernel
theorem d_Book_housesInTime_58 : decode m_Book_housesInTime.2.1 58 = .ok (.iload_n 3, 1) := by decide +kernel
theorem d_Book_housesInTime_59 : decode m_Book_housesInTime.2.1 59 = .ok (.ireturn, 1) := by decide +kernel
theorem d_Book_minuteOf_0 : decode m_Book_minuteOf.2.1 0 = .ok (.lload_n 0, 1) := by decide +kernel
theorem d_Book_minuteOf_1 : decode m_Book_minuteOf.2.1 1 = .ok (.bipush 8, 2) := by decide +kernel
theorem d_Book_minuteOf_3 : decode m_Book_minuteOf.2.1 3 = .ok (.iload_n 2, 1) := by decide +kernel
theorem d_Book_minuteOf_4 : decode m_Book_minuteOf.2.1 4 = .ok (.imul, 1) := by decide +kernel
theorem d_Book_minuteOf_5 : decode m_Book_minuteOf.2.1 5 = .ok (.lshr, 1) := by decide +kernel
theorem d_Book_minuteOf_6 : decode m_Book_minuteOf.2.1 6 = .ok (.l2i, 1) := by decide +kernel
theorem d_Book_minuteOf_7 : decode m_Book_minuteOf.2.1 7 = .ok (.sipush 255, 3) := by decide +kernel
theorem d_Book_minuteOf_10 : decode m_Book_minuteOf.2.1 10 = .ok (.iand, 1) := by decide +kernel
theorem d_Book_minuteOf_11 : decode m_Book_minuteOf.2.1 11 = .ok (.ireturn, 1) := by decide +kernel
theorem d_Goer_copyFrom_0 : decode m_Goer_copyFrom.2.1 0 = .ok (.aload_n 0, 1) := by decide +kernel
theorem d_Goer_copyFrom_1 : decode m_Goer_copyFrom.2.1 1 = .ok (.aload_n 1, 1) := by decide +kernel
theorem d_Goer_copyFrom_2 : decode m_Goer_copyFrom.2.1 2 = .ok (.getfield 7, 3) := by decide +kernel
theorem d_Goer_copyFrom_5 : decode m_Goer_copyFrom.2.1 5 = .ok (.putfield 7, 3) := by decide +kernel
theorem d_Goer_copyFrom_8 : decode m_Goer_copyFrom.2.1 8 = .ok (.aload_n 0, 1) := by decide +kernel
theorem d_Goer_copyFrom_9 : decode m_Goer_copyFrom.2.1 9 = .ok (.aload_n 1, 1) := by decide +kernel
theorem d_Goer_copyFrom_10 : decode m_Goer_copyFrom.2.1 10 = .ok (.getfield 13, 3) := by decide +kernel
theorem d_Goer_copyFrom_13 : decode m_Goer_copyFrom.2.1 13 = .ok (.putfield 13, 3) := by decide +kernel
theorem d_Goer_copyFrom_16 : decode m_Goer_copyFrom.2.1 16 = .ok (.aload_n 0, 1) := by decide +kernel
theorem d_Goer_copyFrom_17 : decode m_Goer_copyFrom.2.1 17 = .ok (.aload_n 1, 1) := by decide +kernel
theorem d_Goer_copyFrom_18 : decode m_Goer_copyFrom.2.1 18 = .ok (.getfield 16, 3) := by decide +kernel
theorem d_Goer_copyFrom_21 : decode m_Goer_copyFrom.2.1 21 = .ok (.putfield 16, 3) := by decide +kernel
theorem d_Goer_copyFrom_24 : decode m_Goer_copyFrom.2.1 24 = .ok (.aload_n 0, 1) := by decide +kernel
theorem d_Goer_copyFrom_25 : decode m_Goer_copyFrom.2.1 25 = .ok (.aload_n 1, 1) := by decide +kernel
theorem d_Goer_copyFrom_26 : decode m_Goer_copyFrom.2.1 26 = .ok (.getfield 19, 3) := by decide +kernel
theorem d_Goer_copyFrom_29 : decode m_Goer_copyFrom.2.1 29 = .ok (.putfield 19, 3) := by decide +kernel
theorem d_Goer_copyFrom_32 : decode m_Goer_copyFrom.2.1 32 = .ok (.aload_n 0, 1) := by decide +kernel
theorem d_Goer_copyFrom_33 : decode m_Goer_copyFrom.2.1 33 = .ok (.aload_n 1, 1) := by decide +kernel
theorem d_Goer_copyFrom_34 : decode m_Goer_copyFrom.2.1 34 = .ok (.getfield 22, 3) := by decide +kernel
theorem d_Goer_copyFrom_37 : decode m_Goer_copyFrom.2.1 37 = .ok (.putfield 22, 3) := by decide +kernel
theorem d_Goer_copyFrom_40 : decode m_Goer_copyFrom.2.1 40 = .ok (.aload_n 0, 1) := by decide +kernel
theorem d_Goer_copyFrom_41 : decode m_Goer_copyFrom.2.1 41 = .ok (.aload_n 1, 1) := by decide +kernel
theorem d_Goer_copyFrom_42 : decode m_Goer_copyFrom.2.1 42 = .ok (.getfield 25, 3) := by decide +kernel
theorem d_Goer_copyFrom_45 : decode m_Goer_copyFrom.2.1 45 = .ok (.putfield 25, 3) := by decide +kernel
theorem d_Goer_copyFrom_48 : decode m_Goer_copyFrom.2.1 48 = .ok (.aload_n 0, 1) := by decide +kernel
theorem d_Goer_copyFrom_49 : decode m_Goer_copyFrom.2.1 49 = .ok (.aload_n 1, 1) := by decide +kernel
theorem d_Goer_copyFrom_50 : decode m_Goer_copyFrom.2.1 50 = .ok (.getfield 28, 3) := by decide +kernel
theorem d_Goer_copyFrom_53 : decode m_Goer_copyFrom.2.1 53 = .ok (.putfield 28, 3) := by decide +kernel
theorem d_Goer_copyFrom_56 : decode m_Goer_copyFrom.2.1 56 = .ok (.return_, 1) := by decide +kernel
theorem d_Book_doesNext_0 : decode m_Book_doesNext.2.1 0 = .ok (.aload_n 1, 1) := by decide +kernel
theorem d_Book_doesNext_1 : decode m_Book_doesNext.2.1 1 = .ok (.getfield 122, 3) := by decide +kernel
theorem d_Book_doesNext_4 : decode m_Book_doesNext.2.1 4 = .ok (.sipush 1000, 3) := by decide +kernel
theorem d_Book_doesNext_7 : decode m_Book_doesNext.2.1 7 = .ok (.if_icmp .eq 12, 3) := by decide +kernel
theorem d_Book_doesNext_10 : decode m_Book_doesNext.2.1 10 = .ok (.aload_n 0, 1) := by decide +kernel
theorem d_Book_doesNext_11 : decode m_Book_doesNext.2.1 11 = .ok (.getfield 64, 3) := by decide +kernel
theorem d_Book_doesNext_14 : decode m_Book_doesNext.2.1 14 = .ok (.aload_n 1, 1) := by decide +kernel
theorem d_Book_doesNext_15 : decode m_Book_doesNext.2.1 15 = .ok (.iload_n 2, 1) := by decide +kernel
theorem d_Book_doesNext_16 : decode m_Book_doesNext.2.1 16 = .ok (.invokevirtual 125, 3) := by decide +kernel
theorem d_Book_doesNext_19 : decode m_Book_doesNext.2.1 19 = .ok (.aload_n 1, 1) := by decide +kernel
theorem d_Book_doesNext_20 : decode m_Book_doesNext.2.1 20 = .ok (.getfield 122, 3) := by decide +kernel
theorem d_Book_doesNext_23 : decode m_Book_doesNext.2.1 23 = .ok (.sipush 1000, 3) := by decide +kernel
theorem d_Book_doesNext_26 : decode m_Book_doesNext.2.1 26 = .ok (.if_icmp .eq 42, 3) := by decide +kernel
theorem d_Book_doesNext_29 : decode m_Book_doesNext.2.1 29 = .ok (.aload_n 0, 1) := by decide +kernel
theorem d_Book_doesNext_30 : decode m_Book_doesNext.2.1 30 = .ok (.getfield 64, 3) := by decide +kernel
theorem d_Book_doesNext_33 : decode m_Book_doesNext.2.1 33 = .ok (.aload_n 1, 1) := by decide +kernel
theorem d_Book_doesNext_34 : decode m_Book_doesNext.2.1 34 = .ok (.iload_n 2, 1) := by decide +kernel
theorem d_Book_doesNext_35 : decode m_Book_doesNext.2.1 35 = .ok (.aload_n 0, 1) := by decide +kernel
theorem d_Book_doesNext_36 : decode m_Book_doesNext.2.1 36 = .ok (.getfield 39, 3) := by decide +kernel
theorem d_Book_doesNext_39 : decode m_Book_doesNext.2.1 39 = .ok (.iload_n 2, 1) := by decide +kernel
theorem d_Book_doesNext_40 : decode m_Book_doesNext.2.1 40 = .ok (.invokestatic 106, 3) := by decide +kernel
theorem d_Book_doesNext_43 : decode m_Book_doesNext.2.1 43 = .ok (.ifCond .ne 7, 3) := by decide +kernel
theorem d_Book_doesNext_46 : decode m_Book_doesNext.2.1 46 = .ok (.iconst 1, 1) := by decide +kernel
theorem d_Book_doesNext_47 : decode m_Book_doesNext.2.1 47 = .ok (.goto 4, 3) := by decide +kernel
theorem d_Book_doesNext_50 : decode m_Book_doesNext.2.1 50 = .ok (.iconst 0, 1) := by decide +kernel
theorem d_Book_doesNext_51 : decode m_Book_doesNext.2.1 51 = .ok (.invokevirtual 129, 3) := by decide +kernel
theorem d_Book_doesNext_54 : decode m_Book_doesNext.2.1 54 = .ok (.ifCond .eq 14, 3) := by decide +kernel
theorem d_Book_doesNext_57 : decode m_Book_doesNext.2.1 57 = .ok (.aload_n 1, 1) := by decide +kernel
theorem d_Book_doesNext_58 : decode m_Book_doesNext.2.1 58 = .ok (.getfield 122, 3) := by decide +kernel
theorem d_Book_doesNext_61 : decode m_Book_doesNext.2.1 61 = .ok (.i2l, 1) := by decide +kernel
theorem d_Book_doesNext_62 : decode m_Book_doesNext.2.1 62 = .ok (.bipush 8, 2) := by decide +kernel
theorem d_Book_doesNext_64 : decode m_Book_doesNext.2.1 64 = .ok (.iload_n 2, 1) := by decide +kernel
theorem d_Book_doesNext_65 : decode m_Book_doesNext.2.1 65 = .ok (.imul, 1) := by decide +kernel
theorem d_Book_doesNext_66 : decode m_Book_doesNext.2.1 66 = .ok (.lshl, 1) := by decide +kernel
theorem d_Book_doesNext_67 : decode m_Book_doesNext.2.1 67 = .ok (.lreturn, 1) := by decide +kernel
theorem d_Book_doesNext_68 : decode m_Book_doesNext.2.1 68 = .ok (.lconst 0, 1) := by decide +kernel
theorem d_Book_doesNext_69 : decode m_Book_doesNext.2.1 69 = .ok (.lreturn, 1) := by decide +kernel
theorem d_Book_bestGain_0 : decode m_Book_bestGain.2.1 0 = .ok (.aload_n 0, 1) := by decide +kernel
theorem d_Book_bestGain_1 : decode m_Book_bestGain.2.1 1 = .ok (.invokevirtual 151, 3) := by decide +kernel
theorem d_Book_bestGain_4 : decode m_Book_bestGain.2.1 4 = .ok (.aload_n 0, 1) := by decide +kernel
theorem d_Book_bestGain_5 : decode m_Book_bestGain.2.1 5 = .ok (.iload_n 1, 1) := by decide +kernel
theorem d_Book_bestGain_6 : decode m_Book_bestGain.2.1 6 = .ok (.invokevirtual 154, 3) := by decide +kernel
theorem d_Book_bestGain_9 : decode m_Book_bestGain.2.1 9 = .ok (.aload_n 0, 1) := by decide +kernel
theorem d_Book_bestGain_10 : decode m_Book_bestGain.2.1 10 = .ok (.invokevirtual 143, 3) := by decide +kernel
theorem d_Book_bestGain_13 : decode m_Book_bestGain.2.1 13 = .ok (.aload_n 0, 1) := by decide +kernel
theorem d_Book_bestGain_14 : decode m_Book_bestGain.2.1 14 = .ok (.getfield 54, 3) := by decide +kernel
theorem d_Book_bestGain_17 : decode m_Book_bestGain.2.1 17 = .ok (.iconst 0, 1) := by decide +kernel
theorem d_Book_bestGain_18 : decode m_Book_bestGain.2.1 18 = .ok (.aaload, 1) := by decide +kernel
theorem d_Book_bestGain_19 : decode m_Book_bestGain.2.1 19 = .ok (.aload_n 0, 1) := by decide +kernel
theorem d_Book_bestGain_20 : decode m_Book_bestGain.2.1 20 = .ok (.invokevirtual 158, 3) := by decide +kernel
theorem d_Book_bestGain_23 : decode m_Book_bestGain.2.1 23 = .ok (.iaload, 1) := by decide +kernel
theorem d_Book_bestGain_24 : decode m_Book_bestGain.2.1 24 = .ok (.iadd, 1) := by decide +kernel
theorem d_Book_bestGain_25 : decode m_Book_bestGain.2.1 25 = .ok (.ireturn, 1) := by decide +kernel
theorem d_Book_weighWorth_0 : decode m_Book_weighWorth.2.1 0 = .ok (.iconst 0, 1) := by decide +kernel
theorem d_Book_weighWorth_1 : decode m_Book_weighWorth.2.1 1 = .ok (.istore_n 1, 1) := by decide +kernel
theorem d_Book_weighWorth_2 : decode m_Book_weighWorth.2.1 2 = .ok (.iload_n 1, 1) := by decide +kernel
theorem d_Book_weighWorth_3 : decode m_Book_weighWorth.2.1 3 = .ok (.bipush 64, 2) := by decide +kernel
theorem d_Book_weighWorth_5 : decode m_Book_weighWorth.2.1 5 = .ok (.if_icmp .ge 62, 3) := by decide +kernel
theorem d_Book_weighWorth_8 : decode m_Book_weighWorth.2.1 8 = .ok (.aload_n 0, 1) := by decide +kernel
theorem d_Book_weighWorth_9 : decode m_Book_weighWorth.2.1 9 = .ok (.getfield 48, 3) := by decide +kernel
theorem d_Book_weighWorth_12 : decode m_Book_weighWorth.2.1 12 = .ok (.iload_n 1, 1) := by decide +kernel
theorem d_Book_weighWorth_13 : decode m_Book_weighWorth.2.1 13 = .ok (.iconst 0, 1) := by decide +kernel
theorem d_Book_weighWorth_14 : decode m_Book_weighWorth.2.1 14 = .ok (.iastore, 1) := by decide +kernel
theorem d_Book_weighWorth_15 : decode m_Book_weighWorth.2.1 15 = .ok (.iconst 0, 1) := by decide +kernel
theorem d_Book_weighWorth_16 : decode m_Book_weighWorth.2.1 16 = .ok (.istore_n 2, 1) := by decide +kernel
theorem d_Book_weighWorth_17 : decode m_Book_weighWorth.2.1 17 = .ok (.iload_n 2, 1) := by decide +kernel
theorem d_Book_weighWorth_18 : decode m_Book_weighWorth.2.1 18 = .ok (.aload_n 0, 1) := by decide +kernel
theorem d_Book_weighWorth_19 : decode m_Book_weighWorth.2.1 19 = .ok (.getfield 60, 3) := by decide +kernel
theorem d_Book_weighWorth_22 : decode m_Book_weighWorth.2.1 22 = .ok (.getfield 78, 3) := by decide +kernel
theorem d_Book_weighWorth_25 : decode m_Book_weighWorth.2.1 25 = .ok (.if_icmp .ge 36, 3) := by decide +kernel
theorem d_Book_weighWorth_28 : decode m_Book_weighWorth.2.1 28 = .ok (.aload_n 0, 1) := by decide +kernel
theorem d_Book_weighWorth_29 : decode m_Book_weighWorth.2.1 29 = .ok (.getfield 48, 3) := by decide +kernel
theorem d_Book_weighWorth_32 : decode m_Book_weighWorth.2.1 32 = .ok (.iload_n 1, 1) := by decide +kernel
theorem d_Book_weighWorth_33 : decode m_Book_weighWorth.2.1 33 = .ok (.dup2, 1) := by decide +kernel
theorem d_Book_weighWorth_34 : decode m_Book_weighWorth.2.1 34 = .ok (.iaload, 1) := by decide +kernel
theorem d_Book_weighWorth_35 : decode m_Book_weighWorth.2.1 35 = .ok (.iload_n 1, 1) := by decide +kernel
theorem d_Book_weighWorth_36 : decode m_Book_weighWorth.2.1 36 = .ok (.iload_n 2, 1) := by decide +kernel
theorem d_Book_weighWorth_37 : decode m_Book_weighWorth.2.1 37 = .ok (.invokestatic 106, 3) := by decide +kernel
theorem d_Book_weighWorth_40 : decode m_Book_weighWorth.2.1 40 = .ok (.iconst 1, 1) := by decide +kernel
theorem d_Book_weighWorth_41 : decode m_Book_weighWorth.2.1 41 = .ok (.if_icmp .ne 11, 3) := by decide +kernel
theorem d_Book_weighWorth_44 : decode m_Book_weighWorth.2.1 44 = .ok (.aload_n 0, 1) := by decide +kernel
theorem d_Book_weighWorth_45 : decode m_Book_weighWorth.2.1 45 = .ok (.iload_n 2, 1) := by decide +kernel
theorem d_Book_weighWorth_46 : decode m_Book_weighWorth.2.1 46 = .ok (.invokevirtual 147, 3) := by decide +kernel
theorem d_Book_weighWorth_49 : decode m_Book_weighWorth.2.1 49 = .ok (.goto 4, 3) := by decide +kernel
theorem d_Book_weighWorth_52 : decode m_Book_weighWorth.2.1 52 = .ok (.iconst 0, 1) := by decide +kernel
theorem d_Book_weighWorth_53 : decode m_Book_weighWorth.2.1 53 = .ok (.iadd, 1) := by decide +kernel
theorem d_Book_weighWorth_54 : decode m_Book_weighWorth.2.1 54 = .ok (.iastore, 1) := by decide +kernel
theorem d_Book_weighWorth_55 : decode m_Book_weighWorth.2.1 55 = .ok (.iinc 2 1, 3) := by decide +kernel
theorem d_Book_weighWorth_58 : decode m_Book_weighWorth.2.1 58 = .ok (.goto (-41), 3) := by decide +kernel
theorem d_Book_weighWorth_61 : decode m_Book_weighWorth.2.1 61 = .ok (.iinc 1 1, 3) := by decide +kernel
theorem d_Book_weighWorth_64 : decode m_Book_weighWorth.2.1 64 = .ok (.goto (-62), 3) := by decide +kernel
theorem d_Book_weighWorth_67 : decode m_Book_weighWorth.2.1 67 = .ok (.return_, 1) := by decide +kernel
theorem d_Book_worthByDark_0 : decode m_Book_worthByDark.2.1 0 = .ok (.aload_n 0, 1) := by decide +kernel
theorem d_Book_worthByDark_1 : decode m_Book_worthByDark.2.1 1 = .ok (.getfield 36, 3) := by decide +kernel
theorem d_Book_worthByDark_4 : decode m_Book_worthByDark.2.1 4 = .ok (.iload_n 1, 1) := by decide +kernel
theorem d_Book_worthByDark_5 : decode m_Book_worthByDark.2.1 5 = .ok (.invokestatic 106, 3) := by decide +kernel
theorem d_Book_worthByDark_8 : decode m_Book_worthByDark.2.1 8 = .ok (.iconst 1, 1) := by decide +kernel
theorem d_Book_worthByDark_9 : decode m_Book_worthByDark.2.1 9 = .ok (.if_icmp .ne 17, 3) := by decide +kernel
theorem d_Book_worthByDark_12 : decode m_Book_worthByDark.2.1 12 = .ok (.aload_n 0, 1) := by decide +kernel
theorem d_Book_worthByDark_13 : decode m_Book_worthByDark.2.1 13 = .ok (.getfield 60, 3) := by decide +kernel
theorem d_Book_worthByDark_16 : decode m_Book_worthByDark.2.1 16 = .ok (.getfield 140, 3) := by decide +kernel
theorem d_Book_worthByDark_19 : decode m_Book_worthByDark.2.1 19 = .ok (.iload_n 1, 1) := by decide +kernel
theorem d_Book_worthByDark_20 : decode m_Book_worthByDark.2.1 20 = .ok (.iaload, 1) := by decide +kernel
theorem d_Book_worthByDark_21 : decode m_Book_worthByDark.2.1 21 = .ok (.iconst 2, 1) := by decide +kernel
theorem d_Book_worthByDark_22 : decode m_Book_worthByDark.2.1 22 = .ok (.idiv, 1) := by decide +kernel
theorem d_Book_worthByDark_23 : decode m_Book_worthByDark.2.1 23 = .ok (.goto 12, 3) := by decide +kernel
theorem d_Book_worthByDark_26 : decode m_Book_worthByDark.2.1 26 = .ok (.aload_n 0, 1) := by decide +kernel
theorem d_Book_worthByDark_27 : decode m_Book_worthByDark.2.1 27 = .ok (.getfield 60, 3) := by decide +kernel
theorem d_Book_worthByDark_30 : decode m_Book_worthByDark.2.1 30 = .ok (.getfield 140, 3) := by decide +kernel
theorem d_Book_worthByDark_33 : decode m_Book_worthByDark.2.1 33 = .ok (.iload_n 1, 1) := by decide +kernel
theorem d_Book_worthByDark_34 : decode m_Book_worthByDark.2.1 34 = .ok (.iaload, 1) := by decide +kernel
theorem d_Book_worthByDark_35 : decode m_Book_worthByDark.2.1 35 = .ok (.ireturn, 1) := by decide +kernel
theorem d_Book_weighRows_0 : decode m_Book_weighRows.2.1 0 = .ok (.iconst 0, 1) := by decide +kernel
theorem d_Book_weighRows_1 : decode m_Book_weighRows.2.1 1 = .ok (.istore_n 2, 1) := by decide +kernel
theorem d_Book_weighRows_2 : decode m_Book_weighRows.2.1 2 = .ok (.iload_n 2, 1) := by decide +kernel
theorem d_Book_weighRows_3 : decode m_Book_weighRows.2.1 3 = .ok (.bipush 64, 2) := by decide +kernel
theorem d_Book_weighRows_5 : decode m_Book_weighRows.2.1 5 = .ok (.if_icmp .ge 18, 3) := by decide +kernel
theorem d_Book_weighRows_8 : decode m_Book_weighRows.2.1 8 = .ok (.aload_n 0, 1) := by decide +kernel
theorem d_Book_weighRows_9 : decode m_Book_weighRows.2.1 9 = .ok (.getfield 54, 3) := by decide +kernel
theorem d_Book_weighRows_12 : decode m_Book_weighRows.2.1 12 = .ok (.iload_n 1, 1) := by decide +kernel
theorem d_Book_weighRows_13 : decode m_Book_weighRows.2.1 13 = .ok (.aaload, 1) := by decide +kernel
theorem d_Book_weighRows_14 : decode m_Book_weighRows.2.1 14 = .ok (.iload_n 2, 1) := by decide +kernel
theorem d_Book_weighRows_15 : decode m_Book_weighRows.2.1 15 = .ok (.iconst 0, 1) := by decide +kernel
theorem d_Book_weighRows_16 : decode m_Book_weighRows.2.1 16 = .ok (.iastore, 1) := by decide +kernel
theorem d_Book_weighRows_17 : decode m_Book_weighRows.2.1 17 = .ok (.iinc 2 1, 3) := by decide +kernel
theorem d_Book_weighRows_20 : decode m_Book_weighRows.2.1 20 = .ok (.goto (-18), 3) := by decide +kernel
theorem d_Book_weighRows_23 : decode m_Book_weighRows.2.1 23 = .ok (.iload_n 1, 1) := by decide +kernel
theorem d_Book_weighRows_24 : decode m_Book_weighRows.2.1 24 = .ok (.iconst 1, 1) := by decide +kernel
theorem d_Book_weighRows_25 : decode m_Book_weighRows.2.1 25 = .ok (.isub, 1) := by decide +kernel
theorem d_Book_weighRows_26 : decode m_Book_weighRows.2.1 26 = .ok (.istore_n 2, 1) := by decide +kernel
theorem d_Book_weighRows_27 : decode m_Book_weighRows.2.1 27 = .ok (.iload_n 2, 1) := by decide +kernel
theorem d_Book_weighRows_28 : decode m_Book_weighRows.2.1 28 = .ok (.ifCond .lt 44, 3) := by decide +kernel
theorem d_Book_weighRows_31 : decode m_Book_weighRows.2.1 31 = .ok (.aload_n 0, 1) := by decide +kernel
theorem d_Book_weighRows_32 : decode m_Book_weighRows.2.1 32 = .ok (.iload_n 2, 1) := by decide +kernel
theorem d_Book_weighRows_33 : decode m_Book_weighRows.2.1 33 = .ok (.invokevirtual 172, 3) := by decide +kernel
theorem d_Book_weighRows_36 : decode m_Book_weighRows.2.1 36 = .ok (.iconst 0, 1) := by decide +kernel
theorem d_Book_weighRows_37 : decode m_Book_weighRows.2.1 37 = .ok (.istore_n 3, 1) := by decide +kernel
theorem d_Book_weighRows_38 : decode m_Book_weighRows.2.1 38 = .ok (.iload_n 3, 1) := by decide +kernel
theorem d_Book_weighRows_39 : decode m_Book_weighRows.2.1 39 = .ok (.aload_n 0, 1) := by decide +kernel
theorem d_Book_weighRows_40 : decode m_Book_weighRows.2.1 40 = .ok (.invokevirtual 158, 3) := by decide +kernel
theorem d_Book_weighRows_43 : decode m_Book_weighRows.2.1 43 = .ok (.if_icmp .gt 23, 3) := by decide +kernel
theorem d_Book_weighRows_46 : decode m_Book_weighRows.2.1 46 = .ok (.aload_n 0, 1) := by decide +kernel
theorem d_Book_weighRows_47 : decode m_Book_weighRows.2.1 47 = .ok (.getfield 54, 3) := by decide +kernel
theorem d_Book_weighRows_50 : decode m_Book_weighRows.2.1 50 = .ok (.iload_n 2, 1) := by decide +kernel
theorem d_Book_weighRows_51 : decode m_Book_weighRows.2.1 51 = .ok (.aaload, 1) := by decide +kernel
theorem d_Book_weighRows_52 : decode m_Book_weighRows.2.1 52 = .ok (.iload_n 3, 1) := by decide +kernel
theorem d_Book_weighRows_53 : decode m_Book_weighRows.2.1 53 = .ok (.aload_n 0, 1) := by decide +kernel
theorem d_Book_weighRows_54 : decode m_Book_weighRows.2.1 54 = .ok (.iload_n 2, 1) := by decide +kernel
theorem d_Book_weighRows_55 : decode m_Book_weighRows.2.1 55 = .ok (.iload_n 3, 1) := by decide +kernel
theorem d_Book_weighRows_56 : decode m_Book_weighRows.2.1 56 = .ok (.invokevirtual 175, 3) := by decide +kernel
theorem d_Book_weighRows_59 : decode m_Book_weighRows.2.1 59 = .ok (.iastore, 1) := by decide +kernel
theorem d_Book_weighRows_60 : decode m_Book_weighRows.2.1 60 = .ok (.iinc 3 1, 3) := by decide +kernel
theorem d_Book_weighRows_63 : decode m_Book_weighRows.2.1 63 = .ok (.goto (-25), 3) := by decide +kernel
theorem d_Book_weighRows_66 : decode m_Book_weighRows.2.1 66 = .ok (.iinc 2 (-1), 3) := by decide +kernel
theorem d_Book_weighRows_69 : decode m_Book_weighRows.2.1 69 = .ok (.goto (-42), 3) := by decide +kernel
theorem d_Book_weighRows_72 : decode m_Book_weighRows.2.1 72 = .ok (.return_, 1) := by decide +kernel
theorem d_Book_weighRowsOf_0 : decode m_Book_weighRowsOf.2.1 0 = .ok (.iconst 0, 1) := by decide +kernel
theorem d_Book_weighRowsOf_1 : decode m_Book_weighRowsOf.2.1 1 = .ok (.istore_n 2, 1) := by decide +kernel
theorem d_Book_weighRowsOf_2 : decode m_Book_weighRowsOf.2.1 2 = .ok (.iload_n 2, 1) := by decide +kernel
theorem d_Book_weighRowsOf_3 : decode m_Book_weighRowsOf.2.1 3 = .ok (.bipush 64, 2) := by decide +kernel
theorem d_Book_weighRowsOf_5 : decode m_Book_weighRowsOf.2.1 5 = .ok (.if_icmp .ge 18, 3) := by decide +kernel
theorem d_Book_weighRowsOf_8 : decode m_Book_weighRowsOf.2.1 8 = .ok (.aload_n 0, 1) := by decide +kernel
theorem d_Book_weighRowsOf_9 : decode m_Book_weighRowsOf.2.1 9 = .ok (.getfield 51, 3) := by decide +kernel
theorem d_Book_weighRowsOf_12 : decode m_Book_weighRowsOf.2.1 12 = .ok (.iload_n 1, 1) := by decide +kernel
theorem d_Book_weighRowsOf_13 : decode m_Book_weighRowsOf.2.1 13 = .ok (.aaload, 1) := by decide +kernel
theorem d_Book_weighRowsOf_14 : decode m_Book_weighRowsOf.2.1 14 = .ok (.iload_n 2, 1) := by decide +kernel
theorem d_Book_weighRowsOf_15 : decode m_Book_weighRowsOf.2.1 15 = .ok (.iconst 0, 1) := by decide +kernel
theorem d_Book_weighRowsOf_16 : decode m_Book_weighRowsOf.2.1 16 = .ok (.iastore, 1) := by decide +kernel
theorem d_Book_weighRowsOf_17 : decode m_Book_weighRowsOf.2.1 17 = .ok (.iinc 2 1, 3) := by decide +kernel
theorem d_Book_weighRowsOf_20 : decode m_Book_weighRowsOf.2.1 20 = .ok (.goto (-18), 3) := by decide +kernel
theorem d_Book_weighRowsOf_23 : decode m_Book_weighRowsOf.2.1 23 = .ok (.iconst 0, 1) := by decide +kernel
theorem d_Book_weighRowsOf_24 : decode m_Book_weighRowsOf.2.1 24 = .ok (.istore_n 2, 1) := by decide +kernel
theorem d_Book_weighRowsOf_25 : decode m_Book_weighRowsOf.2.1 25 = .ok (.iload_n 2, 1) := by decide +kernel
theorem d_Book_weighRowsOf_26 : decode m_Book_weighRowsOf.2.1 26 = .ok (.aload_n 0, 1) := by decide +kernel
theorem d_Book_weighRowsOf_27 : decode m_Book_weighRowsOf.2.1 27 = .ok (.getfield 18, 3) := by decide +kernel
theorem d_Book_weighRowsOf_30 : decode m_Book_weighRowsOf.2.1 30 = .ok (.if_icmp .ge 51, 3) := by decide +kernel
theorem d_Book_weighRowsOf_33 : decode m_Book_weighRowsOf.2.1 33 = .ok (.aload_n 0, 1) := by decide +kernel
theorem d_Book_weighRowsOf_34 : decode m_Book_weighRowsOf.2.1 34 = .ok (.getfield 51, 3) := by decide +kernel
theorem d_Book_weighRowsOf_37 : decode m_Book_weighRowsOf.2.1 37 = .ok (.iload_n 1, 1) := by decide +kernel
theorem d_Book_weighRowsOf_38 : decode m_Book_weighRowsOf.2.1 38 = .ok (.aaload, 1) := by decide +kernel
theorem d_Book_weighRowsOf_39 : decode m_Book_weighRowsOf.2.1 39 = .ok (.aload_n 0, 1) := by decide +kernel
theorem d_Book_weighRowsOf_40 : decode m_Book_weighRowsOf.2.1 40 = .ok (.getfield 15, 3) := by decide +kernel
theorem d_Book_weighRowsOf_43 : decode m_Book_weighRowsOf.2.1 43 = .ok (.iload_n 2, 1) := by decide +kernel
theorem d_Book_weighRowsOf_44 : decode m_Book_weighRowsOf.2.1 44 = .ok (.iaload, 1) := by decide +kernel
theorem d_Book_weighRowsOf_45 : decode m_Book_weighRowsOf.2.1 45 = .ok (.aload_n 0, 1) := by decide +kernel
theorem d_Book_weighRowsOf_46 : decode m_Book_weighRowsOf.2.1 46 = .ok (.getfield 51, 3) := by decide +kernel
theorem d_Book_weighRowsOf_49 : decode m_Book_weighRowsOf.2.1 49 = .ok (.iload_n 1, 1) := by decide +kernel
theorem d_Book_weighRowsOf_50 : decode m_Book_weighRowsOf.2.1 50 = .ok (.aaload, 1) := by decide +kernel
theorem d_Book_weighRowsOf_51 : decode m_Book_weighRowsOf.2.1 51 = .ok (.aload_n 0, 1) := by decide +kernel
theorem d_Book_weighRowsOf_52 : decode m_Book_weighRowsOf.2.1 52 = .ok (.getfield 15, 3) := by decide +kernel
theorem d_Book_weighRowsOf_55 : decode m_Book_weighRowsOf.2.1 55 = .ok (.iload_n 2, 1) := by decide +kernel
theorem d_Book_weighRowsOf_56 : decode m_Book_weighRowsOf.2.1 56 = .ok (.iaload, 1) := by decide +kernel
theorem d_Book_weighRowsOf_57 : decode m_Book_weighRowsOf.2.1 57 = .ok (.iaload, 1) := by decide +kernel
theorem d_Book_weighRowsOf_58 : decode m_Book_weighRowsOf.2.1 58 = .ok (.aload_n 0, 1) := by decide +kernel
theorem d_Book_weighRowsOf_59 : decode m_Book_weighRowsOf.2.1 59 = .ok (.getfield 48, 3) := by decide +kernel
theorem d_Book_weighRowsOf_62 : decode m_Book_weighRowsOf.2.1 62 = .ok (.aload_n 0, 1) := by decide +kernel
theorem d_Book_weighRowsOf_63 : decode m_Book_weighRowsOf.2.1 63 = .ok (.getfield 29, 3) := by decide +kernel
theorem d_Book_weighRowsOf_66 : decode m_Book_weighRowsOf.2.1 66 = .ok (.iload_n 1, 1) := by decide +kernel
theorem d_Book_weighRowsOf_67 : decode m_Book_weighRowsOf.2.1 67 = .ok (.aaload, 1) := by decide +kernel
theorem d_Book_weighRowsOf_68 : decode m_Book_weighRowsOf.2.1 68 = .ok (.iload_n 2, 1) := by decide +kernel
theorem d_Book_weighRowsOf_69 : decode m_Book_weighRowsOf.2.1 69 = .ok (.iaload, 1) := by decide +kernel
theorem d_Book_weighRowsOf_70 : decode m_Book_weighRowsOf.2.1 70 = .ok (.iaload, 1) := by decide +kernel
theorem d_Book_weighRowsOf_71 : decode m_Book_weighRowsOf.2.1 71 = .ok (.invokestatic 178, 3) := by decide +kernel
theorem d_Book_weighRowsOf_74 : decode m_Book_weighRowsOf.2.1 74 = .ok (.iastore, 1) := by decide +kernel
theorem d_Book_weighRowsOf_75 : decode m_Book_weighRowsOf.2.1 75 = .ok (.iinc 2 1, 3) := by decide +kernel
theorem d_Book_weighRowsOf_78 : decode m_Book_weighRowsOf.2.1 78 = .ok (.goto (-53), 3) := by decide +kernel
theorem d_Book_weighRowsOf_81 : decode m_Book_weighRowsOf.2.1 81 = .ok (.return_, 1) := by decide +kernel
theorem d_Book_everyHouse_0 : decode m_Book_everyHouse.2.1 0 = .ok (.iconst 1, 1) := by decide +kernel
theorem d_Book_everyHouse_1 : decode m_Book_everyHouse.2.1 1 = .ok (.aload_n 0, 1) := by decide +kernel
theorem d_Book_everyHouse_2 : decode m_Book_everyHouse.2.1 2 = .ok (.getfield 60, 3) := by decide +kernel
theorem d_Book_everyHouse_5 : decode m_Book_everyHouse.2.1 5 = .ok (.getfield 78, 3) := by decide +kernel
theorem d_Book_everyHouse_8 : decode m_Book_everyHouse.2.1 8 = .ok (.ishl, 1) := by decide +kernel
theorem d_Book_everyHouse_9 : decode m_Book_everyHouse.2.1 9 = .ok (.iconst 1, 1) := by decide +kernel
theorem d_Book_everyHouse_10 : decode m_Book_everyHouse.2.1 10 = .ok (.isub, 1) := by decide +kernel
theorem d_Book_everyHouse_11 : decode m_Book_everyHouse.2.1 11 = .ok (.ireturn, 1) := by decide +kernel
theorem d_Book_mostWithin_0 : decode m_Book_mostWithin.2.1 0 = .ok (.iconst 0, 1) := by decide +kernel
theorem d_Book_mostWithin_1 : decode m_Book_mostWithin.2.1 1 = .ok (.istore_n 3, 1) := by decide +kernel
theorem d_Book_mostWithin_2 : decode m_Book_mostWithin.2.1 2 = .ok (.iconst 0, 1) := by decide +kernel
theorem d_Book_mostWithin_3 : decode m_Book_mostWithin.2.1 3 = .ok (.istore 4, 2) := by decide +kernel
theorem d_Book_mostWithin_5 : decode m_Book_mostWithin.2.1 5 = .ok (.iload 4, 2) := by decide +kernel
theorem d_Book_mostWithin_7 : decode m_Book_mostWithin.2.1 7 = .ok (.iload_n 2, 1) := by decide +kernel
theorem d_Book_mostWithin_8 : decode m_Book_mostWithin.2.1 8 = .ok (.if_icmp .gt 48, 3) := by decide +kernel
theorem d_Book_mostWithin_11 : decode m_Book_mostWithin.2.1 11 = .ok (.iload 4, 2) := by decide +kernel
theorem d_Book_mostWithin_13 : decode m_Book_mostWithin.2.1 13 = .ok (.iload_n 2, 1) := by decide +kernel
theorem d_Book_mostWithin_14 : decode m_Book_mostWithin.2.1 14 = .ok (.iconst (-1), 1) := by decide +kernel
theorem d_Book_mostWithin_15 : decode m_Book_mostWithin.2.1 15 = .ok (.ixor, 1) := by decide +kernel
theorem d_Book_mostWithin_16 : decode m_Book_mostWithin.2.1 16 = .ok (.iand, 1) := by decide +kernel
theorem d_Book_mostWithin_17 : decode m_Book_mostWithin.2.1 17 = .ok (.ifCond .ne 33, 3) := by decide +kernel
theorem d_Book_mostWithin_20 : decode m_Book_mostWithin.2.1 20 = .ok (.iload_n 3, 1) := by decide +kernel
theorem d_Book_mostWithin_21 : decode m_Book_mostWithin.2.1 21 = .ok (.aload_n 0, 1) := by decide +kernel
theorem d_Book_mostWithin_22 : decode m_Book_mostWithin.2.1 22 = .ok (.getfield 51, 3) := by decide +kernel
theorem d_Book_mostWithin_25 : decode m_Book_mostWithin.2.1 25 = .ok (.iload_n 1, 1) := by decide +kernel
theorem d_Book_mostWithin_26 : decode m_Book_mostWithin.2.1 26 = .ok (.aaload, 1) := by decide +kernel
theorem d_Book_mostWithin_27 : decode m_Book_mostWithin.2.1 27 = .ok (.iload 4, 2) := by decide +kernel
theorem d_Book_mostWithin_29 : decode m_Book_mostWithin.2.1 29 = .ok (.iaload, 1) := by decide +kernel
theorem d_Book_mostWithin_30 : decode m_Book_mostWithin.2.1 30 = .ok (.aload_n 0, 1) := by decide +kernel
theorem d_Book_mostWithin_31 : decode m_Book_mostWithin.2.1 31 = .ok (.getfield 54, 3) := by decide +kernel
theorem d_Book_mostWithin_34 : decode m_Book_mostWithin.2.1 34 = .ok (.iload_n 1, 1) := by decide +kernel
theorem d_Book_mostWithin_35 : decode m_Book_mostWithin.2.1 35 = .ok (.iconst 1, 1) := by decide +kernel
theorem d_Book_mostWithin_36 : decode m_Book_mostWithin.2.1 36 = .ok (.iadd, 1) := by decide +kernel
theorem d_Book_mostWithin_37 : decode m_Book_mostWithin.2.1 37 = .ok (.aaload, 1) := by decide +kernel
theorem d_Book_mostWithin_38 : decode m_Book_mostWithin.2.1 38 = .ok (.iload_n 2, 1) := by decide +kernel
theorem d_Book_mostWithin_39 : decode m_Book_mostWithin.2.1 39 = .ok (.iload 4, 2) := by decide +kernel
theorem d_Book_mostWithin_41 : decode m_Book_mostWithin.2.1 41 = .ok (.iconst (-1), 1) := by decide +kernel
theorem d_Book_mostWithin_42 : decode m_Book_mostWithin.2.1 42 = .ok (.ixor, 1) := by decide +kernel
theorem d_Book_mostWithin_43 : decode m_Book_mostWithin.2.1 43 = .ok (.iand, 1) := by decide +kernel
theorem d_Book_mostWithin_44 : decode m_Book_mostWithin.2.1 44 = .ok (.iaload, 1) := by decide +kernel
theorem d_Book_mostWithin_45 : decode m_Book_mostWithin.2.1 45 = .ok (.iadd, 1) := by decide +kernel
theorem d_Book_mostWithin_46 : decode m_Book_mostWithin.2.1 46 = .ok (.invokestatic 178, 3) := by decide +kernel
theorem d_Book_mostWithin_49 : decode m_Book_mostWithin.2.1 49 = .ok (.istore_n 3, 1) := by decide +kernel
theorem d_Book_mostWithin_50 : decode m_Book_mostWithin.2.1 50 = .ok (.iinc 4 1, 3) := by decide +kernel
theorem d_Book_mostWithin_53 : decode m_Book_mostWithin.2.1 53 = .ok (.goto (-48), 3) := by decide +kernel
theorem d_Book_mostWithin_56 : decode m_Book_mostWithin.2.1 56 = .ok (.iload_n 3, 1) := by decide +kernel
theorem d_Book_mostWithin_57 : decode m_Book_mostWithin.2.1 57 = .ok (.ireturn, 1) := by decide +kernel
theorem d_Book_gainByItself_0 : decode m_Book_gainByItself.2.1 0 = .ok (.iconst 0, 1) := by decide +kernel
theorem d_Book_gainByItself_1 : decode m_Book_gainByItself.2.1 1 = .ok (.istore_n 1, 1) := by decide +kernel
theorem d_Book_gainByItself_2 : decode m_Book_gainByItself.2.1 2 = .ok (.iconst 0, 1) := by decide +kernel
theorem d_Book_gainByItself_3 : decode m_Book_gainByItself.2.1 3 = .ok (.istore_n 2, 1) := by decide +kernel
theorem d_Book_gainByItself_4 : decode m_Book_gainByItself.2.1 4 = .ok (.iload_n 2, 1) := by decide +kernel
theorem d_Book_gainByItself_5 : decode m_Book_gainByItself.2.1 5 = .ok (.aload_n 0, 1) := by decide +kernel
theorem d_Book_gainByItself_6 : decode m_Book_gainByItself.2.1 6 = .ok (.getfield 60, 3) := by decide +kernel
theorem d_Book_gainByItself_9 : decode m_Book_gainByItself.2.1 9 = .ok (.getfield 78, 3) := by decide +kernel
theorem d_Book_gainByItself_12 : decode m_Book_gainByItself.2.1 12 = .ok (.if_icmp .ge 37, 3) := by decide +kernel
theorem d_Book_gainByItself_15 : decode m_Book_gainByItself.2.1 15 = .ok (.iload_n 1, 1) := by decide +kernel
theorem d_Book_gainByItself_16 : decode m_Book_gainByItself.2.1 16 = .ok (.aload_n 0, 1) := by decide +kernel
theorem d_Book_gainByItself_17 : decode m_Book_gainByItself.2.1 17 = .ok (.getfield 39, 3) := by decide +kernel
theorem d_Book_gainByItself_20 : decode m_Book_gainByItself.2.1 20 = .ok (.iload_n 2, 1) := by decide +kernel
theorem d_Book_gainByItself_21 : decode m_Book_gainByItself.2.1 21 = .ok (.invokestatic 106, 3) := by decide +kernel
theorem d_Book_gainByItself_24 : decode m_Book_gainByItself.2.1 24 = .ok (.iconst 1, 1) := by decide +kernel
theorem d_Book_gainByItself_25 : decode m_Book_gainByItself.2.1 25 = .ok (.if_icmp .ne 15, 3) := by decide +kernel
theorem d_Book_gainByItself_28 : decode m_Book_gainByItself.2.1 28 = .ok (.aload_n 0, 1) := by decide +kernel
theorem d_Book_gainByItself_29 : decode m_Book_gainByItself.2.1 29 = .ok (.getfield 60, 3) := by decide +kernel
theorem d_Book_gainByItself_32 : decode m_Book_gainByItself.2.1 32 = .ok (.getfield 140, 3) := by decide +kernel
theorem d_Book_gainByItself_35 : decode m_Book_gainByItself.2.1 35 = .ok (.iload_n 2, 1) := by decide +kernel
theorem d_Book_gainByItself_36 : decode m_Book_gainByItself.2.1 36 = .ok (.iaload, 1) := by decide +kernel
theorem d_Book_gainByItself_37 : decode m_Book_gainByItself.2.1 37 = .ok (.goto 4, 3) := by decide +kernel
theorem d_Book_gainByItself_40 : decode m_Book_gainByItself.2.1 40 = .ok (.iconst 0, 1) := by decide +kernel
theorem d_Book_gainByItself_41 : decode m_Book_gainByItself.2.1 41 = .ok (.iadd, 1) := by decide +kernel
theorem d_Book_gainByItself_42 : decode m_Book_gainByItself.2.1 42 = .ok (.istore_n 1, 1) := by decide +kernel
theorem d_Book_gainByItself_43 : decode m_Book_gainByItself.2.1 43 = .ok (.iinc 2 1, 3) := by decide +kernel
theorem d_Book_gainByItself_46 : decode m_Book_gainByItself.2.1 46 = .ok (.goto (-42), 3) := by decide +kernel
theorem d_Book_gainByItself_49 : decode m_Book_gainByItself.2.1 49 = .ok (.iload_n 1, 1) := by decide +kernel
theorem d_Book_gainByItself_50 : decode m_Book_gainByItself.2.1 50 = .ok (.ireturn, 1) := by decide +kernel
theorem d_Fs_chosen_0 : decode m_Fs_chosen.2.1 0 = .ok (.iload_n 1, 1) := by decide +kernel
theorem d_Fs_chosen_1 : decode m_Fs_chosen.2.1 1 = .ok (.ifCond .lt 27, 3) := by decide +kernel
theorem d_Fs_chosen_4 : decode m_Fs_chosen.2.1 4 = .ok (.iload_n 1, 1) := by decide +kernel
theorem d_Fs_chosen_5 : decode m_Fs_chosen.2.1 5 = .ok (.aload_n 0, 1) := by decide +kernel
theorem d_Fs_chosen_6 : decode m_Fs_chosen.2.1 6 = .ok (.getfield 12, 3) := by decide +kernel
theorem d_Fs_chosen_9 : decode m_Fs_chosen.2.1 9 = .ok (.getfield 147, 3) := by decide +kernel
theorem d_Fs_chosen_12 : decode m_Fs_chosen.2.1 12 = .ok (.if_icmp .gt 16, 3) := by decide +kernel
theorem d_Fs_chosen_15 : decode m_Fs_chosen.2.1 15 = .ok (.iload_n 2, 1) := by decide +kernel
theorem d_Fs_chosen_16 : decode m_Fs_chosen.2.1 16 = .ok (.ifCond .lt 12, 3) := by decide +kernel
theorem d_Fs_chosen_19 : decode m_Fs_chosen.2.1 19 = .ok (.iload_n 2, 1) := by decide +kernel
theorem d_Fs_chosen_20 : decode m_Fs_chosen.2.1 20 = .ok (.iload_n 1, 1) := by decide +kernel
theorem d_Fs_chosen_21 : decode m_Fs_chosen.2.1 21 = .ok (.if_icmp .ge 7, 3) := by decide +kernel
theorem d_Fs_chosen_24 : decode m_Fs_chosen.2.1 24 = .ok (.iload_n 3, 1) := by decide +kernel
theorem d_Fs_chosen_25 : decode m_Fs_chosen.2.1 25 = .ok (.ifCond .ge 5, 3) := by decide +kernel
theorem d_Fs_chosen_28 : decode m_Fs_chosen.2.1 28 = .ok (.iconst (-1), 1) := by decide +kernel
theorem d_Fs_chosen_29 : decode m_Fs_chosen.2.1 29 = .ok (.ireturn, 1) := by decide +kernel
theorem d_Fs_chosen_30 : decode m_Fs_chosen.2.1 30 = .ok (.aload_n 0, 1) := by decide +kernel
theorem d_Fs_chosen_31 : decode m_Fs_chosen.2.1 31 = .ok (.getfield 62, 3) := by decide +kernel
theorem d_Fs_chosen_34 : decode m_Fs_chosen.2.1 34 = .ok (.aload_n 0, 1) := by decide +kernel
theorem d_Fs_chosen_35 : decode m_Fs_chosen.2.1 35 = .ok (.getfield 31, 3) := by decide +kernel
theorem d_Fs_chosen_38 : decode m_Fs_chosen.2.1 38 = .ok (.invokevirtual 296, 3) := by decide +kernel
theorem d_Fs_chosen_41 : decode m_Fs_chosen.2.1 41 = .ok (.aload_n 0, 1) := by decide +kernel
theorem d_Fs_chosen_42 : decode m_Fs_chosen.2.1 42 = .ok (.getfield 62, 3) := by decide +kernel
theorem d_Fs_chosen_45 : decode m_Fs_chosen.2.1 45 = .ok (.iload_n 1, 1) := by decide +kernel
theorem d_Fs_chosen_46 : decode m_Fs_chosen.2.1 46 = .ok (.invokevirtual 302, 3) := by decide +kernel
theorem d_Fs_chosen_49 : decode m_Fs_chosen.2.1 49 = .ok (.aload_n 0, 1) := by decide +kernel
theorem d_Fs_chosen_50 : decode m_Fs_chosen.2.1 50 = .ok (.getfield 62, 3) := by decide +kernel
theorem d_Fs_chosen_53 : decode m_Fs_chosen.2.1 53 = .ok (.aload_n 0, 1) := by decide +kernel
theorem d_Fs_chosen_54 : decode m_Fs_chosen.2.1 54 = .ok (.getfield 62, 3) := by decide +kernel
theorem d_Fs_chosen_57 : decode m_Fs_chosen.2.1 57 = .ok (.getfield 305, 3) := by decide +kernel
theorem d_Fs_chosen_60 : decode m_Fs_chosen.2.1 60 = .ok (.iload_n 2, 1) := by decide +kernel
theorem d_Fs_chosen_61 : decode m_Fs_chosen.2.1 61 = .ok (.iaload, 1) := by decide +kernel
theorem d_Fs_chosen_62 : decode m_Fs_chosen.2.1 62 = .ok (.iload_n 3, 1) := by decide +kernel
theorem d_Fs_chosen_63 : decode m_Fs_chosen.2.1 63 = .ok (.invokevirtual 308, 3) := by decide +kernel
theorem d_Fs_chosen_66 : decode m_Fs_chosen.2.1 66 = .ok (.ireturn, 1) := by decide +kernel
theorem d_Book_chooseBest_0 : decode m_Book_chooseBest.2.1 0 = .ok (.aload_n 0, 1) := by decide +kernel
theorem d_Book_chooseBest_1 : decode m_Book_chooseBest.2.1 1 = .ok (.invokevirtual 151, 3) := by decide +kernel
theorem d_Book_chooseBest_4 : decode m_Book_chooseBest.2.1 4 = .ok (.aload_n 0, 1) := by decide +kernel
theorem d_Book_chooseBest_5 : decode m_Book_chooseBest.2.1 5 = .ok (.iload_n 1, 1) := by decide +kernel
theorem d_Book_chooseBest_6 : decode m_Book_chooseBest.2.1 6 = .ok (.invokevirtual 154, 3) := by decide +kernel
theorem d_Book_chooseBest_9 : decode m_Book_chooseBest.2.1 9 = .ok (.aload_n 0, 1) := by decide +kernel
theorem d_Book_chooseBest_10 : decode m_Book_chooseBest.2.1 10 = .ok (.invokevirtual 158, 3) := by decide +kernel
theorem d_Book_chooseBest_13 : decode m_Book_chooseBest.2.1 13 = .ok (.istore_n 2, 1) := by decide +kernel
theorem d_Book_chooseBest_14 : decode m_Book_chooseBest.2.1 14 = .ok (.iconst 0, 1) := by decide +kernel
theorem d_Book_chooseBest_15 : decode m_Book_chooseBest.2.1 15 = .ok (.istore_n 3, 1) := by decide +kernel
theorem d_Book_chooseBest_16 : decode m_Book_chooseBest.2.1 16 = .ok (.iload_n 3, 1) := by decide +kernel
theorem d_Book_chooseBest_17 : decode m_Book_chooseBest.2.1 17 = .ok (.iload_n 1, 1) := by decide +kernel
theorem d_Book_chooseBest_18 : decode m_Book_chooseBest.2.1 18 = .ok (.if_icmp .ge 37, 3) := by decide +kernel
theorem d_Book_chooseBest_21 : decode m_Book_chooseBest.2.1 21 = .ok (.aload_n 0, 1) := by decide +kernel
theorem d_Book_chooseBest_22 : decode m_Book_chooseBest.2.1 22 = .ok (.getfield 57, 3) := by decide +kernel
theorem d_Book_chooseBest_25 : decode m_Book_chooseBest.2.1 25 = .ok (.iload_n 3, 1) := by decide +kernel
theorem d_Book_chooseBest_26 : decode m_Book_chooseBest.2.1 26 = .ok (.aload_n 0, 1) := by decide +kernel
theorem d_Book_chooseBest_27 : decode m_Book_chooseBest.2.1 27 = .ok (.iload_n 3, 1) := by decide +kernel
theorem d_Book_chooseBest_28 : decode m_Book_chooseBest.2.1 28 = .ok (.iload_n 2, 1) := by decide +kernel
theorem d_Book_chooseBest_29 : decode m_Book_chooseBest.2.1 29 = .ok (.invokevirtual 161, 3) := by decide +kernel
theorem d_Book_chooseBest_32 : decode m_Book_chooseBest.2.1 32 = .ok (.iastore, 1) := by decide +kernel
theorem d_Book_chooseBest_33 : decode m_Book_chooseBest.2.1 33 = .ok (.iload_n 2, 1) := by decide +kernel
theorem d_Book_chooseBest_34 : decode m_Book_chooseBest.2.1 34 = .ok (.aload_n 0, 1) := by decide +kernel
theorem d_Book_chooseBest_35 : decode m_Book_chooseBest.2.1 35 = .ok (.getfield 15, 3) := by decide +kernel
theorem d_Book_chooseBest_38 : decode m_Book_chooseBest.2.1 38 = .ok (.aload_n 0, 1) := by decide +kernel
theorem d_Book_chooseBest_39 : decode m_Book_chooseBest.2.1 39 = .ok (.getfield 57, 3) := by decide +kernel
theorem d_Book_chooseBest_42 : decode m_Book_chooseBest.2.1 42 = .ok (.iload_n 3, 1) := by decide +kernel
theorem d_Book_chooseBest_43 : decode m_Book_chooseBest.2.1 43 = .ok (.iaload, 1) := by decide +kernel
theorem d_Book_chooseBest_44 : decode m_Book_chooseBest.2.1 44 = .ok (.iaload, 1) := by decide +kernel
theorem d_Book_chooseBest_45 : decode m_Book_chooseBest.2.1 45 = .ok (.iconst (-1), 1) := by decide +kernel
theorem d_Book_chooseBest_46 : decode m_Book_chooseBest.2.1 46 = .ok (.ixor, 1) := by decide +kernel
theorem d_Book_chooseBest_47 : decode m_Book_chooseBest.2.1 47 = .ok (.iand, 1) := by decide +kernel
theorem d_Book_chooseBest_48 : decode m_Book_chooseBest.2.1 48 = .ok (.istore_n 2, 1) := by decide +kernel
theorem d_Book_chooseBest_49 : decode m_Book_chooseBest.2.1 49 = .ok (.iinc 3 1, 3) := by decide +kernel
theorem d_Book_chooseBest_52 : decode m_Book_chooseBest.2.1 52 = .ok (.goto (-36), 3) := by decide +kernel
theorem d_Book_chooseBest_55 : decode m_Book_chooseBest.2.1 55 = .ok (.return_, 1) := by decide +kernel
theorem d_Book_firstBest_0 : decode m_Book_firstBest.2.1 0 = .ok (.iconst 0, 1) := by decide +kernel
theorem d_Book_firstBest_1 : decode m_Book_firstBest.2.1 1 = .ok (.istore_n 3, 1) := by decide +kernel
theorem d_Book_firstBest_2 : decode m_Book_firstBest.2.1 2 = .ok (.iload_n 3, 1) := by decide +kernel
theorem d_Book_firstBest_3 : decode m_Book_firstBest.2.1 3 = .ok (.aload_n 0, 1) := by decide +kernel
theorem d_Book_firstBest_4 : decode m_Book_firstBest.2.1 4 = .ok (.getfield 18, 3) := by decide +kernel
theorem d_Book_firstBest_7 : decode m_Book_firstBest.2.1 7 = .ok (.if_icmp .ge 68, 3) := by decide +kernel
theorem d_Book_firstBest_10 : decode m_Book_firstBest.2.1 10 = .ok (.aload_n 0, 1) := by decide +kernel
theorem d_Book_firstBest_11 : decode m_Book_firstBest.2.1 11 = .ok (.getfield 15, 3) := by decide +kernel
theorem d_Book_firstBest_14 : decode m_Book_firstBest.2.1 14 = .ok (.iload_n 3, 1) := by decide +kernel
theorem d_Book_firstBest_15 : decode m_Book_firstBest.2.1 15 = .ok (.iaload, 1) := by decide +kernel
theorem d_Book_firstBest_16 : decode m_Book_firstBest.2.1 16 = .ok (.istore 4, 2) := by decide +kernel
theorem d_Book_firstBest_18 : decode m_Book_firstBest.2.1 18 = .ok (.iload 4, 2) := by decide +kernel
theorem d_Book_firstBest_20 : decode m_Book_firstBest.2.1 20 = .ok (.iload_n 2, 1) := by decide +kernel
theorem d_Book_firstBest_21 : decode m_Book_firstBest.2.1 21 = .ok (.iconst (-1), 1) := by decide +kernel
theorem d_Book_firstBest_22 : decode m_Book_firstBest.2.1 22 = .ok (.ixor, 1) := by decide +kernel
theorem d_Book_firstBest_23 : decode m_Book_firstBest.2.1 23 = .ok (.iand, 1) := by decide +kernel
theorem d_Book_firstBest_24 : decode m_Book_firstBest.2.1 24 = .ok (.ifCond .ne 45, 3) := by decide +kernel
theorem d_Book_firstBest_27 : decode m_Book_firstBest.2.1 27 = .ok (.aload_n 0, 1) := by decide +kernel
theorem d_Book_firstBest_28 : decode m_Book_firstBest.2.1 28 = .ok (.getfield 48, 3) := by decide +kernel
theorem d_Book_firstBest_31 : decode m_Book_firstBest.2.1 31 = .ok (.aload_n 0, 1) := by decide +kernel
theorem d_Book_firstBest_32 : decode m_Book_firstBest.2.1 32 = .ok (.getfield 29, 3) := by decide +kernel
theorem d_Book_firstBest_35 : decode m_Book_firstBest.2.1 35 = .ok (.iload_n 1, 1) := by decide +kernel
theorem d_Book_firstBest_36 : decode m_Book_firstBest.2.1 36 = .ok (.aaload, 1) := by decide +kernel
theorem d_Book_firstBest_37 : decode m_Book_firstBest.2.1 37 = .ok (.iload_n 3, 1) := by decide +kernel
theorem d_Book_firstBest_38 : decode m_Book_firstBest.2.1 38 = .ok (.iaload, 1) := by decide +kernel
theorem d_Book_firstBest_39 : decode m_Book_firstBest.2.1 39 = .ok (.iaload, 1) := by decide +kernel
theorem d_Book_firstBest_40 : decode m_Book_firstBest.2.1 40 = .ok (.aload_n 0, 1) := by decide +kernel
theorem d_Book_firstBest_41 : decode m_Book_firstBest.2.1 41 = .ok (.getfield 54, 3) := by decide +kernel
theorem d_Book_firstBest_44 : decode m_Book_firstBest.2.1 44 = .ok (.iload_n 1, 1) := by decide +kernel
theorem d_Book_firstBest_45 : decode m_Book_firstBest.2.1 45 = .ok (.iconst 1, 1) := by decide +kernel
theorem d_Book_firstBest_46 : decode m_Book_firstBest.2.1 46 = .ok (.iadd, 1) := by decide +kernel
theorem d_Book_firstBest_47 : decode m_Book_firstBest.2.1 47 = .ok (.aaload, 1) := by decide +kernel
theorem d_Book_firstBest_48 : decode m_Book_firstBest.2.1 48 = .ok (.iload_n 2, 1) := by decide +kernel
theorem d_Book_firstBest_49 : decode m_Book_firstBest.2.1 49 = .ok (.iload 4, 2) := by decide +kernel
theorem d_Book_firstBest_51 : decode m_Book_firstBest.2.1 51 = .ok (.iconst (-1), 1) := by decide +kernel
theorem d_Book_firstBest_52 : decode m_Book_firstBest.2.1 52 = .ok (.ixor, 1) := by decide +kernel
theorem d_Book_firstBest_53 : decode m_Book_firstBest.2.1 53 = .ok (.iand, 1) := by decide +kernel
theorem d_Book_firstBest_54 : decode m_Book_firstBest.2.1 54 = .ok (.iaload, 1) := by decide +kernel
theorem d_Book_firstBest_55 : decode m_Book_firstBest.2.1 55 = .ok (.iadd, 1) := by decide +kernel
theorem d_Book_firstBest_56 : decode m_Book_firstBest.2.1 56 = .ok (.aload_n 0, 1) := by decide +kernel
theorem d_Book_firstBest_57 : decode m_Book_firstBest.2.1 57 = .ok (.getfield 54, 3) := by decide +kernel
theorem d_Book_firstBest_60 : decode m_Book_firstBest.2.1 60 = .ok (.iload_n 1, 1) := by decide +kernel
theorem d_Book_firstBest_61 : decode m_Book_firstBest.2.1 61 = .ok (.aaload, 1) := by decide +kernel
theorem d_Book_firstBest_62 : decode m_Book_firstBest.2.1 62 = .ok (.iload_n 2, 1) := by decide +kernel
theorem d_Book_firstBest_63 : decode m_Book_firstBest.2.1 63 = .ok (.iaload, 1) := by decide +kernel
theorem d_Book_firstBest_64 : decode m_Book_firstBest.2.1 64 = .ok (.if_icmp .ne 5, 3) := by decide +kernel
theorem d_Book_firstBest_67 : decode m_Book_firstBest.2.1 67 = .ok (.iload_n 3, 1) := by decide +kernel
theorem d_Book_firstBest_68 : decode m_Book_firstBest.2.1 68 = .ok (.ireturn, 1) := by decide +kernel
theorem d_Book_firstBest_69 : decode m_Book_firstBest.2.1 69 = .ok (.iinc 3 1, 3) := by decide +kernel
theorem d_Book_firstBest_72 : decode m_Book_firstBest.2.1 72 = .ok (.goto (-70), 3) := by decide +kernel
theorem d_Book_firstBest_75 : decode m_Book_firstBest.2.1 75 = .ok (.iconst 0, 1) := by decide +kernel
theorem d_Book_firstBest_76 : decode m_Book_firstBest.2.1 76 = .ok (.ireturn, 1) := by decide +kernel
theorem d_Book_houseOf_0 : decode m_Book_houseOf.2.1 0 = .ok (.iload_n 2, 1) := by decide +kernel
theorem d_Book_houseOf_1 : decode m_Book_houseOf.2.1 1 = .ok (.bipush 6, 2) := by decide +kernel
theorem d_Book_houseOf_3 : decode m_Book_houseOf.2.1 3 = .ok (.if_icmp .ge 21, 3) := by decide +kernel
theorem d_Book_houseOf_6 : decode m_Book_houseOf.2.1 6 = .ok (.aload_n 0, 1) := by decide +kernel
theorem d_Book_houseOf_7 : decode m_Book_houseOf.2.1 7 = .ok (.getfield 9, 3) := by decide +kernel
theorem d_Book_houseOf_10 : decode m_Book_houseOf.2.1 10 = .ok (.iload_n 1, 1) := by decide +kernel
theorem d_Book_houseOf_11 : decode m_Book_houseOf.2.1 11 = .ok (.iaload, 1) := by decide +kernel
theorem d_Book_houseOf_12 : decode m_Book_houseOf.2.1 12 = .ok (.iconst 3, 1) := by decide +kernel
theorem d_Book_houseOf_13 : decode m_Book_houseOf.2.1 13 = .ok (.iload_n 2, 1) := by decide +kernel
theorem d_Book_houseOf_14 : decode m_Book_houseOf.2.1 14 = .ok (.imul, 1) := by decide +kernel
theorem d_Book_houseOf_15 : decode m_Book_houseOf.2.1 15 = .ok (.ishr, 1) := by decide +kernel
theorem d_Book_houseOf_16 : decode m_Book_houseOf.2.1 16 = .ok (.bipush 7, 2) := by decide +kernel
theorem d_Book_houseOf_18 : decode m_Book_houseOf.2.1 18 = .ok (.iand, 1) := by decide +kernel
theorem d_Book_houseOf_19 : decode m_Book_houseOf.2.1 19 = .ok (.iconst 1, 1) := by decide +kernel
theorem d_Book_houseOf_20 : decode m_Book_houseOf.2.1 20 = .ok (.isub, 1) := by decide +kernel
theorem d_Book_houseOf_21 : decode m_Book_houseOf.2.1 21 = .ok (.goto 4, 3) := by decide +kernel
theorem d_Book_houseOf_24 : decode m_Book_houseOf.2.1 24 = .ok (.iconst (-1), 1) := by decide +kernel
theorem d_Book_houseOf_25 : decode m_Book_houseOf.2.1 25 = .ok (.istore_n 3, 1) := by decide +kernel
theorem d_Book_houseOf_26 : decode m_Book_houseOf.2.1 26 = .ok (.iload_n 3, 1) := by decide +kernel
theorem d_Book_houseOf_27 : decode m_Book_houseOf.2.1 27 = .ok (.iconst (-1), 1) := by decide +kernel
theorem d_Book_houseOf_28 : decode m_Book_houseOf.2.1 28 = .ok (.if_icmp .ne 8, 3) := by decide +kernel
theorem d_Book_houseOf_31 : decode m_Book_houseOf.2.1 31 = .ok (.bipush (-2), 2) := by decide +kernel
theorem d_Book_houseOf_33 : decode m_Book_houseOf.2.1 33 = .ok (.goto 4, 3) := by decide +kernel
theorem d_Book_houseOf_36 : decode m_Book_houseOf.2.1 36 = .ok (.iload_n 3, 1) := by decide +kernel
theorem d_Book_houseOf_37 : decode m_Book_houseOf.2.1 37 = .ok (.ireturn, 1) := by decide +kernel
theorem d_Fs_many_0 : decode m_Fs_many.2.1 0 = .ok (.aload_n 0, 1) := by decide +kernel
theorem d_Fs_many_1 : decode m_Fs_many.2.1 1 = .ok (.getfield 62, 3) := by decide +kernel
theorem d_Fs_many_4 : decode m_Fs_many.2.1 4 = .ok (.aload_n 0, 1) := by decide +kernel
theorem d_Fs_many_5 : decode m_Fs_many.2.1 5 = .ok (.getfield 31, 3) := by decide +kernel
theorem d_Fs_many_8 : decode m_Fs_many.2.1 8 = .ok (.invokevirtual 296, 3) := by decide +kernel
theorem d_Fs_many_11 : decode m_Fs_many.2.1 11 = .ok (.aload_n 0, 1) := by decide +kernel
theorem d_Fs_many_12 : decode m_Fs_many.2.1 12 = .ok (.getfield 62, 3) := by decide +kernel
theorem d_Fs_many_15 : decode m_Fs_many.2.1 15 = .ok (.invokevirtual 311, 3) := by decide +kernel
theorem d_Fs_many_18 : decode m_Fs_many.2.1 18 = .ok (.istore_n 1, 1) := by decide +kernel
theorem d_Fs_many_19 : decode m_Fs_many.2.1 19 = .ok (.iconst 0, 1) := by decide +kernel
theorem d_Fs_many_20 : decode m_Fs_many.2.1 20 = .ok (.istore_n 2, 1) := by decide +kernel
theorem d_Fs_many_21 : decode m_Fs_many.2.1 21 = .ok (.iload_n 2, 1) := by decide +kernel
theorem d_Fs_many_22 : decode m_Fs_many.2.1 22 = .ok (.aload_n 0, 1) := by decide +kernel
theorem d_Fs_many_23 : decode m_Fs_many.2.1 23 = .ok (.getfield 12, 3) := by decide +kernel
theorem d_Fs_many_26 : decode m_Fs_many.2.1 26 = .ok (.getfield 147, 3) := by decide +kernel
theorem d_Fs_many_29 : decode m_Fs_many.2.1 29 = .ok (.if_icmp .gt 23, 3) := by decide +kernel
theorem d_Fs_many_32 : decode m_Fs_many.2.1 32 = .ok (.aload_n 0, 1) := by decide +kernel
theorem d_Fs_many_33 : decode m_Fs_many.2.1 33 = .ok (.getfield 62, 3) := by decide +kernel
theorem d_Fs_many_36 : decode m_Fs_many.2.1 36 = .ok (.iload_n 2, 1) := by decide +kernel
theorem d_Fs_many_37 : decode m_Fs_many.2.1 37 = .ok (.invokevirtual 299, 3) := by decide +kernel
theorem d_Fs_many_40 : decode m_Fs_many.2.1 40 = .ok (.iload_n 1, 1) := by decide +kernel
theorem d_Fs_many_41 : decode m_Fs_many.2.1 41 = .ok (.if_icmp .ne 5, 3) := by decide +kernel
theorem d_Fs_many_44 : decode m_Fs_many.2.1 44 = .ok (.iload_n 2, 1) := by decide +kernel
theorem d_Fs_many_45 : decode m_Fs_many.2.1 45 = .ok (.ireturn, 1) := by decide +kernel
theorem d_Fs_many_46 : decode m_Fs_many.2.1 46 = .ok (.iinc 2 1, 3) := by decide +kernel
theorem d_Fs_many_49 : decode m_Fs_many.2.1 49 = .ok (.goto (-28), 3) := by decide +kernel
theorem d_Fs_many_52 : decode m_Fs_many.2.1 52 = .ok (.bipush (-2), 2) := by decide +kernel
theorem d_Fs_many_54 : decode m_Fs_many.2.1 54 = .ok (.ireturn, 1) := by decide +kernel
theorem d_Book_wholeWorth_0 : decode m_Book_wholeWorth.2.1 0 = .ok (.aload_n 0, 1) := by decide +kernel
theorem d_Book_wholeWorth_1 : decode m_Book_wholeWorth.2.1 1 = .ok (.invokevirtual 143, 3) := by decide +kernel
theorem d_Book_wholeWorth_4 : decode m_Book_wholeWorth.2.1 4 = .ok (.istore_n 1, 1) := by decide +kernel
theorem d_Book_wholeWorth_5 : decode m_Book_wholeWorth.2.1 5 = .ok (.iconst 0, 1) := by decide +kernel
theorem d_Book_wholeWorth_6 : decode m_Book_wholeWorth.2.1 6 = .ok (.istore_n 2, 1) := by decide +kernel
theorem d_Book_wholeWorth_7 : decode m_Book_wholeWorth.2.1 7 = .ok (.iload_n 2, 1) := by decide +kernel
theorem d_Book_wholeWorth_8 : decode m_Book_wholeWorth.2.1 8 = .ok (.aload_n 0, 1) := by decide +kernel
theorem d_Book_wholeWorth_9 : decode m_Book_wholeWorth.2.1 9 = .ok (.getfield 60, 3) := by decide +kernel
theorem d_Book_wholeWorth_12 : decode m_Book_wholeWorth.2.1 12 = .ok (.getfield 78, 3) := by decide +kernel
theorem d_Book_wholeWorth_15 : decode m_Book_wholeWorth.2.1 15 = .ok (.if_icmp .ge 32, 3) := by decide +kernel
theorem d_Book_wholeWorth_18 : decode m_Book_wholeWorth.2.1 18 = .ok (.iload_n 1, 1) := by decide +kernel
theorem d_Book_wholeWorth_19 : decode m_Book_wholeWorth.2.1 19 = .ok (.aload_n 0, 1) := by decide +kernel
theorem d_Book_wholeWorth_20 : decode m_Book_wholeWorth.2.1 20 = .ok (.getfield 39, 3) := by decide +kernel
theorem d_Book_wholeWorth_23 : decode m_Book_wholeWorth.2.1 23 = .ok (.iload_n 2, 1) := by decide +kernel
theorem d_Book_wholeWorth_24 : decode m_Book_wholeWorth.2.1 24 = .ok (.invokestatic 106, 3) := by decide +kernel
theorem d_Book_wholeWorth_27 : decode m_Book_wholeWorth.2.1 27 = .ok (.ifCond .ne 11, 3) := by decide +kernel
theorem d_Book_wholeWorth_30 : decode m_Book_wholeWorth.2.1 30 = .ok (.aload_n 0, 1) := by decide +kernel
theorem d_Book_wholeWorth_31 : decode m_Book_wholeWorth.2.1 31 = .ok (.iload_n 2, 1) := by decide +kernel
theorem d_Book_wholeWorth_32 : decode m_Book_wholeWorth.2.1 32 = .ok (.invokevirtual 147, 3) := by decide +kernel
theorem d_Book_wholeWorth_35 : decode m_Book_wholeWorth.2.1 35 = .ok (.goto 4, 3) := by decide +kernel
theorem d_Book_wholeWorth_38 : decode m_Book_wholeWorth.2.1 38 = .ok (.iconst 0, 1) := by decide +kernel
theorem d_Book_wholeWorth_39 : decode m_Book_wholeWorth.2.1 39 = .ok (.iadd, 1) := by decide +kernel
theorem d_Book_wholeWorth_40 : decode m_Book_wholeWorth.2.1 40 = .ok (.istore_n 1, 1) := by decide +kernel
theorem d_Book_wholeWorth_41 : decode m_Book_wholeWorth.2.1 41 = .ok (.iinc 2 1, 3) := by decide +kernel
theorem d_Book_wholeWorth_44 : decode m_Book_wholeWorth.2.1 44 = .ok (.goto (-37), 3) := by decide +kernel
theorem d_Book_wholeWorth_47 : decode m_Book_wholeWorth.2.1 47 = .ok (.iload_n 1, 1) := by decide +kernel
theorem d_Book_wholeWorth_48 : decode m_Book_wholeWorth.2.1 48 = .ok (.ireturn, 1) := by decide +kernel
theorem d_Fs_price_0 : decode m_Fs_price.2.1 0 = .ok (.aload_n 0, 1) := by decide +kernel
theorem d_Fs_price_1 : decode m_Fs_price.2.1 1 = .ok (.getfield 12, 3) := by decide +kernel
theorem d_Fs_price_4 : decode m_Fs_price.2.1 4 = .ok (.iload_n 1, 1) := by decide +kernel
theorem d_Fs_price_5 : decode m_Fs_price.2.1 5 = .ok (.invokevirtual 150, 3) := by decide +kernel
theorem d_Fs_price_8 : decode m_Fs_price.2.1 8 = .ok (.ifCond .ne 5, 3) := by decide +kernel
theorem d_Fs_price_11 : decode m_Fs_price.2.1 11 = .ok (.iconst (-1), 1) := by decide +kernel
theorem d_Fs_price_12 : decode m_Fs_price.2.1 12 = .ok (.ireturn, 1) := by decide +kernel
theorem d_Fs_price_13 : decode m_Fs_price.2.1 13 = .ok (.aload_n 0, 1) := by decide +kernel
theorem d_Fs_price_14 : decode m_Fs_price.2.1 14 = .ok (.getfield 62, 3) := by decide +kernel
theorem d_Fs_price_17 : decode m_Fs_price.2.1 17 = .ok (.aload_n 0, 1) := by decide +kernel
theorem d_Fs_price_18 : decode m_Fs_price.2.1 18 = .ok (.getfield 31, 3) := by decide +kernel
theorem d_Fs_price_21 : decode m_Fs_price.2.1 21 = .ok (.invokevirtual 296, 3) := by decide +kernel
theorem d_Fs_price_24 : decode m_Fs_price.2.1 24 = .ok (.aload_n 0, 1) := by decide +kernel
theorem d_Fs_price_25 : decode m_Fs_price.2.1 25 = .ok (.getfield 62, 3) := by decide +kernel
theorem d_Fs_price_28 : decode m_Fs_price.2.1 28 = .ok (.iload_n 1, 1) := by decide +kernel
theorem d_Fs_price_29 : decode m_Fs_price.2.1 29 = .ok (.invokevirtual 315, 3) := by decide +kernel
theorem d_Fs_price_32 : decode m_Fs_price.2.1 32 = .ok (.ireturn, 1) := by decide +kernel
theorem d_Book_priceOf_0 : decode m_Book_priceOf.2.1 0 = .ok (.aload_n 0, 1) := by decide +kernel
theorem d_Book_priceOf_1 : decode m_Book_priceOf.2.1 1 = .ok (.aload_n 0, 1) := by decide +kernel
theorem d_Book_priceOf_2 : decode m_Book_priceOf.2.1 2 = .ok (.getfield 60, 3) := by decide +kernel
theorem d_Book_priceOf_5 : decode m_Book_priceOf.2.1 5 = .ok (.getfield 90, 3) := by decide +kernel
theorem d_Book_priceOf_8 : decode m_Book_priceOf.2.1 8 = .ok (.invokevirtual 164, 3) := by decide +kernel
theorem d_Book_priceOf_11 : decode m_Book_priceOf.2.1 11 = .ok (.aload_n 0, 1) := by decide +kernel
theorem d_Book_priceOf_12 : decode m_Book_priceOf.2.1 12 = .ok (.getfield 54, 3) := by decide +kernel
theorem d_Book_priceOf_15 : decode m_Book_priceOf.2.1 15 = .ok (.iconst 0, 1) := by decide +kernel
theorem d_Book_priceOf_16 : decode m_Book_priceOf.2.1 16 = .ok (.aaload, 1) := by decide +kernel
theorem d_Book_priceOf_17 : decode m_Book_priceOf.2.1 17 = .ok (.aload_n 0, 1) := by decide +kernel
theorem d_Book_priceOf_18 : decode m_Book_priceOf.2.1 18 = .ok (.invokevirtual 158, 3) := by decide +kernel
theorem d_Book_priceOf_21 : decode m_Book_priceOf.2.1 21 = .ok (.iaload, 1) := by decide +kernel
theorem d_Book_priceOf_22 : decode m_Book_priceOf.2.1 22 = .ok (.istore_n 2, 1) := by decide +kernel
theorem d_Book_priceOf_23 : decode m_Book_priceOf.2.1 23 = .ok (.iconst 0, 1) := by decide +kernel
theorem d_Book_priceOf_24 : decode m_Book_priceOf.2.1 24 = .ok (.istore_n 3, 1) := by decide +kernel
theorem d_Book_priceOf_25 : decode m_Book_priceOf.2.1 25 = .ok (.iload_n 3, 1) := by decide +kernel
theorem d_Book_priceOf_26 : decode m_Book_priceOf.2.1 26 = .ok (.aload_n 0, 1) := by decide +kernel
theorem d_Book_priceOf_27 : decode m_Book_priceOf.2.1 27 = .ok (.getfield 60, 3) := by decide +kernel
theorem d_Book_priceOf_30 : decode m_Book_priceOf.2.1 30 = .ok (.getfield 90, 3) := by decide +kernel
theorem d_Book_priceOf_33 : decode m_Book_priceOf.2.1 33 = .ok (.if_icmp .ge 38, 3) := by decide +kernel
theorem d_Book_priceOf_36 : decode m_Book_priceOf.2.1 36 = .ok (.aload_n 0, 1) := by decide +kernel
theorem d_Book_priceOf_37 : decode m_Book_priceOf.2.1 37 = .ok (.getfield 29, 3) := by decide +kernel
theorem d_Book_priceOf_40 : decode m_Book_priceOf.2.1 40 = .ok (.iload_n 3, 1) := by decide +kernel
theorem d_Book_priceOf_41 : decode m_Book_priceOf.2.1 41 = .ok (.aaload, 1) := by decide +kernel
theorem d_Book_priceOf_42 : decode m_Book_priceOf.2.1 42 = .ok (.aload_n 0, 1) := by decide +kernel
theorem d_Book_priceOf_43 : decode m_Book_priceOf.2.1 43 = .ok (.getfield 57, 3) := by decide +kernel
theorem d_Book_priceOf_46 : decode m_Book_priceOf.2.1 46 = .ok (.iload_n 3, 1) := by decide +kernel
theorem d_Book_priceOf_47 : decode m_Book_priceOf.2.1 47 = .ok (.iaload, 1) := by decide +kernel
theorem d_Book_priceOf_48 : decode m_Book_priceOf.2.1 48 = .ok (.iaload, 1) := by decide +kernel
theorem d_Book_priceOf_49 : decode m_Book_priceOf.2.1 49 = .ok (.iload_n 1, 1) := by decide +kernel
theorem d_Book_priceOf_50 : decode m_Book_priceOf.2.1 50 = .ok (.invokestatic 106, 3) := by decide +kernel
theorem d_Book_priceOf_53 : decode m_Book_priceOf.2.1 53 = .ok (.iconst 1, 1) := by decide +kernel
theorem d_Book_priceOf_54 : decode m_Book_priceOf.2.1 54 = .ok (.if_icmp .ne 11, 3) := by decide +kernel
theorem d_Book_priceOf_57 : decode m_Book_priceOf.2.1 57 = .ok (.iload_n 2, 1) := by decide +kernel
theorem d_Book_priceOf_58 : decode m_Book_priceOf.2.1 58 = .ok (.aload_n 0, 1) := by decide +kernel
theorem d_Book_priceOf_59 : decode m_Book_priceOf.2.1 59 = .ok (.iload_n 1, 1) := by decide +kernel
theorem d_Book_priceOf_60 : decode m_Book_priceOf.2.1 60 = .ok (.invokevirtual 147, 3) := by decide +kernel
theorem d_Book_priceOf_63 : decode m_Book_priceOf.2.1 63 = .ok (.isub, 1) := by decide +kernel
theorem d_Book_priceOf_64 : decode m_Book_priceOf.2.1 64 = .ok (.istore_n 2, 1) := by decide +kernel
theorem d_Book_priceOf_65 : decode m_Book_priceOf.2.1 65 = .ok (.iinc 3 1, 3) := by decide +kernel
theorem d_Book_priceOf_68 : decode m_Book_priceOf.2.1 68 = .ok (.goto (-43), 3) := by decide +kernel
theorem d_Book_priceOf_71 : decode m_Book_priceOf.2.1 71 = .ok (.aload_n 0, 1) := by decide +kernel
theorem d_Book_priceOf_72 : decode m_Book_priceOf.2.1 72 = .ok (.getfield 54, 3) := by decide +kernel
theorem d_Book_priceOf_75 : decode m_Book_priceOf.2.1 75 = .ok (.iconst 0, 1) := by decide +kernel
theorem d_Book_priceOf_76 : decode m_Book_priceOf.2.1 76 = .ok (.aaload, 1) := by decide +kernel
theorem d_Book_priceOf_77 : decode m_Book_priceOf.2.1 77 = .ok (.aload_n 0, 1) := by decide +kernel
theorem d_Book_priceOf_78 : decode m_Book_priceOf.2.1 78 = .ok (.invokevirtual 158, 3) := by decide +kernel
theorem d_Book_priceOf_81 : decode m_Book_priceOf.2.1 81 = .ok (.iconst 1, 1) := by decide +kernel
theorem d_Book_priceOf_82 : decode m_Book_priceOf.2.1 82 = .ok (.iload_n 1, 1) := by decide +kernel
theorem d_Book_priceOf_83 : decode m_Book_priceOf.2.1 83 = .ok (.ishl, 1) := by decide +kernel
theorem d_Book_priceOf_84 : decode m_Book_priceOf.2.1 84 = .ok (.iconst (-1), 1) := by decide +kernel
theorem d_Book_priceOf_85 : decode m_Book_priceOf.2.1 85 = .ok (.ixor, 1) := by decide +kernel
theorem d_Book_priceOf_86 : decode m_Book_priceOf.2.1 86 = .ok (.iand, 1) := by decide +kernel
theorem d_Book_priceOf_87 : decode m_Book_priceOf.2.1 87 = .ok (.iaload, 1) := by decide +kernel
theorem d_Book_priceOf_88 : decode m_Book_priceOf.2.1 88 = .ok (.iload_n 2, 1) := by decide +kernel
theorem d_Book_priceOf_89 : decode m_Book_priceOf.2.1 89 = .ok (.isub, 1) := by decide +kernel
theorem d_Book_priceOf_90 : decode m_Book_priceOf.2.1 90 = .ok (.ireturn, 1) := by decide +kernel
theorem d_Fs_all_0 : decode m_Fs_all.2.1 0 = .ok (.iload_n 1, 1) := by decide +kernel
theorem d_Fs_all_1 : decode m_Fs_all.2.1 1 = .ok (.ifCond .lt 16, 3) := by decide +kernel
theorem d_Fs_all_4 : decode m_Fs_all.2.1 4 = .ok (.iload_n 1, 1) := by decide +kernel
theorem d_Fs_all_5 : decode m_Fs_all.2.1 5 = .ok (.iconst 1, 1) := by decide +kernel
theorem d_Fs_all_6 : decode m_Fs_all.2.1 6 = .ok (.aload_n 0, 1) := by decide +kernel
theorem d_Fs_all_7 : decode m_Fs_all.2.1 7 = .ok (.getfield 12, 3) := by decide +kernel
theorem d_Fs_all_10 : decode m_Fs_all.2.1 10 = .ok (.getfield 137, 3) := by decide +kernel
theorem d_Fs_all_13 : decode m_Fs_all.2.1 13 = .ok (.ishl, 1) := by decide +kernel
theorem d_Fs_all_14 : decode m_Fs_all.2.1 14 = .ok (.if_icmp .lt 5, 3) := by decide +kernel
theorem d_Fs_all_17 : decode m_Fs_all.2.1 17 = .ok (.iconst (-1), 1) := by decide +kernel
theorem d_Fs_all_18 : decode m_Fs_all.2.1 18 = .ok (.ireturn, 1) := by decide +kernel
theorem d_Fs_all_19 : decode m_Fs_all.2.1 19 = .ok (.aload_n 0, 1) := by decide +kernel
theorem d_Fs_all_20 : decode m_Fs_all.2.1 20 = .ok (.getfield 62, 3) := by decide +kernel
theorem d_Fs_all_23 : decode m_Fs_all.2.1 23 = .ok (.aload_n 0, 1) := by decide +kernel
theorem d_Fs_all_24 : decode m_Fs_all.2.1 24 = .ok (.getfield 31, 3) := by decide +kernel
theorem d_Fs_all_27 : decode m_Fs_all.2.1 27 = .ok (.invokevirtual 296, 3) := by decide +kernel
theorem d_Fs_all_30 : decode m_Fs_all.2.1 30 = .ok (.aload_n 0, 1) := by decide +kernel
theorem d_Fs_all_31 : decode m_Fs_all.2.1 31 = .ok (.getfield 62, 3) := by decide +kernel
theorem d_Fs_all_34 : decode m_Fs_all.2.1 34 = .ok (.iload_n 1, 1) := by decide +kernel
theorem d_Fs_all_35 : decode m_Fs_all.2.1 35 = .ok (.invokevirtual 318, 3) := by decide +kernel
theorem d_Fs_all_38 : decode m_Fs_all.2.1 38 = .ok (.ifCond .eq 7, 3) := by decide +kernel
theorem d_Fs_all_41 : decode m_Fs_all.2.1 41 = .ok (.iconst 1, 1) := by decide +kernel
theorem d_Fs_all_42 : decode m_Fs_all.2.1 42 = .ok (.goto 4, 3) := by decide +kernel
theorem d_Fs_all_45 : decode m_Fs_all.2.1 45 = .ok (.iconst 0, 1) := by decide +kernel
theorem d_Fs_all_46 : decode m_Fs_all.2.1 46 = .ok (.ireturn, 1) := by decide +kernel
theorem d_Book_canDoAll_0 : decode m_Book_canDoAll.2.1 0 = .ok (.iload_n 1, 1) := by decide +kernel
theorem d_Book_canDoAll_1 : decode m_Book_canDoAll.2.1 1 = .ok (.aload_n 0, 1) := by decide +kernel
theorem d_Book_canDoAll_2 : decode m_Book_canDoAll.2.1 2 = .ok (.getfield 39, 3) := by decide +kernel
theorem d_Book_canDoAll_5 : decode m_Book_canDoAll.2.1 5 = .ok (.iconst (-1), 1) := by decide +kernel
theorem d_Book_canDoAll_6 : decode m_Book_canDoAll.2.1 6 = .ok (.ixor, 1) := by decide +kernel
theorem d_Book_canDoAll_7 : decode m_Book_canDoAll.2.1 7 = .ok (.iand, 1) := by decide +kernel
theorem d_Book_canDoAll_8 : decode m_Book_canDoAll.2.1 8 = .ok (.istore_n 2, 1) := by decide +kernel
theorem d_Book_canDoAll_9 : decode m_Book_canDoAll.2.1 9 = .ok (.iconst 0, 1) := by decide +kernel
theorem d_Book_canDoAll_10 : decode m_Book_canDoAll.2.1 10 = .ok (.istore_n 3, 1) := by decide +kernel
theorem d_Book_canDoAll_11 : decode m_Book_canDoAll.2.1 11 = .ok (.iload_n 3, 1) := by decide +kernel
theorem d_Book_canDoAll_12 : decode m_Book_canDoAll.2.1 12 = .ok (.bipush 64, 2) := by decide +kernel
theorem d_Book_canDoAll_14 : decode m_Book_canDoAll.2.1 14 = .ok (.if_icmp .ge 21, 3) := by decide +kernel
theorem d_Book_canDoAll_17 : decode m_Book_canDoAll.2.1 17 = .ok (.aload_n 0, 1) := by decide +kernel
theorem d_Book_canDoAll_18 : decode m_Book_canDoAll.2.1 18 = .ok (.getfield 48, 3) := by decide +kernel
theorem d_Book_canDoAll_21 : decode m_Book_canDoAll.2.1 21 = .ok (.iload_n 3, 1) := by decide +kernel
theorem d_Book_canDoAll_22 : decode m_Book_canDoAll.2.1 22 = .ok (.iload_n 3, 1) := by decide +kernel
theorem d_Book_canDoAll_23 : decode m_Book_canDoAll.2.1 23 = .ok (.iload_n 2, 1) := by decide +kernel
theorem d_Book_canDoAll_24 : decode m_Book_canDoAll.2.1 24 = .ok (.iand, 1) := by decide +kernel
theorem d_Book_canDoAll_25 : decode m_Book_canDoAll.2.1 25 = .ok (.invokestatic 167, 3) := by decide +kernel
theorem d_Book_canDoAll_28 : decode m_Book_canDoAll.2.1 28 = .ok (.iastore, 1) := by decide +kernel
theorem d_Book_canDoAll_29 : decode m_Book_canDoAll.2.1 29 = .ok (.iinc 3 1, 3) := by decide +kernel
theorem d_Book_canDoAll_32 : decode m_Book_canDoAll.2.1 32 = .ok (.goto (-21), 3) := by decide +kernel
theorem d_Book_canDoAll_35 : decode m_Book_canDoAll.2.1 35 = .ok (.aload_n 0, 1) := by decide +kernel
theorem d_Book_canDoAll_36 : decode m_Book_canDoAll.2.1 36 = .ok (.aload_n 0, 1) := by decide +kernel
theorem d_Book_canDoAll_37 : decode m_Book_canDoAll.2.1 37 = .ok (.getfield 60, 3) := by decide +kernel
theorem d_Book_canDoAll_40 : decode m_Book_canDoAll.2.1 40 = .ok (.getfield 90, 3) := by decide +kernel
theorem d_Book_canDoAll_43 : decode m_Book_canDoAll.2.1 43 = .ok (.invokevirtual 154, 3) := by decide +kernel
theorem d_Book_canDoAll_46 : decode m_Book_canDoAll.2.1 46 = .ok (.aload_n 0, 1) := by decide +kernel
theorem d_Book_canDoAll_47 : decode m_Book_canDoAll.2.1 47 = .ok (.getfield 54, 3) := by decide +kernel
theorem d_Book_canDoAll_50 : decode m_Book_canDoAll.2.1 50 = .ok (.iconst 0, 1) := by decide +kernel
theorem d_Book_canDoAll_51 : decode m_Book_canDoAll.2.1 51 = .ok (.aaload, 1) := by decide +kernel
theorem d_Book_canDoAll_52 : decode m_Book_canDoAll.2.1 52 = .ok (.aload_n 0, 1) := by decide +kernel
theorem d_Book_canDoAll_53 : decode m_Book_canDoAll.2.1 53 = .ok (.invokevirtual 158, 3) := by decide +kernel
theorem d_Book_canDoAll_56 : decode m_Book_canDoAll.2.1 56 = .ok (.iaload, 1) := by decide +kernel
theorem d_Book_canDoAll_57 : decode m_Book_canDoAll.2.1 57 = .ok (.iload_n 2, 1) := by decide +kernel
theorem d_Book_canDoAll_58 : decode m_Book_canDoAll.2.1 58 = .ok (.invokestatic 167, 3) := by decide +kernel
theorem d_Book_canDoAll_61 : decode m_Book_canDoAll.2.1 61 = .ok (.if_icmp .ne 7, 3) := by decide +kernel
theorem d_Book_canDoAll_64 : decode m_Book_canDoAll.2.1 64 = .ok (.iconst 1, 1) := by decide +kernel
theorem d_Book_canDoAll_65 : decode m_Book_canDoAll.2.1 65 = .ok (.goto 4, 3) := by decide +kernel
theorem d_Book_canDoAll_68 : decode m_Book_canDoAll.2.1 68 = .ok (.iconst 0, 1) := by decide +kernel
theorem d_Book_canDoAll_69 : decode m_Book_canDoAll.2.1 69 = .ok (.ireturn, 1) := by decide +kernel
theorem d_Fs_exchange_0 : decode m_Fs_exchange.2.1 0 = .ok (.iload_n 1, 1) := by decide +kernel
theorem d_Fs_exchange_1 : decode m_Fs_exchange.2.1 1 = .ok (.ifCond .lt 8, 3) := by decide +kernel
theorem d_Fs_exchange_4 : decode m_Fs_exchange.2.1 4 = .ok (.iload_n 1, 1) := by decide +kernel
theorem d_Fs_exchange_5 : decode m_Fs_exchange.2.1 5 = .ok (.iconst 4, 1) := by decide +kernel
theorem d_Fs_exchange_6 : decode m_Fs_exchange.2.1 6 = .ok (.if_icmp .le 5, 3) := by decide +kernel
theorem d_Fs_exchange_9 : decode m_Fs_exchange.2.1 9 = .ok (.iconst (-1), 1) := by decide +kernel
theorem d_Fs_exchange_10 : decode m_Fs_exchange.2.1 10 = .ok (.ireturn, 1) := by decide +kernel
theorem d_Fs_exchange_11 : decode m_Fs_exchange.2.1 11 = .ok (.aload_n 0, 1) := by decide +kernel
theorem d_Fs_exchange_12 : decode m_Fs_exchange.2.1 12 = .ok (.invokevirtual 321, 3) := by decide +kernel
theorem d_Fs_exchange_15 : decode m_Fs_exchange.2.1 15 = .ok (.aload_n 0, 1) := by decide +kernel
theorem d_Fs_exchange_16 : decode m_Fs_exchange.2.1 16 = .ok (.getfield 94, 3) := by decide +kernel
theorem d_Fs_exchange_19 : decode m_Fs_exchange.2.1 19 = .ok (.iconst (-1), 1) := by decide +kernel
theorem d_Fs_exchange_20 : decode m_Fs_exchange.2.1 20 = .ok (.if_icmp .ne 6, 3) := by decide +kernel
theorem d_Fs_exchange_23 : decode m_Fs_exchange.2.1 23 = .ok (.bipush (-2), 2) := by decide +kernel
theorem d_Fs_exchange_25 : decode m_Fs_exchange.2.1 25 = .ok (.ireturn, 1) := by decide +kernel
theorem d_Fs_exchange_26 : decode m_Fs_exchange.2.1 26 = .ok (.iload_n 1, 1) := by decide +kernel
theorem d_Fs_exchange_27 : decode m_Fs_exchange.2.1 27 = .ok (.tableswitch 58 0 3 #[29, 34, 42, 50], 29) := by decide +kernel
theorem d_Fs_exchange_56 : decode m_Fs_exchange.2.1 56 = .ok (.aload_n 0, 1) := by decide +kernel
theorem d_Fs_exchange_57 : decode m_Fs_exchange.2.1 57 = .ok (.getfield 90, 3) := by decide +kernel
theorem d_Fs_exchange_60 : decode m_Fs_exchange.2.1 60 = .ok (.ireturn, 1) := by decide +kernel
theorem d_Fs_exchange_61 : decode m_Fs_exchange.2.1 61 = .ok (.aload_n 0, 1) := by decide +kernel
theorem d_Fs_exchange_62 : decode m_Fs_exchange.2.1 62 = .ok (.getfield 94, 3) := by decide +kernel
theorem d_Fs_exchange_65 : decode m_Fs_exchange.2.1 65 = .ok (.bipush 9, 2) := by decide +kernel
theorem d_Fs_exchange_67 : decode m_Fs_exchange.2.1 67 = .ok (.idiv, 1) := by decide +kernel
theorem d_Fs_exchange_68 : decode m_Fs_exchange.2.1 68 = .ok (.ireturn, 1) := by decide +kernel
theorem d_Fs_exchange_69 : decode m_Fs_exchange.2.1 69 = .ok (.aload_n 0, 1) := by decide +kernel
theorem d_Fs_exchange_70 : decode m_Fs_exchange.2.1 70 = .ok (.getfield 94, 3) := by decide +kernel
theorem d_Fs_exchange_73 : decode m_Fs_exchange.2.1 73 = .ok (.bipush 9, 2) := by decide +kernel
theorem d_Fs_exchange_75 : decode m_Fs_exchange.2.1 75 = .ok (.irem, 1) := by decide +kernel
theorem d_Fs_exchange_76 : decode m_Fs_exchange.2.1 76 = .ok (.ireturn, 1) := by decide +kernel
theorem d_Fs_exchange_77 : decode m_Fs_exchange.2.1 77 = .ok (.aload_n 0, 1) := by decide +kernel
theorem d_Fs_exchange_78 : decode m_Fs_exchange.2.1 78 = .ok (.getfield 97, 3) := by decide +kernel
theorem d_Fs_exchange_81 : decode m_Fs_exchange.2.1 81 = .ok (.bipush 9, 2) := by decide +kernel
theorem d_Fs_exchange_83 : decode m_Fs_exchange.2.1 83 = .ok (.idiv, 1) := by decide +kernel
theorem d_Fs_exchange_84 : decode m_Fs_exchange.2.1 84 = .ok (.ireturn, 1) := by decide +kernel
theorem d_Fs_exchange_85 : decode m_Fs_exchange.2.1 85 = .ok (.aload_n 0, 1) := by decide +kernel
theorem d_Fs_exchange_86 : decode m_Fs_exchange.2.1 86 = .ok (.getfield 97, 3) := by decide +kernel
theorem d_Fs_exchange_89 : decode m_Fs_exchange.2.1 89 = .ok (.bipush 9, 2) := by decide +kernel
theorem d_Fs_exchange_91 : decode m_Fs_exchange.2.1 91 = .ok (.irem, 1) := by decide +kernel
theorem d_Fs_exchange_92 : decode m_Fs_exchange.2.1 92 = .ok (.ireturn, 1) := by decide +kernel
theorem d_Fs_findExchange_0 : decode m_Fs_findExchange.2.1 0 = .ok (.aload_n 0, 1) := by decide +kernel
theorem d_Fs_findExchange_1 : decode m_Fs_findExchange.2.1 1 = .ok (.getfield 43, 3) := by decide +kernel
theorem d_Fs_findExchange_4 : decode m_Fs_findExchange.2.1 4 = .ok (.aload_n 0, 1) := by decide +kernel
theorem d_Fs_findExchange_5 : decode m_Fs_findExchange.2.1 5 = .ok (.getfield 31, 3) := by decide +kernel
theorem d_Fs_findExchange_8 : decode m_Fs_findExchange.2.1 8 = .ok (.iconst (-1), 1) := by decide +kernel
theorem d_Fs_findExchange_9 : decode m_Fs_findExchange.2.1 9 = .ok (.invokevirtual 235, 3) := by decide +kernel
theorem d_Fs_findExchange_12 : decode m_Fs_findExchange.2.1 12 = .ok (.aload_n 0, 1) := by decide +kernel
theorem d_Fs_findExchange_13 : decode m_Fs_findExchange.2.1 13 = .ok (.aload_n 0, 1) := by decide +kernel
theorem d_Fs_findExchange_14 : decode m_Fs_findExchange.2.1 14 = .ok (.getfield 43, 3) := by decide +kernel
theorem d_Fs_findExchange_17 : decode m_Fs_findExchange.2.1 17 = .ok (.aload_n 0, 1) := by decide +kernel
theorem d_Fs_findExchange_18 : decode m_Fs_findExchange.2.1 18 = .ok (.getfield 31, 3) := by decide +kernel
theorem d_Fs_findExchange_21 : decode m_Fs_findExchange.2.1 21 = .ok (.getfield 177, 3) := by decide +kernel
theorem d_Fs_findExchange_24 : decode m_Fs_findExchange.2.1 24 = .ok (.invokevirtual 257, 3) := by decide +kernel
theorem d_Fs_findExchange_27 : decode m_Fs_findExchange.2.1 27 = .ok (.putfield 90, 3) := by decide +kernel
theorem d_Fs_findExchange_30 : decode m_Fs_findExchange.2.1 30 = .ok (.aload_n 0, 1) := by decide +kernel
theorem d_Fs_findExchange_31 : decode m_Fs_findExchange.2.1 31 = .ok (.iconst (-1), 1) := by decide +kernel
theorem d_Fs_findExchange_32 : decode m_Fs_findExchange.2.1 32 = .ok (.putfield 94, 3) := by decide +kernel
theorem d_Fs_findExchange_35 : decode m_Fs_findExchange.2.1 35 = .ok (.aload_n 0, 1) := by decide +kernel
theorem d_Fs_findExchange_36 : decode m_Fs_findExchange.2.1 36 = .ok (.iconst (-1), 1) := by decide +kernel
theorem d_Fs_findExchange_37 : decode m_Fs_findExchange.2.1 37 = .ok (.putfield 97, 3) := by decide +kernel
theorem d_Fs_findExchange_40 : decode m_Fs_findExchange.2.1 40 = .ok (.iconst 0, 1) := by decide +kernel
theorem d_Fs_findExchange_41 : decode m_Fs_findExchange.2.1 41 = .ok (.istore_n 1, 1) := by decide +kernel
theorem d_Fs_findExchange_42 : decode m_Fs_findExchange.2.1 42 = .ok (.iload_n 1, 1) := by decide +kernel
theorem d_Fs_findExchange_43 : decode m_Fs_findExchange.2.1 43 = .ok (.bipush 27, 2) := by decide +kernel
theorem d_Fs_findExchange_45 : decode m_Fs_findExchange.2.1 45 = .ok (.if_icmp .ge 116, 3) := by decide +kernel
theorem d_Fs_findExchange_48 : decode m_Fs_findExchange.2.1 48 = .ok (.iload_n 1, 1) := by decide +kernel
theorem d_Fs_findExchange_49 : decode m_Fs_findExchange.2.1 49 = .ok (.iconst 1, 1) := by decide +kernel
theorem d_Fs_findExchange_50 : decode m_Fs_findExchange.2.1 50 = .ok (.iadd, 1) := by decide +kernel
theorem d_Fs_findExchange_51 : decode m_Fs_findExchange.2.1 51 = .ok (.istore_n 2, 1) := by decide +kernel
theorem d_Fs_findExchange_52 : decode m_Fs_findExchange.2.1 52 = .ok (.iload_n 2, 1) := by decide +kernel
theorem d_Fs_findExchange_53 : decode m_Fs_findExchange.2.1 53 = .ok (.bipush 27, 2) := by decide +kernel
theorem d_Fs_findExchange_55 : decode m_Fs_findExchange.2.1 55 = .ok (.if_icmp .ge 100, 3) := by decide +kernel
theorem d_Fs_findExchange_58 : decode m_Fs_findExchange.2.1 58 = .ok (.aload_n 0, 1) := by decide +kernel
theorem d_Fs_findExchange_59 : decode m_Fs_findExchange.2.1 59 = .ok (.getfield 31, 3) := by decide +kernel
theorem d_Fs_findExchange_62 : decode m_Fs_findExchange.2.1 62 = .ok (.iload_n 1, 1) := by decide +kernel
theorem d_Fs_findExchange_63 : decode m_Fs_findExchange.2.1 63 = .ok (.iload_n 2, 1) := by decide +kernel
theorem d_Fs_findExchange_64 : decode m_Fs_findExchange.2.1 64 = .ok (.invokevirtual 374, 3) := by decide +kernel
theorem d_Fs_findExchange_67 : decode m_Fs_findExchange.2.1 67 = .ok (.ifCond .eq 82, 3) := by decide +kernel
theorem d_Fs_findExchange_70 : decode m_Fs_findExchange.2.1 70 = .ok (.aload_n 0, 1) := by decide +kernel
theorem d_Fs_findExchange_71 : decode m_Fs_findExchange.2.1 71 = .ok (.getfield 31, 3) := by decide +kernel
theorem d_Fs_findExchange_74 : decode m_Fs_findExchange.2.1 74 = .ok (.iload_n 1, 1) := by decide +kernel
theorem d_Fs_findExchange_75 : decode m_Fs_findExchange.2.1 75 = .ok (.iload_n 2, 1) := by decide +kernel
theorem d_Fs_findExchange_76 : decode m_Fs_findExchange.2.1 76 = .ok (.invokevirtual 326, 3) := by decide +kernel
theorem d_Fs_findExchange_79 : decode m_Fs_findExchange.2.1 79 = .ok (.aload_n 0, 1) := by decide +kernel
theorem d_Fs_findExchange_80 : decode m_Fs_findExchange.2.1 80 = .ok (.getfield 43, 3) := by decide +kernel
theorem d_Fs_findExchange_83 : decode m_Fs_findExchange.2.1 83 = .ok (.aload_n 0, 1) := by decide +kernel
theorem d_Fs_findExchange_84 : decode m_Fs_findExchange.2.1 84 = .ok (.getfield 31, 3) := by decide +kernel
theorem d_Fs_findExchange_87 : decode m_Fs_findExchange.2.1 87 = .ok (.iconst (-1), 1) := by decide +kernel
theorem d_Fs_findExchange_88 : decode m_Fs_findExchange.2.1 88 = .ok (.invokevirtual 235, 3) := by decide +kernel
theorem d_Fs_findExchange_91 : decode m_Fs_findExchange.2.1 91 = .ok (.aload_n 0, 1) := by decide +kernel
theorem d_Fs_findExchange_92 : decode m_Fs_findExchange.2.1 92 = .ok (.getfield 31, 3) := by decide +kernel
theorem d_Fs_findExchange_95 : decode m_Fs_findExchange.2.1 95 = .ok (.iload_n 1, 1) := by decide +kernel
theorem d_Fs_findExchange_96 : decode m_Fs_findExchange.2.1 96 = .ok (.iload_n 2, 1) := by decide +kernel
theorem d_Fs_findExchange_97 : decode m_Fs_findExchange.2.1 97 = .ok (.invokevirtual 326, 3) := by decide +kernel
theorem d_Fs_findExchange_100 : decode m_Fs_findExchange.2.1 100 = .ok (.aload_n 0, 1) := by decide +kernel
theorem d_Fs_findExchange_101 : decode m_Fs_findExchange.2.1 101 = .ok (.getfield 43, 3) := by decide +kernel
theorem d_Fs_findExchange_104 : decode m_Fs_findExchange.2.1 104 = .ok (.aload_n 0, 1) := by decide +kernel
theorem d_Fs_findExchange_105 : decode m_Fs_findExchange.2.1 105 = .ok (.getfield 31, 3) := by decide +kernel
theorem d_Fs_findExchange_108 : decode m_Fs_findExchange.2.1 108 = .ok (.getfield 177, 3) := by decide +kernel
theorem d_Fs_findExchange_111 : decode m_Fs_findExchange.2.1 111 = .ok (.invokevirtual 257, 3) := by decide +kernel
theorem d_Fs_findExchange_114 : decode m_Fs_findExchange.2.1 114 = .ok (.aload_n 0, 1) := by decide +kernel
theorem d_Fs_findExchange_115 : decode m_Fs_findExchange.2.1 115 = .ok (.getfield 90, 3) := by decide +kernel
theorem d_Fs_findExchange_118 : decode m_Fs_findExchange.2.1 118 = .ok (.if_icmp .le 31, 3) := by decide +kernel
theorem d_Fs_findExchange_121 : decode m_Fs_findExchange.2.1 121 = .ok (.aload_n 0, 1) := by decide +kernel
theorem d_Fs_findExchange_122 : decode m_Fs_findExchange.2.1 122 = .ok (.aload_n 0, 1) := by decide +kernel
theorem d_Fs_findExchange_123 : decode m_Fs_findExchange.2.1 123 = .ok (.getfield 43, 3) := by decide +kernel
theorem d_Fs_findExchange_126 : decode m_Fs_findExchange.2.1 126 = .ok (.aload_n 0, 1) := by decide +kernel
theorem d_Fs_findExchange_127 : decode m_Fs_findExchange.2.1 127 = .ok (.getfield 31, 3) := by decide +kernel
theorem d_Fs_findExchange_130 : decode m_Fs_findExchange.2.1 130 = .ok (.getfield 177, 3) := by decide +kernel
theorem d_Fs_findExchange_133 : decode m_Fs_findExchange.2.1 133 = .ok (.invokevirtual 257, 3) := by decide +kernel
theorem d_Fs_findExchange_136 : decode m_Fs_findExchange.2.1 136 = .ok (.putfield 90, 3) := by decide +kernel
theorem d_Fs_findExchange_139 : decode m_Fs_findExchange.2.1 139 = .ok (.aload_n 0, 1) := by decide +kernel
theorem d_Fs_findExchange_140 : decode m_Fs_findExchange.2.1 140 = .ok (.iload_n 1, 1) := by decide +kernel
theorem d_Fs_findExchange_141 : decode m_Fs_findExchange.2.1 141 = .ok (.putfield 94, 3) := by decide +kernel
theorem d_Fs_findExchange_144 : decode m_Fs_findExchange.2.1 144 = .ok (.aload_n 0, 1) := by decide +kernel
theorem d_Fs_findExchange_145 : decode m_Fs_findExchange.2.1 145 = .ok (.iload_n 2, 1) := by decide +kernel
theorem d_Fs_findExchange_146 : decode m_Fs_findExchange.2.1 146 = .ok (.putfield 97, 3) := by decide +kernel
theorem d_Fs_findExchange_149 : decode m_Fs_findExchange.2.1 149 = .ok (.iinc 2 1, 3) := by decide +kernel
theorem d_Fs_findExchange_152 : decode m_Fs_findExchange.2.1 152 = .ok (.goto (-100), 3) := by decide +kernel
theorem d_Fs_findExchange_155 : decode m_Fs_findExchange.2.1 155 = .ok (.iinc 1 1, 3) := by decide +kernel
theorem d_Fs_findExchange_158 : decode m_Fs_findExchange.2.1 158 = .ok (.goto (-116), 3) := by decide +kernel
theorem d_Fs_findExchange_161 : decode m_Fs_findExchange.2.1 161 = .ok (.return_, 1) := by decide +kernel
theorem d_Plan_areUnlike_0 : decode m_Plan_areUnlike.2.1 0 = .ok (.aload_n 0, 1) := by decide +kernel
theorem d_Plan_areUnlike_1 : decode m_Plan_areUnlike.2.1 1 = .ok (.iload_n 1, 1) := by decide +kernel
theorem d_Plan_areUnlike_2 : decode m_Plan_areUnlike.2.1 2 = .ok (.invokevirtual 33, 3) := by decide +kernel
theorem d_Plan_areUnlike_5 : decode m_Plan_areUnlike.2.1 5 = .ok (.istore_n 3, 1) := by decide +kernel
theorem d_Plan_areUnlike_6 : decode m_Plan_areUnlike.2.1 6 = .ok (.aload_n 0, 1) := by decide +kernel
theorem d_Plan_areUnlike_7 : decode m_Plan_areUnlike.2.1 7 = .ok (.iload_n 2, 1) := by decide +kernel
theorem d_Plan_areUnlike_8 : decode m_Plan_areUnlike.2.1 8 = .ok (.invokevirtual 33, 3) := by decide +kernel
theorem d_Plan_areUnlike_11 : decode m_Plan_areUnlike.2.1 11 = .ok (.istore 4, 2) := by decide +kernel
theorem d_Plan_areUnlike_13 : decode m_Plan_areUnlike.2.1 13 = .ok (.iload_n 3, 1) := by decide +kernel
theorem d_Plan_areUnlike_14 : decode m_Plan_areUnlike.2.1 14 = .ok (.iconst (-1), 1) := by decide +kernel
theorem d_Plan_areUnlike_15 : decode m_Plan_areUnlike.2.1 15 = .ok (.if_icmp .eq 19, 3) := by decide +kernel
theorem d_Plan_areUnlike_18 : decode m_Plan_areUnlike.2.1 18 = .ok (.iload 4, 2) := by decide +kernel
theorem d_Plan_areUnlike_20 : decode m_Plan_areUnlike.2.1 20 = .ok (.iconst (-1), 1) := by decide +kernel
theorem d_Plan_areUnlike_21 : decode m_Plan_areUnlike.2.1 21 = .ok (.if_icmp .eq 13, 3) := by decide +kernel
theorem d_Plan_areUnlike_24 : decode m_Plan_areUnlike.2.1 24 = .ok (.iload_n 3, 1) := by decide +kernel
theorem d_Plan_areUnlike_25 : decode m_Plan_areUnlike.2.1 25 = .ok (.iload 4, 2) := by decide +kernel
theorem d_Plan_areUnlike_27 : decode m_Plan_areUnlike.2.1 27 = .ok (.if_icmp .eq 7, 3) := by decide +kernel
theorem d_Plan_areUnlike_30 : decode m_Plan_areUnlike.2.1 30 = .ok (.iconst 1, 1) := by decide +kernel
theorem d_Plan_areUnlike_31 : decode m_Plan_areUnlike.2.1 31 = .ok (.goto 4, 3) := by decide +kernel
theorem d_Plan_areUnlike_34 : decode m_Plan_areUnlike.2.1 34 = .ok (.iconst 0, 1) := by decide +kernel
theorem d_Plan_areUnlike_35 : decode m_Plan_areUnlike.2.1 35 = .ok (.ireturn, 1) := by decide +kernel
theorem d_Plan_houseAt_0 : decode m_Plan_houseAt.2.1 0 = .ok (.aload_n 0, 1) := by decide +kernel
theorem d_Plan_houseAt_1 : decode m_Plan_houseAt.2.1 1 = .ok (.iload_n 1, 1) := by decide +kernel
theorem d_Plan_houseAt_2 : decode m_Plan_houseAt.2.1 2 = .ok (.bipush 9, 2) := by decide +kernel
theorem d_Plan_houseAt_4 : decode m_Plan_houseAt.2.1 4 = .ok (.idiv, 1) := by decide +kernel
theorem d_Plan_houseAt_5 : decode m_Plan_houseAt.2.1 5 = .ok (.iload_n 1, 1) := by decide +kernel
theorem d_Plan_houseAt_6 : decode m_Plan_houseAt.2.1 6 = .ok (.bipush 9, 2) := by decide +kernel
theorem d_Plan_houseAt_8 : decode m_Plan_houseAt.2.1 8 = .ok (.irem, 1) := by decide +kernel
theorem d_Plan_houseAt_9 : decode m_Plan_houseAt.2.1 9 = .ok (.invokevirtual 37, 3) := by decide +kernel
theorem d_Plan_houseAt_12 : decode m_Plan_houseAt.2.1 12 = .ok (.ireturn, 1) := by decide +kernel
theorem d_Plan_swap_0 : decode m_Plan_swap.2.1 0 = .ok (.aload_n 0, 1) := by decide +kernel
theorem d_Plan_swap_1 : decode m_Plan_swap.2.1 1 = .ok (.getfield 11, 3) := by decide +kernel
theorem d_Plan_swap_4 : decode m_Plan_swap.2.1 4 = .ok (.iload_n 1, 1) := by decide +kernel
theorem d_Plan_swap_5 : decode m_Plan_swap.2.1 5 = .ok (.bipush 9, 2) := by decide +kernel
theorem d_Plan_swap_7 : decode m_Plan_swap.2.1 7 = .ok (.idiv, 1) := by decide +kernel
theorem d_Plan_swap_8 : decode m_Plan_swap.2.1 8 = .ok (.aaload, 1) := by decide +kernel
theorem d_Plan_swap_9 : decode m_Plan_swap.2.1 9 = .ok (.iload_n 1, 1) := by decide +kernel
theorem d_Plan_swap_10 : decode m_Plan_swap.2.1 10 = .ok (.bipush 9, 2) := by decide +kernel
theorem d_Plan_swap_12 : decode m_Plan_swap.2.1 12 = .ok (.irem, 1) := by decide +kernel
theorem d_Plan_swap_13 : decode m_Plan_swap.2.1 13 = .ok (.iaload, 1) := by decide +kernel
theorem d_Plan_swap_14 : decode m_Plan_swap.2.1 14 = .ok (.istore_n 3, 1) := by decide +kernel
theorem d_Plan_swap_15 : decode m_Plan_swap.2.1 15 = .ok (.aload_n 0, 1) := by decide +kernel
theorem d_Plan_swap_16 : decode m_Plan_swap.2.1 16 = .ok (.getfield 11, 3) := by decide +kernel
theorem d_Plan_swap_19 : decode m_Plan_swap.2.1 19 = .ok (.iload_n 1, 1) := by decide +kernel
theorem d_Plan_swap_20 : decode m_Plan_swap.2.1 20 = .ok (.bipush 9, 2) := by decide +kernel
theorem d_Plan_swap_22 : decode m_Plan_swap.2.1 22 = .ok (.idiv, 1) := by decide +kernel
theorem d_Plan_swap_23 : decode m_Plan_swap.2.1 23 = .ok (.aaload, 1) := by decide +kernel
theorem d_Plan_swap_24 : decode m_Plan_swap.2.1 24 = .ok (.iload_n 1, 1) := by decide +kernel
theorem d_Plan_swap_25 : decode m_Plan_swap.2.1 25 = .ok (.bipush 9, 2) := by decide +kernel
theorem d_Plan_swap_27 : decode m_Plan_swap.2.1 27 = .ok (.irem, 1) := by decide +kernel
theorem d_Plan_swap_28 : decode m_Plan_swap.2.1 28 = .ok (.aload_n 0, 1) := by decide +kernel
theorem d_Plan_swap_29 : decode m_Plan_swap.2.1 29 = .ok (.getfield 11, 3) := by decide +kernel
theorem d_Plan_swap_32 : decode m_Plan_swap.2.1 32 = .ok (.iload_n 2, 1) := by decide +kernel
theorem d_Plan_swap_33 : decode m_Plan_swap.2.1 33 = .ok (.bipush 9, 2) := by decide +kernel
theorem d_Plan_swap_35 : decode m_Plan_swap.2.1 35 = .ok (.idiv, 1) := by decide +kernel
theorem d_Plan_swap_36 : decode m_Plan_swap.2.1 36 = .ok (.aaload, 1) := by decide +kernel
theorem d_Plan_swap_37 : decode m_Plan_swap.2.1 37 = .ok (.iload_n 2, 1) := by decide +kernel
theorem d_Plan_swap_38 : decode m_Plan_swap.2.1 38 = .ok (.bipush 9, 2) := by decide +kernel
theorem d_Plan_swap_40 : decode m_Plan_swap.2.1 40 = .ok (.irem, 1) := by decide +kernel
theorem d_Plan_swap_41 : decode m_Plan_swap.2.1 41 = .ok (.iaload, 1) := by decide +kernel
theorem d_Plan_swap_42 : decode m_Plan_swap.2.1 42 = .ok (.iastore, 1) := by decide +kernel
theorem d_Plan_swap_43 : decode m_Plan_swap.2.1 43 = .ok (.aload_n 0, 1) := by decide +kernel
theorem d_Plan_swap_44 : decode m_Plan_swap.2.1 44 = .ok (.getfield 11, 3) := by decide +kernel
theorem d_Plan_swap_47 : decode m_Plan_swap.2.1 47 = .ok (.iload_n 2, 1) := by decide +kernel
theorem d_Plan_swap_48 : decode m_Plan_swap.2.1 48 = .ok (.bipush 9, 2) := by decide +kernel
theorem d_Plan_swap_50 : decode m_Plan_swap.2.1 50 = .ok (.idiv, 1) := by decide +kernel
theorem d_Plan_swap_51 : decode m_Plan_swap.2.1 51 = .ok (.aaload, 1) := by decide +kernel
theorem d_Plan_swap_52 : decode m_Plan_swap.2.1 52 = .ok (.iload_n 2, 1) := by decide +kernel
theorem d_Plan_swap_53 : decode m_Plan_swap.2.1 53 = .ok (.bipush 9, 2) := by decide +kernel
theorem d_Plan_swap_55 : decode m_Plan_swap.2.1 55 = .ok (.irem, 1) := by decide +kernel
theorem d_Plan_swap_56 : decode m_Plan_swap.2.1 56 = .ok (.iload_n 3, 1) := by decide +kernel
theorem d_Plan_swap_57 : decode m_Plan_swap.2.1 57 = .ok (.iastore, 1) := by decide +kernel
theorem d_Plan_swap_58 : decode m_Plan_swap.2.1 58 = .ok (.return_, 1) := by decide +kernel
theorem d_Fs_climb_0 : decode m_Fs_climb.2.1 0 = .ok (.aload_n 0, 1) := by decide +kernel
theorem d_Fs_climb_1 : decode m_Fs_climb.2.1 1 = .ok (.getfield 35, 3) := by decide +kernel
theorem d_Fs_climb_4 : decode m_Fs_climb.2.1 4 = .ok (.aload_n 0, 1) := by decide +kernel
theorem d_Fs_climb_5 : decode m_Fs_climb.2.1 5 = .ok (.getfield 31, 3) := by decide +kernel
theorem d_Fs_climb_8 : decode m_Fs_climb.2.1 8 = .ok (.invokevirtual 324, 3) := by decide +kernel
theorem d_Fs_climb_11 : decode m_Fs_climb.2.1 11 = .ok (.iconst 0, 1) := by decide +kernel
theorem d_Fs_climb_12 : decode m_Fs_climb.2.1 12 = .ok (.istore_n 1, 1) := by decide +kernel
theorem d_Fs_climb_13 : decode m_Fs_climb.2.1 13 = .ok (.aload_n 0, 1) := by decide +kernel
theorem d_Fs_climb_14 : decode m_Fs_climb.2.1 14 = .ok (.invokevirtual 321, 3) := by decide +kernel
theorem d_Fs_climb_17 : decode m_Fs_climb.2.1 17 = .ok (.iload_n 1, 1) := by decide +kernel
theorem d_Fs_climb_18 : decode m_Fs_climb.2.1 18 = .ok (.sipush 594, 3) := by decide +kernel
theorem d_Fs_climb_21 : decode m_Fs_climb.2.1 21 = .ok (.if_icmp .gt 36, 3) := by decide +kernel
theorem d_Fs_climb_24 : decode m_Fs_climb.2.1 24 = .ok (.aload_n 0, 1) := by decide +kernel
theorem d_Fs_climb_25 : decode m_Fs_climb.2.1 25 = .ok (.getfield 94, 3) := by decide +kernel
theorem d_Fs_climb_28 : decode m_Fs_climb.2.1 28 = .ok (.iconst (-1), 1) := by decide +kernel
theorem d_Fs_climb_29 : decode m_Fs_climb.2.1 29 = .ok (.if_icmp .eq 28, 3) := by decide +kernel
theorem d_Fs_climb_32 : decode m_Fs_climb.2.1 32 = .ok (.aload_n 0, 1) := by decide +kernel
theorem d_Fs_climb_33 : decode m_Fs_climb.2.1 33 = .ok (.getfield 31, 3) := by decide +kernel
theorem d_Fs_climb_36 : decode m_Fs_climb.2.1 36 = .ok (.aload_n 0, 1) := by decide +kernel
theorem d_Fs_climb_37 : decode m_Fs_climb.2.1 37 = .ok (.getfield 94, 3) := by decide +kernel
theorem d_Fs_climb_40 : decode m_Fs_climb.2.1 40 = .ok (.aload_n 0, 1) := by decide +kernel
theorem d_Fs_climb_41 : decode m_Fs_climb.2.1 41 = .ok (.getfield 97, 3) := by decide +kernel
theorem d_Fs_climb_44 : decode m_Fs_climb.2.1 44 = .ok (.invokevirtual 326, 3) := by decide +kernel
theorem d_Fs_climb_47 : decode m_Fs_climb.2.1 47 = .ok (.aload_n 0, 1) := by decide +kernel
theorem d_Fs_climb_48 : decode m_Fs_climb.2.1 48 = .ok (.invokevirtual 321, 3) := by decide +kernel
theorem d_Fs_climb_51 : decode m_Fs_climb.2.1 51 = .ok (.iinc 1 1, 3) := by decide +kernel
theorem d_Fs_climb_54 : decode m_Fs_climb.2.1 54 = .ok (.goto (-37), 3) := by decide +kernel
theorem d_Fs_climb_57 : decode m_Fs_climb.2.1 57 = .ok (.iload_n 1, 1) := by decide +kernel
theorem d_Fs_climb_58 : decode m_Fs_climb.2.1 58 = .ok (.ifCond .le 14, 3) := by decide +kernel
theorem d_Fs_climb_61 : decode m_Fs_climb.2.1 61 = .ok (.aload_n 0, 1) := by decide +kernel
theorem d_Fs_climb_62 : decode m_Fs_climb.2.1 62 = .ok (.getfield 76, 3) := by decide +kernel
theorem d_Fs_climb_65 : decode m_Fs_climb.2.1 65 = .ok (.aload_n 0, 1) := by decide +kernel
theorem d_Fs_climb_66 : decode m_Fs_climb.2.1 66 = .ok (.getfield 35, 3) := by decide +kernel
theorem d_Fs_climb_69 : decode m_Fs_climb.2.1 69 = .ok (.invokevirtual 231, 3) := by decide +kernel
theorem d_Fs_climb_72 : decode m_Fs_climb.2.1 72 = .ok (.iload_n 1, 1) := by decide +kernel
theorem d_Fs_climb_73 : decode m_Fs_climb.2.1 73 = .ok (.ireturn, 1) := by decide +kernel
theorem d_Fs_refusal_0 : decode m_Fs_refusal.2.1 0 = .ok (.iload_n 1, 1) := by decide +kernel
theorem d_Fs_refusal_1 : decode m_Fs_refusal.2.1 1 = .ok (.ifCond .lt 8, 3) := by decide +kernel
theorem d_Fs_refusal_4 : decode m_Fs_refusal.2.1 4 = .ok (.iload_n 1, 1) := by decide +kernel
theorem d_Fs_refusal_5 : decode m_Fs_refusal.2.1 5 = .ok (.iconst 1, 1) := by decide +kernel
theorem d_Fs_refusal_6 : decode m_Fs_refusal.2.1 6 = .ok (.if_icmp .le 5, 3) := by decide +kernel
theorem d_Fs_refusal_9 : decode m_Fs_refusal.2.1 9 = .ok (.iconst (-1), 1) := by decide +kernel
theorem d_Fs_refusal_10 : decode m_Fs_refusal.2.1 10 = .ok (.ireturn, 1) := by decide +kernel
theorem d_Fs_refusal_11 : decode m_Fs_refusal.2.1 11 = .ok (.aload_n 0, 1) := by decide +kernel
theorem d_Fs_refusal_12 : decode m_Fs_refusal.2.1 12 = .ok (.getfield 35, 3) := by decide +kernel
theorem d_Fs_refusal_15 : decode m_Fs_refusal.2.1 15 = .ok (.aload_n 0, 1) := by decide +kernel
theorem d_Fs_refusal_16 : decode m_Fs_refusal.2.1 16 = .ok (.getfield 31, 3) := by decide +kernel
theorem d_Fs_refusal_19 : decode m_Fs_refusal.2.1 19 = .ok (.invokevirtual 324, 3) := by decide +kernel
theorem d_Fs_refusal_22 : decode m_Fs_refusal.2.1 22 = .ok (.iconst (-1), 1) := by decide +kernel
theorem d_Fs_refusal_23 : decode m_Fs_refusal.2.1 23 = .ok (.istore_n 2, 1) := by decide +kernel
theorem d_Fs_refusal_24 : decode m_Fs_refusal.2.1 24 = .ok (.iconst 0, 1) := by decide +kernel
theorem d_Fs_refusal_25 : decode m_Fs_refusal.2.1 25 = .ok (.istore_n 3, 1) := by decide +kernel
theorem d_Fs_refusal_26 : decode m_Fs_refusal.2.1 26 = .ok (.iconst 0, 1) := by decide +kernel
theorem d_Fs_refusal_27 : decode m_Fs_refusal.2.1 27 = .ok (.istore 4, 2) := by decide +kernel
theorem d_Fs_refusal_29 : decode m_Fs_refusal.2.1 29 = .ok (.iload 4, 2) := by decide +kernel
theorem d_Fs_refusal_31 : decode m_Fs_refusal.2.1 31 = .ok (.iconst 1, 1) := by decide +kernel
theorem d_Fs_refusal_32 : decode m_Fs_refusal.2.1 32 = .ok (.aload_n 0, 1) := by decide +kernel
theorem d_Fs_refusal_33 : decode m_Fs_refusal.2.1 33 = .ok (.getfield 12, 3) := by decide +kernel
theorem d_Fs_refusal_36 : decode m_Fs_refusal.2.1 36 = .ok (.getfield 137, 3) := by decide +kernel
theorem d_Fs_refusal_39 : decode m_Fs_refusal.2.1 39 = .ok (.ishl, 1) := by decide +kernel
theorem d_Fs_refusal_40 : decode m_Fs_refusal.2.1 40 = .ok (.if_icmp .ge 71, 3) := by decide +kernel
theorem d_Fs_refusal_43 : decode m_Fs_refusal.2.1 43 = .ok (.aload_n 0, 1) := by decide +kernel
theorem d_Fs_refusal_44 : decode m_Fs_refusal.2.1 44 = .ok (.getfield 35, 3) := by decide +kernel
theorem d_Fs_refusal_47 : decode m_Fs_refusal.2.1 47 = .ok (.iload 4, 2) := by decide +kernel
theorem d_Fs_refusal_49 : decode m_Fs_refusal.2.1 49 = .ok (.putfield 177, 3) := by decide +kernel
theorem d_Fs_refusal_52 : decode m_Fs_refusal.2.1 52 = .ok (.aload_n 0, 1) := by decide +kernel
theorem d_Fs_refusal_53 : decode m_Fs_refusal.2.1 53 = .ok (.getfield 43, 3) := by decide +kernel
theorem d_Fs_refusal_56 : decode m_Fs_refusal.2.1 56 = .ok (.aload_n 0, 1) := by decide +kernel
theorem d_Fs_refusal_57 : decode m_Fs_refusal.2.1 57 = .ok (.getfield 35, 3) := by decide +kernel
theorem d_Fs_refusal_60 : decode m_Fs_refusal.2.1 60 = .ok (.iconst (-1), 1) := by decide +kernel
theorem d_Fs_refusal_61 : decode m_Fs_refusal.2.1 61 = .ok (.invokevirtual 235, 3) := by decide +kernel
theorem d_Fs_refusal_64 : decode m_Fs_refusal.2.1 64 = .ok (.aload_n 0, 1) := by decide +kernel
theorem d_Fs_refusal_65 : decode m_Fs_refusal.2.1 65 = .ok (.getfield 43, 3) := by decide +kernel
theorem d_Fs_refusal_68 : decode m_Fs_refusal.2.1 68 = .ok (.iload 4, 2) := by decide +kernel
theorem d_Fs_refusal_70 : decode m_Fs_refusal.2.1 70 = .ok (.invokevirtual 257, 3) := by decide +kernel
theorem d_Fs_refusal_73 : decode m_Fs_refusal.2.1 73 = .ok (.istore 5, 2) := by decide +kernel
theorem d_Fs_refusal_75 : decode m_Fs_refusal.2.1 75 = .ok (.iload 5, 2) := by decide +kernel
theorem d_Fs_refusal_77 : decode m_Fs_refusal.2.1 77 = .ok (.iload_n 2, 1) := by decide +kernel
theorem d_Fs_refusal_78 : decode m_Fs_refusal.2.1 78 = .ok (.if_icmp .gt 21, 3) := by decide +kernel
theorem d_Fs_refusal_81 : decode m_Fs_refusal.2.1 81 = .ok (.iload 5, 2) := by decide +kernel
theorem d_Fs_refusal_83 : decode m_Fs_refusal.2.1 83 = .ok (.iload_n 2, 1) := by decide +kernel
theorem d_Fs_refusal_84 : decode m_Fs_refusal.2.1 84 = .ok (.if_icmp .ne 21, 3) := by decide +kernel
theorem d_Fs_refusal_87 : decode m_Fs_refusal.2.1 87 = .ok (.iload 4, 2) := by decide +kernel
theorem d_Fs_refusal_89 : decode m_Fs_refusal.2.1 89 = .ok (.invokestatic 330, 3) := by decide +kernel
theorem d_Fs_refusal_92 : decode m_Fs_refusal.2.1 92 = .ok (.iload_n 3, 1) := by decide +kernel
theorem d_Fs_refusal_93 : decode m_Fs_refusal.2.1 93 = .ok (.invokestatic 330, 3) := by decide +kernel
theorem d_Fs_refusal_96 : decode m_Fs_refusal.2.1 96 = .ok (.if_icmp .ge 9, 3) := by decide +kernel
theorem d_Fs_refusal_99 : decode m_Fs_refusal.2.1 99 = .ok (.iload 5, 2) := by decide +kernel
theorem d_Fs_refusal_101 : decode m_Fs_refusal.2.1 101 = .ok (.istore_n 2, 1) := by decide +kernel
theorem d_Fs_refusal_102 : decode m_Fs_refusal.2.1 102 = .ok (.iload 4, 2) := by decide +kernel
theorem d_Fs_refusal_104 : decode m_Fs_refusal.2.1 104 = .ok (.istore_n 3, 1) := by decide +kernel
theorem d_Fs_refusal_105 : decode m_Fs_refusal.2.1 105 = .ok (.iinc 4 1, 3) := by decide +kernel
theorem d_Fs_refusal_108 : decode m_Fs_refusal.2.1 108 = .ok (.goto (-79), 3) := by decide +kernel
theorem d_Fs_refusal_111 : decode m_Fs_refusal.2.1 111 = .ok (.iload_n 1, 1) := by decide +kernel
theorem d_Fs_refusal_112 : decode m_Fs_refusal.2.1 112 = .ok (.ifCond .ne 7, 3) := by decide +kernel
theorem d_Fs_refusal_115 : decode m_Fs_refusal.2.1 115 = .ok (.iload_n 2, 1) := by decide +kernel
theorem d_Fs_refusal_116 : decode m_Fs_refusal.2.1 116 = .ok (.goto 4, 3) := by decide +kernel
theorem d_Fs_refusal_119 : decode m_Fs_refusal.2.1 119 = .ok (.iload_n 3, 1) := by decide +kernel
theorem d_Fs_refusal_120 : decode m_Fs_refusal.2.1 120 = .ok (.ireturn, 1) := by decide +kernel
theorem d_Fs_tried_0 : decode m_Fs_tried.2.1 0 = .ok (.iload_n 1, 1) := by decide +kernel
theorem d_Fs_tried_1 : decode m_Fs_tried.2.1 1 = .ok (.iconst 3, 1) := by decide +kernel
theorem d_Fs_tried_2 : decode m_Fs_tried.2.1 2 = .ok (.if_icmp .ne 13, 3) := by decide +kernel
theorem d_Fs_tried_5 : decode m_Fs_tried.2.1 5 = .ok (.aload_n 0, 1) := by decide +kernel
theorem d_Fs_tried_6 : decode m_Fs_tried.2.1 6 = .ok (.getfield 12, 3) := by decide +kernel
theorem d_Fs_tried_9 : decode m_Fs_tried.2.1 9 = .ok (.getfield 137, 3) := by decide +kernel
theorem d_Fs_tried_12 : decode m_Fs_tried.2.1 12 = .ok (.goto 19, 3) := by decide +kernel
theorem d_Fs_tried_15 : decode m_Fs_tried.2.1 15 = .ok (.iload_n 1, 1) := by decide +kernel
theorem d_Fs_tried_16 : decode m_Fs_tried.2.1 16 = .ok (.iconst 4, 1) := by decide +kernel
theorem d_Fs_tried_17 : decode m_Fs_tried.2.1 17 = .ok (.if_icmp .ne 13, 3) := by decide +kernel
theorem d_Fs_tried_20 : decode m_Fs_tried.2.1 20 = .ok (.aload_n 0, 1) := by decide +kernel
theorem d_Fs_tried_21 : decode m_Fs_tried.2.1 21 = .ok (.getfield 12, 3) := by decide +kernel
theorem d_Fs_tried_24 : decode m_Fs_tried.2.1 24 = .ok (.getfield 147, 3) := by decide +kernel
theorem d_Fs_tried_27 : decode m_Fs_tried.2.1 27 = .ok (.goto 4, 3) := by decide +kernel
theorem d_Fs_tried_30 : decode m_Fs_tried.2.1 30 = .ok (.iconst 1, 1) := by decide +kernel
theorem d_Fs_tried_31 : decode m_Fs_tried.2.1 31 = .ok (.istore_n 3, 1) := by decide +kernel
theorem d_Fs_tried_32 : decode m_Fs_tried.2.1 32 = .ok (.iload_n 1, 1) := by decide +kernel
theorem d_Fs_tried_33 : decode m_Fs_tried.2.1 33 = .ok (.ifCond .lt 17, 3) := by decide +kernel
theorem d_Fs_tried_36 : decode m_Fs_tried.2.1 36 = .ok (.iload_n 1, 1) := by decide +kernel
theorem d_Fs_tried_37 : decode m_Fs_tried.2.1 37 = .ok (.iconst 5, 1) := by decide +kernel
theorem d_Fs_tried_38 : decode m_Fs_tried.2.1 38 = .ok (.if_icmp .gt 12, 3) := by decide +kernel
theorem d_Fs_tried_41 : decode m_Fs_tried.2.1 41 = .ok (.iload_n 2, 1) := by decide +kernel
theorem d_Fs_tried_42 : decode m_Fs_tried.2.1 42 = .ok (.ifCond .lt 8, 3) := by decide +kernel
theorem d_Fs_tried_45 : decode m_Fs_tried.2.1 45 = .ok (.iload_n 2, 1) := by decide +kernel
theorem d_Fs_tried_46 : decode m_Fs_tried.2.1 46 = .ok (.iload_n 3, 1) := by decide +kernel
theorem d_Fs_tried_47 : decode m_Fs_tried.2.1 47 = .ok (.if_icmp .lt 5, 3) := by decide +kernel
theorem d_Fs_tried_50 : decode m_Fs_tried.2.1 50 = .ok (.iconst (-1), 1) := by decide +kernel
theorem d_Fs_tried_51 : decode m_Fs_tried.2.1 51 = .ok (.ireturn, 1) := by decide +kernel
theorem d_Fs_tried_52 : decode m_Fs_tried.2.1 52 = .ok (.aload_n 0, 1) := by decide +kernel
theorem d_Fs_tried_53 : decode m_Fs_tried.2.1 53 = .ok (.getfield 35, 3) := by decide +kernel
theorem d_Fs_tried_56 : decode m_Fs_tried.2.1 56 = .ok (.aload_n 0, 1) := by decide +kernel
theorem d_Fs_tried_57 : decode m_Fs_tried.2.1 57 = .ok (.getfield 31, 3) := by decide +kernel
theorem d_Fs_tried_60 : decode m_Fs_tried.2.1 60 = .ok (.invokevirtual 324, 3) := by decide +kernel
theorem d_Fs_tried_63 : decode m_Fs_tried.2.1 63 = .ok (.iload_n 1, 1) := by decide +kernel
theorem d_Fs_tried_64 : decode m_Fs_tried.2.1 64 = .ok (.ifCond .ne 15, 3) := by decide +kernel
theorem d_Fs_tried_67 : decode m_Fs_tried.2.1 67 = .ok (.aload_n 0, 1) := by decide +kernel
theorem d_Fs_tried_68 : decode m_Fs_tried.2.1 68 = .ok (.getfield 35, 3) := by decide +kernel
theorem d_Fs_tried_71 : decode m_Fs_tried.2.1 71 = .ok (.bipush 63, 2) := by decide +kernel
theorem d_Fs_tried_73 : decode m_Fs_tried.2.1 73 = .ok (.putfield 177, 3) := by decide +kernel
theorem d_Fs_tried_76 : decode m_Fs_tried.2.1 76 = .ok (.goto 34, 3) := by decide +kernel
theorem d_Fs_tried_79 : decode m_Fs_tried.2.1 79 = .ok (.iload_n 1, 1) := by decide +kernel
theorem d_Fs_tried_80 : decode m_Fs_tried.2.1 80 = .ok (.iconst 3, 1) := by decide +kernel
theorem d_Fs_tried_81 : decode m_Fs_tried.2.1 81 = .ok (.if_icmp .ne 14, 3) := by decide +kernel
theorem d_Fs_tried_84 : decode m_Fs_tried.2.1 84 = .ok (.aload_n 0, 1) := by decide +kernel
theorem d_Fs_tried_85 : decode m_Fs_tried.2.1 85 = .ok (.getfield 35, 3) := by decide +kernel
theorem d_Fs_tried_88 : decode m_Fs_tried.2.1 88 = .ok (.iload_n 2, 1) := by decide +kernel
theorem d_Fs_tried_89 : decode m_Fs_tried.2.1 89 = .ok (.invokevirtual 335, 3) := by decide +kernel
theorem d_Fs_tried_92 : decode m_Fs_tried.2.1 92 = .ok (.goto 18, 3) := by decide +kernel
theorem d_Fs_tried_95 : decode m_Fs_tried.2.1 95 = .ok (.iload_n 1, 1) := by decide +kernel
theorem d_Fs_tried_96 : decode m_Fs_tried.2.1 96 = .ok (.iconst 4, 1) := by decide +kernel
theorem d_Fs_tried_97 : decode m_Fs_tried.2.1 97 = .ok (.if_icmp .ne 13, 3) := by decide +kernel
theorem d_Fs_tried_100 : decode m_Fs_tried.2.1 100 = .ok (.aload_n 0, 1) := by decide +kernel
theorem d_Fs_tried_101 : decode m_Fs_tried.2.1 101 = .ok (.getfield 35, 3) := by decide +kernel
theorem d_Fs_tried_104 : decode m_Fs_tried.2.1 104 = .ok (.getfield 197, 3) := by decide +kernel
theorem d_Fs_tried_107 : decode m_Fs_tried.2.1 107 = .ok (.iload_n 2, 1) := by decide +kernel
theorem d_Fs_tried_108 : decode m_Fs_tried.2.1 108 = .ok (.iconst 0, 1) := by decide +kernel
theorem d_Fs_tried_109 : decode m_Fs_tried.2.1 109 = .ok (.iastore, 1) := by decide +kernel
theorem d_Fs_tried_110 : decode m_Fs_tried.2.1 110 = .ok (.aload_n 0, 1) := by decide +kernel
theorem d_Fs_tried_111 : decode m_Fs_tried.2.1 111 = .ok (.getfield 43, 3) := by decide +kernel
theorem d_Fs_tried_114 : decode m_Fs_tried.2.1 114 = .ok (.aload_n 0, 1) := by decide +kernel
theorem d_Fs_tried_115 : decode m_Fs_tried.2.1 115 = .ok (.getfield 35, 3) := by decide +kernel
theorem d_Fs_tried_118 : decode m_Fs_tried.2.1 118 = .ok (.iload_n 1, 1) := by decide +kernel
theorem d_Fs_tried_119 : decode m_Fs_tried.2.1 119 = .ok (.invokevirtual 235, 3) := by decide +kernel
theorem d_Fs_tried_122 : decode m_Fs_tried.2.1 122 = .ok (.aload_n 0, 1) := by decide +kernel
theorem d_Fs_tried_123 : decode m_Fs_tried.2.1 123 = .ok (.getfield 43, 3) := by decide +kernel
theorem d_Fs_tried_126 : decode m_Fs_tried.2.1 126 = .ok (.iload_n 1, 1) := by decide +kernel
theorem d_Fs_tried_127 : decode m_Fs_tried.2.1 127 = .ok (.ifCond .ne 7, 3) := by decide +kernel
theorem d_Fs_tried_130 : decode m_Fs_tried.2.1 130 = .ok (.iconst 0, 1) := by decide +kernel
theorem d_Fs_tried_131 : decode m_Fs_tried.2.1 131 = .ok (.goto 10, 3) := by decide +kernel
theorem d_Fs_tried_134 : decode m_Fs_tried.2.1 134 = .ok (.aload_n 0, 1) := by decide +kernel
theorem d_Fs_tried_135 : decode m_Fs_tried.2.1 135 = .ok (.getfield 35, 3) := by decide +kernel
theorem d_Fs_tried_138 : decode m_Fs_tried.2.1 138 = .ok (.getfield 177, 3) := by decide +kernel
theorem d_Fs_tried_141 : decode m_Fs_tried.2.1 141 = .ok (.invokevirtual 257, 3) := by decide +kernel
theorem d_Fs_tried_144 : decode m_Fs_tried.2.1 144 = .ok (.ireturn, 1) := by decide +kernel
theorem d_Plan_removeHouse_0 : decode m_Plan_removeHouse.2.1 0 = .ok (.iconst 0, 1) := by decide +kernel
theorem d_Plan_removeHouse_1 : decode m_Plan_removeHouse.2.1 1 = .ok (.istore_n 2, 1) := by decide +kernel
theorem d_Plan_removeHouse_2 : decode m_Plan_removeHouse.2.1 2 = .ok (.iload_n 2, 1) := by decide +kernel
theorem d_Plan_removeHouse_3 : decode m_Plan_removeHouse.2.1 3 = .ok (.iconst 3, 1) := by decide +kernel
theorem d_Plan_removeHouse_4 : decode m_Plan_removeHouse.2.1 4 = .ok (.if_icmp .ge 71, 3) := by decide +kernel
theorem d_Plan_removeHouse_7 : decode m_Plan_removeHouse.2.1 7 = .ok (.iconst 0, 1) := by decide +kernel
theorem d_Plan_removeHouse_8 : decode m_Plan_removeHouse.2.1 8 = .ok (.istore_n 3, 1) := by decide +kernel
theorem d_Plan_removeHouse_9 : decode m_Plan_removeHouse.2.1 9 = .ok (.iconst 0, 1) := by decide +kernel
theorem d_Plan_removeHouse_10 : decode m_Plan_removeHouse.2.1 10 = .ok (.istore 4, 2) := by decide +kernel
theorem d_Plan_removeHouse_12 : decode m_Plan_removeHouse.2.1 12 = .ok (.iload 4, 2) := by decide +kernel
theorem d_Plan_removeHouse_14 : decode m_Plan_removeHouse.2.1 14 = .ok (.aload_n 0, 1) := by decide +kernel
theorem d_Plan_removeHouse_15 : decode m_Plan_removeHouse.2.1 15 = .ok (.getfield 16, 3) := by decide +kernel
theorem d_Plan_removeHouse_18 : decode m_Plan_removeHouse.2.1 18 = .ok (.iload_n 2, 1) := by decide +kernel
theorem d_Plan_removeHouse_19 : decode m_Plan_removeHouse.2.1 19 = .ok (.iaload, 1) := by decide +kernel
theorem d_Plan_removeHouse_20 : decode m_Plan_removeHouse.2.1 20 = .ok (.if_icmp .ge 42, 3) := by decide +kernel
theorem d_Plan_removeHouse_23 : decode m_Plan_removeHouse.2.1 23 = .ok (.aload_n 0, 1) := by decide +kernel
theorem d_Plan_removeHouse_24 : decode m_Plan_removeHouse.2.1 24 = .ok (.getfield 11, 3) := by decide +kernel
theorem d_Plan_removeHouse_27 : decode m_Plan_removeHouse.2.1 27 = .ok (.iload_n 2, 1) := by decide +kernel
theorem d_Plan_removeHouse_28 : decode m_Plan_removeHouse.2.1 28 = .ok (.aaload, 1) := by decide +kernel
theorem d_Plan_removeHouse_29 : decode m_Plan_removeHouse.2.1 29 = .ok (.iload 4, 2) := by decide +kernel
theorem d_Plan_removeHouse_31 : decode m_Plan_removeHouse.2.1 31 = .ok (.iaload, 1) := by decide +kernel
theorem d_Plan_removeHouse_32 : decode m_Plan_removeHouse.2.1 32 = .ok (.iload_n 1, 1) := by decide +kernel
theorem d_Plan_removeHouse_33 : decode m_Plan_removeHouse.2.1 33 = .ok (.if_icmp .eq 23, 3) := by decide +kernel
theorem d_Plan_removeHouse_36 : decode m_Plan_removeHouse.2.1 36 = .ok (.aload_n 0, 1) := by decide +kernel
theorem d_Plan_removeHouse_37 : decode m_Plan_removeHouse.2.1 37 = .ok (.getfield 11, 3) := by decide +kernel
theorem d_Plan_removeHouse_40 : decode m_Plan_removeHouse.2.1 40 = .ok (.iload_n 2, 1) := by decide +kernel
theorem d_Plan_removeHouse_41 : decode m_Plan_removeHouse.2.1 41 = .ok (.aaload, 1) := by decide +kernel
theorem d_Plan_removeHouse_42 : decode m_Plan_removeHouse.2.1 42 = .ok (.iload_n 3, 1) := by decide +kernel
theorem d_Plan_removeHouse_43 : decode m_Plan_removeHouse.2.1 43 = .ok (.aload_n 0, 1) := by decide +kernel
theorem d_Plan_removeHouse_44 : decode m_Plan_removeHouse.2.1 44 = .ok (.getfield 11, 3) := by decide +kernel
theorem d_Plan_removeHouse_47 : decode m_Plan_removeHouse.2.1 47 = .ok (.iload_n 2, 1) := by decide +kernel
theorem d_Plan_removeHouse_48 : decode m_Plan_removeHouse.2.1 48 = .ok (.aaload, 1) := by decide +kernel
theorem d_Plan_removeHouse_49 : decode m_Plan_removeHouse.2.1 49 = .ok (.iload 4, 2) := by decide +kernel
theorem d_Plan_removeHouse_51 : decode m_Plan_removeHouse.2.1 51 = .ok (.iaload, 1) := by decide +kernel
theorem d_Plan_removeHouse_52 : decode m_Plan_removeHouse.2.1 52 = .ok (.iastore, 1) := by decide +kernel
theorem d_Plan_removeHouse_53 : decode m_Plan_removeHouse.2.1 53 = .ok (.iinc 3 1, 3) := by decide +kernel
theorem d_Plan_removeHouse_56 : decode m_Plan_removeHouse.2.1 56 = .ok (.iinc 4 1, 3) := by decide +kernel
theorem d_Plan_removeHouse_59 : decode m_Plan_removeHouse.2.1 59 = .ok (.goto (-47), 3) := by decide +kernel
theorem d_Plan_removeHouse_62 : decode m_Plan_removeHouse.2.1 62 = .ok (.aload_n 0, 1) := by decide +kernel
theorem d_Plan_removeHouse_63 : decode m_Plan_removeHouse.2.1 63 = .ok (.getfield 16, 3) := by decide +kernel
theorem d_Plan_removeHouse_66 : decode m_Plan_removeHouse.2.1 66 = .ok (.iload_n 2, 1) := by decide +kernel
theorem d_Plan_removeHouse_67 : decode m_Plan_removeHouse.2.1 67 = .ok (.iload_n 3, 1) := by decide +kernel
theorem d_Plan_removeHouse_68 : decode m_Plan_removeHouse.2.1 68 = .ok (.iastore, 1) := by decide +kernel
theorem d_Plan_removeHouse_69 : decode m_Plan_removeHouse.2.1 69 = .ok (.iinc 2 1, 3) := by decide +kernel
theorem d_Plan_removeHouse_72 : decode m_Plan_removeHouse.2.1 72 = .ok (.goto (-70), 3) := by decide +kernel
theorem d_Plan_removeHouse_75 : decode m_Plan_removeHouse.2.1 75 = .ok (.aload_n 0, 1) := by decide +kernel
theorem d_Plan_removeHouse_76 : decode m_Plan_removeHouse.2.1 76 = .ok (.dup, 1) := by decide +kernel
theorem d_Plan_removeHouse_77 : decode m_Plan_removeHouse.2.1 77 = .ok (.getfield 24, 3) := by decide +kernel
theorem d_Plan_removeHouse_80 : decode m_Plan_removeHouse.2.1 80 = .ok (.iconst 1, 1) := by decide +kernel
theorem d_Plan_removeHouse_81 : decode m_Plan_removeHouse.2.1 81 = .ok (.iload_n 1, 1) := by decide +kernel
theorem d_Plan_removeHouse_82 : decode m_Plan_removeHouse.2.1 82 = .ok (.ishl, 1) := by decide +kernel
theorem d_Plan_removeHouse_83 : decode m_Plan_removeHouse.2.1 83 = .ok (.iconst (-1), 1) := by decide +kernel
theorem d_Plan_removeHouse_84 : decode m_Plan_removeHouse.2.1 84 = .ok (.ixor, 1) := by decide +kernel
theorem d_Plan_removeHouse_85 : decode m_Plan_removeHouse.2.1 85 = .ok (.iand, 1) := by decide +kernel
theorem d_Plan_removeHouse_86 : decode m_Plan_removeHouse.2.1 86 = .ok (.putfield 24, 3) := by decide +kernel
theorem d_Plan_removeHouse_89 : decode m_Plan_removeHouse.2.1 89 = .ok (.return_, 1) := by decide +kernel
theorem d_Fs_track_0 : decode m_Fs_track.2.1 0 = .ok (.aload_n 0, 1) := by decide +kernel
theorem d_Fs_track_1 : decode m_Fs_track.2.1 1 = .ok (.getfield 12, 3) := by decide +kernel
theorem d_Fs_track_4 : decode m_Fs_track.2.1 4 = .ok (.iload_n 1, 1) := by decide +kernel
theorem d_Fs_track_5 : decode m_Fs_track.2.1 5 = .ok (.invokevirtual 188, 3) := by decide +kernel
theorem d_Fs_track_8 : decode m_Fs_track.2.1 8 = .ok (.ifCond .eq 21, 3) := by decide +kernel
theorem d_Fs_track_11 : decode m_Fs_track.2.1 11 = .ok (.aload_n 0, 1) := by decide +kernel
theorem d_Fs_track_12 : decode m_Fs_track.2.1 12 = .ok (.getfield 12, 3) := by decide +kernel
theorem d_Fs_track_15 : decode m_Fs_track.2.1 15 = .ok (.iload_n 2, 1) := by decide +kernel
theorem d_Fs_track_16 : decode m_Fs_track.2.1 16 = .ok (.invokevirtual 150, 3) := by decide +kernel
theorem d_Fs_track_19 : decode m_Fs_track.2.1 19 = .ok (.ifCond .eq 10, 3) := by decide +kernel
theorem d_Fs_track_22 : decode m_Fs_track.2.1 22 = .ok (.iload_n 3, 1) := by decide +kernel
theorem d_Fs_track_23 : decode m_Fs_track.2.1 23 = .ok (.invokestatic 204, 3) := by decide +kernel
theorem d_Fs_track_26 : decode m_Fs_track.2.1 26 = .ok (.ifCond .ne 5, 3) := by decide +kernel
theorem d_Fs_track_29 : decode m_Fs_track.2.1 29 = .ok (.iconst (-1), 1) := by decide +kernel
theorem d_Fs_track_30 : decode m_Fs_track.2.1 30 = .ok (.ireturn, 1) := by decide +kernel
theorem d_Fs_track_31 : decode m_Fs_track.2.1 31 = .ok (.aload_n 0, 1) := by decide +kernel
theorem d_Fs_track_32 : decode m_Fs_track.2.1 32 = .ok (.getfield 69, 3) := by decide +kernel
theorem d_Fs_track_35 : decode m_Fs_track.2.1 35 = .ok (.iload_n 1, 1) := by decide +kernel
theorem d_Fs_track_36 : decode m_Fs_track.2.1 36 = .ok (.iload_n 2, 1) := by decide +kernel
theorem d_Fs_track_37 : decode m_Fs_track.2.1 37 = .ok (.iload_n 3, 1) := by decide +kernel
theorem d_Fs_track_38 : decode m_Fs_track.2.1 38 = .ok (.iconst (-1), 1) := by decide +kernel
theorem d_Fs_track_39 : decode m_Fs_track.2.1 39 = .ok (.invokevirtual 338, 3) := by decide +kernel
theorem d_Fs_track_42 : decode m_Fs_track.2.1 42 = .ok (.ireturn, 1) := by decide +kernel
theorem d_Tracks_add_0 : decode m_Tracks_add.2.1 0 = .ok (.aload_n 0, 1) := by decide +kernel
theorem d_Tracks_add_1 : decode m_Tracks_add.2.1 1 = .ok (.getfield 24, 3) := by decide +kernel
theorem d_Tracks_add_4 : decode m_Tracks_add.2.1 4 = .ok (.bipush 24, 2) := by decide +kernel
theorem d_Tracks_add_6 : decode m_Tracks_add.2.1 6 = .ok (.if_icmp .lt 5, 3) := by decide +kernel
theorem d_Tracks_add_9 : decode m_Tracks_add.2.1 9 = .ok (.iconst (-1), 1) := by decide +kernel
theorem d_Tracks_add_10 : decode m_Tracks_add.2.1 10 = .ok (.ireturn, 1) := by decide +kernel
theorem d_Tracks_add_11 : decode m_Tracks_add.2.1 11 = .ok (.aload_n 0, 1) := by decide +kernel
theorem d_Tracks_add_12 : decode m_Tracks_add.2.1 12 = .ok (.getfield 9, 3) := by decide +kernel
theorem d_Tracks_add_15 : decode m_Tracks_add.2.1 15 = .ok (.aload_n 0, 1) := by decide +kernel
theorem d_Tracks_add_16 : decode m_Tracks_add.2.1 16 = .ok (.getfield 24, 3) := by decide +kernel
theorem d_Tracks_add_19 : decode m_Tracks_add.2.1 19 = .ok (.iload_n 1, 1) := by decide +kernel
theorem d_Tracks_add_20 : decode m_Tracks_add.2.1 20 = .ok (.iastore, 1) := by decide +kernel
theorem d_Tracks_add_21 : decode m_Tracks_add.2.1 21 = .ok (.aload_n 0, 1) := by decide +kernel
theorem d_Tracks_add_22 : decode m_Tracks_add.2.1 22 = .ok (.getfield 15, 3) := by decide +kernel
theorem d_Tracks_add_25 : decode m_Tracks_add.2.1 25 = .ok (.aload_n 0, 1) := by decide +kernel
theorem d_Tracks_add_26 : decode m_Tracks_add.2.1 26 = .ok (.getfield 24, 3) := by decide +kernel
theorem d_Tracks_add_29 : decode m_Tracks_add.2.1 29 = .ok (.iload_n 2, 1) := by decide +kernel
theorem d_Tracks_add_30 : decode m_Tracks_add.2.1 30 = .ok (.iastore, 1) := by decide +kernel
theorem d_Tracks_add_31 : decode m_Tracks_add.2.1 31 = .ok (.aload_n 0, 1) := by decide +kernel
theorem d_Tracks_add_32 : decode m_Tracks_add.2.1 32 = .ok (.getfield 18, 3) := by decide +kernel
theorem d_Tracks_add_35 : decode m_Tracks_add.2.1 35 = .ok (.aload_n 0, 1) := by decide +kernel
theorem d_Tracks_add_36 : decode m_Tracks_add.2.1 36 = .ok (.getfield 24, 3) := by decide +kernel
theorem d_Tracks_add_39 : decode m_Tracks_add.2.1 39 = .ok (.iload_n 3, 1) := by decide +kernel
theorem d_Tracks_add_40 : decode m_Tracks_add.2.1 40 = .ok (.iastore, 1) := by decide +kernel
theorem d_Tracks_add_41 : decode m_Tracks_add.2.1 41 = .ok (.aload_n 0, 1) := by decide +kernel
theorem d_Tracks_add_42 : decode m_Tracks_add.2.1 42 = .ok (.getfield 21, 3) := by decide +kernel
theorem d_Tracks_add_45 : decode m_Tracks_add.2.1 45 = .ok (.aload_n 0, 1) := by decide +kernel
theorem d_Tracks_add_46 : decode m_Tracks_add.2.1 46 = .ok (.getfield 24, 3) := by decide +kernel
theorem d_Tracks_add_49 : decode m_Tracks_add.2.1 49 = .ok (.iload 4, 2) := by decide +kernel
theorem d_Tracks_add_51 : decode m_Tracks_add.2.1 51 = .ok (.iastore, 1) := by decide +kernel
theorem d_Tracks_add_52 : decode m_Tracks_add.2.1 52 = .ok (.aload_n 0, 1) := by decide +kernel
theorem d_Tracks_add_53 : decode m_Tracks_add.2.1 53 = .ok (.dup, 1) := by decide +kernel
theorem d_Tracks_add_54 : decode m_Tracks_add.2.1 54 = .ok (.getfield 24, 3) := by decide +kernel
theorem d_Tracks_add_57 : decode m_Tracks_add.2.1 57 = .ok (.iconst 1, 1) := by decide +kernel
theorem d_Tracks_add_58 : decode m_Tracks_add.2.1 58 = .ok (.iadd, 1) := by decide +kernel
theorem d_Tracks_add_59 : decode m_Tracks_add.2.1 59 = .ok (.putfield 24, 3) := by decide +kernel
theorem d_Tracks_add_62 : decode m_Tracks_add.2.1 62 = .ok (.aload_n 0, 1) := by decide +kernel
theorem d_Tracks_add_63 : decode m_Tracks_add.2.1 63 = .ok (.getfield 24, 3) := by decide +kernel
theorem d_Tracks_add_66 : decode m_Tracks_add.2.1 66 = .ok (.iconst 1, 1) := by decide +kernel
theorem d_Tracks_add_67 : decode m_Tracks_add.2.1 67 = .ok (.isub, 1) := by decide +kernel
theorem d_Tracks_add_68 : decode m_Tracks_add.2.1 68 = .ok (.ireturn, 1) := by decide +kernel
theorem d_Fs_strike_0 : decode m_Fs_strike.2.1 0 = .ok (.iload_n 1, 1) := by decide +kernel
theorem d_Fs_strike_1 : decode m_Fs_strike.2.1 1 = .ok (.ifCond .lt 14, 3) := by decide +kernel
theorem d_Fs_strike_4 : decode m_Fs_strike.2.1 4 = .ok (.iload_n 1, 1) := by decide +kernel
theorem d_Fs_strike_5 : decode m_Fs_strike.2.1 5 = .ok (.aload_n 0, 1) := by decide +kernel
theorem d_Fs_strike_6 : decode m_Fs_strike.2.1 6 = .ok (.getfield 69, 3) := by decide +kernel
theorem d_Fs_strike_9 : decode m_Fs_strike.2.1 9 = .ok (.getfield 341, 3) := by decide +kernel
theorem d_Fs_strike_12 : decode m_Fs_strike.2.1 12 = .ok (.if_icmp .lt 5, 3) := by decide +kernel
theorem d_Fs_strike_15 : decode m_Fs_strike.2.1 15 = .ok (.iconst (-1), 1) := by decide +kernel
theorem d_Fs_strike_16 : decode m_Fs_strike.2.1 16 = .ok (.ireturn, 1) := by decide +kernel
theorem d_Fs_strike_17 : decode m_Fs_strike.2.1 17 = .ok (.aload_n 0, 1) := by decide +kernel
theorem d_Fs_strike_18 : decode m_Fs_strike.2.1 18 = .ok (.getfield 69, 3) := by decide +kernel
theorem d_Fs_strike_21 : decode m_Fs_strike.2.1 21 = .ok (.iconst (-1), 1) := by decide +kernel
theorem d_Fs_strike_22 : decode m_Fs_strike.2.1 22 = .ok (.iconst (-1), 1) := by decide +kernel
theorem d_Fs_strike_23 : decode m_Fs_strike.2.1 23 = .ok (.iconst (-1), 1) := by decide +kernel
theorem d_Fs_strike_24 : decode m_Fs_strike.2.1 24 = .ok (.iload_n 1, 1) := by decide +kernel
theorem d_Fs_strike_25 : decode m_Fs_strike.2.1 25 = .ok (.invokevirtual 338, 3) := by decide +kernel
theorem d_Fs_strike_28 : decode m_Fs_strike.2.1 28 = .ok (.ireturn, 1) := by decide +kernel
theorem d_Fs_known_0 : decode m_Fs_known.2.1 0 = .ok (.iload_n 1, 1) := by decide +kernel
theorem d_Fs_known_1 : decode m_Fs_known.2.1 1 = .ok (.iconst (-1), 1) := by decide +kernel
theorem d_Fs_known_2 : decode m_Fs_known.2.1 2 = .ok (.if_icmp .lt 14, 3) := by decide +kernel
theorem d_Fs_known_5 : decode m_Fs_known.2.1 5 = .ok (.iload_n 1, 1) := by decide +kernel
theorem d_Fs_known_6 : decode m_Fs_known.2.1 6 = .ok (.aload_n 0, 1) := by decide +kernel
theorem d_Fs_known_7 : decode m_Fs_known.2.1 7 = .ok (.getfield 69, 3) := by decide +kernel
theorem d_Fs_known_10 : decode m_Fs_known.2.1 10 = .ok (.getfield 341, 3) := by decide +kernel
theorem d_Fs_known_13 : decode m_Fs_known.2.1 13 = .ok (.if_icmp .le 5, 3) := by decide +kernel
theorem d_Fs_known_16 : decode m_Fs_known.2.1 16 = .ok (.iconst 0, 1) := by decide +kernel
theorem d_Fs_known_17 : decode m_Fs_known.2.1 17 = .ok (.ireturn, 1) := by decide +kernel
theorem d_Fs_known_18 : decode m_Fs_known.2.1 18 = .ok (.aload_n 0, 1) := by decide +kernel
theorem d_Fs_known_19 : decode m_Fs_known.2.1 19 = .ok (.getfield 69, 3) := by decide +kernel
theorem d_Fs_known_22 : decode m_Fs_known.2.1 22 = .ok (.iload_n 1, 1) := by decide +kernel
theorem d_Fs_known_23 : decode m_Fs_known.2.1 23 = .ok (.putfield 342, 3) := by decide +kernel
theorem d_Fs_known_26 : decode m_Fs_known.2.1 26 = .ok (.iconst 1, 1) := by decide +kernel
theorem d_Fs_known_27 : decode m_Fs_known.2.1 27 = .ok (.ireturn, 1) := by decide +kernel
theorem d_Fs_tales_0 : decode m_Fs_tales.2.1 0 = .ok (.aload_n 0, 1) := by decide +kernel
theorem d_Fs_tales_1 : decode m_Fs_tales.2.1 1 = .ok (.getfield 12, 3) := by decide +kernel
theorem d_Fs_tales_4 : decode m_Fs_tales.2.1 4 = .ok (.iload_n 1, 1) := by decide +kernel
theorem d_Fs_tales_5 : decode m_Fs_tales.2.1 5 = .ok (.invokevirtual 188, 3) := by decide +kernel
theorem d_Fs_tales_8 : decode m_Fs_tales.2.1 8 = .ok (.ifCond .ne 5, 3) := by decide +kernel
theorem d_Fs_tales_11 : decode m_Fs_tales.2.1 11 = .ok (.iconst (-1), 1) := by decide +kernel
theorem d_Fs_tales_12 : decode m_Fs_tales.2.1 12 = .ok (.ireturn, 1) := by decide +kernel
theorem d_Fs_tales_13 : decode m_Fs_tales.2.1 13 = .ok (.aload_n 0, 1) := by decide +kernel
theorem d_Fs_tales_14 : decode m_Fs_tales.2.1 14 = .ok (.getfield 62, 3) := by decide +kernel
theorem d_Fs_tales_17 : decode m_Fs_tales.2.1 17 = .ok (.aload_n 0, 1) := by decide +kernel
theorem d_Fs_tales_18 : decode m_Fs_tales.2.1 18 = .ok (.getfield 31, 3) := by decide +kernel
theorem d_Fs_tales_21 : decode m_Fs_tales.2.1 21 = .ok (.invokevirtual 296, 3) := by decide +kernel
theorem d_Fs_tales_24 : decode m_Fs_tales.2.1 24 = .ok (.aload_n 0, 1) := by decide +kernel
theorem d_Fs_tales_25 : decode m_Fs_tales.2.1 25 = .ok (.getfield 69, 3) := by decide +kernel
theorem d_Fs_tales_28 : decode m_Fs_tales.2.1 28 = .ok (.invokevirtual 345, 3) := by decide +kernel
theorem d_Fs_tales_31 : decode m_Fs_tales.2.1 31 = .ok (.istore_n 2, 1) := by decide +kernel
theorem d_Fs_tales_32 : decode m_Fs_tales.2.1 32 = .ok (.iconst 0, 1) := by decide +kernel
theorem d_Fs_tales_33 : decode m_Fs_tales.2.1 33 = .ok (.istore_n 3, 1) := by decide +kernel
theorem d_Fs_tales_34 : decode m_Fs_tales.2.1 34 = .ok (.iconst 0, 1) := by decide +kernel
theorem d_Fs_tales_35 : decode m_Fs_tales.2.1 35 = .ok (.istore 4, 2) := by decide +kernel
theorem d_Fs_tales_37 : decode m_Fs_tales.2.1 37 = .ok (.iload 4, 2) := by decide +kernel
theorem d_Fs_tales_39 : decode m_Fs_tales.2.1 39 = .ok (.aload_n 0, 1) := by decide +kernel
theorem d_Fs_tales_40 : decode m_Fs_tales.2.1 40 = .ok (.getfield 62, 3) := by decide +kernel
theorem d_Fs_tales_43 : decode m_Fs_tales.2.1 43 = .ok (.getfield 348, 3) := by decide +kernel
theorem d_Fs_tales_46 : decode m_Fs_tales.2.1 46 = .ok (.if_icmp .ge 36, 3) := by decide +kernel
theorem d_Fs_tales_49 : decode m_Fs_tales.2.1 49 = .ok (.aload_n 0, 1) := by decide +kernel
theorem d_Fs_tales_50 : decode m_Fs_tales.2.1 50 = .ok (.getfield 69, 3) := by decide +kernel
theorem d_Fs_tales_53 : decode m_Fs_tales.2.1 53 = .ok (.iload_n 2, 1) := by decide +kernel
theorem d_Fs_tales_54 : decode m_Fs_tales.2.1 54 = .ok (.iload_n 1, 1) := by decide +kernel
theorem d_Fs_tales_55 : decode m_Fs_tales.2.1 55 = .ok (.aload_n 0, 1) := by decide +kernel
theorem d_Fs_tales_56 : decode m_Fs_tales.2.1 56 = .ok (.getfield 62, 3) := by decide +kernel
theorem d_Fs_tales_59 : decode m_Fs_tales.2.1 59 = .ok (.getfield 349, 3) := by decide +kernel
theorem d_Fs_tales_62 : decode m_Fs_tales.2.1 62 = .ok (.iload_n 1, 1) := by decide +kernel
theorem d_Fs_tales_63 : decode m_Fs_tales.2.1 63 = .ok (.aaload, 1) := by decide +kernel
theorem d_Fs_tales_64 : decode m_Fs_tales.2.1 64 = .ok (.iload 4, 2) := by decide +kernel
theorem d_Fs_tales_66 : decode m_Fs_tales.2.1 66 = .ok (.laload, 1) := by decide +kernel
theorem d_Fs_tales_67 : decode m_Fs_tales.2.1 67 = .ok (.invokevirtual 353, 3) := by decide +kernel
theorem d_Fs_tales_70 : decode m_Fs_tales.2.1 70 = .ok (.ifCond .eq 6, 3) := by decide +kernel
theorem d_Fs_tales_73 : decode m_Fs_tales.2.1 73 = .ok (.iinc 3 1, 3) := by decide +kernel
theorem d_Fs_tales_76 : decode m_Fs_tales.2.1 76 = .ok (.iinc 4 1, 3) := by decide +kernel
theorem d_Fs_tales_79 : decode m_Fs_tales.2.1 79 = .ok (.goto (-42), 3) := by decide +kernel
theorem d_Fs_tales_82 : decode m_Fs_tales.2.1 82 = .ok (.iload_n 3, 1) := by decide +kernel
theorem d_Fs_tales_83 : decode m_Fs_tales.2.1 83 = .ok (.ireturn, 1) := by decide +kernel
theorem d_Tracks_standing_0 : decode m_Tracks_standing.2.1 0 = .ok (.iconst 1, 1) := by decide +kernel
theorem d_Tracks_standing_1 : decode m_Tracks_standing.2.1 1 = .ok (.aload_n 0, 1) := by decide +kernel
theorem d_Tracks_standing_2 : decode m_Tracks_standing.2.1 2 = .ok (.invokevirtual 31, 3) := by decide +kernel
theorem d_Tracks_standing_5 : decode m_Tracks_standing.2.1 5 = .ok (.ishl, 1) := by decide +kernel
theorem d_Tracks_standing_6 : decode m_Tracks_standing.2.1 6 = .ok (.iconst 1, 1) := by decide +kernel
theorem d_Tracks_standing_7 : decode m_Tracks_standing.2.1 7 = .ok (.isub, 1) := by decide +kernel
theorem d_Tracks_standing_8 : decode m_Tracks_standing.2.1 8 = .ok (.istore_n 1, 1) := by decide +kernel
theorem d_Tracks_standing_9 : decode m_Tracks_standing.2.1 9 = .ok (.aload_n 0, 1) := by decide +kernel
theorem d_Tracks_standing_10 : decode m_Tracks_standing.2.1 10 = .ok (.invokevirtual 31, 3) := by decide +kernel
theorem d_Tracks_standing_13 : decode m_Tracks_standing.2.1 13 = .ok (.iconst 1, 1) := by decide +kernel
theorem d_Tracks_standing_14 : decode m_Tracks_standing.2.1 14 = .ok (.isub, 1) := by decide +kernel
theorem d_Tracks_standing_15 : decode m_Tracks_standing.2.1 15 = .ok (.istore_n 2, 1) := by decide +kernel
theorem d_Tracks_standing_16 : decode m_Tracks_standing.2.1 16 = .ok (.iload_n 2, 1) := by decide +kernel
theorem d_Tracks_standing_17 : decode m_Tracks_standing.2.1 17 = .ok (.ifCond .lt 41, 3) := by decide +kernel
theorem d_Tracks_standing_20 : decode m_Tracks_standing.2.1 20 = .ok (.iload_n 1, 1) := by decide +kernel
theorem d_Tracks_standing_21 : decode m_Tracks_standing.2.1 21 = .ok (.iload_n 2, 1) := by decide +kernel
theorem d_Tracks_standing_22 : decode m_Tracks_standing.2.1 22 = .ok (.invokestatic 35, 3) := by decide +kernel
theorem d_Tracks_standing_25 : decode m_Tracks_standing.2.1 25 = .ok (.iconst 1, 1) := by decide +kernel
theorem d_Tracks_standing_26 : decode m_Tracks_standing.2.1 26 = .ok (.if_icmp .ne 26, 3) := by decide +kernel
theorem d_Tracks_standing_29 : decode m_Tracks_standing.2.1 29 = .ok (.aload_n 0, 1) := by decide +kernel
theorem d_Tracks_standing_30 : decode m_Tracks_standing.2.1 30 = .ok (.getfield 21, 3) := by decide +kernel
theorem d_Tracks_standing_33 : decode m_Tracks_standing.2.1 33 = .ok (.iload_n 2, 1) := by decide +kernel
theorem d_Tracks_standing_34 : decode m_Tracks_standing.2.1 34 = .ok (.iaload, 1) := by decide +kernel
theorem d_Tracks_standing_35 : decode m_Tracks_standing.2.1 35 = .ok (.iconst (-1), 1) := by decide +kernel
theorem d_Tracks_standing_36 : decode m_Tracks_standing.2.1 36 = .ok (.if_icmp .eq 16, 3) := by decide +kernel
theorem d_Tracks_standing_39 : decode m_Tracks_standing.2.1 39 = .ok (.iload_n 1, 1) := by decide +kernel
theorem d_Tracks_standing_40 : decode m_Tracks_standing.2.1 40 = .ok (.iconst 1, 1) := by decide +kernel
theorem d_Tracks_standing_41 : decode m_Tracks_standing.2.1 41 = .ok (.aload_n 0, 1) := by decide +kernel
theorem d_Tracks_standing_42 : decode m_Tracks_standing.2.1 42 = .ok (.getfield 21, 3) := by decide +kernel
theorem d_Tracks_standing_45 : decode m_Tracks_standing.2.1 45 = .ok (.iload_n 2, 1) := by decide +kernel
theorem d_Tracks_standing_46 : decode m_Tracks_standing.2.1 46 = .ok (.iaload, 1) := by decide +kernel
theorem d_Tracks_standing_47 : decode m_Tracks_standing.2.1 47 = .ok (.ishl, 1) := by decide +kernel
theorem d_Tracks_standing_48 : decode m_Tracks_standing.2.1 48 = .ok (.iconst (-1), 1) := by decide +kernel
theorem d_Tracks_standing_49 : decode m_Tracks_standing.2.1 49 = .ok (.ixor, 1) := by decide +kernel
theorem d_Tracks_standing_50 : decode m_Tracks_standing.2.1 50 = .ok (.iand, 1) := by decide +kernel
theorem d_Tracks_standing_51 : decode m_Tracks_standing.2.1 51 = .ok (.istore_n 1, 1) := by decide +kernel
theorem d_Tracks_standing_52 : decode m_Tracks_standing.2.1 52 = .ok (.iinc 2 (-1), 3) := by decide +kernel
theorem d_Tracks_standing_55 : decode m_Tracks_standing.2.1 55 = .ok (.goto (-39), 3) := by decide +kernel
theorem d_Tracks_standing_58 : decode m_Tracks_standing.2.1 58 = .ok (.iload_n 1, 1) := by decide +kernel
theorem d_Tracks_standing_59 : decode m_Tracks_standing.2.1 59 = .ok (.ireturn, 1) := by decide +kernel
theorem d_Tracks_knownLength_0 : decode m_Tracks_knownLength.2.1 0 = .ok (.aload_n 0, 1) := by decide +kernel
theorem d_Tracks_knownLength_1 : decode m_Tracks_knownLength.2.1 1 = .ok (.getfield 28, 3) := by decide +kernel
theorem d_Tracks_knownLength_4 : decode m_Tracks_knownLength.2.1 4 = .ok (.iconst (-1), 1) := by decide +kernel
theorem d_Tracks_knownLength_5 : decode m_Tracks_knownLength.2.1 5 = .ok (.if_icmp .ne 10, 3) := by decide +kernel
theorem d_Tracks_knownLength_8 : decode m_Tracks_knownLength.2.1 8 = .ok (.aload_n 0, 1) := by decide +kernel
theorem d_Tracks_knownLength_9 : decode m_Tracks_knownLength.2.1 9 = .ok (.getfield 24, 3) := by decide +kernel
theorem d_Tracks_knownLength_12 : decode m_Tracks_knownLength.2.1 12 = .ok (.goto 7, 3) := by decide +kernel
theorem d_Tracks_knownLength_15 : decode m_Tracks_knownLength.2.1 15 = .ok (.aload_n 0, 1) := by decide +kernel
theorem d_Tracks_knownLength_16 : decode m_Tracks_knownLength.2.1 16 = .ok (.getfield 28, 3) := by decide +kernel
theorem d_Tracks_knownLength_19 : decode m_Tracks_knownLength.2.1 19 = .ok (.ireturn, 1) := by decide +kernel
theorem d_Tracks_agree_0 : decode m_Tracks_agree.2.1 0 = .ok (.iconst 0, 1) := by decide +kernel
theorem d_Tracks_agree_1 : decode m_Tracks_agree.2.1 1 = .ok (.istore 5, 2) := by decide +kernel
theorem d_Tracks_agree_3 : decode m_Tracks_agree.2.1 3 = .ok (.iload 5, 2) := by decide +kernel
theorem d_Tracks_agree_5 : decode m_Tracks_agree.2.1 5 = .ok (.aload_n 0, 1) := by decide +kernel
theorem d_Tracks_agree_6 : decode m_Tracks_agree.2.1 6 = .ok (.getfield 24, 3) := by decide +kernel
theorem d_Tracks_agree_9 : decode m_Tracks_agree.2.1 9 = .ok (.if_icmp .ge 64, 3) := by decide +kernel
theorem d_Tracks_agree_12 : decode m_Tracks_agree.2.1 12 = .ok (.iload_n 1, 1) := by decide +kernel
theorem d_Tracks_agree_13 : decode m_Tracks_agree.2.1 13 = .ok (.iload 5, 2) := by decide +kernel
theorem d_Tracks_agree_15 : decode m_Tracks_agree.2.1 15 = .ok (.invokestatic 35, 3) := by decide +kernel
theorem d_Tracks_agree_18 : decode m_Tracks_agree.2.1 18 = .ok (.iconst 1, 1) := by decide +kernel
theorem d_Tracks_agree_19 : decode m_Tracks_agree.2.1 19 = .ok (.if_icmp .ne 48, 3) := by decide +kernel
theorem d_Tracks_agree_22 : decode m_Tracks_agree.2.1 22 = .ok (.aload_n 0, 1) := by decide +kernel
theorem d_Tracks_agree_23 : decode m_Tracks_agree.2.1 23 = .ok (.getfield 21, 3) := by decide +kernel
theorem d_Tracks_agree_26 : decode m_Tracks_agree.2.1 26 = .ok (.iload 5, 2) := by decide +kernel
theorem d_Tracks_agree_28 : decode m_Tracks_agree.2.1 28 = .ok (.iaload, 1) := by decide +kernel
theorem d_Tracks_agree_29 : decode m_Tracks_agree.2.1 29 = .ok (.iconst (-1), 1) := by decide +kernel
theorem d_Tracks_agree_30 : decode m_Tracks_agree.2.1 30 = .ok (.if_icmp .ne 37, 3) := by decide +kernel
theorem d_Tracks_agree_33 : decode m_Tracks_agree.2.1 33 = .ok (.aload_n 0, 1) := by decide +kernel
theorem d_Tracks_agree_34 : decode m_Tracks_agree.2.1 34 = .ok (.getfield 9, 3) := by decide +kernel
theorem d_Tracks_agree_37 : decode m_Tracks_agree.2.1 37 = .ok (.iload 5, 2) := by decide +kernel
theorem d_Tracks_agree_39 : decode m_Tracks_agree.2.1 39 = .ok (.iaload, 1) := by decide +kernel
theorem d_Tracks_agree_40 : decode m_Tracks_agree.2.1 40 = .ok (.iload_n 2, 1) := by decide +kernel
theorem d_Tracks_agree_41 : decode m_Tracks_agree.2.1 41 = .ok (.if_icmp .ne 26, 3) := by decide +kernel
theorem d_Tracks_agree_44 : decode m_Tracks_agree.2.1 44 = .ok (.lload_n 3, 1) := by decide +kernel
theorem d_Tracks_agree_45 : decode m_Tracks_agree.2.1 45 = .ok (.aload_n 0, 1) := by decide +kernel
theorem d_Tracks_agree_46 : decode m_Tracks_agree.2.1 46 = .ok (.getfield 15, 3) := by decide +kernel
theorem d_Tracks_agree_49 : decode m_Tracks_agree.2.1 49 = .ok (.iload 5, 2) := by decide +kernel
theorem d_Tracks_agree_51 : decode m_Tracks_agree.2.1 51 = .ok (.iaload, 1) := by decide +kernel
theorem d_Tracks_agree_52 : decode m_Tracks_agree.2.1 52 = .ok (.invokestatic 39, 3) := by decide +kernel
theorem d_Tracks_agree_55 : decode m_Tracks_agree.2.1 55 = .ok (.aload_n 0, 1) := by decide +kernel
theorem d_Tracks_agree_56 : decode m_Tracks_agree.2.1 56 = .ok (.getfield 18, 3) := by decide +kernel
theorem d_Tracks_agree_59 : decode m_Tracks_agree.2.1 59 = .ok (.iload 5, 2) := by decide +kernel
theorem d_Tracks_agree_61 : decode m_Tracks_agree.2.1 61 = .ok (.iaload, 1) := by decide +kernel
theorem d_Tracks_agree_62 : decode m_Tracks_agree.2.1 62 = .ok (.if_icmp .eq 5, 3) := by decide +kernel
theorem d_Tracks_agree_65 : decode m_Tracks_agree.2.1 65 = .ok (.iconst 0, 1) := by decide +kernel
theorem d_Tracks_agree_66 : decode m_Tracks_agree.2.1 66 = .ok (.ireturn, 1) := by decide +kernel
theorem d_Tracks_agree_67 : decode m_Tracks_agree.2.1 67 = .ok (.iinc 5 1, 3) := by decide +kernel
theorem d_Tracks_agree_70 : decode m_Tracks_agree.2.1 70 = .ok (.goto (-67), 3) := by decide +kernel
theorem d_Tracks_agree_73 : decode m_Tracks_agree.2.1 73 = .ok (.iconst 1, 1) := by decide +kernel
theorem d_Tracks_agree_74 : decode m_Tracks_agree.2.1 74 = .ok (.ireturn, 1) := by decide +kernel
theorem d_Fs_tale_0 : decode m_Fs_tale.2.1 0 = .ok (.aload_n 0, 1) := by decide +kernel
theorem d_Fs_tale_1 : decode m_Fs_tale.2.1 1 = .ok (.getfield 12, 3) := by decide +kernel
theorem d_Fs_tale_4 : decode m_Fs_tale.2.1 4 = .ok (.iload_n 1, 1) := by decide +kernel
theorem d_Fs_tale_5 : decode m_Fs_tale.2.1 5 = .ok (.invokevirtual 188, 3) := by decide +kernel
theorem d_Fs_tale_8 : decode m_Fs_tale.2.1 8 = .ok (.ifCond .eq 11, 3) := by decide +kernel
theorem d_Fs_tale_11 : decode m_Fs_tale.2.1 11 = .ok (.iload_n 2, 1) := by decide +kernel
theorem d_Fs_tale_12 : decode m_Fs_tale.2.1 12 = .ok (.ifCond .lt 7, 3) := by decide +kernel
theorem d_Fs_tale_15 : decode m_Fs_tale.2.1 15 = .ok (.iload_n 3, 1) := by decide +kernel
theorem d_Fs_tale_16 : decode m_Fs_tale.2.1 16 = .ok (.ifCond .ge 5, 3) := by decide +kernel
theorem d_Fs_tale_19 : decode m_Fs_tale.2.1 19 = .ok (.iconst (-1), 1) := by decide +kernel
theorem d_Fs_tale_20 : decode m_Fs_tale.2.1 20 = .ok (.ireturn, 1) := by decide +kernel
theorem d_Fs_tale_21 : decode m_Fs_tale.2.1 21 = .ok (.aload_n 0, 1) := by decide +kernel
theorem d_Fs_tale_22 : decode m_Fs_tale.2.1 22 = .ok (.getfield 62, 3) := by decide +kernel
theorem d_Fs_tale_25 : decode m_Fs_tale.2.1 25 = .ok (.aload_n 0, 1) := by decide +kernel
theorem d_Fs_tale_26 : decode m_Fs_tale.2.1 26 = .ok (.getfield 31, 3) := by decide +kernel
theorem d_Fs_tale_29 : decode m_Fs_tale.2.1 29 = .ok (.invokevirtual 296, 3) := by decide +kernel
theorem d_Fs_tale_32 : decode m_Fs_tale.2.1 32 = .ok (.aload_n 0, 1) := by decide +kernel
theorem d_Fs_tale_33 : decode m_Fs_tale.2.1 33 = .ok (.getfield 69, 3) := by decide +kernel
theorem d_Fs_tale_36 : decode m_Fs_tale.2.1 36 = .ok (.invokevirtual 345, 3) := by decide +kernel
theorem d_Fs_tale_39 : decode m_Fs_tale.2.1 39 = .ok (.istore 4, 2) := by decide +kernel
theorem d_Fs_tale_41 : decode m_Fs_tale.2.1 41 = .ok (.iconst 0, 1) := by decide +kernel
theorem d_Fs_tale_42 : decode m_Fs_tale.2.1 42 = .ok (.istore 5, 2) := by decide +kernel
theorem d_Fs_tale_44 : decode m_Fs_tale.2.1 44 = .ok (.iconst 0, 1) := by decide +kernel
theorem d_Fs_tale_45 : decode m_Fs_tale.2.1 45 = .ok (.istore 6, 2) := by decide +kernel
theorem d_Fs_tale_47 : decode m_Fs_tale.2.1 47 = .ok (.iload 6, 2) := by decide +kernel
theorem d_Fs_tale_49 : decode m_Fs_tale.2.1 49 = .ok (.aload_n 0, 1) := by decide +kernel
theorem d_Fs_tale_50 : decode m_Fs_tale.2.1 50 = .ok (.getfield 62, 3) := by decide +kernel
theorem d_Fs_tale_53 : decode m_Fs_tale.2.1 53 = .ok (.getfield 348, 3) := by decide +kernel
theorem d_Fs_tale_56 : decode m_Fs_tale.2.1 56 = .ok (.if_icmp .ge 54, 3) := by decide +kernel
theorem d_Fs_tale_59 : decode m_Fs_tale.2.1 59 = .ok (.aload_n 0, 1) := by decide +kernel
theorem d_Fs_tale_60 : decode m_Fs_tale.2.1 60 = .ok (.getfield 69, 3) := by decide +kernel
theorem d_Fs_tale_63 : decode m_Fs_tale.2.1 63 = .ok (.iload 4, 2) := by decide +kernel
theorem d_Fs_tale_65 : decode m_Fs_tale.2.1 65 = .ok (.iload_n 1, 1) := by decide +kernel
theorem d_Fs_tale_66 : decode m_Fs_tale.2.1 66 = .ok (.aload_n 0, 1) := by decide +kernel
theorem d_Fs_tale_67 : decode m_Fs_tale.2.1 67 = .ok (.getfield 62, 3) := by decide +kernel
theorem d_Fs_tale_70 : decode m_Fs_tale.2.1 70 = .ok (.getfield 349, 3) := by decide +kernel
theorem d_Fs_tale_73 : decode m_Fs_tale.2.1 73 = .ok (.iload_n 1, 1) := by decide +kernel
theorem d_Fs_tale_74 : decode m_Fs_tale.2.1 74 = .ok (.aaload, 1) := by decide +kernel
theorem d_Fs_tale_75 : decode m_Fs_tale.2.1 75 = .ok (.iload 6, 2) := by decide +kernel
theorem d_Fs_tale_77 : decode m_Fs_tale.2.1 77 = .ok (.laload, 1) := by decide +kernel
theorem d_Fs_tale_78 : decode m_Fs_tale.2.1 78 = .ok (.invokevirtual 353, 3) := by decide +kernel
theorem d_Fs_tale_81 : decode m_Fs_tale.2.1 81 = .ok (.ifCond .eq 23, 3) := by decide +kernel
theorem d_Fs_tale_84 : decode m_Fs_tale.2.1 84 = .ok (.iload 5, 2) := by decide +kernel
theorem d_Fs_tale_86 : decode m_Fs_tale.2.1 86 = .ok (.iload_n 2, 1) := by decide +kernel
theorem d_Fs_tale_87 : decode m_Fs_tale.2.1 87 = .ok (.if_icmp .ne 14, 3) := by decide +kernel
theorem d_Fs_tale_90 : decode m_Fs_tale.2.1 90 = .ok (.aload_n 0, 1) := by decide +kernel
theorem d_Fs_tale_91 : decode m_Fs_tale.2.1 91 = .ok (.getfield 62, 3) := by decide +kernel
theorem d_Fs_tale_94 : decode m_Fs_tale.2.1 94 = .ok (.iload 6, 2) := by decide +kernel
theorem d_Fs_tale_96 : decode m_Fs_tale.2.1 96 = .ok (.iload_n 3, 1) := by decide +kernel
theorem d_Fs_tale_97 : decode m_Fs_tale.2.1 97 = .ok (.invokevirtual 308, 3) := by decide +kernel
theorem d_Fs_tale_100 : decode m_Fs_tale.2.1 100 = .ok (.ireturn, 1) := by decide +kernel
theorem d_Fs_tale_101 : decode m_Fs_tale.2.1 101 = .ok (.iinc 5 1, 3) := by decide +kernel
theorem d_Fs_tale_104 : decode m_Fs_tale.2.1 104 = .ok (.iinc 6 1, 3) := by decide +kernel
theorem d_Fs_tale_107 : decode m_Fs_tale.2.1 107 = .ok (.goto (-60), 3) := by decide +kernel
theorem d_Fs_tale_110 : decode m_Fs_tale.2.1 110 = .ok (.bipush (-3), 2) := by decide +kernel
theorem d_Fs_tale_112 : decode m_Fs_tale.2.1 112 = .ok (.ireturn, 1) := by decide +kernel
theorem d_Fs_undo_0 : decode m_Fs_undo.2.1 0 = .ok (.aload_n 0, 1) := by decide +kernel
theorem d_Fs_undo_1 : decode m_Fs_undo.2.1 1 = .ok (.getfield 76, 3) := by decide +kernel
theorem d_Fs_undo_4 : decode m_Fs_undo.2.1 4 = .ok (.getfield 357, 3) := by decide +kernel
theorem d_Fs_undo_7 : decode m_Fs_undo.2.1 7 = .ok (.ifCond .ne 5, 3) := by decide +kernel
theorem d_Fs_undo_10 : decode m_Fs_undo.2.1 10 = .ok (.iconst (-1), 1) := by decide +kernel
theorem d_Fs_undo_11 : decode m_Fs_undo.2.1 11 = .ok (.ireturn, 1) := by decide +kernel
theorem d_Fs_undo_12 : decode m_Fs_undo.2.1 12 = .ok (.aload_n 0, 1) := by decide +kernel
theorem d_Fs_undo_13 : decode m_Fs_undo.2.1 13 = .ok (.getfield 76, 3) := by decide +kernel
theorem d_Fs_undo_16 : decode m_Fs_undo.2.1 16 = .ok (.aload_n 0, 1) := by decide +kernel
theorem d_Fs_undo_17 : decode m_Fs_undo.2.1 17 = .ok (.getfield 31, 3) := by decide +kernel
theorem d_Fs_undo_20 : decode m_Fs_undo.2.1 20 = .ok (.invokevirtual 358, 3) := by decide +kernel
theorem d_Fs_undo_23 : decode m_Fs_undo.2.1 23 = .ok (.aload_n 0, 1) := by decide +kernel
theorem d_Fs_undo_24 : decode m_Fs_undo.2.1 24 = .ok (.getfield 62, 3) := by decide +kernel
theorem d_Fs_undo_27 : decode m_Fs_undo.2.1 27 = .ok (.iconst 0, 1) := by decide +kernel
theorem d_Fs_undo_28 : decode m_Fs_undo.2.1 28 = .ok (.putfield 124, 3) := by decide +kernel
theorem d_Fs_undo_31 : decode m_Fs_undo.2.1 31 = .ok (.aload_n 0, 1) := by decide +kernel
theorem d_Fs_undo_32 : decode m_Fs_undo.2.1 32 = .ok (.getfield 76, 3) := by decide +kernel
theorem d_Fs_undo_35 : decode m_Fs_undo.2.1 35 = .ok (.getfield 357, 3) := by decide +kernel
theorem d_Fs_undo_38 : decode m_Fs_undo.2.1 38 = .ok (.ireturn, 1) := by decide +kernel
theorem d_Past_recall_0 : decode m_Past_recall.2.1 0 = .ok (.aload_n 0, 1) := by decide +kernel
theorem d_Past_recall_1 : decode m_Past_recall.2.1 1 = .ok (.getfield 21, 3) := by decide +kernel
theorem d_Past_recall_4 : decode m_Past_recall.2.1 4 = .ok (.ifCond .le 34, 3) := by decide +kernel
theorem d_Past_recall_7 : decode m_Past_recall.2.1 7 = .ok (.aload_n 0, 1) := by decide +kernel
theorem d_Past_recall_8 : decode m_Past_recall.2.1 8 = .ok (.dup, 1) := by decide +kernel
theorem d_Past_recall_9 : decode m_Past_recall.2.1 9 = .ok (.getfield 21, 3) := by decide +kernel
theorem d_Past_recall_12 : decode m_Past_recall.2.1 12 = .ok (.iconst 1, 1) := by decide +kernel
theorem d_Past_recall_13 : decode m_Past_recall.2.1 13 = .ok (.isub, 1) := by decide +kernel
theorem d_Past_recall_14 : decode m_Past_recall.2.1 14 = .ok (.putfield 21, 3) := by decide +kernel
theorem d_Past_recall_17 : decode m_Past_recall.2.1 17 = .ok (.aload_n 1, 1) := by decide +kernel
theorem d_Past_recall_18 : decode m_Past_recall.2.1 18 = .ok (.aload_n 0, 1) := by decide +kernel
theorem d_Past_recall_19 : decode m_Past_recall.2.1 19 = .ok (.getfield 11, 3) := by decide +kernel
theorem d_Past_recall_22 : decode m_Past_recall.2.1 22 = .ok (.aload_n 0, 1) := by decide +kernel
theorem d_Past_recall_23 : decode m_Past_recall.2.1 23 = .ok (.getfield 17, 3) := by decide +kernel
theorem d_Past_recall_26 : decode m_Past_recall.2.1 26 = .ok (.aload_n 0, 1) := by decide +kernel
theorem d_Past_recall_27 : decode m_Past_recall.2.1 27 = .ok (.getfield 21, 3) := by decide +kernel
theorem d_Past_recall_30 : decode m_Past_recall.2.1 30 = .ok (.iadd, 1) := by decide +kernel
theorem d_Past_recall_31 : decode m_Past_recall.2.1 31 = .ok (.bipush 20, 2) := by decide +kernel
theorem d_Past_recall_33 : decode m_Past_recall.2.1 33 = .ok (.irem, 1) := by decide +kernel
theorem d_Past_recall_34 : decode m_Past_recall.2.1 34 = .ok (.aaload, 1) := by decide +kernel
theorem d_Past_recall_35 : decode m_Past_recall.2.1 35 = .ok (.invokevirtual 25, 3) := by decide +kernel
theorem d_Past_recall_38 : decode m_Past_recall.2.1 38 = .ok (.return_, 1) := by decide +kernel
theorem d_Fs_keep_0 : decode m_Fs_keep.2.1 0 = .ok (.aload_n 0, 1) := by decide +kernel
theorem d_Fs_keep_1 : decode m_Fs_keep.2.1 1 = .ok (.getfield 80, 3) := by decide +kernel
theorem d_Fs_keep_4 : decode m_Fs_keep.2.1 4 = .ok (.aload_n 0, 1) := by decide +kernel
theorem d_Fs_keep_5 : decode m_Fs_keep.2.1 5 = .ok (.getfield 31, 3) := by decide +kernel
theorem d_Fs_keep_8 : decode m_Fs_keep.2.1 8 = .ok (.invokevirtual 324, 3) := by decide +kernel
theorem d_Fs_keep_11 : decode m_Fs_keep.2.1 11 = .ok (.aload_n 0, 1) := by decide +kernel
theorem d_Fs_keep_12 : decode m_Fs_keep.2.1 12 = .ok (.getfield 83, 3) := by decide +kernel
theorem d_Fs_keep_15 : decode m_Fs_keep.2.1 15 = .ok (.aload_n 0, 1) := by decide +kernel
theorem d_Fs_keep_16 : decode m_Fs_keep.2.1 16 = .ok (.getfield 50, 3) := by decide +kernel
theorem d_Fs_keep_19 : decode m_Fs_keep.2.1 19 = .ok (.invokevirtual 361, 3) := by decide +kernel
theorem d_Fs_keep_22 : decode m_Fs_keep.2.1 22 = .ok (.aload_n 0, 1) := by decide +kernel
theorem d_Fs_keep_23 : decode m_Fs_keep.2.1 23 = .ok (.iconst 1, 1) := by decide +kernel
theorem d_Fs_keep_24 : decode m_Fs_keep.2.1 24 = .ok (.putfield 86, 3) := by decide +kernel
theorem d_Fs_keep_27 : decode m_Fs_keep.2.1 27 = .ok (.aload_n 0, 1) := by decide +kernel
theorem d_Fs_keep_28 : decode m_Fs_keep.2.1 28 = .ok (.invokevirtual 364, 3) := by decide +kernel
theorem d_Fs_keep_31 : decode m_Fs_keep.2.1 31 = .ok (.ireturn, 1) := by decide +kernel
theorem d_Night_copyFrom_0 : decode m_Night_copyFrom.2.1 0 = .ok (.aload_n 1, 1) := by decide +kernel
theorem d_Night_copyFrom_1 : decode m_Night_copyFrom.2.1 1 = .ok (.getfield 9, 3) := by decide +kernel
theorem d_Night_copyFrom_4 : decode m_Night_copyFrom.2.1 4 = .ok (.iconst 0, 1) := by decide +kernel
theorem d_Night_copyFrom_5 : decode m_Night_copyFrom.2.1 5 = .ok (.aload_n 0, 1) := by decide +kernel
theorem d_Night_copyFrom_6 : decode m_Night_copyFrom.2.1 6 = .ok (.getfield 9, 3) := by decide +kernel
theorem d_Night_copyFrom_9 : decode m_Night_copyFrom.2.1 9 = .ok (.iconst 0, 1) := by decide +kernel
theorem d_Night_copyFrom_10 : decode m_Night_copyFrom.2.1 10 = .ok (.bipush 6, 2) := by decide +kernel
theorem d_Night_copyFrom_12 : decode m_Night_copyFrom.2.1 12 = .ok (.invokestatic 25, 3) := by decide +kernel
theorem d_Night_copyFrom_15 : decode m_Night_copyFrom.2.1 15 = .ok (.aload_n 1, 1) := by decide +kernel
theorem d_Night_copyFrom_16 : decode m_Night_copyFrom.2.1 16 = .ok (.getfield 15, 3) := by decide +kernel
theorem d_Night_copyFrom_19 : decode m_Night_copyFrom.2.1 19 = .ok (.iconst 0, 1) := by decide +kernel
theorem d_Night_copyFrom_20 : decode m_Night_copyFrom.2.1 20 = .ok (.aload_n 0, 1) := by decide +kernel
theorem d_Night_copyFrom_21 : decode m_Night_copyFrom.2.1 21 = .ok (.getfield 15, 3) := by decide +kernel
theorem d_Night_copyFrom_24 : decode m_Night_copyFrom.2.1 24 = .ok (.iconst 0, 1) := by decide +kernel
theorem d_Night_copyFrom_25 : decode m_Night_copyFrom.2.1 25 = .ok (.bipush 6, 2) := by decide +kernel
theorem d_Night_copyFrom_27 : decode m_Night_copyFrom.2.1 27 = .ok (.invokestatic 25, 3) := by decide +kernel
theorem d_Night_copyFrom_30 : decode m_Night_copyFrom.2.1 30 = .ok (.aload_n 0, 1) := by decide +kernel
theorem d_Night_copyFrom_31 : decode m_Night_copyFrom.2.1 31 = .ok (.aload_n 1, 1) := by decide +kernel
theorem d_Night_copyFrom_32 : decode m_Night_copyFrom.2.1 32 = .ok (.getfield 18, 3) := by decide +kernel
theorem d_Night_copyFrom_35 : decode m_Night_copyFrom.2.1 35 = .ok (.putfield 18, 3) := by decide +kernel
theorem d_Night_copyFrom_38 : decode m_Night_copyFrom.2.1 38 = .ok (.aload_n 0, 1) := by decide +kernel
theorem d_Night_copyFrom_39 : decode m_Night_copyFrom.2.1 39 = .ok (.aload_n 1, 1) := by decide +kernel
theorem d_Night_copyFrom_40 : decode m_Night_copyFrom.2.1 40 = .ok (.getfield 22, 3) := by decide +kernel
theorem d_Night_copyFrom_43 : decode m_Night_copyFrom.2.1 43 = .ok (.putfield 22, 3) := by decide +kernel
theorem d_Night_copyFrom_46 : decode m_Night_copyFrom.2.1 46 = .ok (.return_, 1) := by decide +kernel
theorem d_Fs_back_0 : decode m_Fs_back.2.1 0 = .ok (.aload_n 0, 1) := by decide +kernel
theorem d_Fs_back_1 : decode m_Fs_back.2.1 1 = .ok (.getfield 86, 3) := by decide +kernel
theorem d_Fs_back_4 : decode m_Fs_back.2.1 4 = .ok (.ifCond .ne 5, 3) := by decide +kernel
theorem d_Fs_back_7 : decode m_Fs_back.2.1 7 = .ok (.iconst (-1), 1) := by decide +kernel
theorem d_Fs_back_8 : decode m_Fs_back.2.1 8 = .ok (.ireturn, 1) := by decide +kernel
theorem d_Fs_back_9 : decode m_Fs_back.2.1 9 = .ok (.aload_n 0, 1) := by decide +kernel
theorem d_Fs_back_10 : decode m_Fs_back.2.1 10 = .ok (.getfield 31, 3) := by decide +kernel
theorem d_Fs_back_13 : decode m_Fs_back.2.1 13 = .ok (.aload_n 0, 1) := by decide +kernel
theorem d_Fs_back_14 : decode m_Fs_back.2.1 14 = .ok (.getfield 80, 3) := by decide +kernel
theorem d_Fs_back_17 : decode m_Fs_back.2.1 17 = .ok (.invokevirtual 324, 3) := by decide +kernel
theorem d_Fs_back_20 : decode m_Fs_back.2.1 20 = .ok (.aload_n 0, 1) := by decide +kernel
theorem d_Fs_back_21 : decode m_Fs_back.2.1 21 = .ok (.getfield 50, 3) := by decide +kernel
theorem d_Fs_back_24 : decode m_Fs_back.2.1 24 = .ok (.aload_n 0, 1) := by decide +kernel
theorem d_Fs_back_25 : decode m_Fs_back.2.1 25 = .ok (.getfield 83, 3) := by decide +kernel
theorem d_Fs_back_28 : decode m_Fs_back.2.1 28 = .ok (.invokevirtual 361, 3) := by decide +kernel
theorem d_Fs_back_31 : decode m_Fs_back.2.1 31 = .ok (.aload_n 0, 1) := by decide +kernel
theorem d_Fs_back_32 : decode m_Fs_back.2.1 32 = .ok (.getfield 76, 3) := by decide +kernel
theorem d_Fs_back_35 : decode m_Fs_back.2.1 35 = .ok (.invokevirtual 123, 3) := by decide +kernel
theorem d_Fs_back_38 : decode m_Fs_back.2.1 38 = .ok (.aload_n 0, 1) := by decide +kernel
theorem d_Fs_back_39 : decode m_Fs_back.2.1 39 = .ok (.getfield 62, 3) := by decide +kernel
theorem d_Fs_back_42 : decode m_Fs_back.2.1 42 = .ok (.iconst 0, 1) := by decide +kernel
theorem d_Fs_back_43 : decode m_Fs_back.2.1 43 = .ok (.putfield 124, 3) := by decide +kernel
theorem d_Fs_back_46 : decode m_Fs_back.2.1 46 = .ok (.aload_n 0, 1) := by decide +kernel
theorem d_Fs_back_47 : decode m_Fs_back.2.1 47 = .ok (.invokevirtual 364, 3) := by decide +kernel
theorem d_Fs_back_50 : decode m_Fs_back.2.1 50 = .ok (.ireturn, 1) := by decide +kernel
theorem d_Fs_count_0 : decode m_Fs_count.2.1 0 = .ok (.iload_n 1, 1) := by decide +kernel
theorem d_Fs_count_1 : decode m_Fs_count.2.1 1 = .ok (.tableswitch 123 0 7 #[47, 55, 63, 74, 91, 99, 107, 115], 47) := by decide +kernel
theorem d_Fs_count_48 : decode m_Fs_count.2.1 48 = .ok (.aload_n 0, 1) := by decide +kernel
theorem d_Fs_count_49 : decode m_Fs_count.2.1 49 = .ok (.getfield 12, 3) := by decide +kernel
theorem d_Fs_count_52 : decode m_Fs_count.2.1 52 = .ok (.getfield 137, 3) := by decide +kernel
theorem d_Fs_count_55 : decode m_Fs_count.2.1 55 = .ok (.ireturn, 1) := by decide +kernel
theorem d_Fs_count_56 : decode m_Fs_count.2.1 56 = .ok (.aload_n 0, 1) := by decide +kernel
theorem d_Fs_count_57 : decode m_Fs_count.2.1 57 = .ok (.getfield 12, 3) := by decide +kernel
theorem d_Fs_count_60 : decode m_Fs_count.2.1 60 = .ok (.getfield 147, 3) := by decide +kernel
theorem d_Fs_count_63 : decode m_Fs_count.2.1 63 = .ok (.ireturn, 1) := by decide +kernel
theorem d_Fs_count_64 : decode m_Fs_count.2.1 64 = .ok (.aload_n 0, 1) := by decide +kernel
theorem d_Fs_count_65 : decode m_Fs_count.2.1 65 = .ok (.getfield 12, 3) := by decide +kernel
theorem d_Fs_count_68 : decode m_Fs_count.2.1 68 = .ok (.getfield 210, 3) := by decide +kernel
theorem d_Fs_count_71 : decode m_Fs_count.2.1 71 = .ok (.getfield 367, 3) := by decide +kernel
theorem d_Fs_count_74 : decode m_Fs_count.2.1 74 = .ok (.ireturn, 1) := by decide +kernel
theorem d_Fs_count_75 : decode m_Fs_count.2.1 75 = .ok (.aload_n 0, 1) := by decide +kernel
theorem d_Fs_count_76 : decode m_Fs_count.2.1 76 = .ok (.getfield 12, 3) := by decide +kernel
theorem d_Fs_count_79 : decode m_Fs_count.2.1 79 = .ok (.getfield 137, 3) := by decide +kernel
theorem d_Fs_count_82 : decode m_Fs_count.2.1 82 = .ok (.aload_n 0, 1) := by decide +kernel
theorem d_Fs_count_83 : decode m_Fs_count.2.1 83 = .ok (.iconst 1, 1) := by decide +kernel
theorem d_Fs_count_84 : decode m_Fs_count.2.1 84 = .ok (.invokevirtual 368, 3) := by decide +kernel
theorem d_Fs_count_87 : decode m_Fs_count.2.1 87 = .ok (.invokestatic 330, 3) := by decide +kernel
theorem d_Fs_count_90 : decode m_Fs_count.2.1 90 = .ok (.isub, 1) := by decide +kernel
theorem d_Fs_count_91 : decode m_Fs_count.2.1 91 = .ok (.ireturn, 1) := by decide +kernel
theorem d_Fs_count_92 : decode m_Fs_count.2.1 92 = .ok (.aload_n 0, 1) := by decide +kernel
theorem d_Fs_count_93 : decode m_Fs_count.2.1 93 = .ok (.getfield 69, 3) := by decide +kernel
theorem d_Fs_count_96 : decode m_Fs_count.2.1 96 = .ok (.getfield 341, 3) := by decide +kernel
theorem d_Fs_count_99 : decode m_Fs_count.2.1 99 = .ok (.ireturn, 1) := by decide +kernel
theorem d_Fs_count_100 : decode m_Fs_count.2.1 100 = .ok (.aload_n 0, 1) := by decide +kernel
theorem d_Fs_count_101 : decode m_Fs_count.2.1 101 = .ok (.getfield 69, 3) := by decide +kernel
theorem d_Fs_count_104 : decode m_Fs_count.2.1 104 = .ok (.invokevirtual 371, 3) := by decide +kernel
theorem d_Fs_count_107 : decode m_Fs_count.2.1 107 = .ok (.ireturn, 1) := by decide +kernel
theorem d_Fs_count_108 : decode m_Fs_count.2.1 108 = .ok (.aload_n 0, 1) := by decide +kernel
theorem d_Fs_count_109 : decode m_Fs_count.2.1 109 = .ok (.getfield 76, 3) := by decide +kernel
theorem d_Fs_count_112 : decode m_Fs_count.2.1 112 = .ok (.getfield 357, 3) := by decide +kernel
theorem d_Fs_count_115 : decode m_Fs_count.2.1 115 = .ok (.ireturn, 1) := by decide +kernel
theorem d_Fs_count_116 : decode m_Fs_count.2.1 116 = .ok (.aload_n 0, 1) := by decide +kernel
theorem d_Fs_count_117 : decode m_Fs_count.2.1 117 = .ok (.getfield 50, 3) := by decide +kernel
theorem d_Fs_count_120 : decode m_Fs_count.2.1 120 = .ok (.getfield 288, 3) := by decide +kernel
theorem d_Fs_count_123 : decode m_Fs_count.2.1 123 = .ok (.ireturn, 1) := by decide +kernel
theorem d_Fs_count_124 : decode m_Fs_count.2.1 124 = .ok (.iconst (-1), 1) := by decide +kernel
theorem d_Fs_count_125 : decode m_Fs_count.2.1 125 = .ok (.ireturn, 1) := by decide +kernel
theorem d_Law_look_0 : decode m_Law_look.2.1 0 = .ok (.aload_n 3, 1) := by decide +kernel
theorem d_Law_look_1 : decode m_Law_look.2.1 1 = .ok (.iconst 0, 1) := by decide +kernel
theorem d_Law_look_2 : decode m_Law_look.2.1 2 = .ok (.aload_n 0, 1) := by decide +kernel
theorem d_Law_look_3 : decode m_Law_look.2.1 3 = .ok (.iload_n 1, 1) := by decide +kernel
theorem d_Law_look_4 : decode m_Law_look.2.1 4 = .ok (.iload_n 2, 1) := by decide +kernel
theorem d_Law_look_5 : decode m_Law_look.2.1 5 = .ok (.invokevirtual 7, 3) := by decide +kernel
theorem d_Law_look_8 : decode m_Law_look.2.1 8 = .ok (.i2l, 1) := by decide +kernel
theorem d_Law_look_9 : decode m_Law_look.2.1 9 = .ok (.lastore, 1) := by decide +kernel
theorem d_Law_look_10 : decode m_Law_look.2.1 10 = .ok (.goto 11, 3) := by decide +kernel
theorem d_Law_look_13 : decode m_Law_look.2.1 13 = .ok (.astore 4, 2) := by decide +kernel
theorem d_Law_look_15 : decode m_Law_look.2.1 15 = .ok (.iconst 1, 1) := by decide +kernel
theorem d_Law_look_16 : decode m_Law_look.2.1 16 = .ok (.ireturn, 1) := by decide +kernel
theorem d_Law_look_17 : decode m_Law_look.2.1 17 = .ok (.astore 4, 2) := by decide +kernel
theorem d_Law_look_19 : decode m_Law_look.2.1 19 = .ok (.iconst 2, 1) := by decide +kernel
theorem d_Law_look_20 : decode m_Law_look.2.1 20 = .ok (.ireturn, 1) := by decide +kernel
theorem d_Law_look_21 : decode m_Law_look.2.1 21 = .ok (.iconst 0, 1) := by decide +kernel
theorem d_Law_look_22 : decode m_Law_look.2.1 22 = .ok (.ireturn, 1) := by decide +kernel
theorem d_Fs_look_0 : decode m_Fs_look.2.1 0 = .ok (.aload_n 0, 1) := by decide +kernel
theorem d_Fs_look_1 : decode m_Fs_look.2.1 1 = .ok (.getfield 12, 3) := by decide +kernel
theorem d_Fs_look_4 : decode m_Fs_look.2.1 4 = .ok (.iload_n 1, 1) := by decide +kernel
theorem d_Fs_look_5 : decode m_Fs_look.2.1 5 = .ok (.invokevirtual 150, 3) := by decide +kernel
theorem d_Fs_look_8 : decode m_Fs_look.2.1 8 = .ok (.ifCond .ne 13, 3) := by decide +kernel
theorem d_Fs_look_11 : decode m_Fs_look.2.1 11 = .ok (.new 154, 3) := by decide +kernel
theorem d_Fs_look_14 : decode m_Fs_look.2.1 14 = .ok (.dup, 1) := by decide +kernel
theorem d_Fs_look_15 : decode m_Fs_look.2.1 15 = .ok (.ldc 156, 2) := by decide +kernel
theorem d_Fs_look_17 : decode m_Fs_look.2.1 17 = .ok (.invokespecial 158, 3) := by decide +kernel
theorem d_Fs_look_20 : decode m_Fs_look.2.1 20 = .ok (.athrow, 1) := by decide +kernel
theorem d_Fs_look_21 : decode m_Fs_look.2.1 21 = .ok (.iload_n 2, 1) := by decide +kernel
theorem d_Fs_look_22 : decode m_Fs_look.2.1 22 = .ok (.tableswitch 104 0 5 #[38, 48, 58, 68, 80, 92], 38) := by decide +kernel
theorem d_Fs_look_60 : decode m_Fs_look.2.1 60 = .ok (.aload_n 0, 1) := by decide +kernel
theorem d_Fs_look_61 : decode m_Fs_look.2.1 61 = .ok (.getfield 12, 3) := by decide +kernel
theorem d_Fs_look_64 : decode m_Fs_look.2.1 64 = .ok (.getfield 161, 3) := by decide +kernel
theorem d_Fs_look_67 : decode m_Fs_look.2.1 67 = .ok (.iload_n 1, 1) := by decide +kernel
theorem d_Fs_look_68 : decode m_Fs_look.2.1 68 = .ok (.iaload, 1) := by decide +kernel
theorem d_Fs_look_69 : decode m_Fs_look.2.1 69 = .ok (.ireturn, 1) := by decide +kernel
theorem d_Fs_look_70 : decode m_Fs_look.2.1 70 = .ok (.aload_n 0, 1) := by decide +kernel
theorem d_Fs_look_71 : decode m_Fs_look.2.1 71 = .ok (.getfield 12, 3) := by decide +kernel
theorem d_Fs_look_74 : decode m_Fs_look.2.1 74 = .ok (.getfield 164, 3) := by decide +kernel
theorem d_Fs_look_77 : decode m_Fs_look.2.1 77 = .ok (.iload_n 1, 1) := by decide +kernel
theorem d_Fs_look_78 : decode m_Fs_look.2.1 78 = .ok (.iaload, 1) := by decide +kernel
theorem d_Fs_look_79 : decode m_Fs_look.2.1 79 = .ok (.ireturn, 1) := by decide +kernel
theorem d_Fs_look_80 : decode m_Fs_look.2.1 80 = .ok (.aload_n 0, 1) := by decide +kernel
theorem d_Fs_look_81 : decode m_Fs_look.2.1 81 = .ok (.getfield 12, 3) := by decide +kernel
theorem d_Fs_look_84 : decode m_Fs_look.2.1 84 = .ok (.getfield 167, 3) := by decide +kernel
theorem d_Fs_look_87 : decode m_Fs_look.2.1 87 = .ok (.iload_n 1, 1) := by decide +kernel
theorem d_Fs_look_88 : decode m_Fs_look.2.1 88 = .ok (.iaload, 1) := by decide +kernel
theorem d_Fs_look_89 : decode m_Fs_look.2.1 89 = .ok (.ireturn, 1) := by decide +kernel
theorem d_Fs_look_90 : decode m_Fs_look.2.1 90 = .ok (.aload_n 0, 1) := by decide +kernel
theorem d_Fs_look_91 : decode m_Fs_look.2.1 91 = .ok (.getfield 12, 3) := by decide +kernel
theorem d_Fs_look_94 : decode m_Fs_look.2.1 94 = .ok (.getfield 170, 3) := by decide +kernel
theorem d_Fs_look_97 : decode m_Fs_look.2.1 97 = .ok (.iload_n 1, 1) := by decide +kernel
theorem d_Fs_look_98 : decode m_Fs_look.2.1 98 = .ok (.invokestatic 173, 3) := by decide +kernel
theorem d_Fs_look_101 : decode m_Fs_look.2.1 101 = .ok (.ireturn, 1) := by decide +kernel
theorem d_Fs_look_102 : decode m_Fs_look.2.1 102 = .ok (.aload_n 0, 1) := by decide +kernel
theorem d_Fs_look_103 : decode m_Fs_look.2.1 103 = .ok (.getfield 31, 3) := by decide +kernel
theorem d_Fs_look_106 : decode m_Fs_look.2.1 106 = .ok (.getfield 177, 3) := by decide +kernel
theorem d_Fs_look_109 : decode m_Fs_look.2.1 109 = .ok (.iload_n 1, 1) := by decide +kernel
theorem d_Fs_look_110 : decode m_Fs_look.2.1 110 = .ok (.invokestatic 173, 3) := by decide +kernel
theorem d_Fs_look_113 : decode m_Fs_look.2.1 113 = .ok (.ireturn, 1) := by decide +kernel
theorem d_Fs_look_114 : decode m_Fs_look.2.1 114 = .ok (.aload_n 0, 1) := by decide +kernel
theorem d_Fs_look_115 : decode m_Fs_look.2.1 115 = .ok (.getfield 31, 3) := by decide +kernel
theorem d_Fs_look_118 : decode m_Fs_look.2.1 118 = .ok (.getfield 180, 3) := by decide +kernel
theorem d_Fs_look_121 : decode m_Fs_look.2.1 121 = .ok (.iload_n 1, 1) := by decide +kernel
theorem d_Fs_look_122 : decode m_Fs_look.2.1 122 = .ok (.invokestatic 173, 3) := by decide +kernel
theorem d_Fs_look_125 : decode m_Fs_look.2.1 125 = .ok (.ireturn, 1) := by decide +kernel
theorem d_Fs_look_126 : decode m_Fs_look.2.1 126 = .ok (.new 183, 3) := by decide +kernel
theorem d_Fs_look_129 : decode m_Fs_look.2.1 129 = .ok (.dup, 1) := by decide +kernel
theorem d_Fs_look_130 : decode m_Fs_look.2.1 130 = .ok (.ldc 185, 2) := by decide +kernel
theorem d_Fs_look_132 : decode m_Fs_look.2.1 132 = .ok (.invokespecial 187, 3) := by decide +kernel
theorem d_Fs_look_135 : decode m_Fs_look.2.1 135 = .ok (.athrow, 1) := by decide +kernel
theorem d_Mo_init_0 : decode m_Mo_init.2.1 0 = .ok (.aload_n 0, 1) := by decide +kernel
theorem d_Mo_init_1 : decode m_Mo_init.2.1 1 = .ok (.invokespecial 1, 3) := by decide +kernel
theorem d_Mo_init_4 : decode m_Mo_init.2.1 4 = .ok (.aload_n 0, 1) := by decide +kernel
theorem d_Mo_init_5 : decode m_Mo_init.2.1 5 = .ok (.sipush 600, 3) := by decide +kernel
theorem d_Mo_init_8 : decode m_Mo_init.2.1 8 = .ok (.newarray .int, 2) := by decide +kernel
theorem d_Mo_init_10 : decode m_Mo_init.2.1 10 = .ok (.putfield 7, 3) := by decide +kernel
theorem d_Mo_init_13 : decode m_Mo_init.2.1 13 = .ok (.aload_n 0, 1) := by decide +kernel
theorem d_Mo_init_14 : decode m_Mo_init.2.1 14 = .ok (.bipush 8, 2) := by decide +kernel
theorem d_Mo_init_16 : decode m_Mo_init.2.1 16 = .ok (.newarray .int, 2) := by decide +kernel
theorem d_Mo_init_18 : decode m_Mo_init.2.1 18 = .ok (.putfield 13, 3) := by decide +kernel
theorem d_Mo_init_21 : decode m_Mo_init.2.1 21 = .ok (.aload_n 0, 1) := by decide +kernel
theorem d_Mo_init_22 : decode m_Mo_init.2.1 22 = .ok (.bipush 12, 2) := by decide +kernel
theorem d_Mo_init_24 : decode m_Mo_init.2.1 24 = .ok (.newarray .int, 2) := by decide +kernel
theorem d_Mo_init_26 : decode m_Mo_init.2.1 26 = .ok (.putfield 16, 3) := by decide +kernel
theorem d_Mo_init_29 : decode m_Mo_init.2.1 29 = .ok (.aload_n 0, 1) := by decide +kernel
theorem d_Mo_init_30 : decode m_Mo_init.2.1 30 = .ok (.bipush 12, 2) := by decide +kernel
theorem d_Mo_init_32 : decode m_Mo_init.2.1 32 = .ok (.newarray .int, 2) := by decide +kernel
theorem d_Mo_init_34 : decode m_Mo_init.2.1 34 = .ok (.putfield 19, 3) := by decide +kernel
theorem d_Mo_init_37 : decode m_Mo_init.2.1 37 = .ok (.aload_n 0, 1) := by decide +kernel
theorem d_Mo_init_38 : decode m_Mo_init.2.1 38 = .ok (.bipush 12, 2) := by decide +kernel
theorem d_Mo_init_40 : decode m_Mo_init.2.1 40 = .ok (.newarray .int, 2) := by decide +kernel
theorem d_Mo_init_42 : decode m_Mo_init.2.1 42 = .ok (.putfield 22, 3) := by decide +kernel
theorem d_Mo_init_45 : decode m_Mo_init.2.1 45 = .ok (.aload_n 0, 1) := by decide +kernel
theorem d_Mo_init_46 : decode m_Mo_init.2.1 46 = .ok (.bipush 12, 2) := by decide +kernel
theorem d_Mo_init_48 : decode m_Mo_init.2.1 48 = .ok (.newarray .int, 2) := by decide +kernel
theorem d_Mo_init_50 : decode m_Mo_init.2.1 50 = .ok (.putfield 25, 3) := by decide +kernel
theorem d_Mo_init_53 : decode m_Mo_init.2.1 53 = .ok (.aload_n 0, 1) := by decide +kernel
theorem d_Mo_init_54 : decode m_Mo_init.2.1 54 = .ok (.bipush 12, 2) := by decide +kernel
theorem d_Mo_init_56 : decode m_Mo_init.2.1 56 = .ok (.newarray .boolean, 2) := by decide +kernel
theorem d_Mo_init_58 : decode m_Mo_init.2.1 58 = .ok (.putfield 28, 3) := by decide +kernel
theorem d_Mo_init_61 : decode m_Mo_init.2.1 61 = .ok (.aload_n 0, 1) := by decide +kernel
theorem d_Mo_init_62 : decode m_Mo_init.2.1 62 = .ok (.bipush 6, 2) := by decide +kernel
theorem d_Mo_init_64 : decode m_Mo_init.2.1 64 = .ok (.newarray .int, 2) := by decide +kernel
theorem d_Mo_init_66 : decode m_Mo_init.2.1 66 = .ok (.putfield 32, 3) := by decide +kernel
theorem d_Mo_init_69 : decode m_Mo_init.2.1 69 = .ok (.aload_n 0, 1) := by decide +kernel
theorem d_Mo_init_70 : decode m_Mo_init.2.1 70 = .ok (.bipush 6, 2) := by decide +kernel
theorem d_Mo_init_72 : decode m_Mo_init.2.1 72 = .ok (.newarray .int, 2) := by decide +kernel
theorem d_Mo_init_74 : decode m_Mo_init.2.1 74 = .ok (.putfield 35, 3) := by decide +kernel
theorem d_Mo_init_77 : decode m_Mo_init.2.1 77 = .ok (.aload_n 0, 1) := by decide +kernel
theorem d_Mo_init_78 : decode m_Mo_init.2.1 78 = .ok (.bipush 6, 2) := by decide +kernel
theorem d_Mo_init_80 : decode m_Mo_init.2.1 80 = .ok (.newarray .int, 2) := by decide +kernel
theorem d_Mo_init_82 : decode m_Mo_init.2.1 82 = .ok (.putfield 38, 3) := by decide +kernel
theorem d_Mo_init_85 : decode m_Mo_init.2.1 85 = .ok (.aload_n 0, 1) := by decide +kernel
theorem d_Mo_init_86 : decode m_Mo_init.2.1 86 = .ok (.bipush 8, 2) := by decide +kernel
theorem d_Mo_init_88 : decode m_Mo_init.2.1 88 = .ok (.newarray .int, 2) := by decide +kernel
theorem d_Mo_init_90 : decode m_Mo_init.2.1 90 = .ok (.putfield 41, 3) := by decide +kernel
theorem d_Mo_init_93 : decode m_Mo_init.2.1 93 = .ok (.aload_n 0, 1) := by decide +kernel
theorem d_Mo_init_94 : decode m_Mo_init.2.1 94 = .ok (.bipush 8, 2) := by decide +kernel
theorem d_Mo_init_96 : decode m_Mo_init.2.1 96 = .ok (.newarray .int, 2) := by decide +kernel
theorem d_Mo_init_98 : decode m_Mo_init.2.1 98 = .ok (.putfield 44, 3) := by decide +kernel
theorem d_Mo_init_101 : decode m_Mo_init.2.1 101 = .ok (.aload_n 0, 1) := by decide +kernel
theorem d_Mo_init_102 : decode m_Mo_init.2.1 102 = .ok (.sipush 128, 3) := by decide +kernel
theorem d_Mo_init_105 : decode m_Mo_init.2.1 105 = .ok (.newarray .int, 2) := by decide +kernel
theorem d_Mo_init_107 : decode m_Mo_init.2.1 107 = .ok (.putfield 47, 3) := by decide +kernel
theorem d_Mo_init_110 : decode m_Mo_init.2.1 110 = .ok (.aload_n 0, 1) := by decide +kernel
theorem d_Mo_init_111 : decode m_Mo_init.2.1 111 = .ok (.sipush 128, 3) := by decide +kernel
theorem d_Mo_init_114 : decode m_Mo_init.2.1 114 = .ok (.newarray .int, 2) := by decide +kernel
theorem d_Mo_init_116 : decode m_Mo_init.2.1 116 = .ok (.putfield 50, 3) := by decide +kernel
theorem d_Mo_init_119 : decode m_Mo_init.2.1 119 = .ok (.aload_n 0, 1) := by decide +kernel
theorem d_Mo_init_120 : decode m_Mo_init.2.1 120 = .ok (.iconst (-1), 1) := by decide +kernel
theorem d_Mo_init_121 : decode m_Mo_init.2.1 121 = .ok (.putfield 53, 3) := by decide +kernel
theorem d_Mo_init_124 : decode m_Mo_init.2.1 124 = .ok (.aload_n 0, 1) := by decide +kernel
theorem d_Mo_init_125 : decode m_Mo_init.2.1 125 = .ok (.sipush 594, 3) := by decide +kernel
theorem d_Mo_init_128 : decode m_Mo_init.2.1 128 = .ok (.newarray .int, 2) := by decide +kernel
theorem d_Mo_init_130 : decode m_Mo_init.2.1 130 = .ok (.putfield 57, 3) := by decide +kernel
theorem d_Mo_init_133 : decode m_Mo_init.2.1 133 = .ok (.aload_n 0, 1) := by decide +kernel
theorem d_Mo_init_134 : decode m_Mo_init.2.1 134 = .ok (.bipush 66, 2) := by decide +kernel
theorem d_Mo_init_136 : decode m_Mo_init.2.1 136 = .ok (.newarray .int, 2) := by decide +kernel
theorem d_Mo_init_138 : decode m_Mo_init.2.1 138 = .ok (.putfield 60, 3) := by decide +kernel
theorem d_Mo_init_141 : decode m_Mo_init.2.1 141 = .ok (.aload_n 0, 1) := by decide +kernel
theorem d_Mo_init_142 : decode m_Mo_init.2.1 142 = .ok (.bipush 22, 2) := by decide +kernel
theorem d_Mo_init_144 : decode m_Mo_init.2.1 144 = .ok (.newarray .int, 2) := by decide +kernel
theorem d_Mo_init_146 : decode m_Mo_init.2.1 146 = .ok (.putfield 63, 3) := by decide +kernel
theorem d_Mo_init_149 : decode m_Mo_init.2.1 149 = .ok (.aload_n 0, 1) := by decide +kernel
theorem d_Mo_init_150 : decode m_Mo_init.2.1 150 = .ok (.bipush 22, 2) := by decide +kernel
theorem d_Mo_init_152 : decode m_Mo_init.2.1 152 = .ok (.newarray .int, 2) := by decide +kernel
theorem d_Mo_init_154 : decode m_Mo_init.2.1 154 = .ok (.putfield 66, 3) := by decide +kernel
theorem d_Mo_init_157 : decode m_Mo_init.2.1 157 = .ok (.aload_n 0, 1) := by decide +kernel
theorem d_Mo_init_158 : decode m_Mo_init.2.1 158 = .ok (.iconst 2, 1) := by decide +kernel
theorem d_Mo_init_159 : decode m_Mo_init.2.1 159 = .ok (.newarray .int, 2) := by decide +kernel
theorem d_Mo_init_161 : decode m_Mo_init.2.1 161 = .ok (.putfield 69, 3) := by decide +kernel
theorem d_Mo_init_164 : decode m_Mo_init.2.1 164 = .ok (.aload_n 0, 1) := by decide +kernel
theorem d_Mo_init_165 : decode m_Mo_init.2.1 165 = .ok (.iconst 2, 1) := by decide +kernel
theorem d_Mo_init_166 : decode m_Mo_init.2.1 166 = .ok (.newarray .int, 2) := by decide +kernel
theorem d_Mo_init_168 : decode m_Mo_init.2.1 168 = .ok (.putfield 72, 3) := by decide +kernel
theorem d_Mo_init_171 : decode m_Mo_init.2.1 171 = .ok (.aload_n 0, 1) := by decide +kernel
theorem d_Mo_init_172 : decode m_Mo_init.2.1 172 = .ok (.bipush 12, 2) := by decide +kernel
theorem d_Mo_init_174 : decode m_Mo_init.2.1 174 = .ok (.newarray .int, 2) := by decide +kernel
theorem d_Mo_init_176 : decode m_Mo_init.2.1 176 = .ok (.putfield 75, 3) := by decide +kernel
theorem d_Mo_init_179 : decode m_Mo_init.2.1 179 = .ok (.aload_n 0, 1) := by decide +kernel
theorem d_Mo_init_180 : decode m_Mo_init.2.1 180 = .ok (.bipush 12, 2) := by decide +kernel
theorem d_Mo_init_182 : decode m_Mo_init.2.1 182 = .ok (.newarray .int, 2) := by decide +kernel
theorem d_Mo_init_184 : decode m_Mo_init.2.1 184 = .ok (.putfield 78, 3) := by decide +kernel
theorem d_Mo_init_187 : decode m_Mo_init.2.1 187 = .ok (.aload_n 0, 1) := by decide +kernel
theorem d_Mo_init_188 : decode m_Mo_init.2.1 188 = .ok (.bipush 7, 2) := by decide +kernel
theorem d_Mo_init_190 : decode m_Mo_init.2.1 190 = .ok (.newarray .long, 2) := by decide +kernel
theorem d_Mo_init_192 : decode m_Mo_init.2.1 192 = .ok (.putfield 81, 3) := by decide +kernel
theorem d_Mo_init_195 : decode m_Mo_init.2.1 195 = .ok (.aload_n 0, 1) := by decide +kernel
theorem d_Mo_init_196 : decode m_Mo_init.2.1 196 = .ok (.bipush 64, 2) := by decide +kernel
theorem d_Mo_init_198 : decode m_Mo_init.2.1 198 = .ok (.newarray .long, 2) := by decide +kernel
theorem d_Mo_init_200 : decode m_Mo_init.2.1 200 = .ok (.putfield 85, 3) := by decide +kernel
theorem d_Mo_init_203 : decode m_Mo_init.2.1 203 = .ok (.aload_n 0, 1) := by decide +kernel
theorem d_Mo_init_204 : decode m_Mo_init.2.1 204 = .ok (.iconst (-1), 1) := by decide +kernel
theorem d_Mo_init_205 : decode m_Mo_init.2.1 205 = .ok (.putfield 88, 3) := by decide +kernel
theorem d_Mo_init_208 : decode m_Mo_init.2.1 208 = .ok (.aload_n 0, 1) := by decide +kernel
theorem d_Mo_init_209 : decode m_Mo_init.2.1 209 = .ok (.iconst (-1), 1) := by decide +kernel
theorem d_Mo_init_210 : decode m_Mo_init.2.1 210 = .ok (.putfield 91, 3) := by decide +kernel
theorem d_Mo_init_213 : decode m_Mo_init.2.1 213 = .ok (.aload_n 0, 1) := by decide +kernel
theorem d_Mo_init_214 : decode m_Mo_init.2.1 214 = .ok (.iconst (-1), 1) := by decide +kernel
theorem d_Mo_init_215 : decode m_Mo_init.2.1 215 = .ok (.putfield 94, 3) := by decide +kernel
theorem d_Mo_init_218 : decode m_Mo_init.2.1 218 = .ok (.aload_n 0, 1) := by decide +kernel
theorem d_Mo_init_219 : decode m_Mo_init.2.1 219 = .ok (.bipush 27, 2) := by decide +kernel
theorem d_Mo_init_221 : decode m_Mo_init.2.1 221 = .ok (.newarray .int, 2) := by decide +kernel
theorem d_Mo_init_223 : decode m_Mo_init.2.1 223 = .ok (.putfield 97, 3) := by decide +kernel
theorem d_Mo_init_226 : decode m_Mo_init.2.1 226 = .ok (.aload_n 0, 1) := by decide +kernel
theorem d_Mo_init_227 : decode m_Mo_init.2.1 227 = .ok (.iconst 3, 1) := by decide +kernel
theorem d_Mo_init_228 : decode m_Mo_init.2.1 228 = .ok (.newarray .int, 2) := by decide +kernel
theorem d_Mo_init_230 : decode m_Mo_init.2.1 230 = .ok (.putfield 100, 3) := by decide +kernel
theorem d_Mo_init_233 : decode m_Mo_init.2.1 233 = .ok (.aload_n 0, 1) := by decide +kernel
theorem d_Mo_init_234 : decode m_Mo_init.2.1 234 = .ok (.iconst 3, 1) := by decide +kernel
theorem d_Mo_init_235 : decode m_Mo_init.2.1 235 = .ok (.newarray .int, 2) := by decide +kernel
theorem d_Mo_init_237 : decode m_Mo_init.2.1 237 = .ok (.putfield 103, 3) := by decide +kernel
theorem d_Mo_init_240 : decode m_Mo_init.2.1 240 = .ok (.aload_n 0, 1) := by decide +kernel
theorem d_Mo_init_241 : decode m_Mo_init.2.1 241 = .ok (.iconst 3, 1) := by decide +kernel
theorem d_Mo_init_242 : decode m_Mo_init.2.1 242 = .ok (.newarray .int, 2) := by decide +kernel
theorem d_Mo_init_244 : decode m_Mo_init.2.1 244 = .ok (.putfield 106, 3) := by decide +kernel
theorem d_Mo_init_247 : decode m_Mo_init.2.1 247 = .ok (.aload_n 0, 1) := by decide +kernel
theorem d_Mo_init_248 : decode m_Mo_init.2.1 248 = .ok (.iconst 3, 1) := by decide +kernel
theorem d_Mo_init_249 : decode m_Mo_init.2.1 249 = .ok (.newarray .int, 2) := by decide +kernel
theorem d_Mo_init_251 : decode m_Mo_init.2.1 251 = .ok (.putfield 109, 3) := by decide +kernel
theorem d_Mo_init_254 : decode m_Mo_init.2.1 254 = .ok (.aload_n 0, 1) := by decide +kernel
theorem d_Mo_init_255 : decode m_Mo_init.2.1 255 = .ok (.iconst 3, 1) := by decide +kernel
theorem d_Mo_init_256 : decode m_Mo_init.2.1 256 = .ok (.newarray .int, 2) := by decide +kernel
theorem d_Mo_init_258 : decode m_Mo_init.2.1 258 = .ok (.putfield 112, 3) := by decide +kernel
theorem d_Mo_init_261 : decode m_Mo_init.2.1 261 = .ok (.aload_n 0, 1) := by decide +kernel
theorem d_Mo_init_262 : decode m_Mo_init.2.1 262 = .ok (.iconst 3, 1) := by decide +kernel
theorem d_Mo_init_263 : decode m_Mo_init.2.1 263 = .ok (.newarray .int, 2) := by decide +kernel
theorem d_Mo_init_265 : decode m_Mo_init.2.1 265 = .ok (.putfield 115, 3) := by decide +kernel
theorem d_Mo_init_268 : decode m_Mo_init.2.1 268 = .ok (.aload_n 0, 1) := by decide +kernel
theorem d_Mo_init_269 : decode m_Mo_init.2.1 269 = .ok (.iconst 3, 1) := by decide +kernel
theorem d_Mo_init_270 : decode m_Mo_init.2.1 270 = .ok (.newarray .int, 2) := by decide +kernel
theorem d_Mo_init_272 : decode m_Mo_init.2.1 272 = .ok (.putfield 118, 3) := by decide +kernel
theorem d_Mo_init_275 : decode m_Mo_init.2.1 275 = .ok (.aload_n 0, 1) := by decide +kernel
theorem d_Mo_init_276 : decode m_Mo_init.2.1 276 = .ok (.iconst 3, 1) := by decide +kernel
theorem d_Mo_init_277 : decode m_Mo_init.2.1 277 = .ok (.newarray .int, 2) := by decide +kernel
theorem d_Mo_init_279 : decode m_Mo_init.2.1 279 = .ok (.putfield 121, 3) := by decide +kernel
theorem d_Mo_init_282 : decode m_Mo_init.2.1 282 = .ok (.aload_n 0, 1) := by decide +kernel
theorem d_Mo_init_283 : decode m_Mo_init.2.1 283 = .ok (.iconst 3, 1) := by decide +kernel
theorem d_Mo_init_284 : decode m_Mo_init.2.1 284 = .ok (.newarray .int, 2) := by decide +kernel
theorem d_Mo_init_286 : decode m_Mo_init.2.1 286 = .ok (.putfield 124, 3) := by decide +kernel
theorem d_Mo_init_289 : decode m_Mo_init.2.1 289 = .ok (.aload_n 0, 1) := by decide +kernel
theorem d_Mo_init_290 : decode m_Mo_init.2.1 290 = .ok (.bipush 6, 2) := by decide +kernel
theorem d_Mo_init_292 : decode m_Mo_init.2.1 292 = .ok (.newarray .int, 2) := by decide +kernel
theorem d_Mo_init_294 : decode m_Mo_init.2.1 294 = .ok (.putfield 127, 3) := by decide +kernel
theorem d_Mo_init_297 : decode m_Mo_init.2.1 297 = .ok (.aload_n 0, 1) := by decide +kernel
theorem d_Mo_init_298 : decode m_Mo_init.2.1 298 = .ok (.bipush 6, 2) := by decide +kernel
theorem d_Mo_init_300 : decode m_Mo_init.2.1 300 = .ok (.newarray .int, 2) := by decide +kernel
theorem d_Mo_init_302 : decode m_Mo_init.2.1 302 = .ok (.putfield 130, 3) := by decide +kernel
theorem d_Mo_init_305 : decode m_Mo_init.2.1 305 = .ok (.aload_n 0, 1) := by decide +kernel
theorem d_Mo_init_306 : decode m_Mo_init.2.1 306 = .ok (.bipush 27, 2) := by decide +kernel
theorem d_Mo_init_308 : decode m_Mo_init.2.1 308 = .ok (.newarray .int, 2) := by decide +kernel
theorem d_Mo_init_310 : decode m_Mo_init.2.1 310 = .ok (.putfield 133, 3) := by decide +kernel
theorem d_Mo_init_313 : decode m_Mo_init.2.1 313 = .ok (.aload_n 0, 1) := by decide +kernel
theorem d_Mo_init_314 : decode m_Mo_init.2.1 314 = .ok (.iconst 3, 1) := by decide +kernel
theorem d_Mo_init_315 : decode m_Mo_init.2.1 315 = .ok (.newarray .int, 2) := by decide +kernel
theorem d_Mo_init_317 : decode m_Mo_init.2.1 317 = .ok (.putfield 136, 3) := by decide +kernel
theorem d_Mo_init_320 : decode m_Mo_init.2.1 320 = .ok (.aload_n 0, 1) := by decide +kernel
theorem d_Mo_init_321 : decode m_Mo_init.2.1 321 = .ok (.iconst (-1), 1) := by decide +kernel
theorem d_Mo_init_322 : decode m_Mo_init.2.1 322 = .ok (.putfield 139, 3) := by decide +kernel
theorem d_Mo_init_325 : decode m_Mo_init.2.1 325 = .ok (.aload_n 0, 1) := by decide +kernel
theorem d_Mo_init_326 : decode m_Mo_init.2.1 326 = .ok (.bipush 24, 2) := by decide +kernel
theorem d_Mo_init_328 : decode m_Mo_init.2.1 328 = .ok (.newarray .int, 2) := by decide +kernel
theorem d_Mo_init_330 : decode m_Mo_init.2.1 330 = .ok (.putfield 142, 3) := by decide +kernel
theorem d_Mo_init_333 : decode m_Mo_init.2.1 333 = .ok (.aload_n 0, 1) := by decide +kernel
theorem d_Mo_init_334 : decode m_Mo_init.2.1 334 = .ok (.bipush 24, 2) := by decide +kernel
theorem d_Mo_init_336 : decode m_Mo_init.2.1 336 = .ok (.newarray .int, 2) := by decide +kernel
theorem d_Mo_init_338 : decode m_Mo_init.2.1 338 = .ok (.putfield 145, 3) := by decide +kernel
theorem d_Mo_init_341 : decode m_Mo_init.2.1 341 = .ok (.aload_n 0, 1) := by decide +kernel
theorem d_Mo_init_342 : decode m_Mo_init.2.1 342 = .ok (.bipush 24, 2) := by decide +kernel
theorem d_Mo_init_344 : decode m_Mo_init.2.1 344 = .ok (.newarray .int, 2) := by decide +kernel
theorem d_Mo_init_346 : decode m_Mo_init.2.1 346 = .ok (.putfield 148, 3) := by decide +kernel
theorem d_Mo_init_349 : decode m_Mo_init.2.1 349 = .ok (.aload_n 0, 1) := by decide +kernel
theorem d_Mo_init_350 : decode m_Mo_init.2.1 350 = .ok (.bipush 24, 2) := by decide +kernel
theorem d_Mo_init_352 : decode m_Mo_init.2.1 352 = .ok (.newarray .boolean, 2) := by decide +kernel
theorem d_Mo_init_354 : decode m_Mo_init.2.1 354 = .ok (.putfield 151, 3) := by decide +kernel
theorem d_Mo_init_357 : decode m_Mo_init.2.1 357 = .ok (.aload_n 0, 1) := by decide +kernel
theorem d_Mo_init_358 : decode m_Mo_init.2.1 358 = .ok (.bipush 9, 2) := by decide +kernel
theorem d_Mo_init_360 : decode m_Mo_init.2.1 360 = .ok (.newarray .int, 2) := by decide +kernel
theorem d_Mo_init_362 : decode m_Mo_init.2.1 362 = .ok (.putfield 154, 3) := by decide +kernel
theorem d_Mo_init_365 : decode m_Mo_init.2.1 365 = .ok (.aload_n 0, 1) := by decide +kernel
theorem d_Mo_init_366 : decode m_Mo_init.2.1 366 = .ok (.invokevirtual 157, 3) := by decide +kernel
theorem d_Mo_init_369 : decode m_Mo_init.2.1 369 = .ok (.return_, 1) := by decide +kernel
theorem d_Mo_begins_0 : decode m_Mo_begins.2.1 0 = .ok (.iconst 0, 1) := by decide +kernel
theorem d_Mo_begins_1 : decode m_Mo_begins.2.1 1 = .ok (.istore_n 1, 1) := by decide +kernel
theorem d_Mo_begins_2 : decode m_Mo_begins.2.1 2 = .ok (.iload_n 1, 1) := by decide +kernel
theorem d_Mo_begins_3 : decode m_Mo_begins.2.1 3 = .ok (.iconst 3, 1) := by decide +kernel
theorem d_Mo_begins_4 : decode m_Mo_begins.2.1 4 = .ok (.if_icmp .ge 16, 3) := by decide +kernel
theorem d_Mo_begins_7 : decode m_Mo_begins.2.1 7 = .ok (.aload_n 0, 1) := by decide +kernel
theorem d_Mo_begins_8 : decode m_Mo_begins.2.1 8 = .ok (.getfield 60, 3) := by decide +kernel
theorem d_Mo_begins_11 : decode m_Mo_begins.2.1 11 = .ok (.iload_n 1, 1) := by decide +kernel
theorem d_Mo_begins_12 : decode m_Mo_begins.2.1 12 = .ok (.iconst 0, 1) := by decide +kernel
theorem d_Mo_begins_13 : decode m_Mo_begins.2.1 13 = .ok (.iastore, 1) := by decide +kernel
theorem d_Mo_begins_14 : decode m_Mo_begins.2.1 14 = .ok (.iinc 1 1, 3) := by decide +kernel
theorem d_Mo_begins_17 : decode m_Mo_begins.2.1 17 = .ok (.goto (-15), 3) := by decide +kernel
theorem d_Mo_begins_20 : decode m_Mo_begins.2.1 20 = .ok (.aload_n 0, 1) := by decide +kernel
theorem d_Mo_begins_21 : decode m_Mo_begins.2.1 21 = .ok (.getfield 63, 3) := by decide +kernel
theorem d_Mo_begins_24 : decode m_Mo_begins.2.1 24 = .ok (.iconst 0, 1) := by decide +kernel
theorem d_Mo_begins_25 : decode m_Mo_begins.2.1 25 = .ok (.iconst 0, 1) := by decide +kernel
theorem d_Mo_begins_26 : decode m_Mo_begins.2.1 26 = .ok (.iastore, 1) := by decide +kernel
theorem d_Mo_begins_27 : decode m_Mo_begins.2.1 27 = .ok (.aload_n 0, 1) := by decide +kernel
theorem d_Mo_begins_28 : decode m_Mo_begins.2.1 28 = .ok (.getfield 66, 3) := by decide +kernel
theorem d_Mo_begins_31 : decode m_Mo_begins.2.1 31 = .ok (.iconst 0, 1) := by decide +kernel
theorem d_Mo_begins_32 : decode m_Mo_begins.2.1 32 = .ok (.iconst 0, 1) := by decide +kernel
theorem d_Mo_begins_33 : decode m_Mo_begins.2.1 33 = .ok (.iastore, 1) := by decide +kernel
theorem d_Mo_begins_34 : decode m_Mo_begins.2.1 34 = .ok (.aload_n 0, 1) := by decide +kernel
theorem d_Mo_begins_35 : decode m_Mo_begins.2.1 35 = .ok (.getfield 69, 3) := by decide +kernel
theorem d_Mo_begins_38 : decode m_Mo_begins.2.1 38 = .ok (.iconst 0, 1) := by decide +kernel
theorem d_Mo_begins_39 : decode m_Mo_begins.2.1 39 = .ok (.aload_n 0, 1) := by decide +kernel
theorem d_Mo_begins_40 : decode m_Mo_begins.2.1 40 = .ok (.getfield 13, 3) := by decide +kernel
theorem d_Mo_begins_43 : decode m_Mo_begins.2.1 43 = .ok (.iconst 2, 1) := by decide +kernel
theorem d_Mo_begins_44 : decode m_Mo_begins.2.1 44 = .ok (.iaload, 1) := by decide +kernel
theorem d_Mo_begins_45 : decode m_Mo_begins.2.1 45 = .ok (.iastore, 1) := by decide +kernel
theorem d_Mo_begins_46 : decode m_Mo_begins.2.1 46 = .ok (.aload_n 0, 1) := by decide +kernel
theorem d_Mo_begins_47 : decode m_Mo_begins.2.1 47 = .ok (.getfield 72, 3) := by decide +kernel
theorem d_Mo_begins_50 : decode m_Mo_begins.2.1 50 = .ok (.iconst 0, 1) := by decide +kernel
theorem d_Mo_begins_51 : decode m_Mo_begins.2.1 51 = .ok (.iconst 0, 1) := by decide +kernel
theorem d_Mo_begins_52 : decode m_Mo_begins.2.1 52 = .ok (.iastore, 1) := by decide +kernel
theorem d_Mo_begins_53 : decode m_Mo_begins.2.1 53 = .ok (.return_, 1) := by decide +kernel
theorem d_Mo_thrown_0 : decode m_Mo_thrown.2.1 0 = .ok (.aload_n 0, 1) := by decide +kernel
theorem d_Mo_thrown_1 : decode m_Mo_thrown.2.1 1 = .ok (.getfield 160, 3) := by decide +kernel
theorem d_Mo_thrown_4 : decode m_Mo_thrown.2.1 4 = .ok (.ireturn, 1) := by decide +kernel
theorem d_Mo_feed_0 : decode m_Mo_feed.2.1 0 = .ok (.aload_n 0, 1) := by decide +kernel
theorem d_Mo_feed_1 : decode m_Mo_feed.2.1 1 = .ok (.iconst 0, 1) := by decide +kernel
theorem d_Mo_feed_2 : decode m_Mo_feed.2.1 2 = .ok (.putfield 160, 3) := by decide +kernel
theorem d_Mo_feed_5 : decode m_Mo_feed.2.1 5 = .ok (.aload_n 0, 1) := by decide +kernel
theorem d_Mo_feed_6 : decode m_Mo_feed.2.1 6 = .ok (.getfield 163, 3) := by decide +kernel
theorem d_Mo_feed_9 : decode m_Mo_feed.2.1 9 = .ok (.sipush 580, 3) := by decide +kernel
theorem d_Mo_feed_12 : decode m_Mo_feed.2.1 12 = .ok (.if_icmp .le 5, 3) := by decide +kernel
theorem d_Mo_feed_15 : decode m_Mo_feed.2.1 15 = .ok (.iconst (-1), 1) := by decide +kernel
theorem d_Mo_feed_16 : decode m_Mo_feed.2.1 16 = .ok (.ireturn, 1) := by decide +kernel
theorem d_Mo_feed_17 : decode m_Mo_feed.2.1 17 = .ok (.iconst 0, 1) := by decide +kernel
theorem d_Mo_feed_18 : decode m_Mo_feed.2.1 18 = .ok (.istore 6, 2) := by decide +kernel
theorem d_Mo_feed_20 : decode m_Mo_feed.2.1 20 = .ok (.iload 6, 2) := by decide +kernel
theorem d_Mo_feed_22 : decode m_Mo_feed.2.1 22 = .ok (.bipush 20, 2) := by decide +kernel
theorem d_Mo_feed_24 : decode m_Mo_feed.2.1 24 = .ok (.if_icmp .ge 86, 3) := by decide +kernel
theorem d_Mo_feed_27 : decode m_Mo_feed.2.1 27 = .ok (.iload 6, 2) := by decide +kernel
theorem d_Mo_feed_29 : decode m_Mo_feed.2.1 29 = .ok (.iconst 4, 1) := by decide +kernel
theorem d_Mo_feed_30 : decode m_Mo_feed.2.1 30 = .ok (.if_icmp .ge 7, 3) := by decide +kernel
theorem d_Mo_feed_33 : decode m_Mo_feed.2.1 33 = .ok (.iload_n 1, 1) := by decide +kernel
theorem d_Mo_feed_34 : decode m_Mo_feed.2.1 34 = .ok (.goto 39, 3) := by decide +kernel
theorem d_Mo_feed_37 : decode m_Mo_feed.2.1 37 = .ok (.iload 6, 2) := by decide +kernel
theorem d_Mo_feed_39 : decode m_Mo_feed.2.1 39 = .ok (.bipush 8, 2) := by decide +kernel
theorem d_Mo_feed_41 : decode m_Mo_feed.2.1 41 = .ok (.if_icmp .ge 7, 3) := by decide +kernel
theorem d_Mo_feed_44 : decode m_Mo_feed.2.1 44 = .ok (.iload_n 2, 1) := by decide +kernel
theorem d_Mo_feed_45 : decode m_Mo_feed.2.1 45 = .ok (.goto 28, 3) := by decide +kernel
theorem d_Mo_feed_48 : decode m_Mo_feed.2.1 48 = .ok (.iload 6, 2) := by decide +kernel
theorem d_Mo_feed_50 : decode m_Mo_feed.2.1 50 = .ok (.bipush 12, 2) := by decide +kernel
theorem d_Mo_feed_52 : decode m_Mo_feed.2.1 52 = .ok (.if_icmp .ge 7, 3) := by decide +kernel
theorem d_Mo_feed_55 : decode m_Mo_feed.2.1 55 = .ok (.iload_n 3, 1) := by decide +kernel
theorem d_Mo_feed_56 : decode m_Mo_feed.2.1 56 = .ok (.goto 17, 3) := by decide +kernel
theorem d_Mo_feed_59 : decode m_Mo_feed.2.1 59 = .ok (.iload 6, 2) := by decide +kernel
theorem d_Mo_feed_61 : decode m_Mo_feed.2.1 61 = .ok (.bipush 16, 2) := by decide +kernel
theorem d_Mo_feed_63 : decode m_Mo_feed.2.1 63 = .ok (.if_icmp .ge 8, 3) := by decide +kernel
theorem d_Mo_feed_66 : decode m_Mo_feed.2.1 66 = .ok (.iload 4, 2) := by decide +kernel
theorem d_Mo_feed_68 : decode m_Mo_feed.2.1 68 = .ok (.goto 5, 3) := by decide +kernel
theorem d_Mo_feed_71 : decode m_Mo_feed.2.1 71 = .ok (.iload 5, 2) := by decide +kernel
