-- ===== printed by program (wip/whole/gen11.py): what stands at each place of a method =====
theorem d_Mo_gainOf_28 : decode m_Mo_gainOf.2.1 28 = .ok (.getfield 25, 3) := by decide +kernel
theorem d_Mo_gainOf_31 : decode m_Mo_gainOf.2.1 31 = .ok (.iload_n 1, 1) := by decide +kernel
theorem d_Mo_gainOf_32 : decode m_Mo_gainOf.2.1 32 = .ok (.iaload, 1) := by decide +kernel
theorem d_Mo_gainOf_33 : decode m_Mo_gainOf.2.1 33 = .ok (.if_icmp .le 5, 3) := by decide +kernel
theorem d_Mo_gainOf_36 : decode m_Mo_gainOf.2.1 36 = .ok (.iconst 0, 1) := by decide +kernel
theorem d_Mo_gainOf_37 : decode m_Mo_gainOf.2.1 37 = .ok (.ireturn, 1) := by decide +kernel
theorem d_Mo_gainOf_38 : decode m_Mo_gainOf.2.1 38 = .ok (.aload_n 0, 1) := by decide +kernel
theorem d_Mo_gainOf_39 : decode m_Mo_gainOf.2.1 39 = .ok (.getfield 88, 3) := by decide +kernel
theorem d_Mo_gainOf_42 : decode m_Mo_gainOf.2.1 42 = .ok (.ifCond .eq 35, 3) := by decide +kernel
theorem d_Mo_gainOf_45 : decode m_Mo_gainOf.2.1 45 = .ok (.aload_n 0, 1) := by decide +kernel
theorem d_Mo_gainOf_46 : decode m_Mo_gainOf.2.1 46 = .ok (.getfield 380, 3) := by decide +kernel
theorem d_Mo_gainOf_49 : decode m_Mo_gainOf.2.1 49 = .ok (.iload_n 1, 1) := by decide +kernel
theorem d_Mo_gainOf_50 : decode m_Mo_gainOf.2.1 50 = .ok (.ishr, 1) := by decide +kernel
theorem d_Mo_gainOf_51 : decode m_Mo_gainOf.2.1 51 = .ok (.iconst 1, 1) := by decide +kernel
theorem d_Mo_gainOf_52 : decode m_Mo_gainOf.2.1 52 = .ok (.iand, 1) := by decide +kernel
theorem d_Mo_gainOf_53 : decode m_Mo_gainOf.2.1 53 = .ok (.iconst 1, 1) := by decide +kernel
theorem d_Mo_gainOf_54 : decode m_Mo_gainOf.2.1 54 = .ok (.if_icmp .ne 23, 3) := by decide +kernel
theorem d_Mo_gainOf_57 : decode m_Mo_gainOf.2.1 57 = .ok (.aload_n 0, 1) := by decide +kernel
theorem d_Mo_gainOf_58 : decode m_Mo_gainOf.2.1 58 = .ok (.getfield 127, 3) := by decide +kernel
theorem d_Mo_gainOf_61 : decode m_Mo_gainOf.2.1 61 = .ok (.iload_n 1, 1) := by decide +kernel
theorem d_Mo_gainOf_62 : decode m_Mo_gainOf.2.1 62 = .ok (.iaload, 1) := by decide +kernel
theorem d_Mo_gainOf_63 : decode m_Mo_gainOf.2.1 63 = .ok (.ifCond .lt 14, 3) := by decide +kernel
theorem d_Mo_gainOf_66 : decode m_Mo_gainOf.2.1 66 = .ok (.aload_n 0, 1) := by decide +kernel
theorem d_Mo_gainOf_67 : decode m_Mo_gainOf.2.1 67 = .ok (.getfield 22, 3) := by decide +kernel
theorem d_Mo_gainOf_70 : decode m_Mo_gainOf.2.1 70 = .ok (.iload_n 1, 1) := by decide +kernel
theorem d_Mo_gainOf_71 : decode m_Mo_gainOf.2.1 71 = .ok (.iaload, 1) := by decide +kernel
theorem d_Mo_gainOf_72 : decode m_Mo_gainOf.2.1 72 = .ok (.iconst 2, 1) := by decide +kernel
theorem d_Mo_gainOf_73 : decode m_Mo_gainOf.2.1 73 = .ok (.idiv, 1) := by decide +kernel
theorem d_Mo_gainOf_74 : decode m_Mo_gainOf.2.1 74 = .ok (.goto 9, 3) := by decide +kernel
theorem d_Mo_gainOf_77 : decode m_Mo_gainOf.2.1 77 = .ok (.aload_n 0, 1) := by decide +kernel
theorem d_Mo_gainOf_78 : decode m_Mo_gainOf.2.1 78 = .ok (.getfield 22, 3) := by decide +kernel
theorem d_Mo_gainOf_81 : decode m_Mo_gainOf.2.1 81 = .ok (.iload_n 1, 1) := by decide +kernel
theorem d_Mo_gainOf_82 : decode m_Mo_gainOf.2.1 82 = .ok (.iaload, 1) := by decide +kernel
theorem d_Mo_gainOf_83 : decode m_Mo_gainOf.2.1 83 = .ok (.ireturn, 1) := by decide +kernel
theorem d_Mo_after_0 : decode m_Mo_after.2.1 0 = .ok (.aload_n 0, 1) := by decide +kernel
theorem d_Mo_after_1 : decode m_Mo_after.2.1 1 = .ok (.iconst 0, 1) := by decide +kernel
theorem d_Mo_after_2 : decode m_Mo_after.2.1 2 = .ok (.putfield 160, 3) := by decide +kernel
theorem d_Mo_after_5 : decode m_Mo_after.2.1 5 = .ok (.aload_n 0, 1) := by decide +kernel
theorem d_Mo_after_6 : decode m_Mo_after.2.1 6 = .ok (.iload_n 1, 1) := by decide +kernel
theorem d_Mo_after_7 : decode m_Mo_after.2.1 7 = .ok (.invokevirtual 317, 3) := by decide +kernel
theorem d_Mo_after_10 : decode m_Mo_after.2.1 10 = .ok (.ifCond .ne 5, 3) := by decide +kernel
theorem d_Mo_after_13 : decode m_Mo_after.2.1 13 = .ok (.iconst (-1), 1) := by decide +kernel
theorem d_Mo_after_14 : decode m_Mo_after.2.1 14 = .ok (.ireturn, 1) := by decide +kernel
theorem d_Mo_after_15 : decode m_Mo_after.2.1 15 = .ok (.aload_n 0, 1) := by decide +kernel
theorem d_Mo_after_16 : decode m_Mo_after.2.1 16 = .ok (.invokevirtual 406, 3) := by decide +kernel
theorem d_Mo_after_19 : decode m_Mo_after.2.1 19 = .ok (.aload_n 0, 1) := by decide +kernel
theorem d_Mo_after_20 : decode m_Mo_after.2.1 20 = .ok (.sipush 240, 3) := by decide +kernel
theorem d_Mo_after_23 : decode m_Mo_after.2.1 23 = .ok (.invokevirtual 409, 3) := by decide +kernel
theorem d_Mo_after_26 : decode m_Mo_after.2.1 26 = .ok (.iload_n 2, 1) := by decide +kernel
theorem d_Mo_after_27 : decode m_Mo_after.2.1 27 = .ok (.tableswitch 68 0 4 #[33, 40, 47, 54, 61], 33) := by decide +kernel
theorem d_Mo_after_60 : decode m_Mo_after.2.1 60 = .ok (.aload_n 0, 1) := by decide +kernel
theorem d_Mo_after_61 : decode m_Mo_after.2.1 61 = .ok (.getfield 121, 3) := by decide +kernel
theorem d_Mo_after_64 : decode m_Mo_after.2.1 64 = .ok (.iload_n 1, 1) := by decide +kernel
theorem d_Mo_after_65 : decode m_Mo_after.2.1 65 = .ok (.iaload, 1) := by decide +kernel
theorem d_Mo_after_66 : decode m_Mo_after.2.1 66 = .ok (.ireturn, 1) := by decide +kernel
theorem d_Mo_after_67 : decode m_Mo_after.2.1 67 = .ok (.aload_n 0, 1) := by decide +kernel
theorem d_Mo_after_68 : decode m_Mo_after.2.1 68 = .ok (.getfield 109, 3) := by decide +kernel
theorem d_Mo_after_71 : decode m_Mo_after.2.1 71 = .ok (.iload_n 1, 1) := by decide +kernel
theorem d_Mo_after_72 : decode m_Mo_after.2.1 72 = .ok (.iaload, 1) := by decide +kernel
theorem d_Mo_after_73 : decode m_Mo_after.2.1 73 = .ok (.ireturn, 1) := by decide +kernel
theorem d_Mo_after_74 : decode m_Mo_after.2.1 74 = .ok (.aload_n 0, 1) := by decide +kernel
theorem d_Mo_after_75 : decode m_Mo_after.2.1 75 = .ok (.getfield 112, 3) := by decide +kernel
theorem d_Mo_after_78 : decode m_Mo_after.2.1 78 = .ok (.iload_n 1, 1) := by decide +kernel
theorem d_Mo_after_79 : decode m_Mo_after.2.1 79 = .ok (.iaload, 1) := by decide +kernel
theorem d_Mo_after_80 : decode m_Mo_after.2.1 80 = .ok (.ireturn, 1) := by decide +kernel
theorem d_Mo_after_81 : decode m_Mo_after.2.1 81 = .ok (.aload_n 0, 1) := by decide +kernel
theorem d_Mo_after_82 : decode m_Mo_after.2.1 82 = .ok (.getfield 124, 3) := by decide +kernel
theorem d_Mo_after_85 : decode m_Mo_after.2.1 85 = .ok (.iload_n 1, 1) := by decide +kernel
theorem d_Mo_after_86 : decode m_Mo_after.2.1 86 = .ok (.iaload, 1) := by decide +kernel
theorem d_Mo_after_87 : decode m_Mo_after.2.1 87 = .ok (.ireturn, 1) := by decide +kernel
theorem d_Mo_after_88 : decode m_Mo_after.2.1 88 = .ok (.aload_n 0, 1) := by decide +kernel
theorem d_Mo_after_89 : decode m_Mo_after.2.1 89 = .ok (.getfield 106, 3) := by decide +kernel
theorem d_Mo_after_92 : decode m_Mo_after.2.1 92 = .ok (.iload_n 1, 1) := by decide +kernel
theorem d_Mo_after_93 : decode m_Mo_after.2.1 93 = .ok (.iaload, 1) := by decide +kernel
theorem d_Mo_after_94 : decode m_Mo_after.2.1 94 = .ok (.ireturn, 1) := by decide +kernel
theorem d_Mo_after_95 : decode m_Mo_after.2.1 95 = .ok (.iconst (-1), 1) := by decide +kernel
theorem d_Mo_after_96 : decode m_Mo_after.2.1 96 = .ok (.ireturn, 1) := by decide +kernel
theorem d_Mo_which_0 : decode m_Mo_which.2.1 0 = .ok (.aload_n 0, 1) := by decide +kernel
theorem d_Mo_which_1 : decode m_Mo_which.2.1 1 = .ok (.iconst 0, 1) := by decide +kernel
theorem d_Mo_which_2 : decode m_Mo_which.2.1 2 = .ok (.putfield 160, 3) := by decide +kernel
theorem d_Mo_which_5 : decode m_Mo_which.2.1 5 = .ok (.iload_n 1, 1) := by decide +kernel
theorem d_Mo_which_6 : decode m_Mo_which.2.1 6 = .ok (.ifCond .lt 8, 3) := by decide +kernel
theorem d_Mo_which_9 : decode m_Mo_which.2.1 9 = .ok (.iload_n 1, 1) := by decide +kernel
theorem d_Mo_which_10 : decode m_Mo_which.2.1 10 = .ok (.iconst 2, 1) := by decide +kernel
theorem d_Mo_which_11 : decode m_Mo_which.2.1 11 = .ok (.if_icmp .le 5, 3) := by decide +kernel
theorem d_Mo_which_14 : decode m_Mo_which.2.1 14 = .ok (.iconst (-1), 1) := by decide +kernel
theorem d_Mo_which_15 : decode m_Mo_which.2.1 15 = .ok (.ireturn, 1) := by decide +kernel
theorem d_Mo_which_16 : decode m_Mo_which.2.1 16 = .ok (.aload_n 0, 1) := by decide +kernel
theorem d_Mo_which_17 : decode m_Mo_which.2.1 17 = .ok (.invokevirtual 406, 3) := by decide +kernel
theorem d_Mo_which_20 : decode m_Mo_which.2.1 20 = .ok (.aload_n 0, 1) := by decide +kernel
theorem d_Mo_which_21 : decode m_Mo_which.2.1 21 = .ok (.sipush 240, 3) := by decide +kernel
theorem d_Mo_which_24 : decode m_Mo_which.2.1 24 = .ok (.invokevirtual 409, 3) := by decide +kernel
theorem d_Mo_which_27 : decode m_Mo_which.2.1 27 = .ok (.iconst 0, 1) := by decide +kernel
theorem d_Mo_which_28 : decode m_Mo_which.2.1 28 = .ok (.istore_n 2, 1) := by decide +kernel
theorem d_Mo_which_29 : decode m_Mo_which.2.1 29 = .ok (.iconst 0, 1) := by decide +kernel
theorem d_Mo_which_30 : decode m_Mo_which.2.1 30 = .ok (.istore_n 3, 1) := by decide +kernel
theorem d_Mo_which_31 : decode m_Mo_which.2.1 31 = .ok (.iload_n 3, 1) := by decide +kernel
theorem d_Mo_which_32 : decode m_Mo_which.2.1 32 = .ok (.aload_n 0, 1) := by decide +kernel
theorem d_Mo_which_33 : decode m_Mo_which.2.1 33 = .ok (.getfield 13, 3) := by decide +kernel
theorem d_Mo_which_36 : decode m_Mo_which.2.1 36 = .ok (.iconst 0, 1) := by decide +kernel
theorem d_Mo_which_37 : decode m_Mo_which.2.1 37 = .ok (.iaload, 1) := by decide +kernel
theorem d_Mo_which_38 : decode m_Mo_which.2.1 38 = .ok (.if_icmp .ge 103, 3) := by decide +kernel
theorem d_Mo_which_41 : decode m_Mo_which.2.1 41 = .ok (.iload_n 1, 1) := by decide +kernel
theorem d_Mo_which_42 : decode m_Mo_which.2.1 42 = .ok (.ifCond .ne 36, 3) := by decide +kernel
theorem d_Mo_which_45 : decode m_Mo_which.2.1 45 = .ok (.aload_n 0, 1) := by decide +kernel
theorem d_Mo_which_46 : decode m_Mo_which.2.1 46 = .ok (.getfield 127, 3) := by decide +kernel
theorem d_Mo_which_49 : decode m_Mo_which.2.1 49 = .ok (.iload_n 3, 1) := by decide +kernel
theorem d_Mo_which_50 : decode m_Mo_which.2.1 50 = .ok (.iaload, 1) := by decide +kernel
theorem d_Mo_which_51 : decode m_Mo_which.2.1 51 = .ok (.iconst (-1), 1) := by decide +kernel
theorem d_Mo_which_52 : decode m_Mo_which.2.1 52 = .ok (.if_icmp .eq 22, 3) := by decide +kernel
theorem d_Mo_which_55 : decode m_Mo_which.2.1 55 = .ok (.aload_n 0, 1) := by decide +kernel
theorem d_Mo_which_56 : decode m_Mo_which.2.1 56 = .ok (.getfield 130, 3) := by decide +kernel
theorem d_Mo_which_59 : decode m_Mo_which.2.1 59 = .ok (.iload_n 3, 1) := by decide +kernel
theorem d_Mo_which_60 : decode m_Mo_which.2.1 60 = .ok (.iaload, 1) := by decide +kernel
theorem d_Mo_which_61 : decode m_Mo_which.2.1 61 = .ok (.aload_n 0, 1) := by decide +kernel
theorem d_Mo_which_62 : decode m_Mo_which.2.1 62 = .ok (.getfield 25, 3) := by decide +kernel
theorem d_Mo_which_65 : decode m_Mo_which.2.1 65 = .ok (.iload_n 3, 1) := by decide +kernel
theorem d_Mo_which_66 : decode m_Mo_which.2.1 66 = .ok (.iaload, 1) := by decide +kernel
theorem d_Mo_which_67 : decode m_Mo_which.2.1 67 = .ok (.if_icmp .le 7, 3) := by decide +kernel
theorem d_Mo_which_70 : decode m_Mo_which.2.1 70 = .ok (.iconst 1, 1) := by decide +kernel
theorem d_Mo_which_71 : decode m_Mo_which.2.1 71 = .ok (.goto 47, 3) := by decide +kernel
theorem d_Mo_which_74 : decode m_Mo_which.2.1 74 = .ok (.iconst 0, 1) := by decide +kernel
theorem d_Mo_which_75 : decode m_Mo_which.2.1 75 = .ok (.goto 43, 3) := by decide +kernel
theorem d_Mo_which_78 : decode m_Mo_which.2.1 78 = .ok (.iload_n 1, 1) := by decide +kernel
theorem d_Mo_which_79 : decode m_Mo_which.2.1 79 = .ok (.iconst 1, 1) := by decide +kernel
theorem d_Mo_which_80 : decode m_Mo_which.2.1 80 = .ok (.if_icmp .ne 21, 3) := by decide +kernel
theorem d_Mo_which_83 : decode m_Mo_which.2.1 83 = .ok (.aload_n 0, 1) := by decide +kernel
theorem d_Mo_which_84 : decode m_Mo_which.2.1 84 = .ok (.getfield 127, 3) := by decide +kernel
theorem d_Mo_which_87 : decode m_Mo_which.2.1 87 = .ok (.iload_n 3, 1) := by decide +kernel
theorem d_Mo_which_88 : decode m_Mo_which.2.1 88 = .ok (.iaload, 1) := by decide +kernel
theorem d_Mo_which_89 : decode m_Mo_which.2.1 89 = .ok (.iconst (-1), 1) := by decide +kernel
theorem d_Mo_which_90 : decode m_Mo_which.2.1 90 = .ok (.if_icmp .ne 7, 3) := by decide +kernel
theorem d_Mo_which_93 : decode m_Mo_which.2.1 93 = .ok (.iconst 1, 1) := by decide +kernel
theorem d_Mo_which_94 : decode m_Mo_which.2.1 94 = .ok (.goto 24, 3) := by decide +kernel
theorem d_Mo_which_97 : decode m_Mo_which.2.1 97 = .ok (.iconst 0, 1) := by decide +kernel
theorem d_Mo_which_98 : decode m_Mo_which.2.1 98 = .ok (.goto 20, 3) := by decide +kernel
theorem d_Mo_which_101 : decode m_Mo_which.2.1 101 = .ok (.aload_n 0, 1) := by decide +kernel
theorem d_Mo_which_102 : decode m_Mo_which.2.1 102 = .ok (.getfield 388, 3) := by decide +kernel
theorem d_Mo_which_105 : decode m_Mo_which.2.1 105 = .ok (.iload_n 3, 1) := by decide +kernel
theorem d_Mo_which_106 : decode m_Mo_which.2.1 106 = .ok (.ishr, 1) := by decide +kernel
theorem d_Mo_which_107 : decode m_Mo_which.2.1 107 = .ok (.iconst 1, 1) := by decide +kernel
theorem d_Mo_which_108 : decode m_Mo_which.2.1 108 = .ok (.iand, 1) := by decide +kernel
theorem d_Mo_which_109 : decode m_Mo_which.2.1 109 = .ok (.iconst 1, 1) := by decide +kernel
theorem d_Mo_which_110 : decode m_Mo_which.2.1 110 = .ok (.if_icmp .ne 7, 3) := by decide +kernel
theorem d_Mo_which_113 : decode m_Mo_which.2.1 113 = .ok (.iconst 1, 1) := by decide +kernel
theorem d_Mo_which_114 : decode m_Mo_which.2.1 114 = .ok (.goto 4, 3) := by decide +kernel
theorem d_Mo_which_117 : decode m_Mo_which.2.1 117 = .ok (.iconst 0, 1) := by decide +kernel
theorem d_Mo_which_118 : decode m_Mo_which.2.1 118 = .ok (.istore 4, 2) := by decide +kernel
theorem d_Mo_which_120 : decode m_Mo_which.2.1 120 = .ok (.iload_n 2, 1) := by decide +kernel
theorem d_Mo_which_121 : decode m_Mo_which.2.1 121 = .ok (.iload 4, 2) := by decide +kernel
theorem d_Mo_which_123 : decode m_Mo_which.2.1 123 = .ok (.ifCond .eq 9, 3) := by decide +kernel
theorem d_Mo_which_126 : decode m_Mo_which.2.1 126 = .ok (.iconst 1, 1) := by decide +kernel
theorem d_Mo_which_127 : decode m_Mo_which.2.1 127 = .ok (.iload_n 3, 1) := by decide +kernel
theorem d_Mo_which_128 : decode m_Mo_which.2.1 128 = .ok (.ishl, 1) := by decide +kernel
theorem d_Mo_which_129 : decode m_Mo_which.2.1 129 = .ok (.goto 4, 3) := by decide +kernel
theorem d_Mo_which_132 : decode m_Mo_which.2.1 132 = .ok (.iconst 0, 1) := by decide +kernel
theorem d_Mo_which_133 : decode m_Mo_which.2.1 133 = .ok (.ior, 1) := by decide +kernel
theorem d_Mo_which_134 : decode m_Mo_which.2.1 134 = .ok (.istore_n 2, 1) := by decide +kernel
theorem d_Mo_which_135 : decode m_Mo_which.2.1 135 = .ok (.iinc 3 1, 3) := by decide +kernel
theorem d_Mo_which_138 : decode m_Mo_which.2.1 138 = .ok (.goto (-107), 3) := by decide +kernel
theorem d_Mo_which_141 : decode m_Mo_which.2.1 141 = .ok (.iload_n 2, 1) := by decide +kernel
theorem d_Mo_which_142 : decode m_Mo_which.2.1 142 = .ok (.ireturn, 1) := by decide +kernel
theorem d_Mo_exchange_0 : decode m_Mo_exchange.2.1 0 = .ok (.aload_n 0, 1) := by decide +kernel
theorem d_Mo_exchange_1 : decode m_Mo_exchange.2.1 1 = .ok (.iconst 0, 1) := by decide +kernel
theorem d_Mo_exchange_2 : decode m_Mo_exchange.2.1 2 = .ok (.putfield 160, 3) := by decide +kernel
theorem d_Mo_exchange_5 : decode m_Mo_exchange.2.1 5 = .ok (.iload_n 1, 1) := by decide +kernel
theorem d_Mo_exchange_6 : decode m_Mo_exchange.2.1 6 = .ok (.ifCond .lt 8, 3) := by decide +kernel
theorem d_Mo_exchange_9 : decode m_Mo_exchange.2.1 9 = .ok (.iload_n 1, 1) := by decide +kernel
theorem d_Mo_exchange_10 : decode m_Mo_exchange.2.1 10 = .ok (.iconst 4, 1) := by decide +kernel
theorem d_Mo_exchange_11 : decode m_Mo_exchange.2.1 11 = .ok (.if_icmp .le 5, 3) := by decide +kernel
theorem d_Mo_exchange_14 : decode m_Mo_exchange.2.1 14 = .ok (.iconst (-1), 1) := by decide +kernel
theorem d_Mo_exchange_15 : decode m_Mo_exchange.2.1 15 = .ok (.ireturn, 1) := by decide +kernel
theorem d_Mo_exchange_16 : decode m_Mo_exchange.2.1 16 = .ok (.aload_n 0, 1) := by decide +kernel
theorem d_Mo_exchange_17 : decode m_Mo_exchange.2.1 17 = .ok (.invokevirtual 446, 3) := by decide +kernel
theorem d_Mo_exchange_20 : decode m_Mo_exchange.2.1 20 = .ok (.ifCond .ne 6, 3) := by decide +kernel
theorem d_Mo_exchange_23 : decode m_Mo_exchange.2.1 23 = .ok (.bipush (-2), 2) := by decide +kernel
theorem d_Mo_exchange_25 : decode m_Mo_exchange.2.1 25 = .ok (.ireturn, 1) := by decide +kernel
theorem d_Mo_exchange_26 : decode m_Mo_exchange.2.1 26 = .ok (.iload_n 1, 1) := by decide +kernel
theorem d_Mo_exchange_27 : decode m_Mo_exchange.2.1 27 = .ok (.tableswitch 58 0 3 #[29, 34, 42, 50], 29) := by decide +kernel
theorem d_Mo_exchange_56 : decode m_Mo_exchange.2.1 56 = .ok (.aload_n 0, 1) := by decide +kernel
theorem d_Mo_exchange_57 : decode m_Mo_exchange.2.1 57 = .ok (.getfield 431, 3) := by decide +kernel
theorem d_Mo_exchange_60 : decode m_Mo_exchange.2.1 60 = .ok (.ireturn, 1) := by decide +kernel
theorem d_Mo_exchange_61 : decode m_Mo_exchange.2.1 61 = .ok (.aload_n 0, 1) := by decide +kernel
theorem d_Mo_exchange_62 : decode m_Mo_exchange.2.1 62 = .ok (.getfield 434, 3) := by decide +kernel
theorem d_Mo_exchange_65 : decode m_Mo_exchange.2.1 65 = .ok (.bipush 9, 2) := by decide +kernel
theorem d_Mo_exchange_67 : decode m_Mo_exchange.2.1 67 = .ok (.idiv, 1) := by decide +kernel
theorem d_Mo_exchange_68 : decode m_Mo_exchange.2.1 68 = .ok (.ireturn, 1) := by decide +kernel
theorem d_Mo_exchange_69 : decode m_Mo_exchange.2.1 69 = .ok (.aload_n 0, 1) := by decide +kernel
theorem d_Mo_exchange_70 : decode m_Mo_exchange.2.1 70 = .ok (.getfield 434, 3) := by decide +kernel
theorem d_Mo_exchange_73 : decode m_Mo_exchange.2.1 73 = .ok (.bipush 9, 2) := by decide +kernel
theorem d_Mo_exchange_75 : decode m_Mo_exchange.2.1 75 = .ok (.irem, 1) := by decide +kernel
theorem d_Mo_exchange_76 : decode m_Mo_exchange.2.1 76 = .ok (.ireturn, 1) := by decide +kernel
theorem d_Mo_exchange_77 : decode m_Mo_exchange.2.1 77 = .ok (.aload_n 0, 1) := by decide +kernel
theorem d_Mo_exchange_78 : decode m_Mo_exchange.2.1 78 = .ok (.getfield 443, 3) := by decide +kernel
theorem d_Mo_exchange_81 : decode m_Mo_exchange.2.1 81 = .ok (.bipush 9, 2) := by decide +kernel
theorem d_Mo_exchange_83 : decode m_Mo_exchange.2.1 83 = .ok (.idiv, 1) := by decide +kernel
theorem d_Mo_exchange_84 : decode m_Mo_exchange.2.1 84 = .ok (.ireturn, 1) := by decide +kernel
theorem d_Mo_exchange_85 : decode m_Mo_exchange.2.1 85 = .ok (.aload_n 0, 1) := by decide +kernel
theorem d_Mo_exchange_86 : decode m_Mo_exchange.2.1 86 = .ok (.getfield 443, 3) := by decide +kernel
theorem d_Mo_exchange_89 : decode m_Mo_exchange.2.1 89 = .ok (.bipush 9, 2) := by decide +kernel
theorem d_Mo_exchange_91 : decode m_Mo_exchange.2.1 91 = .ok (.irem, 1) := by decide +kernel
theorem d_Mo_exchange_92 : decode m_Mo_exchange.2.1 92 = .ok (.ireturn, 1) := by decide +kernel
theorem d_Mo_layExchange_0 : decode m_Mo_layExchange.2.1 0 = .ok (.aload_n 0, 1) := by decide +kernel
theorem d_Mo_layExchange_1 : decode m_Mo_layExchange.2.1 1 = .ok (.aload_n 0, 1) := by decide +kernel
theorem d_Mo_layExchange_2 : decode m_Mo_layExchange.2.1 2 = .ok (.invokevirtual 428, 3) := by decide +kernel
theorem d_Mo_layExchange_5 : decode m_Mo_layExchange.2.1 5 = .ok (.putfield 431, 3) := by decide +kernel
theorem d_Mo_layExchange_8 : decode m_Mo_layExchange.2.1 8 = .ok (.aload_n 0, 1) := by decide +kernel
theorem d_Mo_layExchange_9 : decode m_Mo_layExchange.2.1 9 = .ok (.iconst (-1), 1) := by decide +kernel
theorem d_Mo_layExchange_10 : decode m_Mo_layExchange.2.1 10 = .ok (.putfield 434, 3) := by decide +kernel
theorem d_Mo_layExchange_13 : decode m_Mo_layExchange.2.1 13 = .ok (.iconst 0, 1) := by decide +kernel
theorem d_Mo_layExchange_14 : decode m_Mo_layExchange.2.1 14 = .ok (.istore_n 1, 1) := by decide +kernel
theorem d_Mo_layExchange_15 : decode m_Mo_layExchange.2.1 15 = .ok (.iload_n 1, 1) := by decide +kernel
theorem d_Mo_layExchange_16 : decode m_Mo_layExchange.2.1 16 = .ok (.bipush 27, 2) := by decide +kernel
theorem d_Mo_layExchange_18 : decode m_Mo_layExchange.2.1 18 = .ok (.if_icmp .ge 109, 3) := by decide +kernel
theorem d_Mo_layExchange_21 : decode m_Mo_layExchange.2.1 21 = .ok (.iload_n 1, 1) := by decide +kernel
theorem d_Mo_layExchange_22 : decode m_Mo_layExchange.2.1 22 = .ok (.iconst 1, 1) := by decide +kernel
theorem d_Mo_layExchange_23 : decode m_Mo_layExchange.2.1 23 = .ok (.iadd, 1) := by decide +kernel
theorem d_Mo_layExchange_24 : decode m_Mo_layExchange.2.1 24 = .ok (.istore_n 2, 1) := by decide +kernel
theorem d_Mo_layExchange_25 : decode m_Mo_layExchange.2.1 25 = .ok (.iload_n 2, 1) := by decide +kernel
theorem d_Mo_layExchange_26 : decode m_Mo_layExchange.2.1 26 = .ok (.bipush 27, 2) := by decide +kernel
theorem d_Mo_layExchange_28 : decode m_Mo_layExchange.2.1 28 = .ok (.if_icmp .ge 93, 3) := by decide +kernel
theorem d_Mo_layExchange_31 : decode m_Mo_layExchange.2.1 31 = .ok (.aload_n 0, 1) := by decide +kernel
theorem d_Mo_layExchange_32 : decode m_Mo_layExchange.2.1 32 = .ok (.iload_n 1, 1) := by decide +kernel
theorem d_Mo_layExchange_33 : decode m_Mo_layExchange.2.1 33 = .ok (.invokevirtual 437, 3) := by decide +kernel
theorem d_Mo_layExchange_36 : decode m_Mo_layExchange.2.1 36 = .ok (.ifCond .eq 85, 3) := by decide +kernel
theorem d_Mo_layExchange_39 : decode m_Mo_layExchange.2.1 39 = .ok (.aload_n 0, 1) := by decide +kernel
theorem d_Mo_layExchange_40 : decode m_Mo_layExchange.2.1 40 = .ok (.iload_n 2, 1) := by decide +kernel
theorem d_Mo_layExchange_41 : decode m_Mo_layExchange.2.1 41 = .ok (.invokevirtual 437, 3) := by decide +kernel
theorem d_Mo_layExchange_44 : decode m_Mo_layExchange.2.1 44 = .ok (.ifCond .eq 71, 3) := by decide +kernel
theorem d_Mo_layExchange_47 : decode m_Mo_layExchange.2.1 47 = .ok (.aload_n 0, 1) := by decide +kernel
theorem d_Mo_layExchange_48 : decode m_Mo_layExchange.2.1 48 = .ok (.getfield 97, 3) := by decide +kernel
theorem d_Mo_layExchange_51 : decode m_Mo_layExchange.2.1 51 = .ok (.iload_n 1, 1) := by decide +kernel
theorem d_Mo_layExchange_52 : decode m_Mo_layExchange.2.1 52 = .ok (.iaload, 1) := by decide +kernel
theorem d_Mo_layExchange_53 : decode m_Mo_layExchange.2.1 53 = .ok (.aload_n 0, 1) := by decide +kernel
theorem d_Mo_layExchange_54 : decode m_Mo_layExchange.2.1 54 = .ok (.getfield 97, 3) := by decide +kernel
theorem d_Mo_layExchange_57 : decode m_Mo_layExchange.2.1 57 = .ok (.iload_n 2, 1) := by decide +kernel
theorem d_Mo_layExchange_58 : decode m_Mo_layExchange.2.1 58 = .ok (.iaload, 1) := by decide +kernel
theorem d_Mo_layExchange_59 : decode m_Mo_layExchange.2.1 59 = .ok (.if_icmp .ne 6, 3) := by decide +kernel
theorem d_Mo_layExchange_62 : decode m_Mo_layExchange.2.1 62 = .ok (.goto 53, 3) := by decide +kernel
theorem d_Mo_layExchange_65 : decode m_Mo_layExchange.2.1 65 = .ok (.aload_n 0, 1) := by decide +kernel
theorem d_Mo_layExchange_66 : decode m_Mo_layExchange.2.1 66 = .ok (.iload_n 1, 1) := by decide +kernel
theorem d_Mo_layExchange_67 : decode m_Mo_layExchange.2.1 67 = .ok (.iload_n 2, 1) := by decide +kernel
theorem d_Mo_layExchange_68 : decode m_Mo_layExchange.2.1 68 = .ok (.invokevirtual 440, 3) := by decide +kernel
theorem d_Mo_layExchange_71 : decode m_Mo_layExchange.2.1 71 = .ok (.aload_n 0, 1) := by decide +kernel
theorem d_Mo_layExchange_72 : decode m_Mo_layExchange.2.1 72 = .ok (.sipush 240, 3) := by decide +kernel
theorem d_Mo_layExchange_75 : decode m_Mo_layExchange.2.1 75 = .ok (.invokevirtual 409, 3) := by decide +kernel
theorem d_Mo_layExchange_78 : decode m_Mo_layExchange.2.1 78 = .ok (.aload_n 0, 1) := by decide +kernel
theorem d_Mo_layExchange_79 : decode m_Mo_layExchange.2.1 79 = .ok (.invokevirtual 412, 3) := by decide +kernel
theorem d_Mo_layExchange_82 : decode m_Mo_layExchange.2.1 82 = .ok (.istore_n 3, 1) := by decide +kernel
theorem d_Mo_layExchange_83 : decode m_Mo_layExchange.2.1 83 = .ok (.aload_n 0, 1) := by decide +kernel
theorem d_Mo_layExchange_84 : decode m_Mo_layExchange.2.1 84 = .ok (.iload_n 1, 1) := by decide +kernel
theorem d_Mo_layExchange_85 : decode m_Mo_layExchange.2.1 85 = .ok (.iload_n 2, 1) := by decide +kernel
theorem d_Mo_layExchange_86 : decode m_Mo_layExchange.2.1 86 = .ok (.invokevirtual 440, 3) := by decide +kernel
theorem d_Mo_layExchange_89 : decode m_Mo_layExchange.2.1 89 = .ok (.iload_n 3, 1) := by decide +kernel
theorem d_Mo_layExchange_90 : decode m_Mo_layExchange.2.1 90 = .ok (.aload_n 0, 1) := by decide +kernel
theorem d_Mo_layExchange_91 : decode m_Mo_layExchange.2.1 91 = .ok (.getfield 431, 3) := by decide +kernel
theorem d_Mo_layExchange_94 : decode m_Mo_layExchange.2.1 94 = .ok (.if_icmp .gt 6, 3) := by decide +kernel
theorem d_Mo_layExchange_97 : decode m_Mo_layExchange.2.1 97 = .ok (.goto 18, 3) := by decide +kernel
theorem d_Mo_layExchange_100 : decode m_Mo_layExchange.2.1 100 = .ok (.aload_n 0, 1) := by decide +kernel
theorem d_Mo_layExchange_101 : decode m_Mo_layExchange.2.1 101 = .ok (.iload_n 3, 1) := by decide +kernel
theorem d_Mo_layExchange_102 : decode m_Mo_layExchange.2.1 102 = .ok (.putfield 431, 3) := by decide +kernel
theorem d_Mo_layExchange_105 : decode m_Mo_layExchange.2.1 105 = .ok (.aload_n 0, 1) := by decide +kernel
theorem d_Mo_layExchange_106 : decode m_Mo_layExchange.2.1 106 = .ok (.iload_n 1, 1) := by decide +kernel
theorem d_Mo_layExchange_107 : decode m_Mo_layExchange.2.1 107 = .ok (.putfield 434, 3) := by decide +kernel
theorem d_Mo_layExchange_110 : decode m_Mo_layExchange.2.1 110 = .ok (.aload_n 0, 1) := by decide +kernel
theorem d_Mo_layExchange_111 : decode m_Mo_layExchange.2.1 111 = .ok (.iload_n 2, 1) := by decide +kernel
theorem d_Mo_layExchange_112 : decode m_Mo_layExchange.2.1 112 = .ok (.putfield 443, 3) := by decide +kernel
theorem d_Mo_layExchange_115 : decode m_Mo_layExchange.2.1 115 = .ok (.iinc 2 1, 3) := by decide +kernel
theorem d_Mo_layExchange_118 : decode m_Mo_layExchange.2.1 118 = .ok (.goto (-93), 3) := by decide +kernel
theorem d_Mo_layExchange_121 : decode m_Mo_layExchange.2.1 121 = .ok (.iinc 1 1, 3) := by decide +kernel
theorem d_Mo_layExchange_124 : decode m_Mo_layExchange.2.1 124 = .ok (.goto (-109), 3) := by decide +kernel
theorem d_Mo_layExchange_127 : decode m_Mo_layExchange.2.1 127 = .ok (.aload_n 0, 1) := by decide +kernel
theorem d_Mo_layExchange_128 : decode m_Mo_layExchange.2.1 128 = .ok (.getfield 434, 3) := by decide +kernel
theorem d_Mo_layExchange_131 : decode m_Mo_layExchange.2.1 131 = .ok (.iconst (-1), 1) := by decide +kernel
theorem d_Mo_layExchange_132 : decode m_Mo_layExchange.2.1 132 = .ok (.if_icmp .eq 7, 3) := by decide +kernel
theorem d_Mo_layExchange_135 : decode m_Mo_layExchange.2.1 135 = .ok (.iconst 1, 1) := by decide +kernel
theorem d_Mo_layExchange_136 : decode m_Mo_layExchange.2.1 136 = .ok (.goto 4, 3) := by decide +kernel
theorem d_Mo_layExchange_139 : decode m_Mo_layExchange.2.1 139 = .ok (.iconst 0, 1) := by decide +kernel
theorem d_Mo_layExchange_140 : decode m_Mo_layExchange.2.1 140 = .ok (.ireturn, 1) := by decide +kernel
theorem d_Mo_isInRow_0 : decode m_Mo_isInRow.2.1 0 = .ok (.iload_n 1, 1) := by decide +kernel
theorem d_Mo_isInRow_1 : decode m_Mo_isInRow.2.1 1 = .ok (.bipush 9, 2) := by decide +kernel
theorem d_Mo_isInRow_3 : decode m_Mo_isInRow.2.1 3 = .ok (.irem, 1) := by decide +kernel
theorem d_Mo_isInRow_4 : decode m_Mo_isInRow.2.1 4 = .ok (.aload_n 0, 1) := by decide +kernel
theorem d_Mo_isInRow_5 : decode m_Mo_isInRow.2.1 5 = .ok (.getfield 60, 3) := by decide +kernel
theorem d_Mo_isInRow_8 : decode m_Mo_isInRow.2.1 8 = .ok (.iload_n 1, 1) := by decide +kernel
theorem d_Mo_isInRow_9 : decode m_Mo_isInRow.2.1 9 = .ok (.bipush 9, 2) := by decide +kernel
theorem d_Mo_isInRow_11 : decode m_Mo_isInRow.2.1 11 = .ok (.idiv, 1) := by decide +kernel
theorem d_Mo_isInRow_12 : decode m_Mo_isInRow.2.1 12 = .ok (.iaload, 1) := by decide +kernel
theorem d_Mo_isInRow_13 : decode m_Mo_isInRow.2.1 13 = .ok (.if_icmp .ge 7, 3) := by decide +kernel
theorem d_Mo_isInRow_16 : decode m_Mo_isInRow.2.1 16 = .ok (.iconst 1, 1) := by decide +kernel
theorem d_Mo_isInRow_17 : decode m_Mo_isInRow.2.1 17 = .ok (.goto 4, 3) := by decide +kernel
theorem d_Mo_isInRow_20 : decode m_Mo_isInRow.2.1 20 = .ok (.iconst 0, 1) := by decide +kernel
theorem d_Mo_isInRow_21 : decode m_Mo_isInRow.2.1 21 = .ok (.ireturn, 1) := by decide +kernel
theorem d_Mo_exchanges_0 : decode m_Mo_exchanges.2.1 0 = .ok (.aload_n 0, 1) := by decide +kernel
theorem d_Mo_exchanges_1 : decode m_Mo_exchanges.2.1 1 = .ok (.getfield 97, 3) := by decide +kernel
theorem d_Mo_exchanges_4 : decode m_Mo_exchanges.2.1 4 = .ok (.iload_n 1, 1) := by decide +kernel
theorem d_Mo_exchanges_5 : decode m_Mo_exchanges.2.1 5 = .ok (.iaload, 1) := by decide +kernel
theorem d_Mo_exchanges_6 : decode m_Mo_exchanges.2.1 6 = .ok (.istore_n 3, 1) := by decide +kernel
theorem d_Mo_exchanges_7 : decode m_Mo_exchanges.2.1 7 = .ok (.aload_n 0, 1) := by decide +kernel
theorem d_Mo_exchanges_8 : decode m_Mo_exchanges.2.1 8 = .ok (.getfield 97, 3) := by decide +kernel
theorem d_Mo_exchanges_11 : decode m_Mo_exchanges.2.1 11 = .ok (.iload_n 1, 1) := by decide +kernel
theorem d_Mo_exchanges_12 : decode m_Mo_exchanges.2.1 12 = .ok (.aload_n 0, 1) := by decide +kernel
theorem d_Mo_exchanges_13 : decode m_Mo_exchanges.2.1 13 = .ok (.getfield 97, 3) := by decide +kernel
theorem d_Mo_exchanges_16 : decode m_Mo_exchanges.2.1 16 = .ok (.iload_n 2, 1) := by decide +kernel
theorem d_Mo_exchanges_17 : decode m_Mo_exchanges.2.1 17 = .ok (.iaload, 1) := by decide +kernel
theorem d_Mo_exchanges_18 : decode m_Mo_exchanges.2.1 18 = .ok (.iastore, 1) := by decide +kernel
theorem d_Mo_exchanges_19 : decode m_Mo_exchanges.2.1 19 = .ok (.aload_n 0, 1) := by decide +kernel
theorem d_Mo_exchanges_20 : decode m_Mo_exchanges.2.1 20 = .ok (.getfield 97, 3) := by decide +kernel
theorem d_Mo_exchanges_23 : decode m_Mo_exchanges.2.1 23 = .ok (.iload_n 2, 1) := by decide +kernel
theorem d_Mo_exchanges_24 : decode m_Mo_exchanges.2.1 24 = .ok (.iload_n 3, 1) := by decide +kernel
theorem d_Mo_exchanges_25 : decode m_Mo_exchanges.2.1 25 = .ok (.iastore, 1) := by decide +kernel
theorem d_Mo_exchanges_26 : decode m_Mo_exchanges.2.1 26 = .ok (.return_, 1) := by decide +kernel
theorem d_Mo_climb_0 : decode m_Mo_climb.2.1 0 = .ok (.aload_n 0, 1) := by decide +kernel
theorem d_Mo_climb_1 : decode m_Mo_climb.2.1 1 = .ok (.iconst 0, 1) := by decide +kernel
theorem d_Mo_climb_2 : decode m_Mo_climb.2.1 2 = .ok (.putfield 160, 3) := by decide +kernel
theorem d_Mo_climb_5 : decode m_Mo_climb.2.1 5 = .ok (.iconst 0, 1) := by decide +kernel
theorem d_Mo_climb_6 : decode m_Mo_climb.2.1 6 = .ok (.istore_n 1, 1) := by decide +kernel
theorem d_Mo_climb_7 : decode m_Mo_climb.2.1 7 = .ok (.aload_n 0, 1) := by decide +kernel
theorem d_Mo_climb_8 : decode m_Mo_climb.2.1 8 = .ok (.invokevirtual 446, 3) := by decide +kernel
theorem d_Mo_climb_11 : decode m_Mo_climb.2.1 11 = .ok (.ifCond .eq 55, 3) := by decide +kernel
theorem d_Mo_climb_14 : decode m_Mo_climb.2.1 14 = .ok (.iload_n 1, 1) := by decide +kernel
theorem d_Mo_climb_15 : decode m_Mo_climb.2.1 15 = .ok (.ifCond .ne 7, 3) := by decide +kernel
theorem d_Mo_climb_18 : decode m_Mo_climb.2.1 18 = .ok (.aload_n 0, 1) := by decide +kernel
theorem d_Mo_climb_19 : decode m_Mo_climb.2.1 19 = .ok (.invokevirtual 425, 3) := by decide +kernel
theorem d_Mo_climb_22 : decode m_Mo_climb.2.1 22 = .ok (.aload_n 0, 1) := by decide +kernel
theorem d_Mo_climb_23 : decode m_Mo_climb.2.1 23 = .ok (.getfield 57, 3) := by decide +kernel
theorem d_Mo_climb_26 : decode m_Mo_climb.2.1 26 = .ok (.aload_n 0, 1) := by decide +kernel
theorem d_Mo_climb_27 : decode m_Mo_climb.2.1 27 = .ok (.getfield 434, 3) := by decide +kernel
theorem d_Mo_climb_30 : decode m_Mo_climb.2.1 30 = .ok (.iaload, 1) := by decide +kernel
theorem d_Mo_climb_31 : decode m_Mo_climb.2.1 31 = .ok (.istore_n 2, 1) := by decide +kernel
theorem d_Mo_climb_32 : decode m_Mo_climb.2.1 32 = .ok (.aload_n 0, 1) := by decide +kernel
theorem d_Mo_climb_33 : decode m_Mo_climb.2.1 33 = .ok (.getfield 57, 3) := by decide +kernel
theorem d_Mo_climb_36 : decode m_Mo_climb.2.1 36 = .ok (.aload_n 0, 1) := by decide +kernel
theorem d_Mo_climb_37 : decode m_Mo_climb.2.1 37 = .ok (.getfield 434, 3) := by decide +kernel
theorem d_Mo_climb_40 : decode m_Mo_climb.2.1 40 = .ok (.aload_n 0, 1) := by decide +kernel
theorem d_Mo_climb_41 : decode m_Mo_climb.2.1 41 = .ok (.getfield 57, 3) := by decide +kernel
theorem d_Mo_climb_44 : decode m_Mo_climb.2.1 44 = .ok (.aload_n 0, 1) := by decide +kernel
theorem d_Mo_climb_45 : decode m_Mo_climb.2.1 45 = .ok (.getfield 443, 3) := by decide +kernel
theorem d_Mo_climb_48 : decode m_Mo_climb.2.1 48 = .ok (.iaload, 1) := by decide +kernel
theorem d_Mo_climb_49 : decode m_Mo_climb.2.1 49 = .ok (.iastore, 1) := by decide +kernel
theorem d_Mo_climb_50 : decode m_Mo_climb.2.1 50 = .ok (.aload_n 0, 1) := by decide +kernel
theorem d_Mo_climb_51 : decode m_Mo_climb.2.1 51 = .ok (.getfield 57, 3) := by decide +kernel
theorem d_Mo_climb_54 : decode m_Mo_climb.2.1 54 = .ok (.aload_n 0, 1) := by decide +kernel
theorem d_Mo_climb_55 : decode m_Mo_climb.2.1 55 = .ok (.getfield 443, 3) := by decide +kernel
theorem d_Mo_climb_58 : decode m_Mo_climb.2.1 58 = .ok (.iload_n 2, 1) := by decide +kernel
theorem d_Mo_climb_59 : decode m_Mo_climb.2.1 59 = .ok (.iastore, 1) := by decide +kernel
theorem d_Mo_climb_60 : decode m_Mo_climb.2.1 60 = .ok (.iinc 1 1, 3) := by decide +kernel
theorem d_Mo_climb_63 : decode m_Mo_climb.2.1 63 = .ok (.goto (-56), 3) := by decide +kernel
theorem d_Mo_climb_66 : decode m_Mo_climb.2.1 66 = .ok (.iload_n 1, 1) := by decide +kernel
theorem d_Mo_climb_67 : decode m_Mo_climb.2.1 67 = .ok (.ireturn, 1) := by decide +kernel
theorem d_Mo_night_0 : decode m_Mo_night.2.1 0 = .ok (.aload_n 0, 1) := by decide +kernel
theorem d_Mo_night_1 : decode m_Mo_night.2.1 1 = .ok (.iconst 0, 1) := by decide +kernel
theorem d_Mo_night_2 : decode m_Mo_night.2.1 2 = .ok (.putfield 160, 3) := by decide +kernel
theorem d_Mo_night_5 : decode m_Mo_night.2.1 5 = .ok (.aload_n 0, 1) := by decide +kernel
theorem d_Mo_night_6 : decode m_Mo_night.2.1 6 = .ok (.invokevirtual 449, 3) := by decide +kernel
theorem d_Mo_night_9 : decode m_Mo_night.2.1 9 = .ok (.iconst 0, 1) := by decide +kernel
theorem d_Mo_night_10 : decode m_Mo_night.2.1 10 = .ok (.istore_n 1, 1) := by decide +kernel
theorem d_Mo_night_11 : decode m_Mo_night.2.1 11 = .ok (.iload_n 1, 1) := by decide +kernel
theorem d_Mo_night_12 : decode m_Mo_night.2.1 12 = .ok (.bipush 6, 2) := by decide +kernel
theorem d_Mo_night_14 : decode m_Mo_night.2.1 14 = .ok (.if_icmp .ge 33, 3) := by decide +kernel
theorem d_Mo_night_17 : decode m_Mo_night.2.1 17 = .ok (.aload_n 0, 1) := by decide +kernel
theorem d_Mo_night_18 : decode m_Mo_night.2.1 18 = .ok (.getfield 75, 3) := by decide +kernel
theorem d_Mo_night_21 : decode m_Mo_night.2.1 21 = .ok (.iload_n 1, 1) := by decide +kernel
theorem d_Mo_night_22 : decode m_Mo_night.2.1 22 = .ok (.aload_n 0, 1) := by decide +kernel
theorem d_Mo_night_23 : decode m_Mo_night.2.1 23 = .ok (.getfield 127, 3) := by decide +kernel
theorem d_Mo_night_26 : decode m_Mo_night.2.1 26 = .ok (.iload_n 1, 1) := by decide +kernel
theorem d_Mo_night_27 : decode m_Mo_night.2.1 27 = .ok (.iaload, 1) := by decide +kernel
theorem d_Mo_night_28 : decode m_Mo_night.2.1 28 = .ok (.iastore, 1) := by decide +kernel
theorem d_Mo_night_29 : decode m_Mo_night.2.1 29 = .ok (.aload_n 0, 1) := by decide +kernel
theorem d_Mo_night_30 : decode m_Mo_night.2.1 30 = .ok (.getfield 78, 3) := by decide +kernel
theorem d_Mo_night_33 : decode m_Mo_night.2.1 33 = .ok (.iload_n 1, 1) := by decide +kernel
theorem d_Mo_night_34 : decode m_Mo_night.2.1 34 = .ok (.aload_n 0, 1) := by decide +kernel
theorem d_Mo_night_35 : decode m_Mo_night.2.1 35 = .ok (.getfield 130, 3) := by decide +kernel
theorem d_Mo_night_38 : decode m_Mo_night.2.1 38 = .ok (.iload_n 1, 1) := by decide +kernel
theorem d_Mo_night_39 : decode m_Mo_night.2.1 39 = .ok (.iaload, 1) := by decide +kernel
theorem d_Mo_night_40 : decode m_Mo_night.2.1 40 = .ok (.iastore, 1) := by decide +kernel
theorem d_Mo_night_41 : decode m_Mo_night.2.1 41 = .ok (.iinc 1 1, 3) := by decide +kernel
theorem d_Mo_night_44 : decode m_Mo_night.2.1 44 = .ok (.goto (-33), 3) := by decide +kernel
theorem d_Mo_night_47 : decode m_Mo_night.2.1 47 = .ok (.aload_n 0, 1) := by decide +kernel
theorem d_Mo_night_48 : decode m_Mo_night.2.1 48 = .ok (.getfield 72, 3) := by decide +kernel
theorem d_Mo_night_51 : decode m_Mo_night.2.1 51 = .ok (.iconst 0, 1) := by decide +kernel
theorem d_Mo_night_52 : decode m_Mo_night.2.1 52 = .ok (.dup2, 1) := by decide +kernel
theorem d_Mo_night_53 : decode m_Mo_night.2.1 53 = .ok (.iaload, 1) := by decide +kernel
theorem d_Mo_night_54 : decode m_Mo_night.2.1 54 = .ok (.iconst 1, 1) := by decide +kernel
theorem d_Mo_night_55 : decode m_Mo_night.2.1 55 = .ok (.iadd, 1) := by decide +kernel
theorem d_Mo_night_56 : decode m_Mo_night.2.1 56 = .ok (.iastore, 1) := by decide +kernel
theorem d_Mo_night_57 : decode m_Mo_night.2.1 57 = .ok (.aload_n 0, 1) := by decide +kernel
theorem d_Mo_night_58 : decode m_Mo_night.2.1 58 = .ok (.invokevirtual 412, 3) := by decide +kernel
theorem d_Mo_night_61 : decode m_Mo_night.2.1 61 = .ok (.ireturn, 1) := by decide +kernel
theorem d_Mo_passes_0 : decode m_Mo_passes.2.1 0 = .ok (.aload_n 0, 1) := by decide +kernel
theorem d_Mo_passes_1 : decode m_Mo_passes.2.1 1 = .ok (.invokevirtual 406, 3) := by decide +kernel
theorem d_Mo_passes_4 : decode m_Mo_passes.2.1 4 = .ok (.aload_n 0, 1) := by decide +kernel
theorem d_Mo_passes_5 : decode m_Mo_passes.2.1 5 = .ok (.invokevirtual 394, 3) := by decide +kernel
theorem d_Mo_passes_8 : decode m_Mo_passes.2.1 8 = .ok (.iconst 1, 1) := by decide +kernel
theorem d_Mo_passes_9 : decode m_Mo_passes.2.1 9 = .ok (.istore_n 1, 1) := by decide +kernel
theorem d_Mo_passes_10 : decode m_Mo_passes.2.1 10 = .ok (.iload_n 1, 1) := by decide +kernel
theorem d_Mo_passes_11 : decode m_Mo_passes.2.1 11 = .ok (.sipush 240, 3) := by decide +kernel
theorem d_Mo_passes_14 : decode m_Mo_passes.2.1 14 = .ok (.if_icmp .gt 105, 3) := by decide +kernel
theorem d_Mo_passes_17 : decode m_Mo_passes.2.1 17 = .ok (.aload_n 0, 1) := by decide +kernel
theorem d_Mo_passes_18 : decode m_Mo_passes.2.1 18 = .ok (.invokevirtual 397, 3) := by decide +kernel
theorem d_Mo_passes_21 : decode m_Mo_passes.2.1 21 = .ok (.istore_n 2, 1) := by decide +kernel
theorem d_Mo_passes_22 : decode m_Mo_passes.2.1 22 = .ok (.aload_n 0, 1) := by decide +kernel
theorem d_Mo_passes_23 : decode m_Mo_passes.2.1 23 = .ok (.getfield 115, 3) := by decide +kernel
theorem d_Mo_passes_26 : decode m_Mo_passes.2.1 26 = .ok (.iload_n 2, 1) := by decide +kernel
theorem d_Mo_passes_27 : decode m_Mo_passes.2.1 27 = .ok (.iaload, 1) := by decide +kernel
theorem d_Mo_passes_28 : decode m_Mo_passes.2.1 28 = .ok (.iload_n 1, 1) := by decide +kernel
theorem d_Mo_passes_29 : decode m_Mo_passes.2.1 29 = .ok (.if_icmp .gt 16, 3) := by decide +kernel
theorem d_Mo_passes_32 : decode m_Mo_passes.2.1 32 = .ok (.aload_n 0, 1) := by decide +kernel
theorem d_Mo_passes_33 : decode m_Mo_passes.2.1 33 = .ok (.iload_n 2, 1) := by decide +kernel
theorem d_Mo_passes_34 : decode m_Mo_passes.2.1 34 = .ok (.invokevirtual 400, 3) := by decide +kernel
theorem d_Mo_passes_37 : decode m_Mo_passes.2.1 37 = .ok (.aload_n 0, 1) := by decide +kernel
theorem d_Mo_passes_38 : decode m_Mo_passes.2.1 38 = .ok (.invokevirtual 397, 3) := by decide +kernel
theorem d_Mo_passes_41 : decode m_Mo_passes.2.1 41 = .ok (.istore_n 2, 1) := by decide +kernel
theorem d_Mo_passes_42 : decode m_Mo_passes.2.1 42 = .ok (.goto (-20), 3) := by decide +kernel
theorem d_Mo_passes_45 : decode m_Mo_passes.2.1 45 = .ok (.iconst 0, 1) := by decide +kernel
theorem d_Mo_passes_46 : decode m_Mo_passes.2.1 46 = .ok (.istore_n 2, 1) := by decide +kernel
theorem d_Mo_passes_47 : decode m_Mo_passes.2.1 47 = .ok (.iload_n 2, 1) := by decide +kernel
theorem d_Mo_passes_48 : decode m_Mo_passes.2.1 48 = .ok (.aload_n 0, 1) := by decide +kernel
theorem d_Mo_passes_49 : decode m_Mo_passes.2.1 49 = .ok (.getfield 13, 3) := by decide +kernel
theorem d_Mo_passes_52 : decode m_Mo_passes.2.1 52 = .ok (.iconst 0, 1) := by decide +kernel
theorem d_Mo_passes_53 : decode m_Mo_passes.2.1 53 = .ok (.iaload, 1) := by decide +kernel
theorem d_Mo_passes_54 : decode m_Mo_passes.2.1 54 = .ok (.if_icmp .ge 59, 3) := by decide +kernel
theorem d_Mo_passes_57 : decode m_Mo_passes.2.1 57 = .ok (.aload_n 0, 1) := by decide +kernel
theorem d_Mo_passes_58 : decode m_Mo_passes.2.1 58 = .ok (.getfield 127, 3) := by decide +kernel
theorem d_Mo_passes_61 : decode m_Mo_passes.2.1 61 = .ok (.iload_n 2, 1) := by decide +kernel
theorem d_Mo_passes_62 : decode m_Mo_passes.2.1 62 = .ok (.iaload, 1) := by decide +kernel
theorem d_Mo_passes_63 : decode m_Mo_passes.2.1 63 = .ok (.iconst (-1), 1) := by decide +kernel
theorem d_Mo_passes_64 : decode m_Mo_passes.2.1 64 = .ok (.if_icmp .eq 6, 3) := by decide +kernel
theorem d_Mo_passes_67 : decode m_Mo_passes.2.1 67 = .ok (.goto 40, 3) := by decide +kernel
theorem d_Mo_passes_70 : decode m_Mo_passes.2.1 70 = .ok (.aload_n 0, 1) := by decide +kernel
theorem d_Mo_passes_71 : decode m_Mo_passes.2.1 71 = .ok (.iload_n 2, 1) := by decide +kernel
theorem d_Mo_passes_72 : decode m_Mo_passes.2.1 72 = .ok (.iload_n 1, 1) := by decide +kernel
theorem d_Mo_passes_73 : decode m_Mo_passes.2.1 73 = .ok (.invokevirtual 377, 3) := by decide +kernel
theorem d_Mo_passes_76 : decode m_Mo_passes.2.1 76 = .ok (.istore_n 3, 1) := by decide +kernel
theorem d_Mo_passes_77 : decode m_Mo_passes.2.1 77 = .ok (.iload_n 3, 1) := by decide +kernel
theorem d_Mo_passes_78 : decode m_Mo_passes.2.1 78 = .ok (.ifCond .eq 29, 3) := by decide +kernel
theorem d_Mo_passes_81 : decode m_Mo_passes.2.1 81 = .ok (.aload_n 0, 1) := by decide +kernel
theorem d_Mo_passes_82 : decode m_Mo_passes.2.1 82 = .ok (.invokevirtual 419, 3) := by decide +kernel
theorem d_Mo_passes_85 : decode m_Mo_passes.2.1 85 = .ok (.iload_n 3, 1) := by decide +kernel
theorem d_Mo_passes_86 : decode m_Mo_passes.2.1 86 = .ok (.if_icmp .lt 6, 3) := by decide +kernel
theorem d_Mo_passes_89 : decode m_Mo_passes.2.1 89 = .ok (.goto 18, 3) := by decide +kernel
theorem d_Mo_passes_92 : decode m_Mo_passes.2.1 92 = .ok (.aload_n 0, 1) := by decide +kernel
theorem d_Mo_passes_93 : decode m_Mo_passes.2.1 93 = .ok (.getfield 127, 3) := by decide +kernel
theorem d_Mo_passes_96 : decode m_Mo_passes.2.1 96 = .ok (.iload_n 2, 1) := by decide +kernel
theorem d_Mo_passes_97 : decode m_Mo_passes.2.1 97 = .ok (.bipush (-3), 2) := by decide +kernel
theorem d_Mo_passes_99 : decode m_Mo_passes.2.1 99 = .ok (.iastore, 1) := by decide +kernel
theorem d_Mo_passes_100 : decode m_Mo_passes.2.1 100 = .ok (.aload_n 0, 1) := by decide +kernel
theorem d_Mo_passes_101 : decode m_Mo_passes.2.1 101 = .ok (.getfield 130, 3) := by decide +kernel
theorem d_Mo_passes_104 : decode m_Mo_passes.2.1 104 = .ok (.iload_n 2, 1) := by decide +kernel
theorem d_Mo_passes_105 : decode m_Mo_passes.2.1 105 = .ok (.iload_n 1, 1) := by decide +kernel
theorem d_Mo_passes_106 : decode m_Mo_passes.2.1 106 = .ok (.iastore, 1) := by decide +kernel
theorem d_Mo_passes_107 : decode m_Mo_passes.2.1 107 = .ok (.iinc 2 1, 3) := by decide +kernel
theorem d_Mo_passes_110 : decode m_Mo_passes.2.1 110 = .ok (.goto (-63), 3) := by decide +kernel
theorem d_Mo_passes_113 : decode m_Mo_passes.2.1 113 = .ok (.iinc 1 1, 3) := by decide +kernel
theorem d_Mo_passes_116 : decode m_Mo_passes.2.1 116 = .ok (.goto (-106), 3) := by decide +kernel
theorem d_Mo_passes_119 : decode m_Mo_passes.2.1 119 = .ok (.return_, 1) := by decide +kernel
theorem d_Mo_draw_0 : decode m_Mo_draw.2.1 0 = .ok (.aload_n 0, 1) := by decide +kernel
theorem d_Mo_draw_1 : decode m_Mo_draw.2.1 1 = .ok (.getfield 69, 3) := by decide +kernel
theorem d_Mo_draw_4 : decode m_Mo_draw.2.1 4 = .ok (.iconst 0, 1) := by decide +kernel
theorem d_Mo_draw_5 : decode m_Mo_draw.2.1 5 = .ok (.aload_n 0, 1) := by decide +kernel
theorem d_Mo_draw_6 : decode m_Mo_draw.2.1 6 = .ok (.getfield 69, 3) := by decide +kernel
theorem d_Mo_draw_9 : decode m_Mo_draw.2.1 9 = .ok (.iconst 0, 1) := by decide +kernel
theorem d_Mo_draw_10 : decode m_Mo_draw.2.1 10 = .ok (.iaload, 1) := by decide +kernel
theorem d_Mo_draw_11 : decode m_Mo_draw.2.1 11 = .ok (.ldc_w 415, 3) := by decide +kernel
theorem d_Mo_draw_14 : decode m_Mo_draw.2.1 14 = .ok (.imul, 1) := by decide +kernel
theorem d_Mo_draw_15 : decode m_Mo_draw.2.1 15 = .ok (.sipush 12345, 3) := by decide +kernel
theorem d_Mo_draw_18 : decode m_Mo_draw.2.1 18 = .ok (.iadd, 1) := by decide +kernel
theorem d_Mo_draw_19 : decode m_Mo_draw.2.1 19 = .ok (.ldc_w 418, 3) := by decide +kernel
theorem d_Mo_draw_22 : decode m_Mo_draw.2.1 22 = .ok (.iand, 1) := by decide +kernel
theorem d_Mo_draw_23 : decode m_Mo_draw.2.1 23 = .ok (.iastore, 1) := by decide +kernel
theorem d_Mo_draw_24 : decode m_Mo_draw.2.1 24 = .ok (.aload_n 0, 1) := by decide +kernel
theorem d_Mo_draw_25 : decode m_Mo_draw.2.1 25 = .ok (.getfield 69, 3) := by decide +kernel
theorem d_Mo_draw_28 : decode m_Mo_draw.2.1 28 = .ok (.iconst 0, 1) := by decide +kernel
theorem d_Mo_draw_29 : decode m_Mo_draw.2.1 29 = .ok (.iaload, 1) := by decide +kernel
theorem d_Mo_draw_30 : decode m_Mo_draw.2.1 30 = .ok (.bipush 16, 2) := by decide +kernel
theorem d_Mo_draw_32 : decode m_Mo_draw.2.1 32 = .ok (.ishr, 1) := by decide +kernel
theorem d_Mo_draw_33 : decode m_Mo_draw.2.1 33 = .ok (.sipush 1000, 3) := by decide +kernel
theorem d_Mo_draw_36 : decode m_Mo_draw.2.1 36 = .ok (.irem, 1) := by decide +kernel
theorem d_Mo_draw_37 : decode m_Mo_draw.2.1 37 = .ok (.ireturn, 1) := by decide +kernel
theorem d_Mo_was_0 : decode m_Mo_was.2.1 0 = .ok (.aload_n 0, 1) := by decide +kernel
theorem d_Mo_was_1 : decode m_Mo_was.2.1 1 = .ok (.iconst 0, 1) := by decide +kernel
theorem d_Mo_was_2 : decode m_Mo_was.2.1 2 = .ok (.putfield 160, 3) := by decide +kernel
theorem d_Mo_was_5 : decode m_Mo_was.2.1 5 = .ok (.aload_n 0, 1) := by decide +kernel
theorem d_Mo_was_6 : decode m_Mo_was.2.1 6 = .ok (.iload_n 1, 1) := by decide +kernel
theorem d_Mo_was_7 : decode m_Mo_was.2.1 7 = .ok (.invokevirtual 314, 3) := by decide +kernel
theorem d_Mo_was_10 : decode m_Mo_was.2.1 10 = .ok (.ifCond .eq 12, 3) := by decide +kernel
theorem d_Mo_was_13 : decode m_Mo_was.2.1 13 = .ok (.iload_n 2, 1) := by decide +kernel
theorem d_Mo_was_14 : decode m_Mo_was.2.1 14 = .ok (.ifCond .lt 8, 3) := by decide +kernel
theorem d_Mo_was_17 : decode m_Mo_was.2.1 17 = .ok (.iload_n 2, 1) := by decide +kernel
theorem d_Mo_was_18 : decode m_Mo_was.2.1 18 = .ok (.iconst 1, 1) := by decide +kernel
theorem d_Mo_was_19 : decode m_Mo_was.2.1 19 = .ok (.if_icmp .le 5, 3) := by decide +kernel
theorem d_Mo_was_22 : decode m_Mo_was.2.1 22 = .ok (.iconst (-1), 1) := by decide +kernel
theorem d_Mo_was_23 : decode m_Mo_was.2.1 23 = .ok (.ireturn, 1) := by decide +kernel
theorem d_Mo_was_24 : decode m_Mo_was.2.1 24 = .ok (.aload_n 0, 1) := by decide +kernel
theorem d_Mo_was_25 : decode m_Mo_was.2.1 25 = .ok (.getfield 72, 3) := by decide +kernel
theorem d_Mo_was_28 : decode m_Mo_was.2.1 28 = .ok (.iconst 0, 1) := by decide +kernel
theorem d_Mo_was_29 : decode m_Mo_was.2.1 29 = .ok (.iaload, 1) := by decide +kernel
theorem d_Mo_was_30 : decode m_Mo_was.2.1 30 = .ok (.ifCond .ne 6, 3) := by decide +kernel
theorem d_Mo_was_33 : decode m_Mo_was.2.1 33 = .ok (.bipush (-4), 2) := by decide +kernel
theorem d_Mo_was_35 : decode m_Mo_was.2.1 35 = .ok (.ireturn, 1) := by decide +kernel
theorem d_Mo_was_36 : decode m_Mo_was.2.1 36 = .ok (.iload_n 2, 1) := by decide +kernel
theorem d_Mo_was_37 : decode m_Mo_was.2.1 37 = .ok (.ifCond .ne 12, 3) := by decide +kernel
theorem d_Mo_was_40 : decode m_Mo_was.2.1 40 = .ok (.aload_n 0, 1) := by decide +kernel
theorem d_Mo_was_41 : decode m_Mo_was.2.1 41 = .ok (.getfield 75, 3) := by decide +kernel
theorem d_Mo_was_44 : decode m_Mo_was.2.1 44 = .ok (.iload_n 1, 1) := by decide +kernel
theorem d_Mo_was_45 : decode m_Mo_was.2.1 45 = .ok (.iaload, 1) := by decide +kernel
theorem d_Mo_was_46 : decode m_Mo_was.2.1 46 = .ok (.goto 9, 3) := by decide +kernel
theorem d_Mo_was_49 : decode m_Mo_was.2.1 49 = .ok (.aload_n 0, 1) := by decide +kernel
theorem d_Mo_was_50 : decode m_Mo_was.2.1 50 = .ok (.getfield 78, 3) := by decide +kernel
theorem d_Mo_was_53 : decode m_Mo_was.2.1 53 = .ok (.iload_n 1, 1) := by decide +kernel
theorem d_Mo_was_54 : decode m_Mo_was.2.1 54 = .ok (.iaload, 1) := by decide +kernel
theorem d_Mo_was_55 : decode m_Mo_was.2.1 55 = .ok (.ireturn, 1) := by decide +kernel
theorem d_Mo_chance_0 : decode m_Mo_chance.2.1 0 = .ok (.aload_n 0, 1) := by decide +kernel
theorem d_Mo_chance_1 : decode m_Mo_chance.2.1 1 = .ok (.iconst 0, 1) := by decide +kernel
theorem d_Mo_chance_2 : decode m_Mo_chance.2.1 2 = .ok (.putfield 160, 3) := by decide +kernel
theorem d_Mo_chance_5 : decode m_Mo_chance.2.1 5 = .ok (.iload_n 1, 1) := by decide +kernel
theorem d_Mo_chance_6 : decode m_Mo_chance.2.1 6 = .ok (.ifCond .lt 11, 3) := by decide +kernel
theorem d_Mo_chance_9 : decode m_Mo_chance.2.1 9 = .ok (.aload_n 0, 1) := by decide +kernel
theorem d_Mo_chance_10 : decode m_Mo_chance.2.1 10 = .ok (.iload_n 2, 1) := by decide +kernel
theorem d_Mo_chance_11 : decode m_Mo_chance.2.1 11 = .ok (.invokevirtual 314, 3) := by decide +kernel
theorem d_Mo_chance_14 : decode m_Mo_chance.2.1 14 = .ok (.ifCond .ne 5, 3) := by decide +kernel
theorem d_Mo_chance_17 : decode m_Mo_chance.2.1 17 = .ok (.iconst (-1), 1) := by decide +kernel
theorem d_Mo_chance_18 : decode m_Mo_chance.2.1 18 = .ok (.ireturn, 1) := by decide +kernel
theorem d_Mo_chance_19 : decode m_Mo_chance.2.1 19 = .ok (.aload_n 0, 1) := by decide +kernel
theorem d_Mo_chance_20 : decode m_Mo_chance.2.1 20 = .ok (.getfield 69, 3) := by decide +kernel
theorem d_Mo_chance_23 : decode m_Mo_chance.2.1 23 = .ok (.iconst 0, 1) := by decide +kernel
theorem d_Mo_chance_24 : decode m_Mo_chance.2.1 24 = .ok (.iaload, 1) := by decide +kernel
theorem d_Mo_chance_25 : decode m_Mo_chance.2.1 25 = .ok (.istore_n 3, 1) := by decide +kernel
theorem d_Mo_chance_26 : decode m_Mo_chance.2.1 26 = .ok (.aload_n 0, 1) := by decide +kernel
theorem d_Mo_chance_27 : decode m_Mo_chance.2.1 27 = .ok (.getfield 69, 3) := by decide +kernel
theorem d_Mo_chance_30 : decode m_Mo_chance.2.1 30 = .ok (.iconst 0, 1) := by decide +kernel
theorem d_Mo_chance_31 : decode m_Mo_chance.2.1 31 = .ok (.iload_n 1, 1) := by decide +kernel
theorem d_Mo_chance_32 : decode m_Mo_chance.2.1 32 = .ok (.iastore, 1) := by decide +kernel
theorem d_Mo_chance_33 : decode m_Mo_chance.2.1 33 = .ok (.iconst 0, 1) := by decide +kernel
theorem d_Mo_chance_34 : decode m_Mo_chance.2.1 34 = .ok (.istore 4, 2) := by decide +kernel
theorem d_Mo_chance_36 : decode m_Mo_chance.2.1 36 = .ok (.iconst 0, 1) := by decide +kernel
theorem d_Mo_chance_37 : decode m_Mo_chance.2.1 37 = .ok (.istore 5, 2) := by decide +kernel
theorem d_Mo_chance_39 : decode m_Mo_chance.2.1 39 = .ok (.iload 5, 2) := by decide +kernel
theorem d_Mo_chance_41 : decode m_Mo_chance.2.1 41 = .ok (.bipush 10, 2) := by decide +kernel
theorem d_Mo_chance_43 : decode m_Mo_chance.2.1 43 = .ok (.if_icmp .ge 58, 3) := by decide +kernel
theorem d_Mo_chance_46 : decode m_Mo_chance.2.1 46 = .ok (.aload_n 0, 1) := by decide +kernel
theorem d_Mo_chance_47 : decode m_Mo_chance.2.1 47 = .ok (.invokevirtual 449, 3) := by decide +kernel
theorem d_Mo_chance_50 : decode m_Mo_chance.2.1 50 = .ok (.iload 4, 2) := by decide +kernel
theorem d_Mo_chance_52 : decode m_Mo_chance.2.1 52 = .ok (.aload_n 0, 1) := by decide +kernel
theorem d_Mo_chance_53 : decode m_Mo_chance.2.1 53 = .ok (.getfield 127, 3) := by decide +kernel
theorem d_Mo_chance_56 : decode m_Mo_chance.2.1 56 = .ok (.iload_n 2, 1) := by decide +kernel
theorem d_Mo_chance_57 : decode m_Mo_chance.2.1 57 = .ok (.iaload, 1) := by decide +kernel
theorem d_Mo_chance_58 : decode m_Mo_chance.2.1 58 = .ok (.ifCond .ge 14, 3) := by decide +kernel
theorem d_Mo_chance_61 : decode m_Mo_chance.2.1 61 = .ok (.aload_n 0, 1) := by decide +kernel
theorem d_Mo_chance_62 : decode m_Mo_chance.2.1 62 = .ok (.getfield 127, 3) := by decide +kernel
theorem d_Mo_chance_65 : decode m_Mo_chance.2.1 65 = .ok (.iload_n 2, 1) := by decide +kernel
theorem d_Mo_chance_66 : decode m_Mo_chance.2.1 66 = .ok (.iaload, 1) := by decide +kernel
theorem d_Mo_chance_67 : decode m_Mo_chance.2.1 67 = .ok (.bipush (-2), 2) := by decide +kernel
theorem d_Mo_chance_69 : decode m_Mo_chance.2.1 69 = .ok (.if_icmp .ne 22, 3) := by decide +kernel
theorem d_Mo_chance_72 : decode m_Mo_chance.2.1 72 = .ok (.aload_n 0, 1) := by decide +kernel
theorem d_Mo_chance_73 : decode m_Mo_chance.2.1 73 = .ok (.getfield 130, 3) := by decide +kernel
theorem d_Mo_chance_76 : decode m_Mo_chance.2.1 76 = .ok (.iload_n 2, 1) := by decide +kernel
theorem d_Mo_chance_77 : decode m_Mo_chance.2.1 77 = .ok (.iaload, 1) := by decide +kernel
theorem d_Mo_chance_78 : decode m_Mo_chance.2.1 78 = .ok (.aload_n 0, 1) := by decide +kernel
theorem d_Mo_chance_79 : decode m_Mo_chance.2.1 79 = .ok (.getfield 25, 3) := by decide +kernel
theorem d_Mo_chance_82 : decode m_Mo_chance.2.1 82 = .ok (.iload_n 2, 1) := by decide +kernel
theorem d_Mo_chance_83 : decode m_Mo_chance.2.1 83 = .ok (.iaload, 1) := by decide +kernel
theorem d_Mo_chance_84 : decode m_Mo_chance.2.1 84 = .ok (.if_icmp .gt 7, 3) := by decide +kernel
theorem d_Mo_chance_87 : decode m_Mo_chance.2.1 87 = .ok (.iconst 1, 1) := by decide +kernel
theorem d_Mo_chance_88 : decode m_Mo_chance.2.1 88 = .ok (.goto 4, 3) := by decide +kernel
theorem d_Mo_chance_91 : decode m_Mo_chance.2.1 91 = .ok (.iconst 0, 1) := by decide +kernel
theorem d_Mo_chance_92 : decode m_Mo_chance.2.1 92 = .ok (.iadd, 1) := by decide +kernel
theorem d_Mo_chance_93 : decode m_Mo_chance.2.1 93 = .ok (.istore 4, 2) := by decide +kernel
theorem d_Mo_chance_95 : decode m_Mo_chance.2.1 95 = .ok (.iinc 5 1, 3) := by decide +kernel
theorem d_Mo_chance_98 : decode m_Mo_chance.2.1 98 = .ok (.goto (-59), 3) := by decide +kernel
theorem d_Mo_chance_101 : decode m_Mo_chance.2.1 101 = .ok (.aload_n 0, 1) := by decide +kernel
theorem d_Mo_chance_102 : decode m_Mo_chance.2.1 102 = .ok (.getfield 69, 3) := by decide +kernel
theorem d_Mo_chance_105 : decode m_Mo_chance.2.1 105 = .ok (.iconst 0, 1) := by decide +kernel
theorem d_Mo_chance_106 : decode m_Mo_chance.2.1 106 = .ok (.iload_n 3, 1) := by decide +kernel
theorem d_Mo_chance_107 : decode m_Mo_chance.2.1 107 = .ok (.iastore, 1) := by decide +kernel
theorem d_Mo_chance_108 : decode m_Mo_chance.2.1 108 = .ok (.iload 4, 2) := by decide +kernel
theorem d_Mo_chance_110 : decode m_Mo_chance.2.1 110 = .ok (.ireturn, 1) := by decide +kernel
theorem d_Mo_best_0 : decode m_Mo_best.2.1 0 = .ok (.aload_n 0, 1) := by decide +kernel
theorem d_Mo_best_1 : decode m_Mo_best.2.1 1 = .ok (.iconst 0, 1) := by decide +kernel
theorem d_Mo_best_2 : decode m_Mo_best.2.1 2 = .ok (.putfield 160, 3) := by decide +kernel
theorem d_Mo_best_5 : decode m_Mo_best.2.1 5 = .ok (.iload_n 1, 1) := by decide +kernel
theorem d_Mo_best_6 : decode m_Mo_best.2.1 6 = .ok (.ifCond .lt 13, 3) := by decide +kernel
theorem d_Mo_best_9 : decode m_Mo_best.2.1 9 = .ok (.iload_n 1, 1) := by decide +kernel
theorem d_Mo_best_10 : decode m_Mo_best.2.1 10 = .ok (.aload_n 0, 1) := by decide +kernel
theorem d_Mo_best_11 : decode m_Mo_best.2.1 11 = .ok (.getfield 13, 3) := by decide +kernel
theorem d_Mo_best_14 : decode m_Mo_best.2.1 14 = .ok (.iconst 1, 1) := by decide +kernel
theorem d_Mo_best_15 : decode m_Mo_best.2.1 15 = .ok (.iaload, 1) := by decide +kernel
theorem d_Mo_best_16 : decode m_Mo_best.2.1 16 = .ok (.if_icmp .le 5, 3) := by decide +kernel
theorem d_Mo_best_19 : decode m_Mo_best.2.1 19 = .ok (.iconst (-1), 1) := by decide +kernel
theorem d_Mo_best_20 : decode m_Mo_best.2.1 20 = .ok (.ireturn, 1) := by decide +kernel
theorem d_Mo_best_21 : decode m_Mo_best.2.1 21 = .ok (.aload_n 0, 1) := by decide +kernel
theorem d_Mo_best_22 : decode m_Mo_best.2.1 22 = .ok (.iload_n 1, 1) := by decide +kernel
theorem d_Mo_best_23 : decode m_Mo_best.2.1 23 = .ok (.iconst (-1), 1) := by decide +kernel
theorem d_Mo_best_24 : decode m_Mo_best.2.1 24 = .ok (.invokevirtual 470, 3) := by decide +kernel
theorem d_Mo_best_27 : decode m_Mo_best.2.1 27 = .ok (.aload_n 0, 1) := by decide +kernel
theorem d_Mo_best_28 : decode m_Mo_best.2.1 28 = .ok (.getfield 458, 3) := by decide +kernel
theorem d_Mo_best_31 : decode m_Mo_best.2.1 31 = .ok (.ireturn, 1) := by decide +kernel
theorem d_Mo_layBest_0 : decode m_Mo_layBest.2.1 0 = .ok (.aload_n 0, 1) := by decide +kernel
theorem d_Mo_layBest_1 : decode m_Mo_layBest.2.1 1 = .ok (.invokevirtual 406, 3) := by decide +kernel
theorem d_Mo_layBest_4 : decode m_Mo_layBest.2.1 4 = .ok (.iconst 0, 1) := by decide +kernel
theorem d_Mo_layBest_5 : decode m_Mo_layBest.2.1 5 = .ok (.istore_n 3, 1) := by decide +kernel
theorem d_Mo_layBest_6 : decode m_Mo_layBest.2.1 6 = .ok (.iload_n 3, 1) := by decide +kernel
theorem d_Mo_layBest_7 : decode m_Mo_layBest.2.1 7 = .ok (.iconst 3, 1) := by decide +kernel
theorem d_Mo_layBest_8 : decode m_Mo_layBest.2.1 8 = .ok (.if_icmp .ge 16, 3) := by decide +kernel
theorem d_Mo_layBest_11 : decode m_Mo_layBest.2.1 11 = .ok (.aload_n 0, 1) := by decide +kernel
theorem d_Mo_layBest_12 : decode m_Mo_layBest.2.1 12 = .ok (.getfield 100, 3) := by decide +kernel
theorem d_Mo_layBest_15 : decode m_Mo_layBest.2.1 15 = .ok (.iload_n 3, 1) := by decide +kernel
theorem d_Mo_layBest_16 : decode m_Mo_layBest.2.1 16 = .ok (.iconst 0, 1) := by decide +kernel
theorem d_Mo_layBest_17 : decode m_Mo_layBest.2.1 17 = .ok (.iastore, 1) := by decide +kernel
theorem d_Mo_layBest_18 : decode m_Mo_layBest.2.1 18 = .ok (.iinc 3 1, 3) := by decide +kernel
theorem d_Mo_layBest_21 : decode m_Mo_layBest.2.1 21 = .ok (.goto (-15), 3) := by decide +kernel
theorem d_Mo_layBest_24 : decode m_Mo_layBest.2.1 24 = .ok (.aload_n 0, 1) := by decide +kernel
theorem d_Mo_layBest_25 : decode m_Mo_layBest.2.1 25 = .ok (.iload_n 2, 1) := by decide +kernel
theorem d_Mo_layBest_26 : decode m_Mo_layBest.2.1 26 = .ok (.putfield 94, 3) := by decide +kernel
theorem d_Mo_layBest_29 : decode m_Mo_layBest.2.1 29 = .ok (.aload_n 0, 1) := by decide +kernel
theorem d_Mo_layBest_30 : decode m_Mo_layBest.2.1 30 = .ok (.iload_n 1, 1) := by decide +kernel
theorem d_Mo_layBest_31 : decode m_Mo_layBest.2.1 31 = .ok (.putfield 461, 3) := by decide +kernel
theorem d_Mo_layBest_34 : decode m_Mo_layBest.2.1 34 = .ok (.aload_n 0, 1) := by decide +kernel
theorem d_Mo_layBest_35 : decode m_Mo_layBest.2.1 35 = .ok (.iconst (-1), 1) := by decide +kernel
theorem d_Mo_layBest_36 : decode m_Mo_layBest.2.1 36 = .ok (.putfield 458, 3) := by decide +kernel
theorem d_Mo_layBest_39 : decode m_Mo_layBest.2.1 39 = .ok (.aload_n 0, 1) := by decide +kernel
theorem d_Mo_layBest_40 : decode m_Mo_layBest.2.1 40 = .ok (.iconst (-1), 1) := by decide +kernel
theorem d_Mo_layBest_41 : decode m_Mo_layBest.2.1 41 = .ok (.putfield 452, 3) := by decide +kernel
theorem d_Mo_layBest_44 : decode m_Mo_layBest.2.1 44 = .ok (.aload_n 0, 1) := by decide +kernel
theorem d_Mo_layBest_45 : decode m_Mo_layBest.2.1 45 = .ok (.iconst 0, 1) := by decide +kernel
theorem d_Mo_layBest_46 : decode m_Mo_layBest.2.1 46 = .ok (.putfield 455, 3) := by decide +kernel
theorem d_Mo_layBest_49 : decode m_Mo_layBest.2.1 49 = .ok (.aload_n 0, 1) := by decide +kernel
theorem d_Mo_layBest_50 : decode m_Mo_layBest.2.1 50 = .ok (.iconst 0, 1) := by decide +kernel
theorem d_Mo_layBest_51 : decode m_Mo_layBest.2.1 51 = .ok (.iconst 0, 1) := by decide +kernel
theorem d_Mo_layBest_52 : decode m_Mo_layBest.2.1 52 = .ok (.invokevirtual 467, 3) := by decide +kernel
theorem d_Mo_layBest_55 : decode m_Mo_layBest.2.1 55 = .ok (.return_, 1) := by decide +kernel
theorem d_Mo_rows_0 : decode m_Mo_rows.2.1 0 = .ok (.aload_n 0, 1) := by decide +kernel
theorem d_Mo_rows_1 : decode m_Mo_rows.2.1 1 = .ok (.getfield 455, 3) := by decide +kernel
theorem d_Mo_rows_4 : decode m_Mo_rows.2.1 4 = .ok (.ifCond .eq 4, 3) := by decide +kernel
theorem d_Mo_rows_7 : decode m_Mo_rows.2.1 7 = .ok (.return_, 1) := by decide +kernel
theorem d_Mo_rows_8 : decode m_Mo_rows.2.1 8 = .ok (.iload_n 1, 1) := by decide +kernel
theorem d_Mo_rows_9 : decode m_Mo_rows.2.1 9 = .ok (.aload_n 0, 1) := by decide +kernel
theorem d_Mo_rows_10 : decode m_Mo_rows.2.1 10 = .ok (.getfield 461, 3) := by decide +kernel
theorem d_Mo_rows_13 : decode m_Mo_rows.2.1 13 = .ok (.if_icmp .lt 8, 3) := by decide +kernel
theorem d_Mo_rows_16 : decode m_Mo_rows.2.1 16 = .ok (.aload_n 0, 1) := by decide +kernel
theorem d_Mo_rows_17 : decode m_Mo_rows.2.1 17 = .ok (.invokevirtual 464, 3) := by decide +kernel
theorem d_Mo_rows_20 : decode m_Mo_rows.2.1 20 = .ok (.return_, 1) := by decide +kernel
theorem d_Mo_rows_21 : decode m_Mo_rows.2.1 21 = .ok (.aload_n 0, 1) := by decide +kernel
theorem d_Mo_rows_22 : decode m_Mo_rows.2.1 22 = .ok (.iload_n 1, 1) := by decide +kernel
theorem d_Mo_rows_23 : decode m_Mo_rows.2.1 23 = .ok (.iconst 1, 1) := by decide +kernel
theorem d_Mo_rows_24 : decode m_Mo_rows.2.1 24 = .ok (.iadd, 1) := by decide +kernel
theorem d_Mo_rows_25 : decode m_Mo_rows.2.1 25 = .ok (.iload_n 2, 1) := by decide +kernel
theorem d_Mo_rows_26 : decode m_Mo_rows.2.1 26 = .ok (.invokevirtual 467, 3) := by decide +kernel
theorem d_Mo_rows_29 : decode m_Mo_rows.2.1 29 = .ok (.iconst 0, 1) := by decide +kernel
theorem d_Mo_rows_30 : decode m_Mo_rows.2.1 30 = .ok (.istore_n 3, 1) := by decide +kernel
theorem d_Mo_rows_31 : decode m_Mo_rows.2.1 31 = .ok (.iload_n 3, 1) := by decide +kernel
theorem d_Mo_rows_32 : decode m_Mo_rows.2.1 32 = .ok (.aload_n 0, 1) := by decide +kernel
theorem d_Mo_rows_33 : decode m_Mo_rows.2.1 33 = .ok (.getfield 13, 3) := by decide +kernel
theorem d_Mo_rows_36 : decode m_Mo_rows.2.1 36 = .ok (.iconst 0, 1) := by decide +kernel
theorem d_Mo_rows_37 : decode m_Mo_rows.2.1 37 = .ok (.iaload, 1) := by decide +kernel
theorem d_Mo_rows_38 : decode m_Mo_rows.2.1 38 = .ok (.if_icmp .ge 76, 3) := by decide +kernel
theorem d_Mo_rows_41 : decode m_Mo_rows.2.1 41 = .ok (.iload_n 2, 1) := by decide +kernel
theorem d_Mo_rows_42 : decode m_Mo_rows.2.1 42 = .ok (.iload_n 3, 1) := by decide +kernel
theorem d_Mo_rows_43 : decode m_Mo_rows.2.1 43 = .ok (.ishr, 1) := by decide +kernel
theorem d_Mo_rows_44 : decode m_Mo_rows.2.1 44 = .ok (.iconst 1, 1) := by decide +kernel
theorem d_Mo_rows_45 : decode m_Mo_rows.2.1 45 = .ok (.iand, 1) := by decide +kernel
theorem d_Mo_rows_46 : decode m_Mo_rows.2.1 46 = .ok (.iconst 1, 1) := by decide +kernel
theorem d_Mo_rows_47 : decode m_Mo_rows.2.1 47 = .ok (.if_icmp .eq 61, 3) := by decide +kernel
theorem d_Mo_rows_50 : decode m_Mo_rows.2.1 50 = .ok (.iload_n 3, 1) := by decide +kernel
theorem d_Mo_rows_51 : decode m_Mo_rows.2.1 51 = .ok (.aload_n 0, 1) := by decide +kernel
theorem d_Mo_rows_52 : decode m_Mo_rows.2.1 52 = .ok (.getfield 94, 3) := by decide +kernel
theorem d_Mo_rows_55 : decode m_Mo_rows.2.1 55 = .ok (.if_icmp .ne 6, 3) := by decide +kernel
theorem d_Mo_rows_58 : decode m_Mo_rows.2.1 58 = .ok (.goto 50, 3) := by decide +kernel
theorem d_Mo_rows_61 : decode m_Mo_rows.2.1 61 = .ok (.aload_n 0, 1) := by decide +kernel
theorem d_Mo_rows_62 : decode m_Mo_rows.2.1 62 = .ok (.getfield 97, 3) := by decide +kernel
theorem d_Mo_rows_65 : decode m_Mo_rows.2.1 65 = .ok (.bipush 9, 2) := by decide +kernel
theorem d_Mo_rows_67 : decode m_Mo_rows.2.1 67 = .ok (.iload_n 1, 1) := by decide +kernel
theorem d_Mo_rows_68 : decode m_Mo_rows.2.1 68 = .ok (.imul, 1) := by decide +kernel
theorem d_Mo_rows_69 : decode m_Mo_rows.2.1 69 = .ok (.aload_n 0, 1) := by decide +kernel
theorem d_Mo_rows_70 : decode m_Mo_rows.2.1 70 = .ok (.getfield 100, 3) := by decide +kernel
theorem d_Mo_rows_73 : decode m_Mo_rows.2.1 73 = .ok (.iload_n 1, 1) := by decide +kernel
theorem d_Mo_rows_74 : decode m_Mo_rows.2.1 74 = .ok (.iaload, 1) := by decide +kernel
theorem d_Mo_rows_75 : decode m_Mo_rows.2.1 75 = .ok (.iadd, 1) := by decide +kernel
theorem d_Mo_rows_76 : decode m_Mo_rows.2.1 76 = .ok (.iload_n 3, 1) := by decide +kernel
theorem d_Mo_rows_77 : decode m_Mo_rows.2.1 77 = .ok (.iastore, 1) := by decide +kernel
theorem d_Mo_rows_78 : decode m_Mo_rows.2.1 78 = .ok (.aload_n 0, 1) := by decide +kernel
theorem d_Mo_rows_79 : decode m_Mo_rows.2.1 79 = .ok (.getfield 100, 3) := by decide +kernel
theorem d_Mo_rows_82 : decode m_Mo_rows.2.1 82 = .ok (.iload_n 1, 1) := by decide +kernel
theorem d_Mo_rows_83 : decode m_Mo_rows.2.1 83 = .ok (.dup2, 1) := by decide +kernel
theorem d_Mo_rows_84 : decode m_Mo_rows.2.1 84 = .ok (.iaload, 1) := by decide +kernel
theorem d_Mo_rows_85 : decode m_Mo_rows.2.1 85 = .ok (.iconst 1, 1) := by decide +kernel
theorem d_Mo_rows_86 : decode m_Mo_rows.2.1 86 = .ok (.iadd, 1) := by decide +kernel
theorem d_Mo_rows_87 : decode m_Mo_rows.2.1 87 = .ok (.iastore, 1) := by decide +kernel
theorem d_Mo_rows_88 : decode m_Mo_rows.2.1 88 = .ok (.aload_n 0, 1) := by decide +kernel
theorem d_Mo_rows_89 : decode m_Mo_rows.2.1 89 = .ok (.iload_n 1, 1) := by decide +kernel
theorem d_Mo_rows_90 : decode m_Mo_rows.2.1 90 = .ok (.iload_n 2, 1) := by decide +kernel
theorem d_Mo_rows_91 : decode m_Mo_rows.2.1 91 = .ok (.iconst 1, 1) := by decide +kernel
theorem d_Mo_rows_92 : decode m_Mo_rows.2.1 92 = .ok (.iload_n 3, 1) := by decide +kernel
theorem d_Mo_rows_93 : decode m_Mo_rows.2.1 93 = .ok (.ishl, 1) := by decide +kernel
theorem d_Mo_rows_94 : decode m_Mo_rows.2.1 94 = .ok (.ior, 1) := by decide +kernel
theorem d_Mo_rows_95 : decode m_Mo_rows.2.1 95 = .ok (.invokevirtual 467, 3) := by decide +kernel
theorem d_Mo_rows_98 : decode m_Mo_rows.2.1 98 = .ok (.aload_n 0, 1) := by decide +kernel
theorem d_Mo_rows_99 : decode m_Mo_rows.2.1 99 = .ok (.getfield 100, 3) := by decide +kernel
theorem d_Mo_rows_102 : decode m_Mo_rows.2.1 102 = .ok (.iload_n 1, 1) := by decide +kernel
theorem d_Mo_rows_103 : decode m_Mo_rows.2.1 103 = .ok (.dup2, 1) := by decide +kernel
theorem d_Mo_rows_104 : decode m_Mo_rows.2.1 104 = .ok (.iaload, 1) := by decide +kernel
theorem d_Mo_rows_105 : decode m_Mo_rows.2.1 105 = .ok (.iconst 1, 1) := by decide +kernel
theorem d_Mo_rows_106 : decode m_Mo_rows.2.1 106 = .ok (.isub, 1) := by decide +kernel
theorem d_Mo_rows_107 : decode m_Mo_rows.2.1 107 = .ok (.iastore, 1) := by decide +kernel
theorem d_Mo_rows_108 : decode m_Mo_rows.2.1 108 = .ok (.iinc 3 1, 3) := by decide +kernel
theorem d_Mo_rows_111 : decode m_Mo_rows.2.1 111 = .ok (.goto (-80), 3) := by decide +kernel
theorem d_Mo_rows_114 : decode m_Mo_rows.2.1 114 = .ok (.return_, 1) := by decide +kernel
theorem d_Mo_judges_0 : decode m_Mo_judges.2.1 0 = .ok (.aload_n 0, 1) := by decide +kernel
theorem d_Mo_judges_1 : decode m_Mo_judges.2.1 1 = .ok (.sipush 240, 3) := by decide +kernel
theorem d_Mo_judges_4 : decode m_Mo_judges.2.1 4 = .ok (.invokevirtual 409, 3) := by decide +kernel
theorem d_Mo_judges_7 : decode m_Mo_judges.2.1 7 = .ok (.aload_n 0, 1) := by decide +kernel
theorem d_Mo_judges_8 : decode m_Mo_judges.2.1 8 = .ok (.getfield 452, 3) := by decide +kernel
theorem d_Mo_judges_11 : decode m_Mo_judges.2.1 11 = .ok (.iconst (-1), 1) := by decide +kernel
theorem d_Mo_judges_12 : decode m_Mo_judges.2.1 12 = .ok (.if_icmp .eq 73, 3) := by decide +kernel
theorem d_Mo_judges_15 : decode m_Mo_judges.2.1 15 = .ok (.iconst 1, 1) := by decide +kernel
theorem d_Mo_judges_16 : decode m_Mo_judges.2.1 16 = .ok (.istore_n 1, 1) := by decide +kernel
theorem d_Mo_judges_17 : decode m_Mo_judges.2.1 17 = .ok (.iconst 0, 1) := by decide +kernel
theorem d_Mo_judges_18 : decode m_Mo_judges.2.1 18 = .ok (.istore_n 2, 1) := by decide +kernel
theorem d_Mo_judges_19 : decode m_Mo_judges.2.1 19 = .ok (.iload_n 2, 1) := by decide +kernel
theorem d_Mo_judges_20 : decode m_Mo_judges.2.1 20 = .ok (.aload_n 0, 1) := by decide +kernel
theorem d_Mo_judges_21 : decode m_Mo_judges.2.1 21 = .ok (.getfield 13, 3) := by decide +kernel
theorem d_Mo_judges_24 : decode m_Mo_judges.2.1 24 = .ok (.iconst 0, 1) := by decide +kernel
theorem d_Mo_judges_25 : decode m_Mo_judges.2.1 25 = .ok (.iaload, 1) := by decide +kernel
theorem d_Mo_judges_26 : decode m_Mo_judges.2.1 26 = .ok (.if_icmp .ge 48, 3) := by decide +kernel
theorem d_Mo_judges_29 : decode m_Mo_judges.2.1 29 = .ok (.aload_n 0, 1) := by decide +kernel
theorem d_Mo_judges_30 : decode m_Mo_judges.2.1 30 = .ok (.getfield 452, 3) := by decide +kernel
theorem d_Mo_judges_33 : decode m_Mo_judges.2.1 33 = .ok (.iload_n 2, 1) := by decide +kernel
theorem d_Mo_judges_34 : decode m_Mo_judges.2.1 34 = .ok (.ishr, 1) := by decide +kernel
theorem d_Mo_judges_35 : decode m_Mo_judges.2.1 35 = .ok (.iconst 1, 1) := by decide +kernel
theorem d_Mo_judges_36 : decode m_Mo_judges.2.1 36 = .ok (.iand, 1) := by decide +kernel
theorem d_Mo_judges_37 : decode m_Mo_judges.2.1 37 = .ok (.iconst 1, 1) := by decide +kernel
theorem d_Mo_judges_38 : decode m_Mo_judges.2.1 38 = .ok (.if_icmp .ne 30, 3) := by decide +kernel
theorem d_Mo_judges_41 : decode m_Mo_judges.2.1 41 = .ok (.aload_n 0, 1) := by decide +kernel
theorem d_Mo_judges_42 : decode m_Mo_judges.2.1 42 = .ok (.getfield 127, 3) := by decide +kernel
theorem d_Mo_judges_45 : decode m_Mo_judges.2.1 45 = .ok (.iload_n 2, 1) := by decide +kernel
theorem d_Mo_judges_46 : decode m_Mo_judges.2.1 46 = .ok (.iaload, 1) := by decide +kernel
theorem d_Mo_judges_47 : decode m_Mo_judges.2.1 47 = .ok (.iconst (-1), 1) := by decide +kernel
theorem d_Mo_judges_48 : decode m_Mo_judges.2.1 48 = .ok (.if_icmp .eq 18, 3) := by decide +kernel
theorem d_Mo_judges_51 : decode m_Mo_judges.2.1 51 = .ok (.aload_n 0, 1) := by decide +kernel
theorem d_Mo_judges_52 : decode m_Mo_judges.2.1 52 = .ok (.getfield 130, 3) := by decide +kernel
theorem d_Mo_judges_55 : decode m_Mo_judges.2.1 55 = .ok (.iload_n 2, 1) := by decide +kernel
theorem d_Mo_judges_56 : decode m_Mo_judges.2.1 56 = .ok (.iaload, 1) := by decide +kernel
theorem d_Mo_judges_57 : decode m_Mo_judges.2.1 57 = .ok (.aload_n 0, 1) := by decide +kernel
theorem d_Mo_judges_58 : decode m_Mo_judges.2.1 58 = .ok (.getfield 25, 3) := by decide +kernel
theorem d_Mo_judges_61 : decode m_Mo_judges.2.1 61 = .ok (.iload_n 2, 1) := by decide +kernel
theorem d_Mo_judges_62 : decode m_Mo_judges.2.1 62 = .ok (.iaload, 1) := by decide +kernel
theorem d_Mo_judges_63 : decode m_Mo_judges.2.1 63 = .ok (.if_icmp .le 5, 3) := by decide +kernel
theorem d_Mo_judges_66 : decode m_Mo_judges.2.1 66 = .ok (.iconst 0, 1) := by decide +kernel
theorem d_Mo_judges_67 : decode m_Mo_judges.2.1 67 = .ok (.istore_n 1, 1) := by decide +kernel
theorem d_Mo_judges_68 : decode m_Mo_judges.2.1 68 = .ok (.iinc 2 1, 3) := by decide +kernel
theorem d_Mo_judges_71 : decode m_Mo_judges.2.1 71 = .ok (.goto (-52), 3) := by decide +kernel
theorem d_Mo_judges_74 : decode m_Mo_judges.2.1 74 = .ok (.aload_n 0, 1) := by decide +kernel
theorem d_Mo_judges_75 : decode m_Mo_judges.2.1 75 = .ok (.dup, 1) := by decide +kernel
theorem d_Mo_judges_76 : decode m_Mo_judges.2.1 76 = .ok (.getfield 455, 3) := by decide +kernel
theorem d_Mo_judges_79 : decode m_Mo_judges.2.1 79 = .ok (.iload_n 1, 1) := by decide +kernel
theorem d_Mo_judges_80 : decode m_Mo_judges.2.1 80 = .ok (.ior, 1) := by decide +kernel
theorem d_Mo_judges_81 : decode m_Mo_judges.2.1 81 = .ok (.putfield 455, 3) := by decide +kernel
theorem d_Mo_judges_84 : decode m_Mo_judges.2.1 84 = .ok (.return_, 1) := by decide +kernel
theorem d_Mo_judges_85 : decode m_Mo_judges.2.1 85 = .ok (.aload_n 0, 1) := by decide +kernel
theorem d_Mo_judges_86 : decode m_Mo_judges.2.1 86 = .ok (.invokevirtual 412, 3) := by decide +kernel
theorem d_Mo_judges_89 : decode m_Mo_judges.2.1 89 = .ok (.istore_n 1, 1) := by decide +kernel
theorem d_Mo_judges_90 : decode m_Mo_judges.2.1 90 = .ok (.iload_n 1, 1) := by decide +kernel
theorem d_Mo_judges_91 : decode m_Mo_judges.2.1 91 = .ok (.aload_n 0, 1) := by decide +kernel
theorem d_Mo_judges_92 : decode m_Mo_judges.2.1 92 = .ok (.getfield 458, 3) := by decide +kernel
theorem d_Mo_judges_95 : decode m_Mo_judges.2.1 95 = .ok (.if_icmp .gt 4, 3) := by decide +kernel
theorem d_Mo_judges_98 : decode m_Mo_judges.2.1 98 = .ok (.return_, 1) := by decide +kernel
theorem d_Mo_judges_99 : decode m_Mo_judges.2.1 99 = .ok (.aload_n 0, 1) := by decide +kernel
theorem d_Mo_judges_100 : decode m_Mo_judges.2.1 100 = .ok (.iload_n 1, 1) := by decide +kernel
theorem d_Mo_judges_101 : decode m_Mo_judges.2.1 101 = .ok (.putfield 458, 3) := by decide +kernel
theorem d_Mo_judges_104 : decode m_Mo_judges.2.1 104 = .ok (.iconst 0, 1) := by decide +kernel
theorem d_Mo_judges_105 : decode m_Mo_judges.2.1 105 = .ok (.istore_n 2, 1) := by decide +kernel
theorem d_Mo_judges_106 : decode m_Mo_judges.2.1 106 = .ok (.iload_n 2, 1) := by decide +kernel
theorem d_Mo_judges_107 : decode m_Mo_judges.2.1 107 = .ok (.iconst 3, 1) := by decide +kernel
theorem d_Mo_judges_108 : decode m_Mo_judges.2.1 108 = .ok (.if_icmp .ge 57, 3) := by decide +kernel
theorem d_Mo_judges_111 : decode m_Mo_judges.2.1 111 = .ok (.aload_n 0, 1) := by decide +kernel
theorem d_Mo_judges_112 : decode m_Mo_judges.2.1 112 = .ok (.getfield 136, 3) := by decide +kernel
theorem d_Mo_judges_115 : decode m_Mo_judges.2.1 115 = .ok (.iload_n 2, 1) := by decide +kernel
theorem d_Mo_judges_116 : decode m_Mo_judges.2.1 116 = .ok (.aload_n 0, 1) := by decide +kernel
theorem d_Mo_judges_117 : decode m_Mo_judges.2.1 117 = .ok (.getfield 100, 3) := by decide +kernel
theorem d_Mo_judges_120 : decode m_Mo_judges.2.1 120 = .ok (.iload_n 2, 1) := by decide +kernel
theorem d_Mo_judges_121 : decode m_Mo_judges.2.1 121 = .ok (.iaload, 1) := by decide +kernel
theorem d_Mo_judges_122 : decode m_Mo_judges.2.1 122 = .ok (.iastore, 1) := by decide +kernel
theorem d_Mo_judges_123 : decode m_Mo_judges.2.1 123 = .ok (.iconst 0, 1) := by decide +kernel
theorem d_Mo_judges_124 : decode m_Mo_judges.2.1 124 = .ok (.istore_n 3, 1) := by decide +kernel
theorem d_Mo_judges_125 : decode m_Mo_judges.2.1 125 = .ok (.iload_n 3, 1) := by decide +kernel
theorem d_Mo_judges_126 : decode m_Mo_judges.2.1 126 = .ok (.bipush 9, 2) := by decide +kernel
theorem d_Mo_judges_128 : decode m_Mo_judges.2.1 128 = .ok (.if_icmp .ge 31, 3) := by decide +kernel
theorem d_Mo_judges_131 : decode m_Mo_judges.2.1 131 = .ok (.aload_n 0, 1) := by decide +kernel
theorem d_Mo_judges_132 : decode m_Mo_judges.2.1 132 = .ok (.getfield 133, 3) := by decide +kernel
theorem d_Mo_judges_135 : decode m_Mo_judges.2.1 135 = .ok (.bipush 9, 2) := by decide +kernel
theorem d_Mo_judges_137 : decode m_Mo_judges.2.1 137 = .ok (.iload_n 2, 1) := by decide +kernel
theorem d_Mo_judges_138 : decode m_Mo_judges.2.1 138 = .ok (.imul, 1) := by decide +kernel
theorem d_Mo_judges_139 : decode m_Mo_judges.2.1 139 = .ok (.iload_n 3, 1) := by decide +kernel
theorem d_Mo_judges_140 : decode m_Mo_judges.2.1 140 = .ok (.iadd, 1) := by decide +kernel
theorem d_Mo_judges_141 : decode m_Mo_judges.2.1 141 = .ok (.aload_n 0, 1) := by decide +kernel
theorem d_Mo_judges_142 : decode m_Mo_judges.2.1 142 = .ok (.getfield 97, 3) := by decide +kernel
theorem d_Mo_judges_145 : decode m_Mo_judges.2.1 145 = .ok (.bipush 9, 2) := by decide +kernel
theorem d_Mo_judges_147 : decode m_Mo_judges.2.1 147 = .ok (.iload_n 2, 1) := by decide +kernel
theorem d_Mo_judges_148 : decode m_Mo_judges.2.1 148 = .ok (.imul, 1) := by decide +kernel
theorem d_Mo_judges_149 : decode m_Mo_judges.2.1 149 = .ok (.iload_n 3, 1) := by decide +kernel
theorem d_Mo_judges_150 : decode m_Mo_judges.2.1 150 = .ok (.iadd, 1) := by decide +kernel
theorem d_Mo_judges_151 : decode m_Mo_judges.2.1 151 = .ok (.iaload, 1) := by decide +kernel
theorem d_Mo_judges_152 : decode m_Mo_judges.2.1 152 = .ok (.iastore, 1) := by decide +kernel
theorem d_Mo_judges_153 : decode m_Mo_judges.2.1 153 = .ok (.iinc 3 1, 3) := by decide +kernel
theorem d_Mo_judges_156 : decode m_Mo_judges.2.1 156 = .ok (.goto (-31), 3) := by decide +kernel
theorem d_Mo_judges_159 : decode m_Mo_judges.2.1 159 = .ok (.iinc 2 1, 3) := by decide +kernel
theorem d_Mo_judges_162 : decode m_Mo_judges.2.1 162 = .ok (.goto (-56), 3) := by decide +kernel
theorem d_Mo_judges_165 : decode m_Mo_judges.2.1 165 = .ok (.return_, 1) := by decide +kernel
theorem d_Mo_chosen_0 : decode m_Mo_chosen.2.1 0 = .ok (.aload_n 0, 1) := by decide +kernel
theorem d_Mo_chosen_1 : decode m_Mo_chosen.2.1 1 = .ok (.iconst 0, 1) := by decide +kernel
theorem d_Mo_chosen_2 : decode m_Mo_chosen.2.1 2 = .ok (.putfield 160, 3) := by decide +kernel
theorem d_Mo_chosen_5 : decode m_Mo_chosen.2.1 5 = .ok (.iload_n 1, 1) := by decide +kernel
theorem d_Mo_chosen_6 : decode m_Mo_chosen.2.1 6 = .ok (.ifCond .lt 30, 3) := by decide +kernel
theorem d_Mo_chosen_9 : decode m_Mo_chosen.2.1 9 = .ok (.iload_n 1, 1) := by decide +kernel
theorem d_Mo_chosen_10 : decode m_Mo_chosen.2.1 10 = .ok (.aload_n 0, 1) := by decide +kernel
theorem d_Mo_chosen_11 : decode m_Mo_chosen.2.1 11 = .ok (.getfield 13, 3) := by decide +kernel
theorem d_Mo_chosen_14 : decode m_Mo_chosen.2.1 14 = .ok (.iconst 1, 1) := by decide +kernel
theorem d_Mo_chosen_15 : decode m_Mo_chosen.2.1 15 = .ok (.iaload, 1) := by decide +kernel
theorem d_Mo_chosen_16 : decode m_Mo_chosen.2.1 16 = .ok (.if_icmp .gt 20, 3) := by decide +kernel
theorem d_Mo_chosen_19 : decode m_Mo_chosen.2.1 19 = .ok (.aload_n 0, 1) := by decide +kernel
theorem d_Mo_chosen_20 : decode m_Mo_chosen.2.1 20 = .ok (.iload_n 2, 1) := by decide +kernel
theorem d_Mo_chosen_21 : decode m_Mo_chosen.2.1 21 = .ok (.invokevirtual 317, 3) := by decide +kernel
theorem d_Mo_chosen_24 : decode m_Mo_chosen.2.1 24 = .ok (.ifCond .eq 12, 3) := by decide +kernel
theorem d_Mo_chosen_27 : decode m_Mo_chosen.2.1 27 = .ok (.iload_n 2, 1) := by decide +kernel
theorem d_Mo_chosen_28 : decode m_Mo_chosen.2.1 28 = .ok (.iload_n 1, 1) := by decide +kernel
theorem d_Mo_chosen_29 : decode m_Mo_chosen.2.1 29 = .ok (.if_icmp .ge 7, 3) := by decide +kernel
theorem d_Mo_chosen_32 : decode m_Mo_chosen.2.1 32 = .ok (.iload_n 3, 1) := by decide +kernel
theorem d_Mo_chosen_33 : decode m_Mo_chosen.2.1 33 = .ok (.ifCond .ge 5, 3) := by decide +kernel
theorem d_Mo_chosen_36 : decode m_Mo_chosen.2.1 36 = .ok (.iconst (-1), 1) := by decide +kernel
theorem d_Mo_chosen_37 : decode m_Mo_chosen.2.1 37 = .ok (.ireturn, 1) := by decide +kernel
theorem d_Mo_chosen_38 : decode m_Mo_chosen.2.1 38 = .ok (.aload_n 0, 1) := by decide +kernel
theorem d_Mo_chosen_39 : decode m_Mo_chosen.2.1 39 = .ok (.iload_n 1, 1) := by decide +kernel
theorem d_Mo_chosen_40 : decode m_Mo_chosen.2.1 40 = .ok (.iconst (-1), 1) := by decide +kernel
theorem d_Mo_chosen_41 : decode m_Mo_chosen.2.1 41 = .ok (.invokevirtual 470, 3) := by decide +kernel
theorem d_Mo_chosen_44 : decode m_Mo_chosen.2.1 44 = .ok (.iload_n 3, 1) := by decide +kernel
theorem d_Mo_chosen_45 : decode m_Mo_chosen.2.1 45 = .ok (.aload_n 0, 1) := by decide +kernel
theorem d_Mo_chosen_46 : decode m_Mo_chosen.2.1 46 = .ok (.getfield 136, 3) := by decide +kernel
theorem d_Mo_chosen_49 : decode m_Mo_chosen.2.1 49 = .ok (.iload_n 2, 1) := by decide +kernel
theorem d_Mo_chosen_50 : decode m_Mo_chosen.2.1 50 = .ok (.iaload, 1) := by decide +kernel
theorem d_Mo_chosen_51 : decode m_Mo_chosen.2.1 51 = .ok (.if_icmp .ge 17, 3) := by decide +kernel
theorem d_Mo_chosen_54 : decode m_Mo_chosen.2.1 54 = .ok (.aload_n 0, 1) := by decide +kernel
theorem d_Mo_chosen_55 : decode m_Mo_chosen.2.1 55 = .ok (.getfield 133, 3) := by decide +kernel
theorem d_Mo_chosen_58 : decode m_Mo_chosen.2.1 58 = .ok (.bipush 9, 2) := by decide +kernel
theorem d_Mo_chosen_60 : decode m_Mo_chosen.2.1 60 = .ok (.iload_n 2, 1) := by decide +kernel
theorem d_Mo_chosen_61 : decode m_Mo_chosen.2.1 61 = .ok (.imul, 1) := by decide +kernel
theorem d_Mo_chosen_62 : decode m_Mo_chosen.2.1 62 = .ok (.iload_n 3, 1) := by decide +kernel
theorem d_Mo_chosen_63 : decode m_Mo_chosen.2.1 63 = .ok (.iadd, 1) := by decide +kernel
theorem d_Mo_chosen_64 : decode m_Mo_chosen.2.1 64 = .ok (.iaload, 1) := by decide +kernel
theorem d_Mo_chosen_65 : decode m_Mo_chosen.2.1 65 = .ok (.goto 5, 3) := by decide +kernel
theorem d_Mo_chosen_68 : decode m_Mo_chosen.2.1 68 = .ok (.bipush (-2), 2) := by decide +kernel
theorem d_Mo_chosen_70 : decode m_Mo_chosen.2.1 70 = .ok (.ireturn, 1) := by decide +kernel
theorem d_Mo_many_0 : decode m_Mo_many.2.1 0 = .ok (.aload_n 0, 1) := by decide +kernel
theorem d_Mo_many_1 : decode m_Mo_many.2.1 1 = .ok (.iconst 0, 1) := by decide +kernel
theorem d_Mo_many_2 : decode m_Mo_many.2.1 2 = .ok (.putfield 160, 3) := by decide +kernel
theorem d_Mo_many_5 : decode m_Mo_many.2.1 5 = .ok (.aload_n 0, 1) := by decide +kernel
theorem d_Mo_many_6 : decode m_Mo_many.2.1 6 = .ok (.invokevirtual 406, 3) := by decide +kernel
theorem d_Mo_many_9 : decode m_Mo_many.2.1 9 = .ok (.aload_n 0, 1) := by decide +kernel
theorem d_Mo_many_10 : decode m_Mo_many.2.1 10 = .ok (.invokevirtual 394, 3) := by decide +kernel
theorem d_Mo_many_13 : decode m_Mo_many.2.1 13 = .ok (.iconst 0, 1) := by decide +kernel
theorem d_Mo_many_14 : decode m_Mo_many.2.1 14 = .ok (.istore_n 1, 1) := by decide +kernel
theorem d_Mo_many_15 : decode m_Mo_many.2.1 15 = .ok (.iconst 0, 1) := by decide +kernel
theorem d_Mo_many_16 : decode m_Mo_many.2.1 16 = .ok (.istore_n 2, 1) := by decide +kernel
theorem d_Mo_many_17 : decode m_Mo_many.2.1 17 = .ok (.iload_n 2, 1) := by decide +kernel
theorem d_Mo_many_18 : decode m_Mo_many.2.1 18 = .ok (.aload_n 0, 1) := by decide +kernel
theorem d_Mo_many_19 : decode m_Mo_many.2.1 19 = .ok (.getfield 13, 3) := by decide +kernel
theorem d_Mo_many_22 : decode m_Mo_many.2.1 22 = .ok (.iconst 0, 1) := by decide +kernel
theorem d_Mo_many_23 : decode m_Mo_many.2.1 23 = .ok (.iaload, 1) := by decide +kernel
theorem d_Mo_many_24 : decode m_Mo_many.2.1 24 = .ok (.if_icmp .ge 54, 3) := by decide +kernel
theorem d_Mo_many_27 : decode m_Mo_many.2.1 27 = .ok (.iload_n 1, 1) := by decide +kernel
theorem d_Mo_many_28 : decode m_Mo_many.2.1 28 = .ok (.aload_n 0, 1) := by decide +kernel
theorem d_Mo_many_29 : decode m_Mo_many.2.1 29 = .ok (.getfield 63, 3) := by decide +kernel
theorem d_Mo_many_32 : decode m_Mo_many.2.1 32 = .ok (.iconst 0, 1) := by decide +kernel
theorem d_Mo_many_33 : decode m_Mo_many.2.1 33 = .ok (.iaload, 1) := by decide +kernel
theorem d_Mo_many_34 : decode m_Mo_many.2.1 34 = .ok (.iload_n 2, 1) := by decide +kernel
theorem d_Mo_many_35 : decode m_Mo_many.2.1 35 = .ok (.ishr, 1) := by decide +kernel
theorem d_Mo_many_36 : decode m_Mo_many.2.1 36 = .ok (.iconst 1, 1) := by decide +kernel
theorem d_Mo_many_37 : decode m_Mo_many.2.1 37 = .ok (.iand, 1) := by decide +kernel
theorem d_Mo_many_38 : decode m_Mo_many.2.1 38 = .ok (.iconst 1, 1) := by decide +kernel
theorem d_Mo_many_39 : decode m_Mo_many.2.1 39 = .ok (.if_icmp .ne 25, 3) := by decide +kernel
theorem d_Mo_many_42 : decode m_Mo_many.2.1 42 = .ok (.aload_n 0, 1) := by decide +kernel
theorem d_Mo_many_43 : decode m_Mo_many.2.1 43 = .ok (.getfield 127, 3) := by decide +kernel
theorem d_Mo_many_46 : decode m_Mo_many.2.1 46 = .ok (.iload_n 2, 1) := by decide +kernel
theorem d_Mo_many_47 : decode m_Mo_many.2.1 47 = .ok (.iaload, 1) := by decide +kernel
theorem d_Mo_many_48 : decode m_Mo_many.2.1 48 = .ok (.bipush (-2), 2) := by decide +kernel
theorem d_Mo_many_50 : decode m_Mo_many.2.1 50 = .ok (.if_icmp .eq 14, 3) := by decide +kernel
theorem d_Mo_many_53 : decode m_Mo_many.2.1 53 = .ok (.aload_n 0, 1) := by decide +kernel
theorem d_Mo_many_54 : decode m_Mo_many.2.1 54 = .ok (.getfield 22, 3) := by decide +kernel
theorem d_Mo_many_57 : decode m_Mo_many.2.1 57 = .ok (.iload_n 2, 1) := by decide +kernel
theorem d_Mo_many_58 : decode m_Mo_many.2.1 58 = .ok (.iaload, 1) := by decide +kernel
theorem d_Mo_many_59 : decode m_Mo_many.2.1 59 = .ok (.iconst 2, 1) := by decide +kernel
theorem d_Mo_many_60 : decode m_Mo_many.2.1 60 = .ok (.idiv, 1) := by decide +kernel
theorem d_Mo_many_61 : decode m_Mo_many.2.1 61 = .ok (.goto 9, 3) := by decide +kernel
theorem d_Mo_many_64 : decode m_Mo_many.2.1 64 = .ok (.aload_n 0, 1) := by decide +kernel
theorem d_Mo_many_65 : decode m_Mo_many.2.1 65 = .ok (.getfield 22, 3) := by decide +kernel
theorem d_Mo_many_68 : decode m_Mo_many.2.1 68 = .ok (.iload_n 2, 1) := by decide +kernel
theorem d_Mo_many_69 : decode m_Mo_many.2.1 69 = .ok (.iaload, 1) := by decide +kernel
theorem d_Mo_many_70 : decode m_Mo_many.2.1 70 = .ok (.iadd, 1) := by decide +kernel
theorem d_Mo_many_71 : decode m_Mo_many.2.1 71 = .ok (.istore_n 1, 1) := by decide +kernel
theorem d_Mo_many_72 : decode m_Mo_many.2.1 72 = .ok (.iinc 2 1, 3) := by decide +kernel
theorem d_Mo_many_75 : decode m_Mo_many.2.1 75 = .ok (.goto (-58), 3) := by decide +kernel
theorem d_Mo_many_78 : decode m_Mo_many.2.1 78 = .ok (.iconst 0, 1) := by decide +kernel
theorem d_Mo_many_79 : decode m_Mo_many.2.1 79 = .ok (.istore_n 2, 1) := by decide +kernel
theorem d_Mo_many_80 : decode m_Mo_many.2.1 80 = .ok (.iload_n 2, 1) := by decide +kernel
theorem d_Mo_many_81 : decode m_Mo_many.2.1 81 = .ok (.aload_n 0, 1) := by decide +kernel
theorem d_Mo_many_82 : decode m_Mo_many.2.1 82 = .ok (.getfield 13, 3) := by decide +kernel
theorem d_Mo_many_85 : decode m_Mo_many.2.1 85 = .ok (.iconst 1, 1) := by decide +kernel
theorem d_Mo_many_86 : decode m_Mo_many.2.1 86 = .ok (.iaload, 1) := by decide +kernel
theorem d_Mo_many_87 : decode m_Mo_many.2.1 87 = .ok (.if_icmp .gt 25, 3) := by decide +kernel
theorem d_Mo_many_90 : decode m_Mo_many.2.1 90 = .ok (.aload_n 0, 1) := by decide +kernel
theorem d_Mo_many_91 : decode m_Mo_many.2.1 91 = .ok (.iload_n 2, 1) := by decide +kernel
theorem d_Mo_many_92 : decode m_Mo_many.2.1 92 = .ok (.iconst (-1), 1) := by decide +kernel
theorem d_Mo_many_93 : decode m_Mo_many.2.1 93 = .ok (.invokevirtual 470, 3) := by decide +kernel
theorem d_Mo_many_96 : decode m_Mo_many.2.1 96 = .ok (.aload_n 0, 1) := by decide +kernel
theorem d_Mo_many_97 : decode m_Mo_many.2.1 97 = .ok (.getfield 458, 3) := by decide +kernel
theorem d_Mo_many_100 : decode m_Mo_many.2.1 100 = .ok (.iload_n 1, 1) := by decide +kernel
theorem d_Mo_many_101 : decode m_Mo_many.2.1 101 = .ok (.if_icmp .ne 5, 3) := by decide +kernel
theorem d_Mo_many_104 : decode m_Mo_many.2.1 104 = .ok (.iload_n 2, 1) := by decide +kernel
theorem d_Mo_many_105 : decode m_Mo_many.2.1 105 = .ok (.ireturn, 1) := by decide +kernel
theorem d_Mo_many_106 : decode m_Mo_many.2.1 106 = .ok (.iinc 2 1, 3) := by decide +kernel
theorem d_Mo_many_109 : decode m_Mo_many.2.1 109 = .ok (.goto (-29), 3) := by decide +kernel
theorem d_Mo_many_112 : decode m_Mo_many.2.1 112 = .ok (.bipush (-2), 2) := by decide +kernel
theorem d_Mo_many_114 : decode m_Mo_many.2.1 114 = .ok (.ireturn, 1) := by decide +kernel
theorem d_Mo_price_0 : decode m_Mo_price.2.1 0 = .ok (.aload_n 0, 1) := by decide +kernel
theorem d_Mo_price_1 : decode m_Mo_price.2.1 1 = .ok (.iconst 0, 1) := by decide +kernel
theorem d_Mo_price_2 : decode m_Mo_price.2.1 2 = .ok (.putfield 160, 3) := by decide +kernel
theorem d_Mo_price_5 : decode m_Mo_price.2.1 5 = .ok (.aload_n 0, 1) := by decide +kernel
theorem d_Mo_price_6 : decode m_Mo_price.2.1 6 = .ok (.iload_n 1, 1) := by decide +kernel
theorem d_Mo_price_7 : decode m_Mo_price.2.1 7 = .ok (.invokevirtual 314, 3) := by decide +kernel
theorem d_Mo_price_10 : decode m_Mo_price.2.1 10 = .ok (.ifCond .ne 5, 3) := by decide +kernel
theorem d_Mo_price_13 : decode m_Mo_price.2.1 13 = .ok (.iconst (-1), 1) := by decide +kernel
theorem d_Mo_price_14 : decode m_Mo_price.2.1 14 = .ok (.ireturn, 1) := by decide +kernel
theorem d_Mo_price_15 : decode m_Mo_price.2.1 15 = .ok (.aload_n 0, 1) := by decide +kernel
theorem d_Mo_price_16 : decode m_Mo_price.2.1 16 = .ok (.aload_n 0, 1) := by decide +kernel
theorem d_Mo_price_17 : decode m_Mo_price.2.1 17 = .ok (.getfield 13, 3) := by decide +kernel
theorem d_Mo_price_20 : decode m_Mo_price.2.1 20 = .ok (.iconst 1, 1) := by decide +kernel
theorem d_Mo_price_21 : decode m_Mo_price.2.1 21 = .ok (.iaload, 1) := by decide +kernel
theorem d_Mo_price_22 : decode m_Mo_price.2.1 22 = .ok (.iconst (-1), 1) := by decide +kernel
theorem d_Mo_price_23 : decode m_Mo_price.2.1 23 = .ok (.invokevirtual 470, 3) := by decide +kernel
theorem d_Mo_price_26 : decode m_Mo_price.2.1 26 = .ok (.aload_n 0, 1) := by decide +kernel
theorem d_Mo_price_27 : decode m_Mo_price.2.1 27 = .ok (.getfield 458, 3) := by decide +kernel
theorem d_Mo_price_30 : decode m_Mo_price.2.1 30 = .ok (.istore_n 2, 1) := by decide +kernel
theorem d_Mo_price_31 : decode m_Mo_price.2.1 31 = .ok (.iconst 0, 1) := by decide +kernel
theorem d_Mo_price_32 : decode m_Mo_price.2.1 32 = .ok (.istore_n 3, 1) := by decide +kernel
theorem d_Mo_price_33 : decode m_Mo_price.2.1 33 = .ok (.iload_n 3, 1) := by decide +kernel
theorem d_Mo_price_34 : decode m_Mo_price.2.1 34 = .ok (.iconst 3, 1) := by decide +kernel
theorem d_Mo_price_35 : decode m_Mo_price.2.1 35 = .ok (.if_icmp .ge 61, 3) := by decide +kernel
theorem d_Mo_price_38 : decode m_Mo_price.2.1 38 = .ok (.aload_n 0, 1) := by decide +kernel
theorem d_Mo_price_39 : decode m_Mo_price.2.1 39 = .ok (.getfield 100, 3) := by decide +kernel
theorem d_Mo_price_42 : decode m_Mo_price.2.1 42 = .ok (.iload_n 3, 1) := by decide +kernel
theorem d_Mo_price_43 : decode m_Mo_price.2.1 43 = .ok (.aload_n 0, 1) := by decide +kernel
theorem d_Mo_price_44 : decode m_Mo_price.2.1 44 = .ok (.getfield 136, 3) := by decide +kernel
theorem d_Mo_price_47 : decode m_Mo_price.2.1 47 = .ok (.iload_n 3, 1) := by decide +kernel
theorem d_Mo_price_48 : decode m_Mo_price.2.1 48 = .ok (.iaload, 1) := by decide +kernel
theorem d_Mo_price_49 : decode m_Mo_price.2.1 49 = .ok (.iastore, 1) := by decide +kernel
theorem d_Mo_price_50 : decode m_Mo_price.2.1 50 = .ok (.iconst 0, 1) := by decide +kernel
theorem d_Mo_price_51 : decode m_Mo_price.2.1 51 = .ok (.istore 4, 2) := by decide +kernel
theorem d_Mo_price_53 : decode m_Mo_price.2.1 53 = .ok (.iload 4, 2) := by decide +kernel
theorem d_Mo_price_55 : decode m_Mo_price.2.1 55 = .ok (.bipush 9, 2) := by decide +kernel
theorem d_Mo_price_57 : decode m_Mo_price.2.1 57 = .ok (.if_icmp .ge 33, 3) := by decide +kernel
theorem d_Mo_price_60 : decode m_Mo_price.2.1 60 = .ok (.aload_n 0, 1) := by decide +kernel
theorem d_Mo_price_61 : decode m_Mo_price.2.1 61 = .ok (.getfield 97, 3) := by decide +kernel
theorem d_Mo_price_64 : decode m_Mo_price.2.1 64 = .ok (.bipush 9, 2) := by decide +kernel
theorem d_Mo_price_66 : decode m_Mo_price.2.1 66 = .ok (.iload_n 3, 1) := by decide +kernel
theorem d_Mo_price_67 : decode m_Mo_price.2.1 67 = .ok (.imul, 1) := by decide +kernel
theorem d_Mo_price_68 : decode m_Mo_price.2.1 68 = .ok (.iload 4, 2) := by decide +kernel
theorem d_Mo_price_70 : decode m_Mo_price.2.1 70 = .ok (.iadd, 1) := by decide +kernel
theorem d_Mo_price_71 : decode m_Mo_price.2.1 71 = .ok (.aload_n 0, 1) := by decide +kernel
theorem d_Mo_price_72 : decode m_Mo_price.2.1 72 = .ok (.getfield 133, 3) := by decide +kernel
theorem d_Mo_price_75 : decode m_Mo_price.2.1 75 = .ok (.bipush 9, 2) := by decide +kernel
theorem d_Mo_price_77 : decode m_Mo_price.2.1 77 = .ok (.iload_n 3, 1) := by decide +kernel
theorem d_Mo_price_78 : decode m_Mo_price.2.1 78 = .ok (.imul, 1) := by decide +kernel
theorem d_Mo_price_79 : decode m_Mo_price.2.1 79 = .ok (.iload 4, 2) := by decide +kernel
theorem d_Mo_price_81 : decode m_Mo_price.2.1 81 = .ok (.iadd, 1) := by decide +kernel
theorem d_Mo_price_82 : decode m_Mo_price.2.1 82 = .ok (.iaload, 1) := by decide +kernel
theorem d_Mo_price_83 : decode m_Mo_price.2.1 83 = .ok (.iastore, 1) := by decide +kernel
theorem d_Mo_price_84 : decode m_Mo_price.2.1 84 = .ok (.iinc 4 1, 3) := by decide +kernel
theorem d_Mo_price_87 : decode m_Mo_price.2.1 87 = .ok (.goto (-34), 3) := by decide +kernel
theorem d_Mo_price_90 : decode m_Mo_price.2.1 90 = .ok (.iinc 3 1, 3) := by decide +kernel
theorem d_Mo_price_93 : decode m_Mo_price.2.1 93 = .ok (.goto (-60), 3) := by decide +kernel
theorem d_Mo_price_96 : decode m_Mo_price.2.1 96 = .ok (.aload_n 0, 1) := by decide +kernel
theorem d_Mo_price_97 : decode m_Mo_price.2.1 97 = .ok (.sipush 240, 3) := by decide +kernel
theorem d_Mo_price_100 : decode m_Mo_price.2.1 100 = .ok (.invokevirtual 409, 3) := by decide +kernel
theorem d_Mo_price_103 : decode m_Mo_price.2.1 103 = .ok (.iload_n 2, 1) := by decide +kernel
theorem d_Mo_price_104 : decode m_Mo_price.2.1 104 = .ok (.aload_n 0, 1) := by decide +kernel
theorem d_Mo_price_105 : decode m_Mo_price.2.1 105 = .ok (.iload_n 1, 1) := by decide +kernel
theorem d_Mo_price_106 : decode m_Mo_price.2.1 106 = .ok (.invokevirtual 403, 3) := by decide +kernel
theorem d_Mo_price_109 : decode m_Mo_price.2.1 109 = .ok (.isub, 1) := by decide +kernel
theorem d_Mo_price_110 : decode m_Mo_price.2.1 110 = .ok (.istore_n 3, 1) := by decide +kernel
theorem d_Mo_price_111 : decode m_Mo_price.2.1 111 = .ok (.aload_n 0, 1) := by decide +kernel
theorem d_Mo_price_112 : decode m_Mo_price.2.1 112 = .ok (.aload_n 0, 1) := by decide +kernel
theorem d_Mo_price_113 : decode m_Mo_price.2.1 113 = .ok (.getfield 13, 3) := by decide +kernel
theorem d_Mo_price_116 : decode m_Mo_price.2.1 116 = .ok (.iconst 1, 1) := by decide +kernel
theorem d_Mo_price_117 : decode m_Mo_price.2.1 117 = .ok (.iaload, 1) := by decide +kernel
theorem d_Mo_price_118 : decode m_Mo_price.2.1 118 = .ok (.iload_n 1, 1) := by decide +kernel
theorem d_Mo_price_119 : decode m_Mo_price.2.1 119 = .ok (.invokevirtual 470, 3) := by decide +kernel
theorem d_Mo_price_122 : decode m_Mo_price.2.1 122 = .ok (.aload_n 0, 1) := by decide +kernel
theorem d_Mo_price_123 : decode m_Mo_price.2.1 123 = .ok (.getfield 458, 3) := by decide +kernel
theorem d_Mo_price_126 : decode m_Mo_price.2.1 126 = .ok (.iload_n 3, 1) := by decide +kernel
theorem d_Mo_price_127 : decode m_Mo_price.2.1 127 = .ok (.isub, 1) := by decide +kernel
theorem d_Mo_price_128 : decode m_Mo_price.2.1 128 = .ok (.ireturn, 1) := by decide +kernel
theorem d_Mo_all_0 : decode m_Mo_all.2.1 0 = .ok (.aload_n 0, 1) := by decide +kernel
theorem d_Mo_all_1 : decode m_Mo_all.2.1 1 = .ok (.iconst 0, 1) := by decide +kernel
theorem d_Mo_all_2 : decode m_Mo_all.2.1 2 = .ok (.putfield 160, 3) := by decide +kernel
theorem d_Mo_all_5 : decode m_Mo_all.2.1 5 = .ok (.iload_n 1, 1) := by decide +kernel
theorem d_Mo_all_6 : decode m_Mo_all.2.1 6 = .ok (.ifCond .lt 15, 3) := by decide +kernel
theorem d_Mo_all_9 : decode m_Mo_all.2.1 9 = .ok (.iload_n 1, 1) := by decide +kernel
theorem d_Mo_all_10 : decode m_Mo_all.2.1 10 = .ok (.iconst 1, 1) := by decide +kernel
theorem d_Mo_all_11 : decode m_Mo_all.2.1 11 = .ok (.aload_n 0, 1) := by decide +kernel
theorem d_Mo_all_12 : decode m_Mo_all.2.1 12 = .ok (.getfield 13, 3) := by decide +kernel
theorem d_Mo_all_15 : decode m_Mo_all.2.1 15 = .ok (.iconst 0, 1) := by decide +kernel
theorem d_Mo_all_16 : decode m_Mo_all.2.1 16 = .ok (.iaload, 1) := by decide +kernel
theorem d_Mo_all_17 : decode m_Mo_all.2.1 17 = .ok (.ishl, 1) := by decide +kernel
theorem d_Mo_all_18 : decode m_Mo_all.2.1 18 = .ok (.if_icmp .lt 5, 3) := by decide +kernel
theorem d_Mo_all_21 : decode m_Mo_all.2.1 21 = .ok (.iconst (-1), 1) := by decide +kernel
theorem d_Mo_all_22 : decode m_Mo_all.2.1 22 = .ok (.ireturn, 1) := by decide +kernel
theorem d_Mo_all_23 : decode m_Mo_all.2.1 23 = .ok (.aload_n 0, 1) := by decide +kernel
theorem d_Mo_all_24 : decode m_Mo_all.2.1 24 = .ok (.invokevirtual 406, 3) := by decide +kernel
theorem d_Mo_all_27 : decode m_Mo_all.2.1 27 = .ok (.iconst 0, 1) := by decide +kernel
theorem d_Mo_all_28 : decode m_Mo_all.2.1 28 = .ok (.istore_n 2, 1) := by decide +kernel
theorem d_Mo_all_29 : decode m_Mo_all.2.1 29 = .ok (.iload_n 2, 1) := by decide +kernel
theorem d_Mo_all_30 : decode m_Mo_all.2.1 30 = .ok (.iconst 3, 1) := by decide +kernel
theorem d_Mo_all_31 : decode m_Mo_all.2.1 31 = .ok (.if_icmp .ge 16, 3) := by decide +kernel
theorem d_Mo_all_34 : decode m_Mo_all.2.1 34 = .ok (.aload_n 0, 1) := by decide +kernel
theorem d_Mo_all_35 : decode m_Mo_all.2.1 35 = .ok (.getfield 100, 3) := by decide +kernel
theorem d_Mo_all_38 : decode m_Mo_all.2.1 38 = .ok (.iload_n 2, 1) := by decide +kernel
theorem d_Mo_all_39 : decode m_Mo_all.2.1 39 = .ok (.iconst 0, 1) := by decide +kernel
theorem d_Mo_all_40 : decode m_Mo_all.2.1 40 = .ok (.iastore, 1) := by decide +kernel
theorem d_Mo_all_41 : decode m_Mo_all.2.1 41 = .ok (.iinc 2 1, 3) := by decide +kernel
theorem d_Mo_all_44 : decode m_Mo_all.2.1 44 = .ok (.goto (-15), 3) := by decide +kernel
theorem d_Mo_all_47 : decode m_Mo_all.2.1 47 = .ok (.aload_n 0, 1) := by decide +kernel
theorem d_Mo_all_48 : decode m_Mo_all.2.1 48 = .ok (.aload_n 0, 1) := by decide +kernel
theorem d_Mo_all_49 : decode m_Mo_all.2.1 49 = .ok (.getfield 13, 3) := by decide +kernel
theorem d_Mo_all_52 : decode m_Mo_all.2.1 52 = .ok (.iconst 1, 1) := by decide +kernel
theorem d_Mo_all_53 : decode m_Mo_all.2.1 53 = .ok (.iaload, 1) := by decide +kernel
theorem d_Mo_all_54 : decode m_Mo_all.2.1 54 = .ok (.putfield 461, 3) := by decide +kernel
theorem d_Mo_all_57 : decode m_Mo_all.2.1 57 = .ok (.aload_n 0, 1) := by decide +kernel
theorem d_Mo_all_58 : decode m_Mo_all.2.1 58 = .ok (.iload_n 1, 1) := by decide +kernel
theorem d_Mo_all_59 : decode m_Mo_all.2.1 59 = .ok (.putfield 452, 3) := by decide +kernel
theorem d_Mo_all_62 : decode m_Mo_all.2.1 62 = .ok (.aload_n 0, 1) := by decide +kernel
theorem d_Mo_all_63 : decode m_Mo_all.2.1 63 = .ok (.iconst 0, 1) := by decide +kernel
theorem d_Mo_all_64 : decode m_Mo_all.2.1 64 = .ok (.putfield 455, 3) := by decide +kernel
theorem d_Mo_all_67 : decode m_Mo_all.2.1 67 = .ok (.aload_n 0, 1) := by decide +kernel
theorem d_Mo_all_68 : decode m_Mo_all.2.1 68 = .ok (.iconst 0, 1) := by decide +kernel
theorem d_Mo_all_69 : decode m_Mo_all.2.1 69 = .ok (.iconst 0, 1) := by decide +kernel
theorem d_Mo_all_70 : decode m_Mo_all.2.1 70 = .ok (.invokevirtual 467, 3) := by decide +kernel
theorem d_Mo_all_73 : decode m_Mo_all.2.1 73 = .ok (.aload_n 0, 1) := by decide +kernel
theorem d_Mo_all_74 : decode m_Mo_all.2.1 74 = .ok (.iconst (-1), 1) := by decide +kernel
theorem d_Mo_all_75 : decode m_Mo_all.2.1 75 = .ok (.putfield 452, 3) := by decide +kernel
theorem d_Mo_all_78 : decode m_Mo_all.2.1 78 = .ok (.aload_n 0, 1) := by decide +kernel
theorem d_Mo_all_79 : decode m_Mo_all.2.1 79 = .ok (.getfield 455, 3) := by decide +kernel
theorem d_Mo_all_82 : decode m_Mo_all.2.1 82 = .ok (.istore_n 2, 1) := by decide +kernel
theorem d_Mo_all_83 : decode m_Mo_all.2.1 83 = .ok (.aload_n 0, 1) := by decide +kernel
theorem d_Mo_all_84 : decode m_Mo_all.2.1 84 = .ok (.iconst 0, 1) := by decide +kernel
theorem d_Mo_all_85 : decode m_Mo_all.2.1 85 = .ok (.putfield 455, 3) := by decide +kernel
theorem d_Mo_all_88 : decode m_Mo_all.2.1 88 = .ok (.iload_n 2, 1) := by decide +kernel
theorem d_Mo_all_89 : decode m_Mo_all.2.1 89 = .ok (.ifCond .eq 7, 3) := by decide +kernel
theorem d_Mo_all_92 : decode m_Mo_all.2.1 92 = .ok (.iconst 1, 1) := by decide +kernel
theorem d_Mo_all_93 : decode m_Mo_all.2.1 93 = .ok (.goto 4, 3) := by decide +kernel
theorem d_Mo_all_96 : decode m_Mo_all.2.1 96 = .ok (.iconst 0, 1) := by decide +kernel
theorem d_Mo_all_97 : decode m_Mo_all.2.1 97 = .ok (.ireturn, 1) := by decide +kernel
theorem d_Mo_refusal_0 : decode m_Mo_refusal.2.1 0 = .ok (.aload_n 0, 1) := by decide +kernel
theorem d_Mo_refusal_1 : decode m_Mo_refusal.2.1 1 = .ok (.iconst 0, 1) := by decide +kernel
theorem d_Mo_refusal_2 : decode m_Mo_refusal.2.1 2 = .ok (.putfield 160, 3) := by decide +kernel
theorem d_Mo_refusal_5 : decode m_Mo_refusal.2.1 5 = .ok (.iload_n 1, 1) := by decide +kernel
theorem d_Mo_refusal_6 : decode m_Mo_refusal.2.1 6 = .ok (.ifCond .lt 8, 3) := by decide +kernel
theorem d_Mo_refusal_9 : decode m_Mo_refusal.2.1 9 = .ok (.iload_n 1, 1) := by decide +kernel
theorem d_Mo_refusal_10 : decode m_Mo_refusal.2.1 10 = .ok (.iconst 1, 1) := by decide +kernel
theorem d_Mo_refusal_11 : decode m_Mo_refusal.2.1 11 = .ok (.if_icmp .le 5, 3) := by decide +kernel
theorem d_Mo_refusal_14 : decode m_Mo_refusal.2.1 14 = .ok (.iconst (-1), 1) := by decide +kernel
theorem d_Mo_refusal_15 : decode m_Mo_refusal.2.1 15 = .ok (.ireturn, 1) := by decide +kernel
theorem d_Mo_refusal_16 : decode m_Mo_refusal.2.1 16 = .ok (.aload_n 0, 1) := by decide +kernel
theorem d_Mo_refusal_17 : decode m_Mo_refusal.2.1 17 = .ok (.invokevirtual 406, 3) := by decide +kernel
theorem d_Mo_refusal_20 : decode m_Mo_refusal.2.1 20 = .ok (.iconst (-1), 1) := by decide +kernel
theorem d_Mo_refusal_21 : decode m_Mo_refusal.2.1 21 = .ok (.istore_n 2, 1) := by decide +kernel
theorem d_Mo_refusal_22 : decode m_Mo_refusal.2.1 22 = .ok (.iconst (-1), 1) := by decide +kernel
theorem d_Mo_refusal_23 : decode m_Mo_refusal.2.1 23 = .ok (.istore_n 3, 1) := by decide +kernel
theorem d_Mo_refusal_24 : decode m_Mo_refusal.2.1 24 = .ok (.iconst 0, 1) := by decide +kernel
theorem d_Mo_refusal_25 : decode m_Mo_refusal.2.1 25 = .ok (.istore 4, 2) := by decide +kernel
theorem d_Mo_refusal_27 : decode m_Mo_refusal.2.1 27 = .ok (.iload 4, 2) := by decide +kernel
theorem d_Mo_refusal_29 : decode m_Mo_refusal.2.1 29 = .ok (.iconst 1, 1) := by decide +kernel
theorem d_Mo_refusal_30 : decode m_Mo_refusal.2.1 30 = .ok (.aload_n 0, 1) := by decide +kernel
theorem d_Mo_refusal_31 : decode m_Mo_refusal.2.1 31 = .ok (.getfield 13, 3) := by decide +kernel
theorem d_Mo_refusal_34 : decode m_Mo_refusal.2.1 34 = .ok (.iconst 0, 1) := by decide +kernel
theorem d_Mo_refusal_35 : decode m_Mo_refusal.2.1 35 = .ok (.iaload, 1) := by decide +kernel
theorem d_Mo_refusal_36 : decode m_Mo_refusal.2.1 36 = .ok (.ishl, 1) := by decide +kernel
theorem d_Mo_refusal_37 : decode m_Mo_refusal.2.1 37 = .ok (.if_icmp .ge 66, 3) := by decide +kernel
theorem d_Mo_refusal_40 : decode m_Mo_refusal.2.1 40 = .ok (.aload_n 0, 1) := by decide +kernel
theorem d_Mo_refusal_41 : decode m_Mo_refusal.2.1 41 = .ok (.iload 4, 2) := by decide +kernel
theorem d_Mo_refusal_43 : decode m_Mo_refusal.2.1 43 = .ok (.putfield 380, 3) := by decide +kernel
theorem d_Mo_refusal_46 : decode m_Mo_refusal.2.1 46 = .ok (.aload_n 0, 1) := by decide +kernel
theorem d_Mo_refusal_47 : decode m_Mo_refusal.2.1 47 = .ok (.sipush 240, 3) := by decide +kernel
theorem d_Mo_refusal_50 : decode m_Mo_refusal.2.1 50 = .ok (.invokevirtual 409, 3) := by decide +kernel
theorem d_Mo_refusal_53 : decode m_Mo_refusal.2.1 53 = .ok (.aload_n 0, 1) := by decide +kernel
theorem d_Mo_refusal_54 : decode m_Mo_refusal.2.1 54 = .ok (.invokevirtual 412, 3) := by decide +kernel
theorem d_Mo_refusal_57 : decode m_Mo_refusal.2.1 57 = .ok (.istore 5, 2) := by decide +kernel
theorem d_Mo_refusal_59 : decode m_Mo_refusal.2.1 59 = .ok (.iload_n 2, 1) := by decide +kernel
theorem d_Mo_refusal_60 : decode m_Mo_refusal.2.1 60 = .ok (.iconst (-1), 1) := by decide +kernel
theorem d_Mo_refusal_61 : decode m_Mo_refusal.2.1 61 = .ok (.if_icmp .eq 30, 3) := by decide +kernel
theorem d_Mo_refusal_64 : decode m_Mo_refusal.2.1 64 = .ok (.iload 5, 2) := by decide +kernel
theorem d_Mo_refusal_66 : decode m_Mo_refusal.2.1 66 = .ok (.iload_n 3, 1) := by decide +kernel
theorem d_Mo_refusal_67 : decode m_Mo_refusal.2.1 67 = .ok (.if_icmp .lt 30, 3) := by decide +kernel
theorem d_Mo_refusal_70 : decode m_Mo_refusal.2.1 70 = .ok (.iload 5, 2) := by decide +kernel
theorem d_Mo_refusal_72 : decode m_Mo_refusal.2.1 72 = .ok (.iload_n 3, 1) := by decide +kernel
theorem d_Mo_refusal_73 : decode m_Mo_refusal.2.1 73 = .ok (.if_icmp .ne 18, 3) := by decide +kernel
theorem d_Mo_refusal_76 : decode m_Mo_refusal.2.1 76 = .ok (.iload 4, 2) := by decide +kernel
theorem d_Mo_refusal_78 : decode m_Mo_refusal.2.1 78 = .ok (.invokestatic 473, 3) := by decide +kernel
theorem d_Mo_refusal_81 : decode m_Mo_refusal.2.1 81 = .ok (.iload_n 2, 1) := by decide +kernel
theorem d_Mo_refusal_82 : decode m_Mo_refusal.2.1 82 = .ok (.invokestatic 473, 3) := by decide +kernel
theorem d_Mo_refusal_85 : decode m_Mo_refusal.2.1 85 = .ok (.if_icmp .lt 6, 3) := by decide +kernel
theorem d_Mo_refusal_88 : decode m_Mo_refusal.2.1 88 = .ok (.goto 9, 3) := by decide +kernel
theorem d_Mo_refusal_91 : decode m_Mo_refusal.2.1 91 = .ok (.iload 4, 2) := by decide +kernel
theorem d_Mo_refusal_93 : decode m_Mo_refusal.2.1 93 = .ok (.istore_n 2, 1) := by decide +kernel
theorem d_Mo_refusal_94 : decode m_Mo_refusal.2.1 94 = .ok (.iload 5, 2) := by decide +kernel
theorem d_Mo_refusal_96 : decode m_Mo_refusal.2.1 96 = .ok (.istore_n 3, 1) := by decide +kernel
theorem d_Mo_refusal_97 : decode m_Mo_refusal.2.1 97 = .ok (.iinc 4 1, 3) := by decide +kernel
theorem d_Mo_refusal_100 : decode m_Mo_refusal.2.1 100 = .ok (.goto (-73), 3) := by decide +kernel
theorem d_Mo_refusal_103 : decode m_Mo_refusal.2.1 103 = .ok (.iload_n 1, 1) := by decide +kernel
theorem d_Mo_refusal_104 : decode m_Mo_refusal.2.1 104 = .ok (.ifCond .ne 7, 3) := by decide +kernel
theorem d_Mo_refusal_107 : decode m_Mo_refusal.2.1 107 = .ok (.iload_n 3, 1) := by decide +kernel
theorem d_Mo_refusal_108 : decode m_Mo_refusal.2.1 108 = .ok (.goto 4, 3) := by decide +kernel
theorem d_Mo_refusal_111 : decode m_Mo_refusal.2.1 111 = .ok (.iload_n 2, 1) := by decide +kernel
theorem d_Mo_refusal_112 : decode m_Mo_refusal.2.1 112 = .ok (.ireturn, 1) := by decide +kernel
theorem d_Mo_bitsOf_0 : decode m_Mo_bitsOf.2.1 0 = .ok (.iconst 0, 1) := by decide +kernel
theorem d_Mo_bitsOf_1 : decode m_Mo_bitsOf.2.1 1 = .ok (.istore_n 1, 1) := by decide +kernel
theorem d_Mo_bitsOf_2 : decode m_Mo_bitsOf.2.1 2 = .ok (.iconst 0, 1) := by decide +kernel
theorem d_Mo_bitsOf_3 : decode m_Mo_bitsOf.2.1 3 = .ok (.istore_n 2, 1) := by decide +kernel
theorem d_Mo_bitsOf_4 : decode m_Mo_bitsOf.2.1 4 = .ok (.iload_n 2, 1) := by decide +kernel
theorem d_Mo_bitsOf_5 : decode m_Mo_bitsOf.2.1 5 = .ok (.bipush 6, 2) := by decide +kernel
theorem d_Mo_bitsOf_7 : decode m_Mo_bitsOf.2.1 7 = .ok (.if_icmp .ge 17, 3) := by decide +kernel
theorem d_Mo_bitsOf_10 : decode m_Mo_bitsOf.2.1 10 = .ok (.iload_n 1, 1) := by decide +kernel
theorem d_Mo_bitsOf_11 : decode m_Mo_bitsOf.2.1 11 = .ok (.iload_n 0, 1) := by decide +kernel
theorem d_Mo_bitsOf_12 : decode m_Mo_bitsOf.2.1 12 = .ok (.iload_n 2, 1) := by decide +kernel
theorem d_Mo_bitsOf_13 : decode m_Mo_bitsOf.2.1 13 = .ok (.ishr, 1) := by decide +kernel
theorem d_Mo_bitsOf_14 : decode m_Mo_bitsOf.2.1 14 = .ok (.iconst 1, 1) := by decide +kernel
theorem d_Mo_bitsOf_15 : decode m_Mo_bitsOf.2.1 15 = .ok (.iand, 1) := by decide +kernel
theorem d_Mo_bitsOf_16 : decode m_Mo_bitsOf.2.1 16 = .ok (.iadd, 1) := by decide +kernel
theorem d_Mo_bitsOf_17 : decode m_Mo_bitsOf.2.1 17 = .ok (.istore_n 1, 1) := by decide +kernel
theorem d_Mo_bitsOf_18 : decode m_Mo_bitsOf.2.1 18 = .ok (.iinc 2 1, 3) := by decide +kernel
theorem d_Mo_bitsOf_21 : decode m_Mo_bitsOf.2.1 21 = .ok (.goto (-17), 3) := by decide +kernel
theorem d_Mo_bitsOf_24 : decode m_Mo_bitsOf.2.1 24 = .ok (.iload_n 1, 1) := by decide +kernel
theorem d_Mo_bitsOf_25 : decode m_Mo_bitsOf.2.1 25 = .ok (.ireturn, 1) := by decide +kernel
theorem d_Mo_track_0 : decode m_Mo_track.2.1 0 = .ok (.aload_n 0, 1) := by decide +kernel
theorem d_Mo_track_1 : decode m_Mo_track.2.1 1 = .ok (.iconst 0, 1) := by decide +kernel
theorem d_Mo_track_2 : decode m_Mo_track.2.1 2 = .ok (.putfield 160, 3) := by decide +kernel
theorem d_Mo_track_5 : decode m_Mo_track.2.1 5 = .ok (.aload_n 0, 1) := by decide +kernel
theorem d_Mo_track_6 : decode m_Mo_track.2.1 6 = .ok (.iload_n 1, 1) := by decide +kernel
theorem d_Mo_track_7 : decode m_Mo_track.2.1 7 = .ok (.invokevirtual 317, 3) := by decide +kernel
theorem d_Mo_track_10 : decode m_Mo_track.2.1 10 = .ok (.ifCond .eq 27, 3) := by decide +kernel
theorem d_Mo_track_13 : decode m_Mo_track.2.1 13 = .ok (.aload_n 0, 1) := by decide +kernel
theorem d_Mo_track_14 : decode m_Mo_track.2.1 14 = .ok (.iload_n 2, 1) := by decide +kernel
theorem d_Mo_track_15 : decode m_Mo_track.2.1 15 = .ok (.invokevirtual 314, 3) := by decide +kernel
theorem d_Mo_track_18 : decode m_Mo_track.2.1 18 = .ok (.ifCond .eq 19, 3) := by decide +kernel
theorem d_Mo_track_21 : decode m_Mo_track.2.1 21 = .ok (.iload_n 3, 1) := by decide +kernel
theorem d_Mo_track_22 : decode m_Mo_track.2.1 22 = .ok (.invokestatic 363, 3) := by decide +kernel
theorem d_Mo_track_25 : decode m_Mo_track.2.1 25 = .ok (.ifCond .eq 12, 3) := by decide +kernel
theorem d_Mo_track_28 : decode m_Mo_track.2.1 28 = .ok (.aload_n 0, 1) := by decide +kernel
theorem d_Mo_track_29 : decode m_Mo_track.2.1 29 = .ok (.getfield 304, 3) := by decide +kernel
theorem d_Mo_track_32 : decode m_Mo_track.2.1 32 = .ok (.bipush 24, 2) := by decide +kernel
theorem d_Mo_track_34 : decode m_Mo_track.2.1 34 = .ok (.if_icmp .ne 5, 3) := by decide +kernel
theorem d_Mo_track_37 : decode m_Mo_track.2.1 37 = .ok (.iconst (-1), 1) := by decide +kernel
theorem d_Mo_track_38 : decode m_Mo_track.2.1 38 = .ok (.ireturn, 1) := by decide +kernel
theorem d_Mo_track_39 : decode m_Mo_track.2.1 39 = .ok (.aload_n 0, 1) := by decide +kernel
theorem d_Mo_track_40 : decode m_Mo_track.2.1 40 = .ok (.getfield 142, 3) := by decide +kernel
theorem d_Mo_track_43 : decode m_Mo_track.2.1 43 = .ok (.aload_n 0, 1) := by decide +kernel
theorem d_Mo_track_44 : decode m_Mo_track.2.1 44 = .ok (.getfield 304, 3) := by decide +kernel
theorem d_Mo_track_47 : decode m_Mo_track.2.1 47 = .ok (.iload_n 1, 1) := by decide +kernel
theorem d_Mo_track_48 : decode m_Mo_track.2.1 48 = .ok (.iastore, 1) := by decide +kernel
theorem d_Mo_track_49 : decode m_Mo_track.2.1 49 = .ok (.aload_n 0, 1) := by decide +kernel
theorem d_Mo_track_50 : decode m_Mo_track.2.1 50 = .ok (.getfield 145, 3) := by decide +kernel
theorem d_Mo_track_53 : decode m_Mo_track.2.1 53 = .ok (.aload_n 0, 1) := by decide +kernel
theorem d_Mo_track_54 : decode m_Mo_track.2.1 54 = .ok (.getfield 304, 3) := by decide +kernel
theorem d_Mo_track_57 : decode m_Mo_track.2.1 57 = .ok (.iload_n 2, 1) := by decide +kernel
theorem d_Mo_track_58 : decode m_Mo_track.2.1 58 = .ok (.iastore, 1) := by decide +kernel
theorem d_Mo_track_59 : decode m_Mo_track.2.1 59 = .ok (.aload_n 0, 1) := by decide +kernel
theorem d_Mo_track_60 : decode m_Mo_track.2.1 60 = .ok (.getfield 148, 3) := by decide +kernel
theorem d_Mo_track_63 : decode m_Mo_track.2.1 63 = .ok (.aload_n 0, 1) := by decide +kernel
theorem d_Mo_track_64 : decode m_Mo_track.2.1 64 = .ok (.getfield 304, 3) := by decide +kernel
theorem d_Mo_track_67 : decode m_Mo_track.2.1 67 = .ok (.iload_n 3, 1) := by decide +kernel
theorem d_Mo_track_68 : decode m_Mo_track.2.1 68 = .ok (.iastore, 1) := by decide +kernel
theorem d_Mo_track_69 : decode m_Mo_track.2.1 69 = .ok (.aload_n 0, 1) := by decide +kernel
theorem d_Mo_track_70 : decode m_Mo_track.2.1 70 = .ok (.dup, 1) := by decide +kernel
theorem d_Mo_track_71 : decode m_Mo_track.2.1 71 = .ok (.getfield 304, 3) := by decide +kernel
theorem d_Mo_track_74 : decode m_Mo_track.2.1 74 = .ok (.iconst 1, 1) := by decide +kernel
theorem d_Mo_track_75 : decode m_Mo_track.2.1 75 = .ok (.iadd, 1) := by decide +kernel
theorem d_Mo_track_76 : decode m_Mo_track.2.1 76 = .ok (.putfield 304, 3) := by decide +kernel
theorem d_Mo_track_79 : decode m_Mo_track.2.1 79 = .ok (.aload_n 0, 1) := by decide +kernel
theorem d_Mo_track_80 : decode m_Mo_track.2.1 80 = .ok (.getfield 304, 3) := by decide +kernel
theorem d_Mo_track_83 : decode m_Mo_track.2.1 83 = .ok (.iconst 1, 1) := by decide +kernel
theorem d_Mo_track_84 : decode m_Mo_track.2.1 84 = .ok (.isub, 1) := by decide +kernel
theorem d_Mo_track_85 : decode m_Mo_track.2.1 85 = .ok (.ireturn, 1) := by decide +kernel
theorem d_Mo_strike_0 : decode m_Mo_strike.2.1 0 = .ok (.aload_n 0, 1) := by decide +kernel
theorem d_Mo_strike_1 : decode m_Mo_strike.2.1 1 = .ok (.iconst 0, 1) := by decide +kernel
theorem d_Mo_strike_2 : decode m_Mo_strike.2.1 2 = .ok (.putfield 160, 3) := by decide +kernel
theorem d_Mo_strike_5 : decode m_Mo_strike.2.1 5 = .ok (.iload_n 1, 1) := by decide +kernel
theorem d_Mo_strike_6 : decode m_Mo_strike.2.1 6 = .ok (.ifCond .lt 20, 3) := by decide +kernel
theorem d_Mo_strike_9 : decode m_Mo_strike.2.1 9 = .ok (.iload_n 1, 1) := by decide +kernel
theorem d_Mo_strike_10 : decode m_Mo_strike.2.1 10 = .ok (.aload_n 0, 1) := by decide +kernel
theorem d_Mo_strike_11 : decode m_Mo_strike.2.1 11 = .ok (.getfield 304, 3) := by decide +kernel
theorem d_Mo_strike_14 : decode m_Mo_strike.2.1 14 = .ok (.if_icmp .ge 12, 3) := by decide +kernel
theorem d_Mo_strike_17 : decode m_Mo_strike.2.1 17 = .ok (.aload_n 0, 1) := by decide +kernel
theorem d_Mo_strike_18 : decode m_Mo_strike.2.1 18 = .ok (.getfield 304, 3) := by decide +kernel
theorem d_Mo_strike_21 : decode m_Mo_strike.2.1 21 = .ok (.bipush 24, 2) := by decide +kernel
theorem d_Mo_strike_23 : decode m_Mo_strike.2.1 23 = .ok (.if_icmp .ne 5, 3) := by decide +kernel
theorem d_Mo_strike_26 : decode m_Mo_strike.2.1 26 = .ok (.iconst (-1), 1) := by decide +kernel
theorem d_Mo_strike_27 : decode m_Mo_strike.2.1 27 = .ok (.ireturn, 1) := by decide +kernel
theorem d_Mo_strike_28 : decode m_Mo_strike.2.1 28 = .ok (.aload_n 0, 1) := by decide +kernel
theorem d_Mo_strike_29 : decode m_Mo_strike.2.1 29 = .ok (.getfield 142, 3) := by decide +kernel
theorem d_Mo_strike_32 : decode m_Mo_strike.2.1 32 = .ok (.aload_n 0, 1) := by decide +kernel
theorem d_Mo_strike_33 : decode m_Mo_strike.2.1 33 = .ok (.getfield 304, 3) := by decide +kernel
theorem d_Mo_strike_36 : decode m_Mo_strike.2.1 36 = .ok (.iconst (-1), 1) := by decide +kernel
theorem d_Mo_strike_37 : decode m_Mo_strike.2.1 37 = .ok (.iastore, 1) := by decide +kernel
theorem d_Mo_strike_38 : decode m_Mo_strike.2.1 38 = .ok (.aload_n 0, 1) := by decide +kernel
theorem d_Mo_strike_39 : decode m_Mo_strike.2.1 39 = .ok (.getfield 145, 3) := by decide +kernel
theorem d_Mo_strike_42 : decode m_Mo_strike.2.1 42 = .ok (.aload_n 0, 1) := by decide +kernel
theorem d_Mo_strike_43 : decode m_Mo_strike.2.1 43 = .ok (.getfield 304, 3) := by decide +kernel
theorem d_Mo_strike_46 : decode m_Mo_strike.2.1 46 = .ok (.iload_n 1, 1) := by decide +kernel
theorem d_Mo_strike_47 : decode m_Mo_strike.2.1 47 = .ok (.iastore, 1) := by decide +kernel
theorem d_Mo_strike_48 : decode m_Mo_strike.2.1 48 = .ok (.aload_n 0, 1) := by decide +kernel
theorem d_Mo_strike_49 : decode m_Mo_strike.2.1 49 = .ok (.dup, 1) := by decide +kernel
theorem d_Mo_strike_50 : decode m_Mo_strike.2.1 50 = .ok (.getfield 304, 3) := by decide +kernel
theorem d_Mo_strike_53 : decode m_Mo_strike.2.1 53 = .ok (.iconst 1, 1) := by decide +kernel
theorem d_Mo_strike_54 : decode m_Mo_strike.2.1 54 = .ok (.iadd, 1) := by decide +kernel
theorem d_Mo_strike_55 : decode m_Mo_strike.2.1 55 = .ok (.putfield 304, 3) := by decide +kernel
theorem d_Mo_strike_58 : decode m_Mo_strike.2.1 58 = .ok (.aload_n 0, 1) := by decide +kernel
theorem d_Mo_strike_59 : decode m_Mo_strike.2.1 59 = .ok (.getfield 304, 3) := by decide +kernel
theorem d_Mo_strike_62 : decode m_Mo_strike.2.1 62 = .ok (.iconst 1, 1) := by decide +kernel
theorem d_Mo_strike_63 : decode m_Mo_strike.2.1 63 = .ok (.isub, 1) := by decide +kernel
theorem d_Mo_strike_64 : decode m_Mo_strike.2.1 64 = .ok (.ireturn, 1) := by decide +kernel
theorem d_Mo_known_0 : decode m_Mo_known.2.1 0 = .ok (.aload_n 0, 1) := by decide +kernel
theorem d_Mo_known_1 : decode m_Mo_known.2.1 1 = .ok (.iconst 0, 1) := by decide +kernel
theorem d_Mo_known_2 : decode m_Mo_known.2.1 2 = .ok (.putfield 160, 3) := by decide +kernel
theorem d_Mo_known_5 : decode m_Mo_known.2.1 5 = .ok (.iload_n 1, 1) := by decide +kernel
theorem d_Mo_known_6 : decode m_Mo_known.2.1 6 = .ok (.iconst (-1), 1) := by decide +kernel
theorem d_Mo_known_7 : decode m_Mo_known.2.1 7 = .ok (.if_icmp .lt 11, 3) := by decide +kernel
theorem d_Mo_known_10 : decode m_Mo_known.2.1 10 = .ok (.iload_n 1, 1) := by decide +kernel
theorem d_Mo_known_11 : decode m_Mo_known.2.1 11 = .ok (.aload_n 0, 1) := by decide +kernel
theorem d_Mo_known_12 : decode m_Mo_known.2.1 12 = .ok (.getfield 304, 3) := by decide +kernel
theorem d_Mo_known_15 : decode m_Mo_known.2.1 15 = .ok (.if_icmp .le 5, 3) := by decide +kernel
theorem d_Mo_known_18 : decode m_Mo_known.2.1 18 = .ok (.iconst 0, 1) := by decide +kernel
theorem d_Mo_known_19 : decode m_Mo_known.2.1 19 = .ok (.ireturn, 1) := by decide +kernel
theorem d_Mo_known_20 : decode m_Mo_known.2.1 20 = .ok (.aload_n 0, 1) := by decide +kernel
theorem d_Mo_known_21 : decode m_Mo_known.2.1 21 = .ok (.iload_n 1, 1) := by decide +kernel
theorem d_Mo_known_22 : decode m_Mo_known.2.1 22 = .ok (.putfield 139, 3) := by decide +kernel
theorem d_Mo_known_25 : decode m_Mo_known.2.1 25 = .ok (.iconst 1, 1) := by decide +kernel
theorem d_Mo_known_26 : decode m_Mo_known.2.1 26 = .ok (.ireturn, 1) := by decide +kernel
theorem d_Mo_tales_0 : decode m_Mo_tales.2.1 0 = .ok (.aload_n 0, 1) := by decide +kernel
theorem d_Mo_tales_1 : decode m_Mo_tales.2.1 1 = .ok (.iconst 0, 1) := by decide +kernel
theorem d_Mo_tales_2 : decode m_Mo_tales.2.1 2 = .ok (.putfield 160, 3) := by decide +kernel
theorem d_Mo_tales_5 : decode m_Mo_tales.2.1 5 = .ok (.aload_n 0, 1) := by decide +kernel
theorem d_Mo_tales_6 : decode m_Mo_tales.2.1 6 = .ok (.iload_n 1, 1) := by decide +kernel
theorem d_Mo_tales_7 : decode m_Mo_tales.2.1 7 = .ok (.invokevirtual 317, 3) := by decide +kernel
theorem d_Mo_tales_10 : decode m_Mo_tales.2.1 10 = .ok (.ifCond .ne 5, 3) := by decide +kernel
theorem d_Mo_tales_13 : decode m_Mo_tales.2.1 13 = .ok (.iconst (-1), 1) := by decide +kernel
theorem d_Mo_tales_14 : decode m_Mo_tales.2.1 14 = .ok (.ireturn, 1) := by decide +kernel
theorem d_Mo_tales_15 : decode m_Mo_tales.2.1 15 = .ok (.aload_n 0, 1) := by decide +kernel
theorem d_Mo_tales_16 : decode m_Mo_tales.2.1 16 = .ok (.iload_n 1, 1) := by decide +kernel
theorem d_Mo_tales_17 : decode m_Mo_tales.2.1 17 = .ok (.iconst (-1), 1) := by decide +kernel
theorem d_Mo_tales_18 : decode m_Mo_tales.2.1 18 = .ok (.invokevirtual 491, 3) := by decide +kernel
theorem d_Mo_tales_21 : decode m_Mo_tales.2.1 21 = .ok (.aload_n 0, 1) := by decide +kernel
theorem d_Mo_tales_22 : decode m_Mo_tales.2.1 22 = .ok (.getfield 479, 3) := by decide +kernel
theorem d_Mo_tales_25 : decode m_Mo_tales.2.1 25 = .ok (.ireturn, 1) := by decide +kernel
theorem d_Mo_layTales_0 : decode m_Mo_layTales.2.1 0 = .ok (.iconst 0, 1) := by decide +kernel
theorem d_Mo_layTales_1 : decode m_Mo_layTales.2.1 1 = .ok (.istore_n 3, 1) := by decide +kernel
theorem d_Mo_layTales_2 : decode m_Mo_layTales.2.1 2 = .ok (.iload_n 3, 1) := by decide +kernel
theorem d_Mo_layTales_3 : decode m_Mo_layTales.2.1 3 = .ok (.aload_n 0, 1) := by decide +kernel
theorem d_Mo_layTales_4 : decode m_Mo_layTales.2.1 4 = .ok (.invokevirtual 476, 3) := by decide +kernel
theorem d_Mo_layTales_7 : decode m_Mo_layTales.2.1 7 = .ok (.if_icmp .ge 16, 3) := by decide +kernel
theorem d_Mo_layTales_10 : decode m_Mo_layTales.2.1 10 = .ok (.aload_n 0, 1) := by decide +kernel
theorem d_Mo_layTales_11 : decode m_Mo_layTales.2.1 11 = .ok (.getfield 151, 3) := by decide +kernel
theorem d_Mo_layTales_14 : decode m_Mo_layTales.2.1 14 = .ok (.iload_n 3, 1) := by decide +kernel
theorem d_Mo_layTales_15 : decode m_Mo_layTales.2.1 15 = .ok (.iconst 0, 1) := by decide +kernel
theorem d_Mo_layTales_16 : decode m_Mo_layTales.2.1 16 = .ok (.bastore, 1) := by decide +kernel
theorem d_Mo_layTales_17 : decode m_Mo_layTales.2.1 17 = .ok (.iinc 3 1, 3) := by decide +kernel
theorem d_Mo_layTales_20 : decode m_Mo_layTales.2.1 20 = .ok (.goto (-18), 3) := by decide +kernel
theorem d_Mo_layTales_23 : decode m_Mo_layTales.2.1 23 = .ok (.aload_n 0, 1) := by decide +kernel
theorem d_Mo_layTales_24 : decode m_Mo_layTales.2.1 24 = .ok (.invokevirtual 476, 3) := by decide +kernel
theorem d_Mo_layTales_27 : decode m_Mo_layTales.2.1 27 = .ok (.iconst 1, 1) := by decide +kernel
theorem d_Mo_layTales_28 : decode m_Mo_layTales.2.1 28 = .ok (.isub, 1) := by decide +kernel
theorem d_Mo_layTales_29 : decode m_Mo_layTales.2.1 29 = .ok (.istore_n 3, 1) := by decide +kernel
theorem d_Mo_layTales_30 : decode m_Mo_layTales.2.1 30 = .ok (.iload_n 3, 1) := by decide +kernel
theorem d_Mo_layTales_31 : decode m_Mo_layTales.2.1 31 = .ok (.ifCond .lt 40, 3) := by decide +kernel
theorem d_Mo_layTales_34 : decode m_Mo_layTales.2.1 34 = .ok (.aload_n 0, 1) := by decide +kernel
theorem d_Mo_layTales_35 : decode m_Mo_layTales.2.1 35 = .ok (.getfield 151, 3) := by decide +kernel
theorem d_Mo_layTales_38 : decode m_Mo_layTales.2.1 38 = .ok (.iload_n 3, 1) := by decide +kernel
theorem d_Mo_layTales_39 : decode m_Mo_layTales.2.1 39 = .ok (.baload, 1) := by decide +kernel
theorem d_Mo_layTales_40 : decode m_Mo_layTales.2.1 40 = .ok (.ifCond .ne 25, 3) := by decide +kernel
theorem d_Mo_layTales_43 : decode m_Mo_layTales.2.1 43 = .ok (.aload_n 0, 1) := by decide +kernel
theorem d_Mo_layTales_44 : decode m_Mo_layTales.2.1 44 = .ok (.getfield 142, 3) := by decide +kernel
theorem d_Mo_layTales_47 : decode m_Mo_layTales.2.1 47 = .ok (.iload_n 3, 1) := by decide +kernel
theorem d_Mo_layTales_48 : decode m_Mo_layTales.2.1 48 = .ok (.iaload, 1) := by decide +kernel
theorem d_Mo_layTales_49 : decode m_Mo_layTales.2.1 49 = .ok (.iconst (-1), 1) := by decide +kernel
theorem d_Mo_layTales_50 : decode m_Mo_layTales.2.1 50 = .ok (.if_icmp .ne 15, 3) := by decide +kernel
theorem d_Mo_layTales_53 : decode m_Mo_layTales.2.1 53 = .ok (.aload_n 0, 1) := by decide +kernel
theorem d_Mo_layTales_54 : decode m_Mo_layTales.2.1 54 = .ok (.getfield 151, 3) := by decide +kernel
theorem d_Mo_layTales_57 : decode m_Mo_layTales.2.1 57 = .ok (.aload_n 0, 1) := by decide +kernel
theorem d_Mo_layTales_58 : decode m_Mo_layTales.2.1 58 = .ok (.getfield 145, 3) := by decide +kernel
theorem d_Mo_layTales_61 : decode m_Mo_layTales.2.1 61 = .ok (.iload_n 3, 1) := by decide +kernel
theorem d_Mo_layTales_62 : decode m_Mo_layTales.2.1 62 = .ok (.iaload, 1) := by decide +kernel
theorem d_Mo_layTales_63 : decode m_Mo_layTales.2.1 63 = .ok (.iconst 1, 1) := by decide +kernel
theorem d_Mo_layTales_64 : decode m_Mo_layTales.2.1 64 = .ok (.bastore, 1) := by decide +kernel
theorem d_Mo_layTales_65 : decode m_Mo_layTales.2.1 65 = .ok (.iinc 3 (-1), 3) := by decide +kernel
theorem d_Mo_layTales_68 : decode m_Mo_layTales.2.1 68 = .ok (.goto (-38), 3) := by decide +kernel
theorem d_Mo_layTales_71 : decode m_Mo_layTales.2.1 71 = .ok (.aload_n 0, 1) := by decide +kernel
theorem d_Mo_layTales_72 : decode m_Mo_layTales.2.1 72 = .ok (.invokevirtual 406, 3) := by decide +kernel
theorem d_Mo_layTales_75 : decode m_Mo_layTales.2.1 75 = .ok (.iconst 0, 1) := by decide +kernel
theorem d_Mo_layTales_76 : decode m_Mo_layTales.2.1 76 = .ok (.istore_n 3, 1) := by decide +kernel
theorem d_Mo_layTales_77 : decode m_Mo_layTales.2.1 77 = .ok (.iload_n 3, 1) := by decide +kernel
theorem d_Mo_layTales_78 : decode m_Mo_layTales.2.1 78 = .ok (.iconst 3, 1) := by decide +kernel
theorem d_Mo_layTales_79 : decode m_Mo_layTales.2.1 79 = .ok (.if_icmp .ge 16, 3) := by decide +kernel
theorem d_Mo_layTales_82 : decode m_Mo_layTales.2.1 82 = .ok (.aload_n 0, 1) := by decide +kernel
theorem d_Mo_layTales_83 : decode m_Mo_layTales.2.1 83 = .ok (.getfield 100, 3) := by decide +kernel
theorem d_Mo_layTales_86 : decode m_Mo_layTales.2.1 86 = .ok (.iload_n 3, 1) := by decide +kernel
theorem d_Mo_layTales_87 : decode m_Mo_layTales.2.1 87 = .ok (.iconst 0, 1) := by decide +kernel
theorem d_Mo_layTales_88 : decode m_Mo_layTales.2.1 88 = .ok (.iastore, 1) := by decide +kernel
theorem d_Mo_layTales_89 : decode m_Mo_layTales.2.1 89 = .ok (.iinc 3 1, 3) := by decide +kernel
theorem d_Mo_layTales_92 : decode m_Mo_layTales.2.1 92 = .ok (.goto (-15), 3) := by decide +kernel
theorem d_Mo_layTales_95 : decode m_Mo_layTales.2.1 95 = .ok (.aload_n 0, 1) := by decide +kernel
theorem d_Mo_layTales_96 : decode m_Mo_layTales.2.1 96 = .ok (.iconst 0, 1) := by decide +kernel
theorem d_Mo_layTales_97 : decode m_Mo_layTales.2.1 97 = .ok (.putfield 479, 3) := by decide +kernel
theorem d_Mo_layTales_100 : decode m_Mo_layTales.2.1 100 = .ok (.aload_n 0, 1) := by decide +kernel
theorem d_Mo_layTales_101 : decode m_Mo_layTales.2.1 101 = .ok (.iload_n 2, 1) := by decide +kernel
theorem d_Mo_layTales_102 : decode m_Mo_layTales.2.1 102 = .ok (.putfield 482, 3) := by decide +kernel
theorem d_Mo_layTales_105 : decode m_Mo_layTales.2.1 105 = .ok (.aload_n 0, 1) := by decide +kernel
theorem d_Mo_layTales_106 : decode m_Mo_layTales.2.1 106 = .ok (.iconst 0, 1) := by decide +kernel
theorem d_Mo_layTales_107 : decode m_Mo_layTales.2.1 107 = .ok (.putfield 485, 3) := by decide +kernel
theorem d_Mo_layTales_110 : decode m_Mo_layTales.2.1 110 = .ok (.aload_n 0, 1) := by decide +kernel
theorem d_Mo_layTales_111 : decode m_Mo_layTales.2.1 111 = .ok (.iload_n 1, 1) := by decide +kernel
theorem d_Mo_layTales_112 : decode m_Mo_layTales.2.1 112 = .ok (.iconst 0, 1) := by decide +kernel
theorem d_Mo_layTales_113 : decode m_Mo_layTales.2.1 113 = .ok (.invokevirtual 488, 3) := by decide +kernel
theorem d_Mo_layTales_116 : decode m_Mo_layTales.2.1 116 = .ok (.return_, 1) := by decide +kernel
theorem d_Mo_knownMany_0 : decode m_Mo_knownMany.2.1 0 = .ok (.aload_n 0, 1) := by decide +kernel
theorem d_Mo_knownMany_1 : decode m_Mo_knownMany.2.1 1 = .ok (.getfield 139, 3) := by decide +kernel
theorem d_Mo_knownMany_4 : decode m_Mo_knownMany.2.1 4 = .ok (.iconst (-1), 1) := by decide +kernel
theorem d_Mo_knownMany_5 : decode m_Mo_knownMany.2.1 5 = .ok (.if_icmp .ne 10, 3) := by decide +kernel
theorem d_Mo_knownMany_8 : decode m_Mo_knownMany.2.1 8 = .ok (.aload_n 0, 1) := by decide +kernel
theorem d_Mo_knownMany_9 : decode m_Mo_knownMany.2.1 9 = .ok (.getfield 304, 3) := by decide +kernel
theorem d_Mo_knownMany_12 : decode m_Mo_knownMany.2.1 12 = .ok (.goto 7, 3) := by decide +kernel
theorem d_Mo_knownMany_15 : decode m_Mo_knownMany.2.1 15 = .ok (.aload_n 0, 1) := by decide +kernel
theorem d_Mo_knownMany_16 : decode m_Mo_knownMany.2.1 16 = .ok (.getfield 139, 3) := by decide +kernel
theorem d_Mo_knownMany_19 : decode m_Mo_knownMany.2.1 19 = .ok (.ireturn, 1) := by decide +kernel
theorem d_Mo_talesOf_0 : decode m_Mo_talesOf.2.1 0 = .ok (.aload_n 0, 1) := by decide +kernel
theorem d_Mo_talesOf_1 : decode m_Mo_talesOf.2.1 1 = .ok (.sipush 240, 3) := by decide +kernel
theorem d_Mo_talesOf_4 : decode m_Mo_talesOf.2.1 4 = .ok (.invokevirtual 409, 3) := by decide +kernel
theorem d_Mo_talesOf_7 : decode m_Mo_talesOf.2.1 7 = .ok (.iconst 1, 1) := by decide +kernel
theorem d_Mo_talesOf_8 : decode m_Mo_talesOf.2.1 8 = .ok (.istore_n 3, 1) := by decide +kernel
theorem d_Mo_talesOf_9 : decode m_Mo_talesOf.2.1 9 = .ok (.iconst 0, 1) := by decide +kernel
theorem d_Mo_talesOf_10 : decode m_Mo_talesOf.2.1 10 = .ok (.istore 4, 2) := by decide +kernel
theorem d_Mo_talesOf_12 : decode m_Mo_talesOf.2.1 12 = .ok (.iload 4, 2) := by decide +kernel
theorem d_Mo_talesOf_14 : decode m_Mo_talesOf.2.1 14 = .ok (.aload_n 0, 1) := by decide +kernel
theorem d_Mo_talesOf_15 : decode m_Mo_talesOf.2.1 15 = .ok (.invokevirtual 476, 3) := by decide +kernel
theorem d_Mo_talesOf_18 : decode m_Mo_talesOf.2.1 18 = .ok (.if_icmp .ge 70, 3) := by decide +kernel
theorem d_Mo_talesOf_21 : decode m_Mo_talesOf.2.1 21 = .ok (.aload_n 0, 1) := by decide +kernel
theorem d_Mo_talesOf_22 : decode m_Mo_talesOf.2.1 22 = .ok (.getfield 151, 3) := by decide +kernel
theorem d_Mo_talesOf_25 : decode m_Mo_talesOf.2.1 25 = .ok (.iload 4, 2) := by decide +kernel
theorem d_Mo_talesOf_27 : decode m_Mo_talesOf.2.1 27 = .ok (.baload, 1) := by decide +kernel
theorem d_Mo_talesOf_28 : decode m_Mo_talesOf.2.1 28 = .ok (.ifCond .ne 54, 3) := by decide +kernel
theorem d_Mo_talesOf_31 : decode m_Mo_talesOf.2.1 31 = .ok (.aload_n 0, 1) := by decide +kernel
theorem d_Mo_talesOf_32 : decode m_Mo_talesOf.2.1 32 = .ok (.getfield 142, 3) := by decide +kernel
theorem d_Mo_talesOf_35 : decode m_Mo_talesOf.2.1 35 = .ok (.iload 4, 2) := by decide +kernel
theorem d_Mo_talesOf_37 : decode m_Mo_talesOf.2.1 37 = .ok (.iaload, 1) := by decide +kernel
theorem d_Mo_talesOf_38 : decode m_Mo_talesOf.2.1 38 = .ok (.iload_n 1, 1) := by decide +kernel
theorem d_Mo_talesOf_39 : decode m_Mo_talesOf.2.1 39 = .ok (.if_icmp .ne 43, 3) := by decide +kernel
theorem d_Mo_talesOf_42 : decode m_Mo_talesOf.2.1 42 = .ok (.aload_n 0, 1) := by decide +kernel
theorem d_Mo_talesOf_43 : decode m_Mo_talesOf.2.1 43 = .ok (.getfield 127, 3) := by decide +kernel
theorem d_Mo_talesOf_46 : decode m_Mo_talesOf.2.1 46 = .ok (.aload_n 0, 1) := by decide +kernel
theorem d_Mo_talesOf_47 : decode m_Mo_talesOf.2.1 47 = .ok (.getfield 145, 3) := by decide +kernel
theorem d_Mo_talesOf_50 : decode m_Mo_talesOf.2.1 50 = .ok (.iload 4, 2) := by decide +kernel
theorem d_Mo_talesOf_52 : decode m_Mo_talesOf.2.1 52 = .ok (.iaload, 1) := by decide +kernel
theorem d_Mo_talesOf_53 : decode m_Mo_talesOf.2.1 53 = .ok (.iaload, 1) := by decide +kernel
theorem d_Mo_talesOf_54 : decode m_Mo_talesOf.2.1 54 = .ok (.iload_n 1, 1) := by decide +kernel
theorem d_Mo_talesOf_55 : decode m_Mo_talesOf.2.1 55 = .ok (.if_icmp .ne 25, 3) := by decide +kernel
theorem d_Mo_talesOf_58 : decode m_Mo_talesOf.2.1 58 = .ok (.aload_n 0, 1) := by decide +kernel
theorem d_Mo_talesOf_59 : decode m_Mo_talesOf.2.1 59 = .ok (.getfield 130, 3) := by decide +kernel
theorem d_Mo_talesOf_62 : decode m_Mo_talesOf.2.1 62 = .ok (.aload_n 0, 1) := by decide +kernel
theorem d_Mo_talesOf_63 : decode m_Mo_talesOf.2.1 63 = .ok (.getfield 145, 3) := by decide +kernel
theorem d_Mo_talesOf_66 : decode m_Mo_talesOf.2.1 66 = .ok (.iload 4, 2) := by decide +kernel
theorem d_Mo_talesOf_68 : decode m_Mo_talesOf.2.1 68 = .ok (.iaload, 1) := by decide +kernel
theorem d_Mo_talesOf_69 : decode m_Mo_talesOf.2.1 69 = .ok (.iaload, 1) := by decide +kernel
theorem d_Mo_talesOf_70 : decode m_Mo_talesOf.2.1 70 = .ok (.aload_n 0, 1) := by decide +kernel
theorem d_Mo_talesOf_71 : decode m_Mo_talesOf.2.1 71 = .ok (.getfield 148, 3) := by decide +kernel
theorem d_Mo_talesOf_74 : decode m_Mo_talesOf.2.1 74 = .ok (.iload 4, 2) := by decide +kernel
theorem d_Mo_talesOf_76 : decode m_Mo_talesOf.2.1 76 = .ok (.iaload, 1) := by decide +kernel
theorem d_Mo_talesOf_77 : decode m_Mo_talesOf.2.1 77 = .ok (.if_icmp .eq 5, 3) := by decide +kernel
theorem d_Mo_talesOf_80 : decode m_Mo_talesOf.2.1 80 = .ok (.iconst 0, 1) := by decide +kernel
theorem d_Mo_talesOf_81 : decode m_Mo_talesOf.2.1 81 = .ok (.istore_n 3, 1) := by decide +kernel
theorem d_Mo_talesOf_82 : decode m_Mo_talesOf.2.1 82 = .ok (.iinc 4 1, 3) := by decide +kernel
theorem d_Mo_talesOf_85 : decode m_Mo_talesOf.2.1 85 = .ok (.goto (-73), 3) := by decide +kernel
theorem d_Mo_talesOf_88 : decode m_Mo_talesOf.2.1 88 = .ok (.iload_n 3, 1) := by decide +kernel
theorem d_Mo_talesOf_89 : decode m_Mo_talesOf.2.1 89 = .ok (.ifCond .eq 71, 3) := by decide +kernel
theorem d_Mo_talesOf_92 : decode m_Mo_talesOf.2.1 92 = .ok (.aload_n 0, 1) := by decide +kernel
theorem d_Mo_talesOf_93 : decode m_Mo_talesOf.2.1 93 = .ok (.getfield 479, 3) := by decide +kernel
theorem d_Mo_talesOf_96 : decode m_Mo_talesOf.2.1 96 = .ok (.aload_n 0, 1) := by decide +kernel
theorem d_Mo_talesOf_97 : decode m_Mo_talesOf.2.1 97 = .ok (.getfield 482, 3) := by decide +kernel
theorem d_Mo_talesOf_100 : decode m_Mo_talesOf.2.1 100 = .ok (.if_icmp .ne 50, 3) := by decide +kernel
theorem d_Mo_talesOf_103 : decode m_Mo_talesOf.2.1 103 = .ok (.aload_n 0, 1) := by decide +kernel
theorem d_Mo_talesOf_104 : decode m_Mo_talesOf.2.1 104 = .ok (.aload_n 0, 1) := by decide +kernel
theorem d_Mo_talesOf_105 : decode m_Mo_talesOf.2.1 105 = .ok (.getfield 100, 3) := by decide +kernel
theorem d_Mo_talesOf_108 : decode m_Mo_talesOf.2.1 108 = .ok (.iload_n 1, 1) := by decide +kernel
theorem d_Mo_talesOf_109 : decode m_Mo_talesOf.2.1 109 = .ok (.iaload, 1) := by decide +kernel
theorem d_Mo_talesOf_110 : decode m_Mo_talesOf.2.1 110 = .ok (.putfield 485, 3) := by decide +kernel
theorem d_Mo_talesOf_113 : decode m_Mo_talesOf.2.1 113 = .ok (.iconst 0, 1) := by decide +kernel
theorem d_Mo_talesOf_114 : decode m_Mo_talesOf.2.1 114 = .ok (.istore 4, 2) := by decide +kernel
theorem d_Mo_talesOf_116 : decode m_Mo_talesOf.2.1 116 = .ok (.iload 4, 2) := by decide +kernel
theorem d_Mo_talesOf_118 : decode m_Mo_talesOf.2.1 118 = .ok (.aload_n 0, 1) := by decide +kernel
theorem d_Mo_talesOf_119 : decode m_Mo_talesOf.2.1 119 = .ok (.getfield 485, 3) := by decide +kernel
theorem d_Mo_talesOf_122 : decode m_Mo_talesOf.2.1 122 = .ok (.if_icmp .ge 28, 3) := by decide +kernel
theorem d_Mo_talesOf_125 : decode m_Mo_talesOf.2.1 125 = .ok (.aload_n 0, 1) := by decide +kernel
theorem d_Mo_talesOf_126 : decode m_Mo_talesOf.2.1 126 = .ok (.getfield 154, 3) := by decide +kernel
theorem d_Mo_talesOf_129 : decode m_Mo_talesOf.2.1 129 = .ok (.iload 4, 2) := by decide +kernel
theorem d_Mo_talesOf_131 : decode m_Mo_talesOf.2.1 131 = .ok (.aload_n 0, 1) := by decide +kernel
theorem d_Mo_talesOf_132 : decode m_Mo_talesOf.2.1 132 = .ok (.getfield 97, 3) := by decide +kernel
theorem d_Mo_talesOf_135 : decode m_Mo_talesOf.2.1 135 = .ok (.bipush 9, 2) := by decide +kernel
theorem d_Mo_talesOf_137 : decode m_Mo_talesOf.2.1 137 = .ok (.iload_n 1, 1) := by decide +kernel
theorem d_Mo_talesOf_138 : decode m_Mo_talesOf.2.1 138 = .ok (.imul, 1) := by decide +kernel
theorem d_Mo_talesOf_139 : decode m_Mo_talesOf.2.1 139 = .ok (.iload 4, 2) := by decide +kernel
theorem d_Mo_talesOf_141 : decode m_Mo_talesOf.2.1 141 = .ok (.iadd, 1) := by decide +kernel
theorem d_Mo_talesOf_142 : decode m_Mo_talesOf.2.1 142 = .ok (.iaload, 1) := by decide +kernel
theorem d_Mo_talesOf_143 : decode m_Mo_talesOf.2.1 143 = .ok (.iastore, 1) := by decide +kernel
theorem d_Mo_talesOf_144 : decode m_Mo_talesOf.2.1 144 = .ok (.iinc 4 1, 3) := by decide +kernel
theorem d_Mo_talesOf_147 : decode m_Mo_talesOf.2.1 147 = .ok (.goto (-31), 3) := by decide +kernel
theorem d_Mo_talesOf_150 : decode m_Mo_talesOf.2.1 150 = .ok (.aload_n 0, 1) := by decide +kernel
theorem d_Mo_talesOf_151 : decode m_Mo_talesOf.2.1 151 = .ok (.dup, 1) := by decide +kernel
theorem d_Mo_talesOf_152 : decode m_Mo_talesOf.2.1 152 = .ok (.getfield 479, 3) := by decide +kernel
theorem d_Mo_talesOf_155 : decode m_Mo_talesOf.2.1 155 = .ok (.iconst 1, 1) := by decide +kernel
theorem d_Mo_talesOf_156 : decode m_Mo_talesOf.2.1 156 = .ok (.iadd, 1) := by decide +kernel
theorem d_Mo_talesOf_157 : decode m_Mo_talesOf.2.1 157 = .ok (.putfield 479, 3) := by decide +kernel
theorem d_Mo_talesOf_160 : decode m_Mo_talesOf.2.1 160 = .ok (.iconst 0, 1) := by decide +kernel
theorem d_Mo_talesOf_161 : decode m_Mo_talesOf.2.1 161 = .ok (.istore 4, 2) := by decide +kernel
theorem d_Mo_talesOf_163 : decode m_Mo_talesOf.2.1 163 = .ok (.iload 4, 2) := by decide +kernel
theorem d_Mo_talesOf_165 : decode m_Mo_talesOf.2.1 165 = .ok (.aload_n 0, 1) := by decide +kernel
theorem d_Mo_talesOf_166 : decode m_Mo_talesOf.2.1 166 = .ok (.getfield 13, 3) := by decide +kernel
theorem d_Mo_talesOf_169 : decode m_Mo_talesOf.2.1 169 = .ok (.iconst 0, 1) := by decide +kernel
theorem d_Mo_talesOf_170 : decode m_Mo_talesOf.2.1 170 = .ok (.iaload, 1) := by decide +kernel
theorem d_Mo_talesOf_171 : decode m_Mo_talesOf.2.1 171 = .ok (.if_icmp .ge 71, 3) := by decide +kernel
theorem d_Mo_talesOf_174 : decode m_Mo_talesOf.2.1 174 = .ok (.iload_n 2, 1) := by decide +kernel
theorem d_Mo_talesOf_175 : decode m_Mo_talesOf.2.1 175 = .ok (.iload 4, 2) := by decide +kernel
theorem d_Mo_talesOf_177 : decode m_Mo_talesOf.2.1 177 = .ok (.ishr, 1) := by decide +kernel
theorem d_Mo_talesOf_178 : decode m_Mo_talesOf.2.1 178 = .ok (.iconst 1, 1) := by decide +kernel
theorem d_Mo_talesOf_179 : decode m_Mo_talesOf.2.1 179 = .ok (.iand, 1) := by decide +kernel
theorem d_Mo_talesOf_180 : decode m_Mo_talesOf.2.1 180 = .ok (.iconst 1, 1) := by decide +kernel
theorem d_Mo_talesOf_181 : decode m_Mo_talesOf.2.1 181 = .ok (.if_icmp .ne 6, 3) := by decide +kernel
theorem d_Mo_talesOf_184 : decode m_Mo_talesOf.2.1 184 = .ok (.goto 52, 3) := by decide +kernel
theorem d_Mo_talesOf_187 : decode m_Mo_talesOf.2.1 187 = .ok (.aload_n 0, 1) := by decide +kernel
theorem d_Mo_talesOf_188 : decode m_Mo_talesOf.2.1 188 = .ok (.getfield 97, 3) := by decide +kernel
theorem d_Mo_talesOf_191 : decode m_Mo_talesOf.2.1 191 = .ok (.bipush 9, 2) := by decide +kernel
theorem d_Mo_talesOf_193 : decode m_Mo_talesOf.2.1 193 = .ok (.iload_n 1, 1) := by decide +kernel
theorem d_Mo_talesOf_194 : decode m_Mo_talesOf.2.1 194 = .ok (.imul, 1) := by decide +kernel
theorem d_Mo_talesOf_195 : decode m_Mo_talesOf.2.1 195 = .ok (.aload_n 0, 1) := by decide +kernel
theorem d_Mo_talesOf_196 : decode m_Mo_talesOf.2.1 196 = .ok (.getfield 100, 3) := by decide +kernel
theorem d_Mo_talesOf_199 : decode m_Mo_talesOf.2.1 199 = .ok (.iload_n 1, 1) := by decide +kernel
theorem d_Mo_talesOf_200 : decode m_Mo_talesOf.2.1 200 = .ok (.iaload, 1) := by decide +kernel
theorem d_Mo_talesOf_201 : decode m_Mo_talesOf.2.1 201 = .ok (.iadd, 1) := by decide +kernel
theorem d_Mo_talesOf_202 : decode m_Mo_talesOf.2.1 202 = .ok (.iload 4, 2) := by decide +kernel
theorem d_Mo_talesOf_204 : decode m_Mo_talesOf.2.1 204 = .ok (.iastore, 1) := by decide +kernel
theorem d_Mo_talesOf_205 : decode m_Mo_talesOf.2.1 205 = .ok (.aload_n 0, 1) := by decide +kernel
theorem d_Mo_talesOf_206 : decode m_Mo_talesOf.2.1 206 = .ok (.getfield 100, 3) := by decide +kernel
theorem d_Mo_talesOf_209 : decode m_Mo_talesOf.2.1 209 = .ok (.iload_n 1, 1) := by decide +kernel
theorem d_Mo_talesOf_210 : decode m_Mo_talesOf.2.1 210 = .ok (.dup2, 1) := by decide +kernel
theorem d_Mo_talesOf_211 : decode m_Mo_talesOf.2.1 211 = .ok (.iaload, 1) := by decide +kernel
theorem d_Mo_talesOf_212 : decode m_Mo_talesOf.2.1 212 = .ok (.iconst 1, 1) := by decide +kernel
theorem d_Mo_talesOf_213 : decode m_Mo_talesOf.2.1 213 = .ok (.iadd, 1) := by decide +kernel
theorem d_Mo_talesOf_214 : decode m_Mo_talesOf.2.1 214 = .ok (.iastore, 1) := by decide +kernel
theorem d_Mo_talesOf_215 : decode m_Mo_talesOf.2.1 215 = .ok (.aload_n 0, 1) := by decide +kernel
theorem d_Mo_talesOf_216 : decode m_Mo_talesOf.2.1 216 = .ok (.iload_n 1, 1) := by decide +kernel
theorem d_Mo_talesOf_217 : decode m_Mo_talesOf.2.1 217 = .ok (.iload_n 2, 1) := by decide +kernel
theorem d_Mo_talesOf_218 : decode m_Mo_talesOf.2.1 218 = .ok (.iconst 1, 1) := by decide +kernel
theorem d_Mo_talesOf_219 : decode m_Mo_talesOf.2.1 219 = .ok (.iload 4, 2) := by decide +kernel
theorem d_Mo_talesOf_221 : decode m_Mo_talesOf.2.1 221 = .ok (.ishl, 1) := by decide +kernel
theorem d_Mo_talesOf_222 : decode m_Mo_talesOf.2.1 222 = .ok (.ior, 1) := by decide +kernel
theorem d_Mo_talesOf_223 : decode m_Mo_talesOf.2.1 223 = .ok (.invokevirtual 488, 3) := by decide +kernel
theorem d_Mo_talesOf_226 : decode m_Mo_talesOf.2.1 226 = .ok (.aload_n 0, 1) := by decide +kernel
theorem d_Mo_talesOf_227 : decode m_Mo_talesOf.2.1 227 = .ok (.getfield 100, 3) := by decide +kernel
theorem d_Mo_talesOf_230 : decode m_Mo_talesOf.2.1 230 = .ok (.iload_n 1, 1) := by decide +kernel
theorem d_Mo_talesOf_231 : decode m_Mo_talesOf.2.1 231 = .ok (.dup2, 1) := by decide +kernel
theorem d_Mo_talesOf_232 : decode m_Mo_talesOf.2.1 232 = .ok (.iaload, 1) := by decide +kernel
theorem d_Mo_talesOf_233 : decode m_Mo_talesOf.2.1 233 = .ok (.iconst 1, 1) := by decide +kernel
theorem d_Mo_talesOf_234 : decode m_Mo_talesOf.2.1 234 = .ok (.isub, 1) := by decide +kernel
theorem d_Mo_talesOf_235 : decode m_Mo_talesOf.2.1 235 = .ok (.iastore, 1) := by decide +kernel
theorem d_Mo_talesOf_236 : decode m_Mo_talesOf.2.1 236 = .ok (.iinc 4 1, 3) := by decide +kernel
theorem d_Mo_talesOf_239 : decode m_Mo_talesOf.2.1 239 = .ok (.goto (-76), 3) := by decide +kernel
theorem d_Mo_talesOf_242 : decode m_Mo_talesOf.2.1 242 = .ok (.return_, 1) := by decide +kernel
theorem d_Mo_tale_0 : decode m_Mo_tale.2.1 0 = .ok (.aload_n 0, 1) := by decide +kernel
theorem d_Mo_tale_1 : decode m_Mo_tale.2.1 1 = .ok (.iconst 0, 1) := by decide +kernel
theorem d_Mo_tale_2 : decode m_Mo_tale.2.1 2 = .ok (.putfield 160, 3) := by decide +kernel
theorem d_Mo_tale_5 : decode m_Mo_tale.2.1 5 = .ok (.aload_n 0, 1) := by decide +kernel
theorem d_Mo_tale_6 : decode m_Mo_tale.2.1 6 = .ok (.iload_n 1, 1) := by decide +kernel
theorem d_Mo_tale_7 : decode m_Mo_tale.2.1 7 = .ok (.invokevirtual 317, 3) := by decide +kernel
theorem d_Mo_tale_10 : decode m_Mo_tale.2.1 10 = .ok (.ifCond .eq 11, 3) := by decide +kernel
theorem d_Mo_tale_13 : decode m_Mo_tale.2.1 13 = .ok (.iload_n 2, 1) := by decide +kernel
theorem d_Mo_tale_14 : decode m_Mo_tale.2.1 14 = .ok (.ifCond .lt 7, 3) := by decide +kernel
theorem d_Mo_tale_17 : decode m_Mo_tale.2.1 17 = .ok (.iload_n 3, 1) := by decide +kernel
theorem d_Mo_tale_18 : decode m_Mo_tale.2.1 18 = .ok (.ifCond .ge 5, 3) := by decide +kernel
theorem d_Mo_tale_21 : decode m_Mo_tale.2.1 21 = .ok (.iconst (-1), 1) := by decide +kernel
theorem d_Mo_tale_22 : decode m_Mo_tale.2.1 22 = .ok (.ireturn, 1) := by decide +kernel
theorem d_Mo_tale_23 : decode m_Mo_tale.2.1 23 = .ok (.aload_n 0, 1) := by decide +kernel
theorem d_Mo_tale_24 : decode m_Mo_tale.2.1 24 = .ok (.iload_n 1, 1) := by decide +kernel
theorem d_Mo_tale_25 : decode m_Mo_tale.2.1 25 = .ok (.iload_n 2, 1) := by decide +kernel
theorem d_Mo_tale_26 : decode m_Mo_tale.2.1 26 = .ok (.invokevirtual 491, 3) := by decide +kernel
theorem d_Mo_tale_29 : decode m_Mo_tale.2.1 29 = .ok (.iload_n 2, 1) := by decide +kernel
theorem d_Mo_tale_30 : decode m_Mo_tale.2.1 30 = .ok (.aload_n 0, 1) := by decide +kernel
theorem d_Mo_tale_31 : decode m_Mo_tale.2.1 31 = .ok (.getfield 479, 3) := by decide +kernel
theorem d_Mo_tale_34 : decode m_Mo_tale.2.1 34 = .ok (.if_icmp .lt 8, 3) := by decide +kernel
theorem d_Mo_tale_37 : decode m_Mo_tale.2.1 37 = .ok (.bipush (-3), 2) := by decide +kernel
theorem d_Mo_tale_39 : decode m_Mo_tale.2.1 39 = .ok (.goto 22, 3) := by decide +kernel
theorem d_Mo_tale_42 : decode m_Mo_tale.2.1 42 = .ok (.iload_n 3, 1) := by decide +kernel
theorem d_Mo_tale_43 : decode m_Mo_tale.2.1 43 = .ok (.aload_n 0, 1) := by decide +kernel
theorem d_Mo_tale_44 : decode m_Mo_tale.2.1 44 = .ok (.getfield 485, 3) := by decide +kernel
theorem d_Mo_tale_47 : decode m_Mo_tale.2.1 47 = .ok (.if_icmp .ge 12, 3) := by decide +kernel
theorem d_Mo_tale_50 : decode m_Mo_tale.2.1 50 = .ok (.aload_n 0, 1) := by decide +kernel
theorem d_Mo_tale_51 : decode m_Mo_tale.2.1 51 = .ok (.getfield 154, 3) := by decide +kernel
theorem d_Mo_tale_54 : decode m_Mo_tale.2.1 54 = .ok (.iload_n 3, 1) := by decide +kernel
theorem d_Mo_tale_55 : decode m_Mo_tale.2.1 55 = .ok (.iaload, 1) := by decide +kernel
theorem d_Mo_tale_56 : decode m_Mo_tale.2.1 56 = .ok (.goto 5, 3) := by decide +kernel
theorem d_Mo_tale_59 : decode m_Mo_tale.2.1 59 = .ok (.bipush (-2), 2) := by decide +kernel
theorem d_Mo_tale_61 : decode m_Mo_tale.2.1 61 = .ok (.ireturn, 1) := by decide +kernel
theorem d_Mo_tried_0 : decode m_Mo_tried.2.1 0 = .ok (.aload_n 0, 1) := by decide +kernel
theorem d_Mo_tried_1 : decode m_Mo_tried.2.1 1 = .ok (.iconst 0, 1) := by decide +kernel
theorem d_Mo_tried_2 : decode m_Mo_tried.2.1 2 = .ok (.putfield 160, 3) := by decide +kernel
theorem d_Mo_tried_5 : decode m_Mo_tried.2.1 5 = .ok (.iload_n 1, 1) := by decide +kernel
theorem d_Mo_tried_6 : decode m_Mo_tried.2.1 6 = .ok (.iconst 3, 1) := by decide +kernel
theorem d_Mo_tried_7 : decode m_Mo_tried.2.1 7 = .ok (.if_icmp .ne 11, 3) := by decide +kernel
theorem d_Mo_tried_10 : decode m_Mo_tried.2.1 10 = .ok (.aload_n 0, 1) := by decide +kernel
theorem d_Mo_tried_11 : decode m_Mo_tried.2.1 11 = .ok (.iload_n 2, 1) := by decide +kernel
theorem d_Mo_tried_12 : decode m_Mo_tried.2.1 12 = .ok (.invokevirtual 314, 3) := by decide +kernel
theorem d_Mo_tried_15 : decode m_Mo_tried.2.1 15 = .ok (.goto 34, 3) := by decide +kernel
theorem d_Mo_tried_18 : decode m_Mo_tried.2.1 18 = .ok (.iload_n 1, 1) := by decide +kernel
theorem d_Mo_tried_19 : decode m_Mo_tried.2.1 19 = .ok (.iconst 4, 1) := by decide +kernel
theorem d_Mo_tried_20 : decode m_Mo_tried.2.1 20 = .ok (.if_icmp .ne 11, 3) := by decide +kernel
theorem d_Mo_tried_23 : decode m_Mo_tried.2.1 23 = .ok (.aload_n 0, 1) := by decide +kernel
theorem d_Mo_tried_24 : decode m_Mo_tried.2.1 24 = .ok (.iload_n 2, 1) := by decide +kernel
theorem d_Mo_tried_25 : decode m_Mo_tried.2.1 25 = .ok (.invokevirtual 317, 3) := by decide +kernel
theorem d_Mo_tried_28 : decode m_Mo_tried.2.1 28 = .ok (.goto 21, 3) := by decide +kernel
theorem d_Mo_tried_31 : decode m_Mo_tried.2.1 31 = .ok (.iload_n 1, 1) := by decide +kernel
theorem d_Mo_tried_32 : decode m_Mo_tried.2.1 32 = .ok (.ifCond .lt 16, 3) := by decide +kernel
theorem d_Mo_tried_35 : decode m_Mo_tried.2.1 35 = .ok (.iload_n 1, 1) := by decide +kernel
theorem d_Mo_tried_36 : decode m_Mo_tried.2.1 36 = .ok (.iconst 5, 1) := by decide +kernel
theorem d_Mo_tried_37 : decode m_Mo_tried.2.1 37 = .ok (.if_icmp .gt 11, 3) := by decide +kernel
theorem d_Mo_tried_40 : decode m_Mo_tried.2.1 40 = .ok (.iload_n 2, 1) := by decide +kernel
theorem d_Mo_tried_41 : decode m_Mo_tried.2.1 41 = .ok (.ifCond .ne 7, 3) := by decide +kernel
theorem d_Mo_tried_44 : decode m_Mo_tried.2.1 44 = .ok (.iconst 1, 1) := by decide +kernel
theorem d_Mo_tried_45 : decode m_Mo_tried.2.1 45 = .ok (.goto 4, 3) := by decide +kernel
theorem d_Mo_tried_48 : decode m_Mo_tried.2.1 48 = .ok (.iconst 0, 1) := by decide +kernel
theorem d_Mo_tried_49 : decode m_Mo_tried.2.1 49 = .ok (.istore_n 3, 1) := by decide +kernel
theorem d_Mo_tried_50 : decode m_Mo_tried.2.1 50 = .ok (.iload_n 3, 1) := by decide +kernel
theorem d_Mo_tried_51 : decode m_Mo_tried.2.1 51 = .ok (.ifCond .ne 5, 3) := by decide +kernel
theorem d_Mo_tried_54 : decode m_Mo_tried.2.1 54 = .ok (.iconst (-1), 1) := by decide +kernel
theorem d_Mo_tried_55 : decode m_Mo_tried.2.1 55 = .ok (.ireturn, 1) := by decide +kernel
theorem d_Mo_tried_56 : decode m_Mo_tried.2.1 56 = .ok (.aload_n 0, 1) := by decide +kernel
theorem d_Mo_tried_57 : decode m_Mo_tried.2.1 57 = .ok (.invokevirtual 406, 3) := by decide +kernel
theorem d_Mo_tried_60 : decode m_Mo_tried.2.1 60 = .ok (.aload_n 0, 1) := by decide +kernel
theorem d_Mo_tried_61 : decode m_Mo_tried.2.1 61 = .ok (.iload_n 1, 1) := by decide +kernel
theorem d_Mo_tried_62 : decode m_Mo_tried.2.1 62 = .ok (.putfield 88, 3) := by decide +kernel
theorem d_Mo_tried_65 : decode m_Mo_tried.2.1 65 = .ok (.aload_n 0, 1) := by decide +kernel
theorem d_Mo_tried_66 : decode m_Mo_tried.2.1 66 = .ok (.iload_n 2, 1) := by decide +kernel
theorem d_Mo_tried_67 : decode m_Mo_tried.2.1 67 = .ok (.putfield 91, 3) := by decide +kernel
theorem d_Mo_tried_70 : decode m_Mo_tried.2.1 70 = .ok (.iload_n 1, 1) := by decide +kernel
theorem d_Mo_tried_71 : decode m_Mo_tried.2.1 71 = .ok (.ifCond .ne 9, 3) := by decide +kernel
theorem d_Mo_tried_74 : decode m_Mo_tried.2.1 74 = .ok (.aload_n 0, 1) := by decide +kernel
theorem d_Mo_tried_75 : decode m_Mo_tried.2.1 75 = .ok (.bipush 63, 2) := by decide +kernel
theorem d_Mo_tried_77 : decode m_Mo_tried.2.1 77 = .ok (.putfield 380, 3) := by decide +kernel
theorem d_Mo_tried_80 : decode m_Mo_tried.2.1 80 = .ok (.aload_n 0, 1) := by decide +kernel
theorem d_Mo_tried_81 : decode m_Mo_tried.2.1 81 = .ok (.sipush 240, 3) := by decide +kernel
theorem d_Mo_tried_84 : decode m_Mo_tried.2.1 84 = .ok (.invokevirtual 409, 3) := by decide +kernel
theorem d_Mo_tried_87 : decode m_Mo_tried.2.1 87 = .ok (.aload_n 0, 1) := by decide +kernel
theorem d_Mo_tried_88 : decode m_Mo_tried.2.1 88 = .ok (.invokevirtual 412, 3) := by decide +kernel
theorem d_Mo_tried_91 : decode m_Mo_tried.2.1 91 = .ok (.istore 4, 2) := by decide +kernel
theorem d_Mo_tried_93 : decode m_Mo_tried.2.1 93 = .ok (.aload_n 0, 1) := by decide +kernel
theorem d_Mo_tried_94 : decode m_Mo_tried.2.1 94 = .ok (.invokevirtual 366, 3) := by decide +kernel
theorem d_Mo_tried_97 : decode m_Mo_tried.2.1 97 = .ok (.iload 4, 2) := by decide +kernel
theorem d_Mo_tried_99 : decode m_Mo_tried.2.1 99 = .ok (.ireturn, 1) := by decide +kernel
theorem d_Mo_undo_0 : decode m_Mo_undo.2.1 0 = .ok (.aload_n 0, 1) := by decide +kernel
theorem d_Mo_undo_1 : decode m_Mo_undo.2.1 1 = .ok (.iconst 0, 1) := by decide +kernel
theorem d_Mo_undo_2 : decode m_Mo_undo.2.1 2 = .ok (.putfield 160, 3) := by decide +kernel
theorem d_Mo_undo_5 : decode m_Mo_undo.2.1 5 = .ok (.aload_n 0, 1) := by decide +kernel
theorem d_Mo_undo_6 : decode m_Mo_undo.2.1 6 = .ok (.getfield 311, 3) := by decide +kernel
theorem d_Mo_undo_9 : decode m_Mo_undo.2.1 9 = .ok (.ifCond .ne 5, 3) := by decide +kernel
theorem d_Mo_undo_12 : decode m_Mo_undo.2.1 12 = .ok (.iconst (-1), 1) := by decide +kernel
theorem d_Mo_undo_13 : decode m_Mo_undo.2.1 13 = .ok (.ireturn, 1) := by decide +kernel
theorem d_Mo_undo_14 : decode m_Mo_undo.2.1 14 = .ok (.aload_n 0, 1) := by decide +kernel
theorem d_Mo_undo_15 : decode m_Mo_undo.2.1 15 = .ok (.dup, 1) := by decide +kernel
theorem d_Mo_undo_16 : decode m_Mo_undo.2.1 16 = .ok (.getfield 311, 3) := by decide +kernel
theorem d_Mo_undo_19 : decode m_Mo_undo.2.1 19 = .ok (.iconst 1, 1) := by decide +kernel
theorem d_Mo_undo_20 : decode m_Mo_undo.2.1 20 = .ok (.isub, 1) := by decide +kernel
theorem d_Mo_undo_21 : decode m_Mo_undo.2.1 21 = .ok (.putfield 311, 3) := by decide +kernel
theorem d_Mo_undo_24 : decode m_Mo_undo.2.1 24 = .ok (.aload_n 0, 1) := by decide +kernel
theorem d_Mo_undo_25 : decode m_Mo_undo.2.1 25 = .ok (.iconst 0, 1) := by decide +kernel
theorem d_Mo_undo_26 : decode m_Mo_undo.2.1 26 = .ok (.iconst 2, 1) := by decide +kernel
theorem d_Mo_undo_27 : decode m_Mo_undo.2.1 27 = .ok (.aload_n 0, 1) := by decide +kernel
theorem d_Mo_undo_28 : decode m_Mo_undo.2.1 28 = .ok (.getfield 311, 3) := by decide +kernel
theorem d_Mo_undo_31 : decode m_Mo_undo.2.1 31 = .ok (.iadd, 1) := by decide +kernel
theorem d_Mo_undo_32 : decode m_Mo_undo.2.1 32 = .ok (.invokevirtual 422, 3) := by decide +kernel
theorem d_Mo_undo_35 : decode m_Mo_undo.2.1 35 = .ok (.aload_n 0, 1) := by decide +kernel
theorem d_Mo_undo_36 : decode m_Mo_undo.2.1 36 = .ok (.getfield 311, 3) := by decide +kernel
theorem d_Mo_undo_39 : decode m_Mo_undo.2.1 39 = .ok (.ireturn, 1) := by decide +kernel
theorem d_Mo_keep_0 : decode m_Mo_keep.2.1 0 = .ok (.aload_n 0, 1) := by decide +kernel
theorem d_Mo_keep_1 : decode m_Mo_keep.2.1 1 = .ok (.iconst 0, 1) := by decide +kernel
theorem d_Mo_keep_2 : decode m_Mo_keep.2.1 2 = .ok (.putfield 160, 3) := by decide +kernel
theorem d_Mo_keep_5 : decode m_Mo_keep.2.1 5 = .ok (.aload_n 0, 1) := by decide +kernel
theorem d_Mo_keep_6 : decode m_Mo_keep.2.1 6 = .ok (.iconst 1, 1) := by decide +kernel
theorem d_Mo_keep_7 : decode m_Mo_keep.2.1 7 = .ok (.iconst 0, 1) := by decide +kernel
theorem d_Mo_keep_8 : decode m_Mo_keep.2.1 8 = .ok (.invokevirtual 422, 3) := by decide +kernel
theorem d_Mo_keep_11 : decode m_Mo_keep.2.1 11 = .ok (.aload_n 0, 1) := by decide +kernel
theorem d_Mo_keep_12 : decode m_Mo_keep.2.1 12 = .ok (.iconst 1, 1) := by decide +kernel
theorem d_Mo_keep_13 : decode m_Mo_keep.2.1 13 = .ok (.iconst 0, 1) := by decide +kernel
theorem d_Mo_keep_14 : decode m_Mo_keep.2.1 14 = .ok (.invokevirtual 494, 3) := by decide +kernel
theorem d_Mo_keep_17 : decode m_Mo_keep.2.1 17 = .ok (.aload_n 0, 1) := by decide +kernel
theorem d_Mo_keep_18 : decode m_Mo_keep.2.1 18 = .ok (.iconst 1, 1) := by decide +kernel
theorem d_Mo_keep_19 : decode m_Mo_keep.2.1 19 = .ok (.putfield 307, 3) := by decide +kernel
theorem d_Mo_keep_22 : decode m_Mo_keep.2.1 22 = .ok (.aload_n 0, 1) := by decide +kernel
theorem d_Mo_keep_23 : decode m_Mo_keep.2.1 23 = .ok (.invokevirtual 428, 3) := by decide +kernel
theorem d_Mo_keep_26 : decode m_Mo_keep.2.1 26 = .ok (.ireturn, 1) := by decide +kernel
theorem d_Mo_copiesNight_0 : decode m_Mo_copiesNight.2.1 0 = .ok (.aload_n 0, 1) := by decide +kernel
theorem d_Mo_copiesNight_1 : decode m_Mo_copiesNight.2.1 1 = .ok (.getfield 69, 3) := by decide +kernel
theorem d_Mo_copiesNight_4 : decode m_Mo_copiesNight.2.1 4 = .ok (.iload_n 1, 1) := by decide +kernel
theorem d_Mo_copiesNight_5 : decode m_Mo_copiesNight.2.1 5 = .ok (.aload_n 0, 1) := by decide +kernel
theorem d_Mo_copiesNight_6 : decode m_Mo_copiesNight.2.1 6 = .ok (.getfield 69, 3) := by decide +kernel
theorem d_Mo_copiesNight_9 : decode m_Mo_copiesNight.2.1 9 = .ok (.iload_n 2, 1) := by decide +kernel
theorem d_Mo_copiesNight_10 : decode m_Mo_copiesNight.2.1 10 = .ok (.iaload, 1) := by decide +kernel
theorem d_Mo_copiesNight_11 : decode m_Mo_copiesNight.2.1 11 = .ok (.iastore, 1) := by decide +kernel
theorem d_Mo_copiesNight_12 : decode m_Mo_copiesNight.2.1 12 = .ok (.aload_n 0, 1) := by decide +kernel
theorem d_Mo_copiesNight_13 : decode m_Mo_copiesNight.2.1 13 = .ok (.getfield 72, 3) := by decide +kernel
theorem d_Mo_copiesNight_16 : decode m_Mo_copiesNight.2.1 16 = .ok (.iload_n 1, 1) := by decide +kernel
theorem d_Mo_copiesNight_17 : decode m_Mo_copiesNight.2.1 17 = .ok (.aload_n 0, 1) := by decide +kernel
theorem d_Mo_copiesNight_18 : decode m_Mo_copiesNight.2.1 18 = .ok (.getfield 72, 3) := by decide +kernel
theorem d_Mo_copiesNight_21 : decode m_Mo_copiesNight.2.1 21 = .ok (.iload_n 2, 1) := by decide +kernel
theorem d_Mo_copiesNight_22 : decode m_Mo_copiesNight.2.1 22 = .ok (.iaload, 1) := by decide +kernel
theorem d_Mo_copiesNight_23 : decode m_Mo_copiesNight.2.1 23 = .ok (.iastore, 1) := by decide +kernel
theorem d_Mo_copiesNight_24 : decode m_Mo_copiesNight.2.1 24 = .ok (.iconst 0, 1) := by decide +kernel
theorem d_Mo_copiesNight_25 : decode m_Mo_copiesNight.2.1 25 = .ok (.istore_n 3, 1) := by decide +kernel
theorem d_Mo_copiesNight_26 : decode m_Mo_copiesNight.2.1 26 = .ok (.iload_n 3, 1) := by decide +kernel
theorem d_Mo_copiesNight_27 : decode m_Mo_copiesNight.2.1 27 = .ok (.bipush 6, 2) := by decide +kernel
theorem d_Mo_copiesNight_29 : decode m_Mo_copiesNight.2.1 29 = .ok (.if_icmp .ge 53, 3) := by decide +kernel
theorem d_Mo_copiesNight_32 : decode m_Mo_copiesNight.2.1 32 = .ok (.aload_n 0, 1) := by decide +kernel
theorem d_Mo_copiesNight_33 : decode m_Mo_copiesNight.2.1 33 = .ok (.getfield 75, 3) := by decide +kernel
theorem d_Mo_copiesNight_36 : decode m_Mo_copiesNight.2.1 36 = .ok (.bipush 6, 2) := by decide +kernel
theorem d_Mo_copiesNight_38 : decode m_Mo_copiesNight.2.1 38 = .ok (.iload_n 1, 1) := by decide +kernel
theorem d_Mo_copiesNight_39 : decode m_Mo_copiesNight.2.1 39 = .ok (.imul, 1) := by decide +kernel
theorem d_Mo_copiesNight_40 : decode m_Mo_copiesNight.2.1 40 = .ok (.iload_n 3, 1) := by decide +kernel
theorem d_Mo_copiesNight_41 : decode m_Mo_copiesNight.2.1 41 = .ok (.iadd, 1) := by decide +kernel
theorem d_Mo_copiesNight_42 : decode m_Mo_copiesNight.2.1 42 = .ok (.aload_n 0, 1) := by decide +kernel
theorem d_Mo_copiesNight_43 : decode m_Mo_copiesNight.2.1 43 = .ok (.getfield 75, 3) := by decide +kernel
theorem d_Mo_copiesNight_46 : decode m_Mo_copiesNight.2.1 46 = .ok (.bipush 6, 2) := by decide +kernel
theorem d_Mo_copiesNight_48 : decode m_Mo_copiesNight.2.1 48 = .ok (.iload_n 2, 1) := by decide +kernel
theorem d_Mo_copiesNight_49 : decode m_Mo_copiesNight.2.1 49 = .ok (.imul, 1) := by decide +kernel
theorem d_Mo_copiesNight_50 : decode m_Mo_copiesNight.2.1 50 = .ok (.iload_n 3, 1) := by decide +kernel
theorem d_Mo_copiesNight_51 : decode m_Mo_copiesNight.2.1 51 = .ok (.iadd, 1) := by decide +kernel
theorem d_Mo_copiesNight_52 : decode m_Mo_copiesNight.2.1 52 = .ok (.iaload, 1) := by decide +kernel
theorem d_Mo_copiesNight_53 : decode m_Mo_copiesNight.2.1 53 = .ok (.iastore, 1) := by decide +kernel
theorem d_Mo_copiesNight_54 : decode m_Mo_copiesNight.2.1 54 = .ok (.aload_n 0, 1) := by decide +kernel
theorem d_Mo_copiesNight_55 : decode m_Mo_copiesNight.2.1 55 = .ok (.getfield 78, 3) := by decide +kernel
theorem d_Mo_copiesNight_58 : decode m_Mo_copiesNight.2.1 58 = .ok (.bipush 6, 2) := by decide +kernel
theorem d_Mo_copiesNight_60 : decode m_Mo_copiesNight.2.1 60 = .ok (.iload_n 1, 1) := by decide +kernel
theorem d_Mo_copiesNight_61 : decode m_Mo_copiesNight.2.1 61 = .ok (.imul, 1) := by decide +kernel
theorem d_Mo_copiesNight_62 : decode m_Mo_copiesNight.2.1 62 = .ok (.iload_n 3, 1) := by decide +kernel
theorem d_Mo_copiesNight_63 : decode m_Mo_copiesNight.2.1 63 = .ok (.iadd, 1) := by decide +kernel
theorem d_Mo_copiesNight_64 : decode m_Mo_copiesNight.2.1 64 = .ok (.aload_n 0, 1) := by decide +kernel
theorem d_Mo_copiesNight_65 : decode m_Mo_copiesNight.2.1 65 = .ok (.getfield 78, 3) := by decide +kernel
theorem d_Mo_copiesNight_68 : decode m_Mo_copiesNight.2.1 68 = .ok (.bipush 6, 2) := by decide +kernel
theorem d_Mo_copiesNight_70 : decode m_Mo_copiesNight.2.1 70 = .ok (.iload_n 2, 1) := by decide +kernel
theorem d_Mo_copiesNight_71 : decode m_Mo_copiesNight.2.1 71 = .ok (.imul, 1) := by decide +kernel
theorem d_Mo_copiesNight_72 : decode m_Mo_copiesNight.2.1 72 = .ok (.iload_n 3, 1) := by decide +kernel
theorem d_Mo_copiesNight_73 : decode m_Mo_copiesNight.2.1 73 = .ok (.iadd, 1) := by decide +kernel
theorem d_Mo_copiesNight_74 : decode m_Mo_copiesNight.2.1 74 = .ok (.iaload, 1) := by decide +kernel
theorem d_Mo_copiesNight_75 : decode m_Mo_copiesNight.2.1 75 = .ok (.iastore, 1) := by decide +kernel
theorem d_Mo_copiesNight_76 : decode m_Mo_copiesNight.2.1 76 = .ok (.iinc 3 1, 3) := by decide +kernel
theorem d_Mo_copiesNight_79 : decode m_Mo_copiesNight.2.1 79 = .ok (.goto (-53), 3) := by decide +kernel
theorem d_Mo_copiesNight_82 : decode m_Mo_copiesNight.2.1 82 = .ok (.return_, 1) := by decide +kernel
theorem d_Mo_back_0 : decode m_Mo_back.2.1 0 = .ok (.aload_n 0, 1) := by decide +kernel
theorem d_Mo_back_1 : decode m_Mo_back.2.1 1 = .ok (.iconst 0, 1) := by decide +kernel
theorem d_Mo_back_2 : decode m_Mo_back.2.1 2 = .ok (.putfield 160, 3) := by decide +kernel
theorem d_Mo_back_5 : decode m_Mo_back.2.1 5 = .ok (.aload_n 0, 1) := by decide +kernel
theorem d_Mo_back_6 : decode m_Mo_back.2.1 6 = .ok (.getfield 307, 3) := by decide +kernel
theorem d_Mo_back_9 : decode m_Mo_back.2.1 9 = .ok (.ifCond .ne 5, 3) := by decide +kernel
theorem d_Mo_back_12 : decode m_Mo_back.2.1 12 = .ok (.iconst (-1), 1) := by decide +kernel
theorem d_Mo_back_13 : decode m_Mo_back.2.1 13 = .ok (.ireturn, 1) := by decide +kernel
theorem d_Mo_back_14 : decode m_Mo_back.2.1 14 = .ok (.aload_n 0, 1) := by decide +kernel
theorem d_Mo_back_15 : decode m_Mo_back.2.1 15 = .ok (.iconst 0, 1) := by decide +kernel
theorem d_Mo_back_16 : decode m_Mo_back.2.1 16 = .ok (.iconst 1, 1) := by decide +kernel
theorem d_Mo_back_17 : decode m_Mo_back.2.1 17 = .ok (.invokevirtual 422, 3) := by decide +kernel
theorem d_Mo_back_20 : decode m_Mo_back.2.1 20 = .ok (.aload_n 0, 1) := by decide +kernel
theorem d_Mo_back_21 : decode m_Mo_back.2.1 21 = .ok (.iconst 0, 1) := by decide +kernel
theorem d_Mo_back_22 : decode m_Mo_back.2.1 22 = .ok (.iconst 1, 1) := by decide +kernel
theorem d_Mo_back_23 : decode m_Mo_back.2.1 23 = .ok (.invokevirtual 494, 3) := by decide +kernel
theorem d_Mo_back_26 : decode m_Mo_back.2.1 26 = .ok (.aload_n 0, 1) := by decide +kernel
theorem d_Mo_back_27 : decode m_Mo_back.2.1 27 = .ok (.iconst 0, 1) := by decide +kernel
theorem d_Mo_back_28 : decode m_Mo_back.2.1 28 = .ok (.putfield 311, 3) := by decide +kernel
theorem d_Mo_back_31 : decode m_Mo_back.2.1 31 = .ok (.aload_n 0, 1) := by decide +kernel
theorem d_Mo_back_32 : decode m_Mo_back.2.1 32 = .ok (.invokevirtual 428, 3) := by decide +kernel
theorem d_Mo_back_35 : decode m_Mo_back.2.1 35 = .ok (.ireturn, 1) := by decide +kernel
theorem d_Mo_count_0 : decode m_Mo_count.2.1 0 = .ok (.aload_n 0, 1) := by decide +kernel
theorem d_Mo_count_1 : decode m_Mo_count.2.1 1 = .ok (.iconst 0, 1) := by decide +kernel
theorem d_Mo_count_2 : decode m_Mo_count.2.1 2 = .ok (.putfield 160, 3) := by decide +kernel
theorem d_Mo_count_5 : decode m_Mo_count.2.1 5 = .ok (.iconst 0, 1) := by decide +kernel
theorem d_Mo_count_6 : decode m_Mo_count.2.1 6 = .ok (.istore_n 2, 1) := by decide +kernel
theorem d_Mo_count_7 : decode m_Mo_count.2.1 7 = .ok (.iload_n 1, 1) := by decide +kernel
theorem d_Mo_count_8 : decode m_Mo_count.2.1 8 = .ok (.tableswitch 140 0 7 #[48, 55, 62, 69, 118, 123, 128, 133], 48) := by decide +kernel
theorem d_Mo_count_56 : decode m_Mo_count.2.1 56 = .ok (.aload_n 0, 1) := by decide +kernel
theorem d_Mo_count_57 : decode m_Mo_count.2.1 57 = .ok (.getfield 13, 3) := by decide +kernel
theorem d_Mo_count_60 : decode m_Mo_count.2.1 60 = .ok (.iconst 0, 1) := by decide +kernel
theorem d_Mo_count_61 : decode m_Mo_count.2.1 61 = .ok (.iaload, 1) := by decide +kernel
theorem d_Mo_count_62 : decode m_Mo_count.2.1 62 = .ok (.ireturn, 1) := by decide +kernel
theorem d_Mo_count_63 : decode m_Mo_count.2.1 63 = .ok (.aload_n 0, 1) := by decide +kernel
theorem d_Mo_count_64 : decode m_Mo_count.2.1 64 = .ok (.getfield 13, 3) := by decide +kernel
theorem d_Mo_count_67 : decode m_Mo_count.2.1 67 = .ok (.iconst 1, 1) := by decide +kernel
theorem d_Mo_count_68 : decode m_Mo_count.2.1 68 = .ok (.iaload, 1) := by decide +kernel
theorem d_Mo_count_69 : decode m_Mo_count.2.1 69 = .ok (.ireturn, 1) := by decide +kernel
theorem d_Mo_count_70 : decode m_Mo_count.2.1 70 = .ok (.aload_n 0, 1) := by decide +kernel
theorem d_Mo_count_71 : decode m_Mo_count.2.1 71 = .ok (.getfield 13, 3) := by decide +kernel
theorem d_Mo_count_74 : decode m_Mo_count.2.1 74 = .ok (.iconst 3, 1) := by decide +kernel
theorem d_Mo_count_75 : decode m_Mo_count.2.1 75 = .ok (.iaload, 1) := by decide +kernel
theorem d_Mo_count_76 : decode m_Mo_count.2.1 76 = .ok (.ireturn, 1) := by decide +kernel
theorem d_Mo_count_77 : decode m_Mo_count.2.1 77 = .ok (.aload_n 0, 1) := by decide +kernel
theorem d_Mo_count_78 : decode m_Mo_count.2.1 78 = .ok (.invokevirtual 406, 3) := by decide +kernel
theorem d_Mo_count_81 : decode m_Mo_count.2.1 81 = .ok (.aload_n 0, 1) := by decide +kernel
theorem d_Mo_count_82 : decode m_Mo_count.2.1 82 = .ok (.sipush 240, 3) := by decide +kernel
theorem d_Mo_count_85 : decode m_Mo_count.2.1 85 = .ok (.invokevirtual 409, 3) := by decide +kernel
theorem d_Mo_count_88 : decode m_Mo_count.2.1 88 = .ok (.iconst 0, 1) := by decide +kernel
theorem d_Mo_count_89 : decode m_Mo_count.2.1 89 = .ok (.istore_n 3, 1) := by decide +kernel
theorem d_Mo_count_90 : decode m_Mo_count.2.1 90 = .ok (.iload_n 3, 1) := by decide +kernel
theorem d_Mo_count_91 : decode m_Mo_count.2.1 91 = .ok (.aload_n 0, 1) := by decide +kernel
theorem d_Mo_count_92 : decode m_Mo_count.2.1 92 = .ok (.getfield 13, 3) := by decide +kernel
theorem d_Mo_count_95 : decode m_Mo_count.2.1 95 = .ok (.iconst 0, 1) := by decide +kernel
theorem d_Mo_count_96 : decode m_Mo_count.2.1 96 = .ok (.iaload, 1) := by decide +kernel
theorem d_Mo_count_97 : decode m_Mo_count.2.1 97 = .ok (.if_icmp .ge 27, 3) := by decide +kernel
theorem d_Mo_count_100 : decode m_Mo_count.2.1 100 = .ok (.iload_n 2, 1) := by decide +kernel
theorem d_Mo_count_101 : decode m_Mo_count.2.1 101 = .ok (.aload_n 0, 1) := by decide +kernel
theorem d_Mo_count_102 : decode m_Mo_count.2.1 102 = .ok (.getfield 127, 3) := by decide +kernel
theorem d_Mo_count_105 : decode m_Mo_count.2.1 105 = .ok (.iload_n 3, 1) := by decide +kernel
theorem d_Mo_count_106 : decode m_Mo_count.2.1 106 = .ok (.iaload, 1) := by decide +kernel
theorem d_Mo_count_107 : decode m_Mo_count.2.1 107 = .ok (.iconst (-1), 1) := by decide +kernel
theorem d_Mo_count_108 : decode m_Mo_count.2.1 108 = .ok (.if_icmp .ne 7, 3) := by decide +kernel
theorem d_Mo_count_111 : decode m_Mo_count.2.1 111 = .ok (.iconst 0, 1) := by decide +kernel
theorem d_Mo_count_112 : decode m_Mo_count.2.1 112 = .ok (.goto 4, 3) := by decide +kernel
theorem d_Mo_count_115 : decode m_Mo_count.2.1 115 = .ok (.iconst 1, 1) := by decide +kernel
theorem d_Mo_count_116 : decode m_Mo_count.2.1 116 = .ok (.iadd, 1) := by decide +kernel
theorem d_Mo_count_117 : decode m_Mo_count.2.1 117 = .ok (.istore_n 2, 1) := by decide +kernel
theorem d_Mo_count_118 : decode m_Mo_count.2.1 118 = .ok (.iinc 3 1, 3) := by decide +kernel
theorem d_Mo_count_121 : decode m_Mo_count.2.1 121 = .ok (.goto (-31), 3) := by decide +kernel
theorem d_Mo_count_124 : decode m_Mo_count.2.1 124 = .ok (.iload_n 2, 1) := by decide +kernel
theorem d_Mo_count_125 : decode m_Mo_count.2.1 125 = .ok (.ireturn, 1) := by decide +kernel
theorem d_Mo_count_126 : decode m_Mo_count.2.1 126 = .ok (.aload_n 0, 1) := by decide +kernel
theorem d_Mo_count_127 : decode m_Mo_count.2.1 127 = .ok (.getfield 304, 3) := by decide +kernel
theorem d_Mo_count_130 : decode m_Mo_count.2.1 130 = .ok (.ireturn, 1) := by decide +kernel
theorem d_Mo_count_131 : decode m_Mo_count.2.1 131 = .ok (.aload_n 0, 1) := by decide +kernel
theorem d_Mo_count_132 : decode m_Mo_count.2.1 132 = .ok (.invokevirtual 476, 3) := by decide +kernel
theorem d_Mo_count_135 : decode m_Mo_count.2.1 135 = .ok (.ireturn, 1) := by decide +kernel
theorem d_Mo_count_136 : decode m_Mo_count.2.1 136 = .ok (.aload_n 0, 1) := by decide +kernel
theorem d_Mo_count_137 : decode m_Mo_count.2.1 137 = .ok (.getfield 311, 3) := by decide +kernel
theorem d_Mo_count_140 : decode m_Mo_count.2.1 140 = .ok (.ireturn, 1) := by decide +kernel
theorem d_Mo_count_141 : decode m_Mo_count.2.1 141 = .ok (.aload_n 0, 1) := by decide +kernel
theorem d_Mo_count_142 : decode m_Mo_count.2.1 142 = .ok (.getfield 72, 3) := by decide +kernel
theorem d_Mo_count_145 : decode m_Mo_count.2.1 145 = .ok (.iconst 0, 1) := by decide +kernel
theorem d_Mo_count_146 : decode m_Mo_count.2.1 146 = .ok (.iaload, 1) := by decide +kernel
theorem d_Mo_count_147 : decode m_Mo_count.2.1 147 = .ok (.ireturn, 1) := by decide +kernel
theorem d_Mo_count_148 : decode m_Mo_count.2.1 148 = .ok (.iconst (-1), 1) := by decide +kernel
theorem d_Mo_count_149 : decode m_Mo_count.2.1 149 = .ok (.ireturn, 1) := by decide +kernel
theorem d_Law_law_0 : decode m_Law_law.2.1 0 = .ok (.new 8, 3) := by decide +kernel
theorem d_Law_law_3 : decode m_Law_law.2.1 3 = .ok (.dup, 1) := by decide +kernel
theorem d_Law_law_4 : decode m_Law_law.2.1 4 = .ok (.invokespecial 17, 3) := by decide +kernel
theorem d_Law_law_7 : decode m_Law_law.2.1 7 = .ok (.astore_n 1, 1) := by decide +kernel
theorem d_Law_law_8 : decode m_Law_law.2.1 8 = .ok (.new 18, 3) := by decide +kernel
theorem d_Law_law_11 : decode m_Law_law.2.1 11 = .ok (.dup, 1) := by decide +kernel
theorem d_Law_law_12 : decode m_Law_law.2.1 12 = .ok (.invokespecial 20, 3) := by decide +kernel
theorem d_Law_law_15 : decode m_Law_law.2.1 15 = .ok (.astore_n 2, 1) := by decide +kernel
theorem d_Law_law_16 : decode m_Law_law.2.1 16 = .ok (.iconst 1, 1) := by decide +kernel
theorem d_Law_law_17 : decode m_Law_law.2.1 17 = .ok (.newarray .long, 2) := by decide +kernel
theorem d_Law_law_19 : decode m_Law_law.2.1 19 = .ok (.astore_n 3, 1) := by decide +kernel
theorem d_Law_law_20 : decode m_Law_law.2.1 20 = .ok (.iconst 0, 1) := by decide +kernel
theorem d_Law_law_21 : decode m_Law_law.2.1 21 = .ok (.istore 4, 2) := by decide +kernel
theorem d_Law_law_23 : decode m_Law_law.2.1 23 = .ok (.iload 4, 2) := by decide +kernel
theorem d_Law_law_25 : decode m_Law_law.2.1 25 = .ok (.aload_n 0, 1) := by decide +kernel
theorem d_Law_law_26 : decode m_Law_law.2.1 26 = .ok (.arraylength, 1) := by decide +kernel
theorem d_Law_law_27 : decode m_Law_law.2.1 27 = .ok (.bipush 6, 2) := by decide +kernel
theorem d_Law_law_29 : decode m_Law_law.2.1 29 = .ok (.isub, 1) := by decide +kernel
theorem d_Law_law_30 : decode m_Law_law.2.1 30 = .ok (.if_icmp .gt 1514, 3) := by decide +kernel
theorem d_Law_law_33 : decode m_Law_law.2.1 33 = .ok (.aload_n 0, 1) := by decide +kernel
theorem d_Law_law_34 : decode m_Law_law.2.1 34 = .ok (.iload 4, 2) := by decide +kernel
theorem d_Law_law_36 : decode m_Law_law.2.1 36 = .ok (.iaload, 1) := by decide +kernel
theorem d_Law_law_37 : decode m_Law_law.2.1 37 = .ok (.bipush 63, 2) := by decide +kernel
theorem d_Law_law_39 : decode m_Law_law.2.1 39 = .ok (.iand, 1) := by decide +kernel
theorem d_Law_law_40 : decode m_Law_law.2.1 40 = .ok (.tableswitch 1498 0 38 #[172, 245, 270, 295, 332, 400, 437, 510, 583, 620, 657, 682, 735, 788, 825, 862, 875, 888, 925, 962, 987, 1036, 1049, 1074, 1099, 1136, 1161, 1186, 1199, 1224, 1273, 1298, 1323, 1348, 1397, 1434, 1447, 1460, 1473], 172) := by decide +kernel
theorem d_Law_law_212 : decode m_Law_law.2.1 212 = .ok (.aload_n 1, 1) := by decide +kernel
theorem d_Law_law_213 : decode m_Law_law.2.1 213 = .ok (.aload_n 0, 1) := by decide +kernel
theorem d_Law_law_214 : decode m_Law_law.2.1 214 = .ok (.iload 4, 2) := by decide +kernel
theorem d_Law_law_216 : decode m_Law_law.2.1 216 = .ok (.iconst 1, 1) := by decide +kernel
theorem d_Law_law_217 : decode m_Law_law.2.1 217 = .ok (.iadd, 1) := by decide +kernel
theorem d_Law_law_218 : decode m_Law_law.2.1 218 = .ok (.iaload, 1) := by decide +kernel
theorem d_Law_law_219 : decode m_Law_law.2.1 219 = .ok (.aload_n 0, 1) := by decide +kernel
theorem d_Law_law_220 : decode m_Law_law.2.1 220 = .ok (.iload 4, 2) := by decide +kernel
theorem d_Law_law_222 : decode m_Law_law.2.1 222 = .ok (.iconst 2, 1) := by decide +kernel
theorem d_Law_law_223 : decode m_Law_law.2.1 223 = .ok (.iadd, 1) := by decide +kernel
theorem d_Law_law_224 : decode m_Law_law.2.1 224 = .ok (.iaload, 1) := by decide +kernel
theorem d_Law_law_225 : decode m_Law_law.2.1 225 = .ok (.aload_n 0, 1) := by decide +kernel
theorem d_Law_law_226 : decode m_Law_law.2.1 226 = .ok (.iload 4, 2) := by decide +kernel
theorem d_Law_law_228 : decode m_Law_law.2.1 228 = .ok (.iconst 3, 1) := by decide +kernel
theorem d_Law_law_229 : decode m_Law_law.2.1 229 = .ok (.iadd, 1) := by decide +kernel
theorem d_Law_law_230 : decode m_Law_law.2.1 230 = .ok (.iaload, 1) := by decide +kernel
theorem d_Law_law_231 : decode m_Law_law.2.1 231 = .ok (.aload_n 0, 1) := by decide +kernel
theorem d_Law_law_232 : decode m_Law_law.2.1 232 = .ok (.iload 4, 2) := by decide +kernel
theorem d_Law_law_234 : decode m_Law_law.2.1 234 = .ok (.iconst 4, 1) := by decide +kernel
theorem d_Law_law_235 : decode m_Law_law.2.1 235 = .ok (.iadd, 1) := by decide +kernel
theorem d_Law_law_236 : decode m_Law_law.2.1 236 = .ok (.iaload, 1) := by decide +kernel
theorem d_Law_law_237 : decode m_Law_law.2.1 237 = .ok (.aload_n 0, 1) := by decide +kernel
theorem d_Law_law_238 : decode m_Law_law.2.1 238 = .ok (.iload 4, 2) := by decide +kernel
theorem d_Law_law_240 : decode m_Law_law.2.1 240 = .ok (.iconst 5, 1) := by decide +kernel
theorem d_Law_law_241 : decode m_Law_law.2.1 241 = .ok (.iadd, 1) := by decide +kernel
theorem d_Law_law_242 : decode m_Law_law.2.1 242 = .ok (.iaload, 1) := by decide +kernel
theorem d_Law_law_243 : decode m_Law_law.2.1 243 = .ok (.invokevirtual 21, 3) := by decide +kernel
theorem d_Law_law_246 : decode m_Law_law.2.1 246 = .ok (.aload_n 2, 1) := by decide +kernel
theorem d_Law_law_247 : decode m_Law_law.2.1 247 = .ok (.aload_n 0, 1) := by decide +kernel
theorem d_Law_law_248 : decode m_Law_law.2.1 248 = .ok (.iload 4, 2) := by decide +kernel
theorem d_Law_law_250 : decode m_Law_law.2.1 250 = .ok (.iconst 1, 1) := by decide +kernel
theorem d_Law_law_251 : decode m_Law_law.2.1 251 = .ok (.iadd, 1) := by decide +kernel
theorem d_Law_law_252 : decode m_Law_law.2.1 252 = .ok (.iaload, 1) := by decide +kernel
theorem d_Law_law_253 : decode m_Law_law.2.1 253 = .ok (.aload_n 0, 1) := by decide +kernel
theorem d_Law_law_254 : decode m_Law_law.2.1 254 = .ok (.iload 4, 2) := by decide +kernel
theorem d_Law_law_256 : decode m_Law_law.2.1 256 = .ok (.iconst 2, 1) := by decide +kernel
theorem d_Law_law_257 : decode m_Law_law.2.1 257 = .ok (.iadd, 1) := by decide +kernel
theorem d_Law_law_258 : decode m_Law_law.2.1 258 = .ok (.iaload, 1) := by decide +kernel
theorem d_Law_law_259 : decode m_Law_law.2.1 259 = .ok (.aload_n 0, 1) := by decide +kernel
theorem d_Law_law_260 : decode m_Law_law.2.1 260 = .ok (.iload 4, 2) := by decide +kernel
theorem d_Law_law_262 : decode m_Law_law.2.1 262 = .ok (.iconst 3, 1) := by decide +kernel
theorem d_Law_law_263 : decode m_Law_law.2.1 263 = .ok (.iadd, 1) := by decide +kernel
theorem d_Law_law_264 : decode m_Law_law.2.1 264 = .ok (.iaload, 1) := by decide +kernel
theorem d_Law_law_265 : decode m_Law_law.2.1 265 = .ok (.aload_n 0, 1) := by decide +kernel
theorem d_Law_law_266 : decode m_Law_law.2.1 266 = .ok (.iload 4, 2) := by decide +kernel
theorem d_Law_law_268 : decode m_Law_law.2.1 268 = .ok (.iconst 4, 1) := by decide +kernel
theorem d_Law_law_269 : decode m_Law_law.2.1 269 = .ok (.iadd, 1) := by decide +kernel
theorem d_Law_law_270 : decode m_Law_law.2.1 270 = .ok (.iaload, 1) := by decide +kernel
theorem d_Law_law_271 : decode m_Law_law.2.1 271 = .ok (.aload_n 0, 1) := by decide +kernel
theorem d_Law_law_272 : decode m_Law_law.2.1 272 = .ok (.iload 4, 2) := by decide +kernel
theorem d_Law_law_274 : decode m_Law_law.2.1 274 = .ok (.iconst 5, 1) := by decide +kernel
theorem d_Law_law_275 : decode m_Law_law.2.1 275 = .ok (.iadd, 1) := by decide +kernel
theorem d_Law_law_276 : decode m_Law_law.2.1 276 = .ok (.iaload, 1) := by decide +kernel
theorem d_Law_law_277 : decode m_Law_law.2.1 277 = .ok (.invokevirtual 25, 3) := by decide +kernel
theorem d_Law_law_280 : decode m_Law_law.2.1 280 = .ok (.if_icmp .eq 1258, 3) := by decide +kernel
theorem d_Law_law_283 : decode m_Law_law.2.1 283 = .ok (.iconst 0, 1) := by decide +kernel
theorem d_Law_law_284 : decode m_Law_law.2.1 284 = .ok (.ireturn, 1) := by decide +kernel
theorem d_Law_law_285 : decode m_Law_law.2.1 285 = .ok (.aload_n 1, 1) := by decide +kernel
theorem d_Law_law_286 : decode m_Law_law.2.1 286 = .ok (.aload_n 0, 1) := by decide +kernel
theorem d_Law_law_287 : decode m_Law_law.2.1 287 = .ok (.iload 4, 2) := by decide +kernel
theorem d_Law_law_289 : decode m_Law_law.2.1 289 = .ok (.iconst 1, 1) := by decide +kernel
theorem d_Law_law_290 : decode m_Law_law.2.1 290 = .ok (.iadd, 1) := by decide +kernel
theorem d_Law_law_291 : decode m_Law_law.2.1 291 = .ok (.iaload, 1) := by decide +kernel
theorem d_Law_law_292 : decode m_Law_law.2.1 292 = .ok (.invokevirtual 26, 3) := by decide +kernel
theorem d_Law_law_295 : decode m_Law_law.2.1 295 = .ok (.aload_n 2, 1) := by decide +kernel
theorem d_Law_law_296 : decode m_Law_law.2.1 296 = .ok (.aload_n 0, 1) := by decide +kernel
theorem d_Law_law_297 : decode m_Law_law.2.1 297 = .ok (.iload 4, 2) := by decide +kernel
theorem d_Law_law_299 : decode m_Law_law.2.1 299 = .ok (.iconst 1, 1) := by decide +kernel
theorem d_Law_law_300 : decode m_Law_law.2.1 300 = .ok (.iadd, 1) := by decide +kernel
theorem d_Law_law_301 : decode m_Law_law.2.1 301 = .ok (.iaload, 1) := by decide +kernel
theorem d_Law_law_302 : decode m_Law_law.2.1 302 = .ok (.invokevirtual 30, 3) := by decide +kernel
theorem d_Law_law_305 : decode m_Law_law.2.1 305 = .ok (.if_icmp .eq 1233, 3) := by decide +kernel
theorem d_Law_law_308 : decode m_Law_law.2.1 308 = .ok (.iconst 0, 1) := by decide +kernel
theorem d_Law_law_309 : decode m_Law_law.2.1 309 = .ok (.ireturn, 1) := by decide +kernel
theorem d_Law_law_310 : decode m_Law_law.2.1 310 = .ok (.aload_n 1, 1) := by decide +kernel
theorem d_Law_law_311 : decode m_Law_law.2.1 311 = .ok (.aload_n 0, 1) := by decide +kernel
theorem d_Law_law_312 : decode m_Law_law.2.1 312 = .ok (.iload 4, 2) := by decide +kernel
theorem d_Law_law_314 : decode m_Law_law.2.1 314 = .ok (.iconst 1, 1) := by decide +kernel
theorem d_Law_law_315 : decode m_Law_law.2.1 315 = .ok (.iadd, 1) := by decide +kernel
theorem d_Law_law_316 : decode m_Law_law.2.1 316 = .ok (.iaload, 1) := by decide +kernel
theorem d_Law_law_317 : decode m_Law_law.2.1 317 = .ok (.invokevirtual 31, 3) := by decide +kernel
theorem d_Law_law_320 : decode m_Law_law.2.1 320 = .ok (.aload_n 2, 1) := by decide +kernel
theorem d_Law_law_321 : decode m_Law_law.2.1 321 = .ok (.aload_n 0, 1) := by decide +kernel
theorem d_Law_law_322 : decode m_Law_law.2.1 322 = .ok (.iload 4, 2) := by decide +kernel
theorem d_Law_law_324 : decode m_Law_law.2.1 324 = .ok (.iconst 1, 1) := by decide +kernel
theorem d_Law_law_325 : decode m_Law_law.2.1 325 = .ok (.iadd, 1) := by decide +kernel
theorem d_Law_law_326 : decode m_Law_law.2.1 326 = .ok (.iaload, 1) := by decide +kernel
theorem d_Law_law_327 : decode m_Law_law.2.1 327 = .ok (.invokevirtual 34, 3) := by decide +kernel
theorem d_Law_law_330 : decode m_Law_law.2.1 330 = .ok (.if_icmp .eq 1208, 3) := by decide +kernel
theorem d_Law_law_333 : decode m_Law_law.2.1 333 = .ok (.iconst 0, 1) := by decide +kernel
theorem d_Law_law_334 : decode m_Law_law.2.1 334 = .ok (.ireturn, 1) := by decide +kernel
theorem d_Law_law_335 : decode m_Law_law.2.1 335 = .ok (.aload_n 1, 1) := by decide +kernel
theorem d_Law_law_336 : decode m_Law_law.2.1 336 = .ok (.aload_n 0, 1) := by decide +kernel
theorem d_Law_law_337 : decode m_Law_law.2.1 337 = .ok (.iload 4, 2) := by decide +kernel
theorem d_Law_law_339 : decode m_Law_law.2.1 339 = .ok (.iconst 1, 1) := by decide +kernel
theorem d_Law_law_340 : decode m_Law_law.2.1 340 = .ok (.iadd, 1) := by decide +kernel
theorem d_Law_law_341 : decode m_Law_law.2.1 341 = .ok (.iaload, 1) := by decide +kernel
theorem d_Law_law_342 : decode m_Law_law.2.1 342 = .ok (.aload_n 0, 1) := by decide +kernel
theorem d_Law_law_343 : decode m_Law_law.2.1 343 = .ok (.iload 4, 2) := by decide +kernel
theorem d_Law_law_345 : decode m_Law_law.2.1 345 = .ok (.iconst 2, 1) := by decide +kernel
theorem d_Law_law_346 : decode m_Law_law.2.1 346 = .ok (.iadd, 1) := by decide +kernel
theorem d_Law_law_347 : decode m_Law_law.2.1 347 = .ok (.iaload, 1) := by decide +kernel
theorem d_Law_law_348 : decode m_Law_law.2.1 348 = .ok (.invokevirtual 35, 3) := by decide +kernel
theorem d_Law_law_351 : decode m_Law_law.2.1 351 = .ok (.aload_n 2, 1) := by decide +kernel
theorem d_Law_law_352 : decode m_Law_law.2.1 352 = .ok (.aload_n 0, 1) := by decide +kernel
theorem d_Law_law_353 : decode m_Law_law.2.1 353 = .ok (.iload 4, 2) := by decide +kernel
theorem d_Law_law_355 : decode m_Law_law.2.1 355 = .ok (.iconst 1, 1) := by decide +kernel
theorem d_Law_law_356 : decode m_Law_law.2.1 356 = .ok (.iadd, 1) := by decide +kernel
theorem d_Law_law_357 : decode m_Law_law.2.1 357 = .ok (.iaload, 1) := by decide +kernel
theorem d_Law_law_358 : decode m_Law_law.2.1 358 = .ok (.aload_n 0, 1) := by decide +kernel
theorem d_Law_law_359 : decode m_Law_law.2.1 359 = .ok (.iload 4, 2) := by decide +kernel
theorem d_Law_law_361 : decode m_Law_law.2.1 361 = .ok (.iconst 2, 1) := by decide +kernel
theorem d_Law_law_362 : decode m_Law_law.2.1 362 = .ok (.iadd, 1) := by decide +kernel
theorem d_Law_law_363 : decode m_Law_law.2.1 363 = .ok (.iaload, 1) := by decide +kernel
theorem d_Law_law_364 : decode m_Law_law.2.1 364 = .ok (.invokevirtual 38, 3) := by decide +kernel
theorem d_Law_law_367 : decode m_Law_law.2.1 367 = .ok (.if_icmp .eq 1171, 3) := by decide +kernel
theorem d_Law_law_370 : decode m_Law_law.2.1 370 = .ok (.iconst 0, 1) := by decide +kernel
theorem d_Law_law_371 : decode m_Law_law.2.1 371 = .ok (.ireturn, 1) := by decide +kernel
theorem d_Law_law_372 : decode m_Law_law.2.1 372 = .ok (.aload_n 1, 1) := by decide +kernel
theorem d_Law_law_373 : decode m_Law_law.2.1 373 = .ok (.aload_n 0, 1) := by decide +kernel
theorem d_Law_law_374 : decode m_Law_law.2.1 374 = .ok (.iload 4, 2) := by decide +kernel
theorem d_Law_law_376 : decode m_Law_law.2.1 376 = .ok (.iconst 1, 1) := by decide +kernel
theorem d_Law_law_377 : decode m_Law_law.2.1 377 = .ok (.iadd, 1) := by decide +kernel
theorem d_Law_law_378 : decode m_Law_law.2.1 378 = .ok (.iaload, 1) := by decide +kernel
theorem d_Law_law_379 : decode m_Law_law.2.1 379 = .ok (.aload_n 0, 1) := by decide +kernel
theorem d_Law_law_380 : decode m_Law_law.2.1 380 = .ok (.iload 4, 2) := by decide +kernel
theorem d_Law_law_382 : decode m_Law_law.2.1 382 = .ok (.iconst 2, 1) := by decide +kernel
theorem d_Law_law_383 : decode m_Law_law.2.1 383 = .ok (.iadd, 1) := by decide +kernel
theorem d_Law_law_384 : decode m_Law_law.2.1 384 = .ok (.iaload, 1) := by decide +kernel
theorem d_Law_law_385 : decode m_Law_law.2.1 385 = .ok (.aload_n 3, 1) := by decide +kernel
theorem d_Law_law_386 : decode m_Law_law.2.1 386 = .ok (.invokestatic 39, 3) := by decide +kernel
theorem d_Law_law_389 : decode m_Law_law.2.1 389 = .ok (.istore 5, 2) := by decide +kernel
theorem d_Law_law_391 : decode m_Law_law.2.1 391 = .ok (.aload_n 2, 1) := by decide +kernel
theorem d_Law_law_392 : decode m_Law_law.2.1 392 = .ok (.aload_n 0, 1) := by decide +kernel
theorem d_Law_law_393 : decode m_Law_law.2.1 393 = .ok (.iload 4, 2) := by decide +kernel
theorem d_Law_law_395 : decode m_Law_law.2.1 395 = .ok (.iconst 1, 1) := by decide +kernel
theorem d_Law_law_396 : decode m_Law_law.2.1 396 = .ok (.iadd, 1) := by decide +kernel
theorem d_Law_law_397 : decode m_Law_law.2.1 397 = .ok (.iaload, 1) := by decide +kernel
theorem d_Law_law_398 : decode m_Law_law.2.1 398 = .ok (.aload_n 0, 1) := by decide +kernel
theorem d_Law_law_399 : decode m_Law_law.2.1 399 = .ok (.iload 4, 2) := by decide +kernel
theorem d_Law_law_401 : decode m_Law_law.2.1 401 = .ok (.iconst 2, 1) := by decide +kernel
theorem d_Law_law_402 : decode m_Law_law.2.1 402 = .ok (.iadd, 1) := by decide +kernel
theorem d_Law_law_403 : decode m_Law_law.2.1 403 = .ok (.iaload, 1) := by decide +kernel
theorem d_Law_law_404 : decode m_Law_law.2.1 404 = .ok (.invokevirtual 44, 3) := by decide +kernel
theorem d_Law_law_407 : decode m_Law_law.2.1 407 = .ok (.istore 6, 2) := by decide +kernel
theorem d_Law_law_409 : decode m_Law_law.2.1 409 = .ok (.aload_n 2, 1) := by decide +kernel
theorem d_Law_law_410 : decode m_Law_law.2.1 410 = .ok (.invokevirtual 45, 3) := by decide +kernel
theorem d_Law_law_413 : decode m_Law_law.2.1 413 = .ok (.iload 5, 2) := by decide +kernel
theorem d_Law_law_415 : decode m_Law_law.2.1 415 = .ok (.if_icmp .eq 5, 3) := by decide +kernel
theorem d_Law_law_418 : decode m_Law_law.2.1 418 = .ok (.iconst 0, 1) := by decide +kernel
theorem d_Law_law_419 : decode m_Law_law.2.1 419 = .ok (.ireturn, 1) := by decide +kernel
theorem d_Law_law_420 : decode m_Law_law.2.1 420 = .ok (.iload 5, 2) := by decide +kernel
theorem d_Law_law_422 : decode m_Law_law.2.1 422 = .ok (.ifCond .ne 15, 3) := by decide +kernel
theorem d_Law_law_425 : decode m_Law_law.2.1 425 = .ok (.aload_n 3, 1) := by decide +kernel
theorem d_Law_law_426 : decode m_Law_law.2.1 426 = .ok (.iconst 0, 1) := by decide +kernel
theorem d_Law_law_427 : decode m_Law_law.2.1 427 = .ok (.laload, 1) := by decide +kernel
theorem d_Law_law_428 : decode m_Law_law.2.1 428 = .ok (.iload 6, 2) := by decide +kernel
theorem d_Law_law_430 : decode m_Law_law.2.1 430 = .ok (.i2l, 1) := by decide +kernel
theorem d_Law_law_431 : decode m_Law_law.2.1 431 = .ok (.lcmp, 1) := by decide +kernel
theorem d_Law_law_432 : decode m_Law_law.2.1 432 = .ok (.ifCond .eq 5, 3) := by decide +kernel
theorem d_Law_law_435 : decode m_Law_law.2.1 435 = .ok (.iconst 0, 1) := by decide +kernel
theorem d_Law_law_436 : decode m_Law_law.2.1 436 = .ok (.ireturn, 1) := by decide +kernel
theorem d_Law_law_437 : decode m_Law_law.2.1 437 = .ok (.goto 1101, 3) := by decide +kernel
theorem d_Law_law_440 : decode m_Law_law.2.1 440 = .ok (.aload_n 1, 1) := by decide +kernel
theorem d_Law_law_441 : decode m_Law_law.2.1 441 = .ok (.aload_n 0, 1) := by decide +kernel
theorem d_Law_law_442 : decode m_Law_law.2.1 442 = .ok (.iload 4, 2) := by decide +kernel
theorem d_Law_law_444 : decode m_Law_law.2.1 444 = .ok (.iconst 1, 1) := by decide +kernel
theorem d_Law_law_445 : decode m_Law_law.2.1 445 = .ok (.iadd, 1) := by decide +kernel
theorem d_Law_law_446 : decode m_Law_law.2.1 446 = .ok (.iaload, 1) := by decide +kernel
theorem d_Law_law_447 : decode m_Law_law.2.1 447 = .ok (.aload_n 0, 1) := by decide +kernel
theorem d_Law_law_448 : decode m_Law_law.2.1 448 = .ok (.iload 4, 2) := by decide +kernel
theorem d_Law_law_450 : decode m_Law_law.2.1 450 = .ok (.iconst 2, 1) := by decide +kernel
theorem d_Law_law_451 : decode m_Law_law.2.1 451 = .ok (.iadd, 1) := by decide +kernel
theorem d_Law_law_452 : decode m_Law_law.2.1 452 = .ok (.iaload, 1) := by decide +kernel
theorem d_Law_law_453 : decode m_Law_law.2.1 453 = .ok (.invokevirtual 49, 3) := by decide +kernel
theorem d_Law_law_456 : decode m_Law_law.2.1 456 = .ok (.aload_n 2, 1) := by decide +kernel
theorem d_Law_law_457 : decode m_Law_law.2.1 457 = .ok (.aload_n 0, 1) := by decide +kernel
theorem d_Law_law_458 : decode m_Law_law.2.1 458 = .ok (.iload 4, 2) := by decide +kernel
theorem d_Law_law_460 : decode m_Law_law.2.1 460 = .ok (.iconst 1, 1) := by decide +kernel
theorem d_Law_law_461 : decode m_Law_law.2.1 461 = .ok (.iadd, 1) := by decide +kernel
theorem d_Law_law_462 : decode m_Law_law.2.1 462 = .ok (.iaload, 1) := by decide +kernel
theorem d_Law_law_463 : decode m_Law_law.2.1 463 = .ok (.aload_n 0, 1) := by decide +kernel
theorem d_Law_law_464 : decode m_Law_law.2.1 464 = .ok (.iload 4, 2) := by decide +kernel
theorem d_Law_law_466 : decode m_Law_law.2.1 466 = .ok (.iconst 2, 1) := by decide +kernel
theorem d_Law_law_467 : decode m_Law_law.2.1 467 = .ok (.iadd, 1) := by decide +kernel
theorem d_Law_law_468 : decode m_Law_law.2.1 468 = .ok (.iaload, 1) := by decide +kernel
theorem d_Law_law_469 : decode m_Law_law.2.1 469 = .ok (.invokevirtual 52, 3) := by decide +kernel
theorem d_Law_law_472 : decode m_Law_law.2.1 472 = .ok (.if_icmp .eq 1066, 3) := by decide +kernel
theorem d_Law_law_475 : decode m_Law_law.2.1 475 = .ok (.iconst 0, 1) := by decide +kernel
theorem d_Law_law_476 : decode m_Law_law.2.1 476 = .ok (.ireturn, 1) := by decide +kernel
theorem d_Law_law_477 : decode m_Law_law.2.1 477 = .ok (.aload_n 1, 1) := by decide +kernel
theorem d_Law_law_478 : decode m_Law_law.2.1 478 = .ok (.aload_n 0, 1) := by decide +kernel
theorem d_Law_law_479 : decode m_Law_law.2.1 479 = .ok (.iload 4, 2) := by decide +kernel
theorem d_Law_law_481 : decode m_Law_law.2.1 481 = .ok (.iconst 1, 1) := by decide +kernel
theorem d_Law_law_482 : decode m_Law_law.2.1 482 = .ok (.iadd, 1) := by decide +kernel
theorem d_Law_law_483 : decode m_Law_law.2.1 483 = .ok (.iaload, 1) := by decide +kernel
theorem d_Law_law_484 : decode m_Law_law.2.1 484 = .ok (.aload_n 0, 1) := by decide +kernel
theorem d_Law_law_485 : decode m_Law_law.2.1 485 = .ok (.iload 4, 2) := by decide +kernel
theorem d_Law_law_487 : decode m_Law_law.2.1 487 = .ok (.iconst 2, 1) := by decide +kernel
theorem d_Law_law_488 : decode m_Law_law.2.1 488 = .ok (.iadd, 1) := by decide +kernel
theorem d_Law_law_489 : decode m_Law_law.2.1 489 = .ok (.iaload, 1) := by decide +kernel
theorem d_Law_law_490 : decode m_Law_law.2.1 490 = .ok (.aload_n 0, 1) := by decide +kernel
theorem d_Law_law_491 : decode m_Law_law.2.1 491 = .ok (.iload 4, 2) := by decide +kernel
theorem d_Law_law_493 : decode m_Law_law.2.1 493 = .ok (.iconst 3, 1) := by decide +kernel
theorem d_Law_law_494 : decode m_Law_law.2.1 494 = .ok (.iadd, 1) := by decide +kernel
theorem d_Law_law_495 : decode m_Law_law.2.1 495 = .ok (.iaload, 1) := by decide +kernel
theorem d_Law_law_496 : decode m_Law_law.2.1 496 = .ok (.aload_n 0, 1) := by decide +kernel
theorem d_Law_law_497 : decode m_Law_law.2.1 497 = .ok (.iload 4, 2) := by decide +kernel
theorem d_Law_law_499 : decode m_Law_law.2.1 499 = .ok (.iconst 4, 1) := by decide +kernel
theorem d_Law_law_500 : decode m_Law_law.2.1 500 = .ok (.iadd, 1) := by decide +kernel
theorem d_Law_law_501 : decode m_Law_law.2.1 501 = .ok (.iaload, 1) := by decide +kernel
theorem d_Law_law_502 : decode m_Law_law.2.1 502 = .ok (.aload_n 0, 1) := by decide +kernel
theorem d_Law_law_503 : decode m_Law_law.2.1 503 = .ok (.iload 4, 2) := by decide +kernel
theorem d_Law_law_505 : decode m_Law_law.2.1 505 = .ok (.iconst 5, 1) := by decide +kernel
theorem d_Law_law_506 : decode m_Law_law.2.1 506 = .ok (.iadd, 1) := by decide +kernel
theorem d_Law_law_507 : decode m_Law_law.2.1 507 = .ok (.iaload, 1) := by decide +kernel
theorem d_Law_law_508 : decode m_Law_law.2.1 508 = .ok (.invokevirtual 53, 3) := by decide +kernel
theorem d_Law_law_511 : decode m_Law_law.2.1 511 = .ok (.aload_n 2, 1) := by decide +kernel
theorem d_Law_law_512 : decode m_Law_law.2.1 512 = .ok (.aload_n 0, 1) := by decide +kernel
theorem d_Law_law_513 : decode m_Law_law.2.1 513 = .ok (.iload 4, 2) := by decide +kernel
theorem d_Law_law_515 : decode m_Law_law.2.1 515 = .ok (.iconst 1, 1) := by decide +kernel
theorem d_Law_law_516 : decode m_Law_law.2.1 516 = .ok (.iadd, 1) := by decide +kernel
theorem d_Law_law_517 : decode m_Law_law.2.1 517 = .ok (.iaload, 1) := by decide +kernel
theorem d_Law_law_518 : decode m_Law_law.2.1 518 = .ok (.aload_n 0, 1) := by decide +kernel
theorem d_Law_law_519 : decode m_Law_law.2.1 519 = .ok (.iload 4, 2) := by decide +kernel
theorem d_Law_law_521 : decode m_Law_law.2.1 521 = .ok (.iconst 2, 1) := by decide +kernel
theorem d_Law_law_522 : decode m_Law_law.2.1 522 = .ok (.iadd, 1) := by decide +kernel
theorem d_Law_law_523 : decode m_Law_law.2.1 523 = .ok (.iaload, 1) := by decide +kernel
theorem d_Law_law_524 : decode m_Law_law.2.1 524 = .ok (.aload_n 0, 1) := by decide +kernel
theorem d_Law_law_525 : decode m_Law_law.2.1 525 = .ok (.iload 4, 2) := by decide +kernel
theorem d_Law_law_527 : decode m_Law_law.2.1 527 = .ok (.iconst 3, 1) := by decide +kernel
theorem d_Law_law_528 : decode m_Law_law.2.1 528 = .ok (.iadd, 1) := by decide +kernel
theorem d_Law_law_529 : decode m_Law_law.2.1 529 = .ok (.iaload, 1) := by decide +kernel
theorem d_Law_law_530 : decode m_Law_law.2.1 530 = .ok (.aload_n 0, 1) := by decide +kernel
theorem d_Law_law_531 : decode m_Law_law.2.1 531 = .ok (.iload 4, 2) := by decide +kernel
theorem d_Law_law_533 : decode m_Law_law.2.1 533 = .ok (.iconst 4, 1) := by decide +kernel
theorem d_Law_law_534 : decode m_Law_law.2.1 534 = .ok (.iadd, 1) := by decide +kernel
theorem d_Law_law_535 : decode m_Law_law.2.1 535 = .ok (.iaload, 1) := by decide +kernel
theorem d_Law_law_536 : decode m_Law_law.2.1 536 = .ok (.aload_n 0, 1) := by decide +kernel
theorem d_Law_law_537 : decode m_Law_law.2.1 537 = .ok (.iload 4, 2) := by decide +kernel
theorem d_Law_law_539 : decode m_Law_law.2.1 539 = .ok (.iconst 5, 1) := by decide +kernel
theorem d_Law_law_540 : decode m_Law_law.2.1 540 = .ok (.iadd, 1) := by decide +kernel
theorem d_Law_law_541 : decode m_Law_law.2.1 541 = .ok (.iaload, 1) := by decide +kernel
theorem d_Law_law_542 : decode m_Law_law.2.1 542 = .ok (.invokevirtual 56, 3) := by decide +kernel
theorem d_Law_law_545 : decode m_Law_law.2.1 545 = .ok (.if_icmp .eq 993, 3) := by decide +kernel
theorem d_Law_law_548 : decode m_Law_law.2.1 548 = .ok (.iconst 0, 1) := by decide +kernel
theorem d_Law_law_549 : decode m_Law_law.2.1 549 = .ok (.ireturn, 1) := by decide +kernel
theorem d_Law_law_550 : decode m_Law_law.2.1 550 = .ok (.aload_n 1, 1) := by decide +kernel
theorem d_Law_law_551 : decode m_Law_law.2.1 551 = .ok (.aload_n 0, 1) := by decide +kernel
theorem d_Law_law_552 : decode m_Law_law.2.1 552 = .ok (.iload 4, 2) := by decide +kernel
theorem d_Law_law_554 : decode m_Law_law.2.1 554 = .ok (.iconst 1, 1) := by decide +kernel
theorem d_Law_law_555 : decode m_Law_law.2.1 555 = .ok (.iadd, 1) := by decide +kernel
theorem d_Law_law_556 : decode m_Law_law.2.1 556 = .ok (.iaload, 1) := by decide +kernel
theorem d_Law_law_557 : decode m_Law_law.2.1 557 = .ok (.aload_n 0, 1) := by decide +kernel
theorem d_Law_law_558 : decode m_Law_law.2.1 558 = .ok (.iload 4, 2) := by decide +kernel
theorem d_Law_law_560 : decode m_Law_law.2.1 560 = .ok (.iconst 2, 1) := by decide +kernel
theorem d_Law_law_561 : decode m_Law_law.2.1 561 = .ok (.iadd, 1) := by decide +kernel
theorem d_Law_law_562 : decode m_Law_law.2.1 562 = .ok (.iaload, 1) := by decide +kernel
theorem d_Law_law_563 : decode m_Law_law.2.1 563 = .ok (.aload_n 0, 1) := by decide +kernel
theorem d_Law_law_564 : decode m_Law_law.2.1 564 = .ok (.iload 4, 2) := by decide +kernel
theorem d_Law_law_566 : decode m_Law_law.2.1 566 = .ok (.iconst 3, 1) := by decide +kernel
theorem d_Law_law_567 : decode m_Law_law.2.1 567 = .ok (.iadd, 1) := by decide +kernel
theorem d_Law_law_568 : decode m_Law_law.2.1 568 = .ok (.iaload, 1) := by decide +kernel
theorem d_Law_law_569 : decode m_Law_law.2.1 569 = .ok (.aload_n 0, 1) := by decide +kernel
theorem d_Law_law_570 : decode m_Law_law.2.1 570 = .ok (.iload 4, 2) := by decide +kernel
theorem d_Law_law_572 : decode m_Law_law.2.1 572 = .ok (.iconst 4, 1) := by decide +kernel
theorem d_Law_law_573 : decode m_Law_law.2.1 573 = .ok (.iadd, 1) := by decide +kernel
theorem d_Law_law_574 : decode m_Law_law.2.1 574 = .ok (.iaload, 1) := by decide +kernel
theorem d_Law_law_575 : decode m_Law_law.2.1 575 = .ok (.aload_n 0, 1) := by decide +kernel
theorem d_Law_law_576 : decode m_Law_law.2.1 576 = .ok (.iload 4, 2) := by decide +kernel
theorem d_Law_law_578 : decode m_Law_law.2.1 578 = .ok (.iconst 5, 1) := by decide +kernel
theorem d_Law_law_579 : decode m_Law_law.2.1 579 = .ok (.iadd, 1) := by decide +kernel
theorem d_Law_law_580 : decode m_Law_law.2.1 580 = .ok (.iaload, 1) := by decide +kernel
theorem d_Law_law_581 : decode m_Law_law.2.1 581 = .ok (.invokevirtual 57, 3) := by decide +kernel
theorem d_Law_law_584 : decode m_Law_law.2.1 584 = .ok (.aload_n 2, 1) := by decide +kernel
theorem d_Law_law_585 : decode m_Law_law.2.1 585 = .ok (.aload_n 0, 1) := by decide +kernel
theorem d_Law_law_586 : decode m_Law_law.2.1 586 = .ok (.iload 4, 2) := by decide +kernel
theorem d_Law_law_588 : decode m_Law_law.2.1 588 = .ok (.iconst 1, 1) := by decide +kernel
theorem d_Law_law_589 : decode m_Law_law.2.1 589 = .ok (.iadd, 1) := by decide +kernel
theorem d_Law_law_590 : decode m_Law_law.2.1 590 = .ok (.iaload, 1) := by decide +kernel
theorem d_Law_law_591 : decode m_Law_law.2.1 591 = .ok (.aload_n 0, 1) := by decide +kernel
theorem d_Law_law_592 : decode m_Law_law.2.1 592 = .ok (.iload 4, 2) := by decide +kernel
theorem d_Law_law_594 : decode m_Law_law.2.1 594 = .ok (.iconst 2, 1) := by decide +kernel
theorem d_Law_law_595 : decode m_Law_law.2.1 595 = .ok (.iadd, 1) := by decide +kernel
theorem d_Law_law_596 : decode m_Law_law.2.1 596 = .ok (.iaload, 1) := by decide +kernel
theorem d_Law_law_597 : decode m_Law_law.2.1 597 = .ok (.aload_n 0, 1) := by decide +kernel
theorem d_Law_law_598 : decode m_Law_law.2.1 598 = .ok (.iload 4, 2) := by decide +kernel
theorem d_Law_law_600 : decode m_Law_law.2.1 600 = .ok (.iconst 3, 1) := by decide +kernel
theorem d_Law_law_601 : decode m_Law_law.2.1 601 = .ok (.iadd, 1) := by decide +kernel
theorem d_Law_law_602 : decode m_Law_law.2.1 602 = .ok (.iaload, 1) := by decide +kernel
theorem d_Law_law_603 : decode m_Law_law.2.1 603 = .ok (.aload_n 0, 1) := by decide +kernel
theorem d_Law_law_604 : decode m_Law_law.2.1 604 = .ok (.iload 4, 2) := by decide +kernel
theorem d_Law_law_606 : decode m_Law_law.2.1 606 = .ok (.iconst 4, 1) := by decide +kernel
theorem d_Law_law_607 : decode m_Law_law.2.1 607 = .ok (.iadd, 1) := by decide +kernel
theorem d_Law_law_608 : decode m_Law_law.2.1 608 = .ok (.iaload, 1) := by decide +kernel
theorem d_Law_law_609 : decode m_Law_law.2.1 609 = .ok (.aload_n 0, 1) := by decide +kernel
theorem d_Law_law_610 : decode m_Law_law.2.1 610 = .ok (.iload 4, 2) := by decide +kernel
theorem d_Law_law_612 : decode m_Law_law.2.1 612 = .ok (.iconst 5, 1) := by decide +kernel
theorem d_Law_law_613 : decode m_Law_law.2.1 613 = .ok (.iadd, 1) := by decide +kernel
theorem d_Law_law_614 : decode m_Law_law.2.1 614 = .ok (.iaload, 1) := by decide +kernel
theorem d_Law_law_615 : decode m_Law_law.2.1 615 = .ok (.invokevirtual 60, 3) := by decide +kernel
theorem d_Law_law_618 : decode m_Law_law.2.1 618 = .ok (.if_icmp .eq 920, 3) := by decide +kernel
theorem d_Law_law_621 : decode m_Law_law.2.1 621 = .ok (.iconst 0, 1) := by decide +kernel
theorem d_Law_law_622 : decode m_Law_law.2.1 622 = .ok (.ireturn, 1) := by decide +kernel
theorem d_Law_law_623 : decode m_Law_law.2.1 623 = .ok (.aload_n 1, 1) := by decide +kernel
theorem d_Law_law_624 : decode m_Law_law.2.1 624 = .ok (.aload_n 0, 1) := by decide +kernel
theorem d_Law_law_625 : decode m_Law_law.2.1 625 = .ok (.iload 4, 2) := by decide +kernel
theorem d_Law_law_627 : decode m_Law_law.2.1 627 = .ok (.iconst 1, 1) := by decide +kernel
theorem d_Law_law_628 : decode m_Law_law.2.1 628 = .ok (.iadd, 1) := by decide +kernel
theorem d_Law_law_629 : decode m_Law_law.2.1 629 = .ok (.iaload, 1) := by decide +kernel
theorem d_Law_law_630 : decode m_Law_law.2.1 630 = .ok (.aload_n 0, 1) := by decide +kernel
theorem d_Law_law_631 : decode m_Law_law.2.1 631 = .ok (.iload 4, 2) := by decide +kernel
theorem d_Law_law_633 : decode m_Law_law.2.1 633 = .ok (.iconst 2, 1) := by decide +kernel
theorem d_Law_law_634 : decode m_Law_law.2.1 634 = .ok (.iadd, 1) := by decide +kernel
theorem d_Law_law_635 : decode m_Law_law.2.1 635 = .ok (.iaload, 1) := by decide +kernel
theorem d_Law_law_636 : decode m_Law_law.2.1 636 = .ok (.invokevirtual 61, 3) := by decide +kernel
theorem d_Law_law_639 : decode m_Law_law.2.1 639 = .ok (.aload_n 2, 1) := by decide +kernel
theorem d_Law_law_640 : decode m_Law_law.2.1 640 = .ok (.aload_n 0, 1) := by decide +kernel
theorem d_Law_law_641 : decode m_Law_law.2.1 641 = .ok (.iload 4, 2) := by decide +kernel
theorem d_Law_law_643 : decode m_Law_law.2.1 643 = .ok (.iconst 1, 1) := by decide +kernel
theorem d_Law_law_644 : decode m_Law_law.2.1 644 = .ok (.iadd, 1) := by decide +kernel
theorem d_Law_law_645 : decode m_Law_law.2.1 645 = .ok (.iaload, 1) := by decide +kernel
theorem d_Law_law_646 : decode m_Law_law.2.1 646 = .ok (.aload_n 0, 1) := by decide +kernel
theorem d_Law_law_647 : decode m_Law_law.2.1 647 = .ok (.iload 4, 2) := by decide +kernel
theorem d_Law_law_649 : decode m_Law_law.2.1 649 = .ok (.iconst 2, 1) := by decide +kernel
theorem d_Law_law_650 : decode m_Law_law.2.1 650 = .ok (.iadd, 1) := by decide +kernel
theorem d_Law_law_651 : decode m_Law_law.2.1 651 = .ok (.iaload, 1) := by decide +kernel
theorem d_Law_law_652 : decode m_Law_law.2.1 652 = .ok (.invokevirtual 64, 3) := by decide +kernel
theorem d_Law_law_655 : decode m_Law_law.2.1 655 = .ok (.if_icmp .eq 883, 3) := by decide +kernel
theorem d_Law_law_658 : decode m_Law_law.2.1 658 = .ok (.iconst 0, 1) := by decide +kernel
theorem d_Law_law_659 : decode m_Law_law.2.1 659 = .ok (.ireturn, 1) := by decide +kernel
theorem d_Law_law_660 : decode m_Law_law.2.1 660 = .ok (.aload_n 1, 1) := by decide +kernel
theorem d_Law_law_661 : decode m_Law_law.2.1 661 = .ok (.aload_n 0, 1) := by decide +kernel
theorem d_Law_law_662 : decode m_Law_law.2.1 662 = .ok (.iload 4, 2) := by decide +kernel
theorem d_Law_law_664 : decode m_Law_law.2.1 664 = .ok (.iconst 1, 1) := by decide +kernel
theorem d_Law_law_665 : decode m_Law_law.2.1 665 = .ok (.iadd, 1) := by decide +kernel
theorem d_Law_law_666 : decode m_Law_law.2.1 666 = .ok (.iaload, 1) := by decide +kernel
theorem d_Law_law_667 : decode m_Law_law.2.1 667 = .ok (.aload_n 0, 1) := by decide +kernel
theorem d_Law_law_668 : decode m_Law_law.2.1 668 = .ok (.iload 4, 2) := by decide +kernel
theorem d_Law_law_670 : decode m_Law_law.2.1 670 = .ok (.iconst 2, 1) := by decide +kernel
theorem d_Law_law_671 : decode m_Law_law.2.1 671 = .ok (.iadd, 1) := by decide +kernel
theorem d_Law_law_672 : decode m_Law_law.2.1 672 = .ok (.iaload, 1) := by decide +kernel
theorem d_Law_law_673 : decode m_Law_law.2.1 673 = .ok (.invokevirtual 65, 3) := by decide +kernel
theorem d_Law_law_676 : decode m_Law_law.2.1 676 = .ok (.aload_n 2, 1) := by decide +kernel
theorem d_Law_law_677 : decode m_Law_law.2.1 677 = .ok (.aload_n 0, 1) := by decide +kernel
theorem d_Law_law_678 : decode m_Law_law.2.1 678 = .ok (.iload 4, 2) := by decide +kernel
theorem d_Law_law_680 : decode m_Law_law.2.1 680 = .ok (.iconst 1, 1) := by decide +kernel
theorem d_Law_law_681 : decode m_Law_law.2.1 681 = .ok (.iadd, 1) := by decide +kernel
theorem d_Law_law_682 : decode m_Law_law.2.1 682 = .ok (.iaload, 1) := by decide +kernel
theorem d_Law_law_683 : decode m_Law_law.2.1 683 = .ok (.aload_n 0, 1) := by decide +kernel
theorem d_Law_law_684 : decode m_Law_law.2.1 684 = .ok (.iload 4, 2) := by decide +kernel
theorem d_Law_law_686 : decode m_Law_law.2.1 686 = .ok (.iconst 2, 1) := by decide +kernel
theorem d_Law_law_687 : decode m_Law_law.2.1 687 = .ok (.iadd, 1) := by decide +kernel
theorem d_Law_law_688 : decode m_Law_law.2.1 688 = .ok (.iaload, 1) := by decide +kernel
theorem d_Law_law_689 : decode m_Law_law.2.1 689 = .ok (.invokevirtual 68, 3) := by decide +kernel
theorem d_Law_law_692 : decode m_Law_law.2.1 692 = .ok (.if_icmp .eq 846, 3) := by decide +kernel
theorem d_Law_law_695 : decode m_Law_law.2.1 695 = .ok (.iconst 0, 1) := by decide +kernel
theorem d_Law_law_696 : decode m_Law_law.2.1 696 = .ok (.ireturn, 1) := by decide +kernel
theorem d_Law_law_697 : decode m_Law_law.2.1 697 = .ok (.aload_n 1, 1) := by decide +kernel
theorem d_Law_law_698 : decode m_Law_law.2.1 698 = .ok (.aload_n 0, 1) := by decide +kernel
theorem d_Law_law_699 : decode m_Law_law.2.1 699 = .ok (.iload 4, 2) := by decide +kernel
theorem d_Law_law_701 : decode m_Law_law.2.1 701 = .ok (.iconst 1, 1) := by decide +kernel
theorem d_Law_law_702 : decode m_Law_law.2.1 702 = .ok (.iadd, 1) := by decide +kernel
theorem d_Law_law_703 : decode m_Law_law.2.1 703 = .ok (.iaload, 1) := by decide +kernel
theorem d_Law_law_704 : decode m_Law_law.2.1 704 = .ok (.invokevirtual 69, 3) := by decide +kernel
theorem d_Law_law_707 : decode m_Law_law.2.1 707 = .ok (.aload_n 2, 1) := by decide +kernel
theorem d_Law_law_708 : decode m_Law_law.2.1 708 = .ok (.aload_n 0, 1) := by decide +kernel
theorem d_Law_law_709 : decode m_Law_law.2.1 709 = .ok (.iload 4, 2) := by decide +kernel
theorem d_Law_law_711 : decode m_Law_law.2.1 711 = .ok (.iconst 1, 1) := by decide +kernel
theorem d_Law_law_712 : decode m_Law_law.2.1 712 = .ok (.iadd, 1) := by decide +kernel
theorem d_Law_law_713 : decode m_Law_law.2.1 713 = .ok (.iaload, 1) := by decide +kernel
theorem d_Law_law_714 : decode m_Law_law.2.1 714 = .ok (.invokevirtual 72, 3) := by decide +kernel
theorem d_Law_law_717 : decode m_Law_law.2.1 717 = .ok (.if_icmp .eq 821, 3) := by decide +kernel
theorem d_Law_law_720 : decode m_Law_law.2.1 720 = .ok (.iconst 0, 1) := by decide +kernel
theorem d_Law_law_721 : decode m_Law_law.2.1 721 = .ok (.ireturn, 1) := by decide +kernel
theorem d_Law_law_722 : decode m_Law_law.2.1 722 = .ok (.aload_n 1, 1) := by decide +kernel
theorem d_Law_law_723 : decode m_Law_law.2.1 723 = .ok (.aload_n 0, 1) := by decide +kernel
theorem d_Law_law_724 : decode m_Law_law.2.1 724 = .ok (.iload 4, 2) := by decide +kernel
theorem d_Law_law_726 : decode m_Law_law.2.1 726 = .ok (.iconst 1, 1) := by decide +kernel
theorem d_Law_law_727 : decode m_Law_law.2.1 727 = .ok (.iadd, 1) := by decide +kernel
theorem d_Law_law_728 : decode m_Law_law.2.1 728 = .ok (.iaload, 1) := by decide +kernel
theorem d_Law_law_729 : decode m_Law_law.2.1 729 = .ok (.aload_n 0, 1) := by decide +kernel
theorem d_Law_law_730 : decode m_Law_law.2.1 730 = .ok (.iload 4, 2) := by decide +kernel
theorem d_Law_law_732 : decode m_Law_law.2.1 732 = .ok (.iconst 2, 1) := by decide +kernel
theorem d_Law_law_733 : decode m_Law_law.2.1 733 = .ok (.iadd, 1) := by decide +kernel
theorem d_Law_law_734 : decode m_Law_law.2.1 734 = .ok (.iaload, 1) := by decide +kernel
theorem d_Law_law_735 : decode m_Law_law.2.1 735 = .ok (.ifCond .eq 7, 3) := by decide +kernel
theorem d_Law_law_738 : decode m_Law_law.2.1 738 = .ok (.iconst 1, 1) := by decide +kernel
theorem d_Law_law_739 : decode m_Law_law.2.1 739 = .ok (.goto 4, 3) := by decide +kernel
theorem d_Law_law_742 : decode m_Law_law.2.1 742 = .ok (.iconst 0, 1) := by decide +kernel
theorem d_Law_law_743 : decode m_Law_law.2.1 743 = .ok (.invokevirtual 73, 3) := by decide +kernel
theorem d_Law_law_746 : decode m_Law_law.2.1 746 = .ok (.aload_n 2, 1) := by decide +kernel
theorem d_Law_law_747 : decode m_Law_law.2.1 747 = .ok (.aload_n 0, 1) := by decide +kernel
theorem d_Law_law_748 : decode m_Law_law.2.1 748 = .ok (.iload 4, 2) := by decide +kernel
theorem d_Law_law_750 : decode m_Law_law.2.1 750 = .ok (.iconst 1, 1) := by decide +kernel
theorem d_Law_law_751 : decode m_Law_law.2.1 751 = .ok (.iadd, 1) := by decide +kernel
theorem d_Law_law_752 : decode m_Law_law.2.1 752 = .ok (.iaload, 1) := by decide +kernel
theorem d_Law_law_753 : decode m_Law_law.2.1 753 = .ok (.aload_n 0, 1) := by decide +kernel
theorem d_Law_law_754 : decode m_Law_law.2.1 754 = .ok (.iload 4, 2) := by decide +kernel
theorem d_Law_law_756 : decode m_Law_law.2.1 756 = .ok (.iconst 2, 1) := by decide +kernel
theorem d_Law_law_757 : decode m_Law_law.2.1 757 = .ok (.iadd, 1) := by decide +kernel
theorem d_Law_law_758 : decode m_Law_law.2.1 758 = .ok (.iaload, 1) := by decide +kernel
theorem d_Law_law_759 : decode m_Law_law.2.1 759 = .ok (.ifCond .eq 7, 3) := by decide +kernel
theorem d_Law_law_762 : decode m_Law_law.2.1 762 = .ok (.iconst 1, 1) := by decide +kernel
theorem d_Law_law_763 : decode m_Law_law.2.1 763 = .ok (.goto 4, 3) := by decide +kernel
theorem d_Law_law_766 : decode m_Law_law.2.1 766 = .ok (.iconst 0, 1) := by decide +kernel
theorem d_Law_law_767 : decode m_Law_law.2.1 767 = .ok (.invokevirtual 77, 3) := by decide +kernel
theorem d_Law_law_770 : decode m_Law_law.2.1 770 = .ok (.if_icmp .eq 768, 3) := by decide +kernel
theorem d_Law_law_773 : decode m_Law_law.2.1 773 = .ok (.iconst 0, 1) := by decide +kernel
theorem d_Law_law_774 : decode m_Law_law.2.1 774 = .ok (.ireturn, 1) := by decide +kernel
theorem d_Law_law_775 : decode m_Law_law.2.1 775 = .ok (.aload_n 1, 1) := by decide +kernel
theorem d_Law_law_776 : decode m_Law_law.2.1 776 = .ok (.aload_n 0, 1) := by decide +kernel
theorem d_Law_law_777 : decode m_Law_law.2.1 777 = .ok (.iload 4, 2) := by decide +kernel
theorem d_Law_law_779 : decode m_Law_law.2.1 779 = .ok (.iconst 1, 1) := by decide +kernel
theorem d_Law_law_780 : decode m_Law_law.2.1 780 = .ok (.iadd, 1) := by decide +kernel
theorem d_Law_law_781 : decode m_Law_law.2.1 781 = .ok (.iaload, 1) := by decide +kernel
theorem d_Law_law_782 : decode m_Law_law.2.1 782 = .ok (.aload_n 0, 1) := by decide +kernel
theorem d_Law_law_783 : decode m_Law_law.2.1 783 = .ok (.iload 4, 2) := by decide +kernel
theorem d_Law_law_785 : decode m_Law_law.2.1 785 = .ok (.iconst 2, 1) := by decide +kernel
theorem d_Law_law_786 : decode m_Law_law.2.1 786 = .ok (.iadd, 1) := by decide +kernel
theorem d_Law_law_787 : decode m_Law_law.2.1 787 = .ok (.iaload, 1) := by decide +kernel
theorem d_Law_law_788 : decode m_Law_law.2.1 788 = .ok (.ifCond .eq 7, 3) := by decide +kernel
theorem d_Law_law_791 : decode m_Law_law.2.1 791 = .ok (.iconst 1, 1) := by decide +kernel
theorem d_Law_law_792 : decode m_Law_law.2.1 792 = .ok (.goto 4, 3) := by decide +kernel
theorem d_Law_law_795 : decode m_Law_law.2.1 795 = .ok (.iconst 0, 1) := by decide +kernel
theorem d_Law_law_796 : decode m_Law_law.2.1 796 = .ok (.invokevirtual 78, 3) := by decide +kernel
theorem d_Law_law_799 : decode m_Law_law.2.1 799 = .ok (.aload_n 2, 1) := by decide +kernel
theorem d_Law_law_800 : decode m_Law_law.2.1 800 = .ok (.aload_n 0, 1) := by decide +kernel
theorem d_Law_law_801 : decode m_Law_law.2.1 801 = .ok (.iload 4, 2) := by decide +kernel
theorem d_Law_law_803 : decode m_Law_law.2.1 803 = .ok (.iconst 1, 1) := by decide +kernel
theorem d_Law_law_804 : decode m_Law_law.2.1 804 = .ok (.iadd, 1) := by decide +kernel
theorem d_Law_law_805 : decode m_Law_law.2.1 805 = .ok (.iaload, 1) := by decide +kernel
theorem d_Law_law_806 : decode m_Law_law.2.1 806 = .ok (.aload_n 0, 1) := by decide +kernel
theorem d_Law_law_807 : decode m_Law_law.2.1 807 = .ok (.iload 4, 2) := by decide +kernel
theorem d_Law_law_809 : decode m_Law_law.2.1 809 = .ok (.iconst 2, 1) := by decide +kernel
theorem d_Law_law_810 : decode m_Law_law.2.1 810 = .ok (.iadd, 1) := by decide +kernel
theorem d_Law_law_811 : decode m_Law_law.2.1 811 = .ok (.iaload, 1) := by decide +kernel
theorem d_Law_law_812 : decode m_Law_law.2.1 812 = .ok (.ifCond .eq 7, 3) := by decide +kernel
theorem d_Law_law_815 : decode m_Law_law.2.1 815 = .ok (.iconst 1, 1) := by decide +kernel
theorem d_Law_law_816 : decode m_Law_law.2.1 816 = .ok (.goto 4, 3) := by decide +kernel
theorem d_Law_law_819 : decode m_Law_law.2.1 819 = .ok (.iconst 0, 1) := by decide +kernel
theorem d_Law_law_820 : decode m_Law_law.2.1 820 = .ok (.invokevirtual 81, 3) := by decide +kernel
theorem d_Law_law_823 : decode m_Law_law.2.1 823 = .ok (.if_icmp .eq 715, 3) := by decide +kernel
theorem d_Law_law_826 : decode m_Law_law.2.1 826 = .ok (.iconst 0, 1) := by decide +kernel
theorem d_Law_law_827 : decode m_Law_law.2.1 827 = .ok (.ireturn, 1) := by decide +kernel
theorem d_Law_law_828 : decode m_Law_law.2.1 828 = .ok (.aload_n 1, 1) := by decide +kernel
theorem d_Law_law_829 : decode m_Law_law.2.1 829 = .ok (.aload_n 0, 1) := by decide +kernel
theorem d_Law_law_830 : decode m_Law_law.2.1 830 = .ok (.iload 4, 2) := by decide +kernel
theorem d_Law_law_832 : decode m_Law_law.2.1 832 = .ok (.iconst 1, 1) := by decide +kernel
theorem d_Law_law_833 : decode m_Law_law.2.1 833 = .ok (.iadd, 1) := by decide +kernel
theorem d_Law_law_834 : decode m_Law_law.2.1 834 = .ok (.iaload, 1) := by decide +kernel
theorem d_Law_law_835 : decode m_Law_law.2.1 835 = .ok (.aload_n 0, 1) := by decide +kernel
theorem d_Law_law_836 : decode m_Law_law.2.1 836 = .ok (.iload 4, 2) := by decide +kernel
theorem d_Law_law_838 : decode m_Law_law.2.1 838 = .ok (.iconst 2, 1) := by decide +kernel
theorem d_Law_law_839 : decode m_Law_law.2.1 839 = .ok (.iadd, 1) := by decide +kernel
theorem d_Law_law_840 : decode m_Law_law.2.1 840 = .ok (.iaload, 1) := by decide +kernel
theorem d_Law_law_841 : decode m_Law_law.2.1 841 = .ok (.invokevirtual 82, 3) := by decide +kernel
theorem d_Law_law_844 : decode m_Law_law.2.1 844 = .ok (.aload_n 2, 1) := by decide +kernel
theorem d_Law_law_845 : decode m_Law_law.2.1 845 = .ok (.aload_n 0, 1) := by decide +kernel
theorem d_Law_law_846 : decode m_Law_law.2.1 846 = .ok (.iload 4, 2) := by decide +kernel
theorem d_Law_law_848 : decode m_Law_law.2.1 848 = .ok (.iconst 1, 1) := by decide +kernel
theorem d_Law_law_849 : decode m_Law_law.2.1 849 = .ok (.iadd, 1) := by decide +kernel
theorem d_Law_law_850 : decode m_Law_law.2.1 850 = .ok (.iaload, 1) := by decide +kernel
theorem d_Law_law_851 : decode m_Law_law.2.1 851 = .ok (.aload_n 0, 1) := by decide +kernel
theorem d_Law_law_852 : decode m_Law_law.2.1 852 = .ok (.iload 4, 2) := by decide +kernel
theorem d_Law_law_854 : decode m_Law_law.2.1 854 = .ok (.iconst 2, 1) := by decide +kernel
theorem d_Law_law_855 : decode m_Law_law.2.1 855 = .ok (.iadd, 1) := by decide +kernel
theorem d_Law_law_856 : decode m_Law_law.2.1 856 = .ok (.iaload, 1) := by decide +kernel
theorem d_Law_law_857 : decode m_Law_law.2.1 857 = .ok (.invokevirtual 85, 3) := by decide +kernel
theorem d_Law_law_860 : decode m_Law_law.2.1 860 = .ok (.if_icmp .eq 678, 3) := by decide +kernel
theorem d_Law_law_863 : decode m_Law_law.2.1 863 = .ok (.iconst 0, 1) := by decide +kernel
theorem d_Law_law_864 : decode m_Law_law.2.1 864 = .ok (.ireturn, 1) := by decide +kernel
theorem d_Law_law_865 : decode m_Law_law.2.1 865 = .ok (.aload_n 1, 1) := by decide +kernel
theorem d_Law_law_866 : decode m_Law_law.2.1 866 = .ok (.aload_n 0, 1) := by decide +kernel
theorem d_Law_law_867 : decode m_Law_law.2.1 867 = .ok (.iload 4, 2) := by decide +kernel
theorem d_Law_law_869 : decode m_Law_law.2.1 869 = .ok (.iconst 1, 1) := by decide +kernel
theorem d_Law_law_870 : decode m_Law_law.2.1 870 = .ok (.iadd, 1) := by decide +kernel
theorem d_Law_law_871 : decode m_Law_law.2.1 871 = .ok (.iaload, 1) := by decide +kernel
theorem d_Law_law_872 : decode m_Law_law.2.1 872 = .ok (.aload_n 0, 1) := by decide +kernel
theorem d_Law_law_873 : decode m_Law_law.2.1 873 = .ok (.iload 4, 2) := by decide +kernel
theorem d_Law_law_875 : decode m_Law_law.2.1 875 = .ok (.iconst 2, 1) := by decide +kernel
theorem d_Law_law_876 : decode m_Law_law.2.1 876 = .ok (.iadd, 1) := by decide +kernel
theorem d_Law_law_877 : decode m_Law_law.2.1 877 = .ok (.iaload, 1) := by decide +kernel
theorem d_Law_law_878 : decode m_Law_law.2.1 878 = .ok (.invokevirtual 86, 3) := by decide +kernel
theorem d_Law_law_881 : decode m_Law_law.2.1 881 = .ok (.aload_n 2, 1) := by decide +kernel
theorem d_Law_law_882 : decode m_Law_law.2.1 882 = .ok (.aload_n 0, 1) := by decide +kernel
theorem d_Law_law_883 : decode m_Law_law.2.1 883 = .ok (.iload 4, 2) := by decide +kernel
theorem d_Law_law_885 : decode m_Law_law.2.1 885 = .ok (.iconst 1, 1) := by decide +kernel
theorem d_Law_law_886 : decode m_Law_law.2.1 886 = .ok (.iadd, 1) := by decide +kernel
theorem d_Law_law_887 : decode m_Law_law.2.1 887 = .ok (.iaload, 1) := by decide +kernel
theorem d_Law_law_888 : decode m_Law_law.2.1 888 = .ok (.aload_n 0, 1) := by decide +kernel
theorem d_Law_law_889 : decode m_Law_law.2.1 889 = .ok (.iload 4, 2) := by decide +kernel
theorem d_Law_law_891 : decode m_Law_law.2.1 891 = .ok (.iconst 2, 1) := by decide +kernel
theorem d_Law_law_892 : decode m_Law_law.2.1 892 = .ok (.iadd, 1) := by decide +kernel
theorem d_Law_law_893 : decode m_Law_law.2.1 893 = .ok (.iaload, 1) := by decide +kernel
theorem d_Law_law_894 : decode m_Law_law.2.1 894 = .ok (.invokevirtual 89, 3) := by decide +kernel
theorem d_Law_law_897 : decode m_Law_law.2.1 897 = .ok (.if_icmp .eq 641, 3) := by decide +kernel
theorem d_Law_law_900 : decode m_Law_law.2.1 900 = .ok (.iconst 0, 1) := by decide +kernel
theorem d_Law_law_901 : decode m_Law_law.2.1 901 = .ok (.ireturn, 1) := by decide +kernel
theorem d_Law_law_902 : decode m_Law_law.2.1 902 = .ok (.aload_n 1, 1) := by decide +kernel
theorem d_Law_law_903 : decode m_Law_law.2.1 903 = .ok (.invokevirtual 90, 3) := by decide +kernel
theorem d_Law_law_906 : decode m_Law_law.2.1 906 = .ok (.aload_n 2, 1) := by decide +kernel
theorem d_Law_law_907 : decode m_Law_law.2.1 907 = .ok (.invokevirtual 93, 3) := by decide +kernel
theorem d_Law_law_910 : decode m_Law_law.2.1 910 = .ok (.if_icmp .eq 628, 3) := by decide +kernel
theorem d_Law_law_913 : decode m_Law_law.2.1 913 = .ok (.iconst 0, 1) := by decide +kernel
theorem d_Law_law_914 : decode m_Law_law.2.1 914 = .ok (.ireturn, 1) := by decide +kernel
theorem d_Law_law_915 : decode m_Law_law.2.1 915 = .ok (.aload_n 1, 1) := by decide +kernel
theorem d_Law_law_916 : decode m_Law_law.2.1 916 = .ok (.invokevirtual 94, 3) := by decide +kernel
theorem d_Law_law_919 : decode m_Law_law.2.1 919 = .ok (.aload_n 2, 1) := by decide +kernel
theorem d_Law_law_920 : decode m_Law_law.2.1 920 = .ok (.invokevirtual 97, 3) := by decide +kernel
theorem d_Law_law_923 : decode m_Law_law.2.1 923 = .ok (.if_icmp .eq 615, 3) := by decide +kernel
theorem d_Law_law_926 : decode m_Law_law.2.1 926 = .ok (.iconst 0, 1) := by decide +kernel
theorem d_Law_law_927 : decode m_Law_law.2.1 927 = .ok (.ireturn, 1) := by decide +kernel
theorem d_Law_law_928 : decode m_Law_law.2.1 928 = .ok (.aload_n 1, 1) := by decide +kernel
theorem d_Law_law_929 : decode m_Law_law.2.1 929 = .ok (.aload_n 0, 1) := by decide +kernel
theorem d_Law_law_930 : decode m_Law_law.2.1 930 = .ok (.iload 4, 2) := by decide +kernel
theorem d_Law_law_932 : decode m_Law_law.2.1 932 = .ok (.iconst 1, 1) := by decide +kernel
theorem d_Law_law_933 : decode m_Law_law.2.1 933 = .ok (.iadd, 1) := by decide +kernel
theorem d_Law_law_934 : decode m_Law_law.2.1 934 = .ok (.iaload, 1) := by decide +kernel
theorem d_Law_law_935 : decode m_Law_law.2.1 935 = .ok (.aload_n 0, 1) := by decide +kernel
theorem d_Law_law_936 : decode m_Law_law.2.1 936 = .ok (.iload 4, 2) := by decide +kernel
theorem d_Law_law_938 : decode m_Law_law.2.1 938 = .ok (.iconst 2, 1) := by decide +kernel
theorem d_Law_law_939 : decode m_Law_law.2.1 939 = .ok (.iadd, 1) := by decide +kernel
theorem d_Law_law_940 : decode m_Law_law.2.1 940 = .ok (.iaload, 1) := by decide +kernel
theorem d_Law_law_941 : decode m_Law_law.2.1 941 = .ok (.invokevirtual 98, 3) := by decide +kernel
theorem d_Law_law_944 : decode m_Law_law.2.1 944 = .ok (.aload_n 2, 1) := by decide +kernel
theorem d_Law_law_945 : decode m_Law_law.2.1 945 = .ok (.aload_n 0, 1) := by decide +kernel
theorem d_Law_law_946 : decode m_Law_law.2.1 946 = .ok (.iload 4, 2) := by decide +kernel
theorem d_Law_law_948 : decode m_Law_law.2.1 948 = .ok (.iconst 1, 1) := by decide +kernel
theorem d_Law_law_949 : decode m_Law_law.2.1 949 = .ok (.iadd, 1) := by decide +kernel
theorem d_Law_law_950 : decode m_Law_law.2.1 950 = .ok (.iaload, 1) := by decide +kernel
theorem d_Law_law_951 : decode m_Law_law.2.1 951 = .ok (.aload_n 0, 1) := by decide +kernel
theorem d_Law_law_952 : decode m_Law_law.2.1 952 = .ok (.iload 4, 2) := by decide +kernel
theorem d_Law_law_954 : decode m_Law_law.2.1 954 = .ok (.iconst 2, 1) := by decide +kernel
theorem d_Law_law_955 : decode m_Law_law.2.1 955 = .ok (.iadd, 1) := by decide +kernel
theorem d_Law_law_956 : decode m_Law_law.2.1 956 = .ok (.iaload, 1) := by decide +kernel
theorem d_Law_law_957 : decode m_Law_law.2.1 957 = .ok (.invokevirtual 101, 3) := by decide +kernel
theorem d_Law_law_960 : decode m_Law_law.2.1 960 = .ok (.if_icmp .eq 578, 3) := by decide +kernel
theorem d_Law_law_963 : decode m_Law_law.2.1 963 = .ok (.iconst 0, 1) := by decide +kernel
theorem d_Law_law_964 : decode m_Law_law.2.1 964 = .ok (.ireturn, 1) := by decide +kernel
theorem d_Law_law_965 : decode m_Law_law.2.1 965 = .ok (.aload_n 1, 1) := by decide +kernel
theorem d_Law_law_966 : decode m_Law_law.2.1 966 = .ok (.aload_n 0, 1) := by decide +kernel
theorem d_Law_law_967 : decode m_Law_law.2.1 967 = .ok (.iload 4, 2) := by decide +kernel
theorem d_Law_law_969 : decode m_Law_law.2.1 969 = .ok (.iconst 1, 1) := by decide +kernel
theorem d_Law_law_970 : decode m_Law_law.2.1 970 = .ok (.iadd, 1) := by decide +kernel
theorem d_Law_law_971 : decode m_Law_law.2.1 971 = .ok (.iaload, 1) := by decide +kernel
theorem d_Law_law_972 : decode m_Law_law.2.1 972 = .ok (.aload_n 0, 1) := by decide +kernel
theorem d_Law_law_973 : decode m_Law_law.2.1 973 = .ok (.iload 4, 2) := by decide +kernel
theorem d_Law_law_975 : decode m_Law_law.2.1 975 = .ok (.iconst 2, 1) := by decide +kernel
theorem d_Law_law_976 : decode m_Law_law.2.1 976 = .ok (.iadd, 1) := by decide +kernel
theorem d_Law_law_977 : decode m_Law_law.2.1 977 = .ok (.iaload, 1) := by decide +kernel
theorem d_Law_law_978 : decode m_Law_law.2.1 978 = .ok (.invokevirtual 102, 3) := by decide +kernel
theorem d_Law_law_981 : decode m_Law_law.2.1 981 = .ok (.aload_n 2, 1) := by decide +kernel
theorem d_Law_law_982 : decode m_Law_law.2.1 982 = .ok (.aload_n 0, 1) := by decide +kernel
theorem d_Law_law_983 : decode m_Law_law.2.1 983 = .ok (.iload 4, 2) := by decide +kernel
theorem d_Law_law_985 : decode m_Law_law.2.1 985 = .ok (.iconst 1, 1) := by decide +kernel
theorem d_Law_law_986 : decode m_Law_law.2.1 986 = .ok (.iadd, 1) := by decide +kernel
theorem d_Law_law_987 : decode m_Law_law.2.1 987 = .ok (.iaload, 1) := by decide +kernel
theorem d_Law_law_988 : decode m_Law_law.2.1 988 = .ok (.aload_n 0, 1) := by decide +kernel
theorem d_Law_law_989 : decode m_Law_law.2.1 989 = .ok (.iload 4, 2) := by decide +kernel
theorem d_Law_law_991 : decode m_Law_law.2.1 991 = .ok (.iconst 2, 1) := by decide +kernel
theorem d_Law_law_992 : decode m_Law_law.2.1 992 = .ok (.iadd, 1) := by decide +kernel
theorem d_Law_law_993 : decode m_Law_law.2.1 993 = .ok (.iaload, 1) := by decide +kernel
theorem d_Law_law_994 : decode m_Law_law.2.1 994 = .ok (.invokevirtual 105, 3) := by decide +kernel
theorem d_Law_law_997 : decode m_Law_law.2.1 997 = .ok (.if_icmp .eq 541, 3) := by decide +kernel
theorem d_Law_law_1000 : decode m_Law_law.2.1 1000 = .ok (.iconst 0, 1) := by decide +kernel
theorem d_Law_law_1001 : decode m_Law_law.2.1 1001 = .ok (.ireturn, 1) := by decide +kernel
theorem d_Law_law_1002 : decode m_Law_law.2.1 1002 = .ok (.aload_n 1, 1) := by decide +kernel
theorem d_Law_law_1003 : decode m_Law_law.2.1 1003 = .ok (.aload_n 0, 1) := by decide +kernel
theorem d_Law_law_1004 : decode m_Law_law.2.1 1004 = .ok (.iload 4, 2) := by decide +kernel
theorem d_Law_law_1006 : decode m_Law_law.2.1 1006 = .ok (.iconst 1, 1) := by decide +kernel
theorem d_Law_law_1007 : decode m_Law_law.2.1 1007 = .ok (.iadd, 1) := by decide +kernel
theorem d_Law_law_1008 : decode m_Law_law.2.1 1008 = .ok (.iaload, 1) := by decide +kernel
theorem d_Law_law_1009 : decode m_Law_law.2.1 1009 = .ok (.invokevirtual 106, 3) := by decide +kernel
theorem d_Law_law_1012 : decode m_Law_law.2.1 1012 = .ok (.aload_n 2, 1) := by decide +kernel
theorem d_Law_law_1013 : decode m_Law_law.2.1 1013 = .ok (.aload_n 0, 1) := by decide +kernel
theorem d_Law_law_1014 : decode m_Law_law.2.1 1014 = .ok (.iload 4, 2) := by decide +kernel
theorem d_Law_law_1016 : decode m_Law_law.2.1 1016 = .ok (.iconst 1, 1) := by decide +kernel
theorem d_Law_law_1017 : decode m_Law_law.2.1 1017 = .ok (.iadd, 1) := by decide +kernel
theorem d_Law_law_1018 : decode m_Law_law.2.1 1018 = .ok (.iaload, 1) := by decide +kernel
theorem d_Law_law_1019 : decode m_Law_law.2.1 1019 = .ok (.invokevirtual 109, 3) := by decide +kernel
theorem d_Law_law_1022 : decode m_Law_law.2.1 1022 = .ok (.if_icmp .eq 516, 3) := by decide +kernel
theorem d_Law_law_1025 : decode m_Law_law.2.1 1025 = .ok (.iconst 0, 1) := by decide +kernel
theorem d_Law_law_1026 : decode m_Law_law.2.1 1026 = .ok (.ireturn, 1) := by decide +kernel
theorem d_Law_law_1027 : decode m_Law_law.2.1 1027 = .ok (.aload_n 1, 1) := by decide +kernel
theorem d_Law_law_1028 : decode m_Law_law.2.1 1028 = .ok (.aload_n 0, 1) := by decide +kernel
theorem d_Law_law_1029 : decode m_Law_law.2.1 1029 = .ok (.iload 4, 2) := by decide +kernel
theorem d_Law_law_1031 : decode m_Law_law.2.1 1031 = .ok (.iconst 1, 1) := by decide +kernel
theorem d_Law_law_1032 : decode m_Law_law.2.1 1032 = .ok (.iadd, 1) := by decide +kernel
theorem d_Law_law_1033 : decode m_Law_law.2.1 1033 = .ok (.iaload, 1) := by decide +kernel
theorem d_Law_law_1034 : decode m_Law_law.2.1 1034 = .ok (.aload_n 0, 1) := by decide +kernel
theorem d_Law_law_1035 : decode m_Law_law.2.1 1035 = .ok (.iload 4, 2) := by decide +kernel
theorem d_Law_law_1037 : decode m_Law_law.2.1 1037 = .ok (.iconst 2, 1) := by decide +kernel
theorem d_Law_law_1038 : decode m_Law_law.2.1 1038 = .ok (.iadd, 1) := by decide +kernel
theorem d_Law_law_1039 : decode m_Law_law.2.1 1039 = .ok (.iaload, 1) := by decide +kernel
theorem d_Law_law_1040 : decode m_Law_law.2.1 1040 = .ok (.aload_n 0, 1) := by decide +kernel
theorem d_Law_law_1041 : decode m_Law_law.2.1 1041 = .ok (.iload 4, 2) := by decide +kernel
theorem d_Law_law_1043 : decode m_Law_law.2.1 1043 = .ok (.iconst 3, 1) := by decide +kernel
theorem d_Law_law_1044 : decode m_Law_law.2.1 1044 = .ok (.iadd, 1) := by decide +kernel
theorem d_Law_law_1045 : decode m_Law_law.2.1 1045 = .ok (.iaload, 1) := by decide +kernel
theorem d_Law_law_1046 : decode m_Law_law.2.1 1046 = .ok (.invokevirtual 110, 3) := by decide +kernel
theorem d_Law_law_1049 : decode m_Law_law.2.1 1049 = .ok (.aload_n 2, 1) := by decide +kernel
theorem d_Law_law_1050 : decode m_Law_law.2.1 1050 = .ok (.aload_n 0, 1) := by decide +kernel
theorem d_Law_law_1051 : decode m_Law_law.2.1 1051 = .ok (.iload 4, 2) := by decide +kernel
theorem d_Law_law_1053 : decode m_Law_law.2.1 1053 = .ok (.iconst 1, 1) := by decide +kernel
theorem d_Law_law_1054 : decode m_Law_law.2.1 1054 = .ok (.iadd, 1) := by decide +kernel
theorem d_Law_law_1055 : decode m_Law_law.2.1 1055 = .ok (.iaload, 1) := by decide +kernel
theorem d_Law_law_1056 : decode m_Law_law.2.1 1056 = .ok (.aload_n 0, 1) := by decide +kernel
theorem d_Law_law_1057 : decode m_Law_law.2.1 1057 = .ok (.iload 4, 2) := by decide +kernel
theorem d_Law_law_1059 : decode m_Law_law.2.1 1059 = .ok (.iconst 2, 1) := by decide +kernel
theorem d_Law_law_1060 : decode m_Law_law.2.1 1060 = .ok (.iadd, 1) := by decide +kernel
theorem d_Law_law_1061 : decode m_Law_law.2.1 1061 = .ok (.iaload, 1) := by decide +kernel
theorem d_Law_law_1062 : decode m_Law_law.2.1 1062 = .ok (.aload_n 0, 1) := by decide +kernel
theorem d_Law_law_1063 : decode m_Law_law.2.1 1063 = .ok (.iload 4, 2) := by decide +kernel
theorem d_Law_law_1065 : decode m_Law_law.2.1 1065 = .ok (.iconst 3, 1) := by decide +kernel
theorem d_Law_law_1066 : decode m_Law_law.2.1 1066 = .ok (.iadd, 1) := by decide +kernel
theorem d_Law_law_1067 : decode m_Law_law.2.1 1067 = .ok (.iaload, 1) := by decide +kernel
theorem d_Law_law_1068 : decode m_Law_law.2.1 1068 = .ok (.invokevirtual 114, 3) := by decide +kernel
theorem d_Law_law_1071 : decode m_Law_law.2.1 1071 = .ok (.if_icmp .eq 467, 3) := by decide +kernel
theorem d_Law_law_1074 : decode m_Law_law.2.1 1074 = .ok (.iconst 0, 1) := by decide +kernel
theorem d_Law_law_1075 : decode m_Law_law.2.1 1075 = .ok (.ireturn, 1) := by decide +kernel
theorem d_Law_law_1076 : decode m_Law_law.2.1 1076 = .ok (.aload_n 1, 1) := by decide +kernel
theorem d_Law_law_1077 : decode m_Law_law.2.1 1077 = .ok (.invokevirtual 115, 3) := by decide +kernel
theorem d_Law_law_1080 : decode m_Law_law.2.1 1080 = .ok (.aload_n 2, 1) := by decide +kernel
theorem d_Law_law_1081 : decode m_Law_law.2.1 1081 = .ok (.invokevirtual 118, 3) := by decide +kernel
theorem d_Law_law_1084 : decode m_Law_law.2.1 1084 = .ok (.if_icmp .eq 454, 3) := by decide +kernel
theorem d_Law_law_1087 : decode m_Law_law.2.1 1087 = .ok (.iconst 0, 1) := by decide +kernel
theorem d_Law_law_1088 : decode m_Law_law.2.1 1088 = .ok (.ireturn, 1) := by decide +kernel
theorem d_Law_law_1089 : decode m_Law_law.2.1 1089 = .ok (.aload_n 1, 1) := by decide +kernel
theorem d_Law_law_1090 : decode m_Law_law.2.1 1090 = .ok (.aload_n 0, 1) := by decide +kernel
theorem d_Law_law_1091 : decode m_Law_law.2.1 1091 = .ok (.iload 4, 2) := by decide +kernel
theorem d_Law_law_1093 : decode m_Law_law.2.1 1093 = .ok (.iconst 1, 1) := by decide +kernel
theorem d_Law_law_1094 : decode m_Law_law.2.1 1094 = .ok (.iadd, 1) := by decide +kernel
theorem d_Law_law_1095 : decode m_Law_law.2.1 1095 = .ok (.iaload, 1) := by decide +kernel
theorem d_Law_law_1096 : decode m_Law_law.2.1 1096 = .ok (.invokevirtual 119, 3) := by decide +kernel
theorem d_Law_law_1099 : decode m_Law_law.2.1 1099 = .ok (.aload_n 2, 1) := by decide +kernel
theorem d_Law_law_1100 : decode m_Law_law.2.1 1100 = .ok (.aload_n 0, 1) := by decide +kernel
theorem d_Law_law_1101 : decode m_Law_law.2.1 1101 = .ok (.iload 4, 2) := by decide +kernel
theorem d_Law_law_1103 : decode m_Law_law.2.1 1103 = .ok (.iconst 1, 1) := by decide +kernel
theorem d_Law_law_1104 : decode m_Law_law.2.1 1104 = .ok (.iadd, 1) := by decide +kernel
theorem d_Law_law_1105 : decode m_Law_law.2.1 1105 = .ok (.iaload, 1) := by decide +kernel
theorem d_Law_law_1106 : decode m_Law_law.2.1 1106 = .ok (.invokevirtual 122, 3) := by decide +kernel
theorem d_Law_law_1109 : decode m_Law_law.2.1 1109 = .ok (.if_icmp .eq 429, 3) := by decide +kernel
theorem d_Law_law_1112 : decode m_Law_law.2.1 1112 = .ok (.iconst 0, 1) := by decide +kernel
theorem d_Law_law_1113 : decode m_Law_law.2.1 1113 = .ok (.ireturn, 1) := by decide +kernel
theorem d_Law_law_1114 : decode m_Law_law.2.1 1114 = .ok (.aload_n 1, 1) := by decide +kernel
theorem d_Law_law_1115 : decode m_Law_law.2.1 1115 = .ok (.aload_n 0, 1) := by decide +kernel
theorem d_Law_law_1116 : decode m_Law_law.2.1 1116 = .ok (.iload 4, 2) := by decide +kernel
theorem d_Law_law_1118 : decode m_Law_law.2.1 1118 = .ok (.iconst 1, 1) := by decide +kernel
theorem d_Law_law_1119 : decode m_Law_law.2.1 1119 = .ok (.iadd, 1) := by decide +kernel
theorem d_Law_law_1120 : decode m_Law_law.2.1 1120 = .ok (.iaload, 1) := by decide +kernel
theorem d_Law_law_1121 : decode m_Law_law.2.1 1121 = .ok (.invokevirtual 123, 3) := by decide +kernel
theorem d_Law_law_1124 : decode m_Law_law.2.1 1124 = .ok (.aload_n 2, 1) := by decide +kernel
theorem d_Law_law_1125 : decode m_Law_law.2.1 1125 = .ok (.aload_n 0, 1) := by decide +kernel
theorem d_Law_law_1126 : decode m_Law_law.2.1 1126 = .ok (.iload 4, 2) := by decide +kernel
theorem d_Law_law_1128 : decode m_Law_law.2.1 1128 = .ok (.iconst 1, 1) := by decide +kernel
theorem d_Law_law_1129 : decode m_Law_law.2.1 1129 = .ok (.iadd, 1) := by decide +kernel
theorem d_Law_law_1130 : decode m_Law_law.2.1 1130 = .ok (.iaload, 1) := by decide +kernel
theorem d_Law_law_1131 : decode m_Law_law.2.1 1131 = .ok (.invokevirtual 126, 3) := by decide +kernel
theorem d_Law_law_1134 : decode m_Law_law.2.1 1134 = .ok (.if_icmp .eq 404, 3) := by decide +kernel
theorem d_Law_law_1137 : decode m_Law_law.2.1 1137 = .ok (.iconst 0, 1) := by decide +kernel
theorem d_Law_law_1138 : decode m_Law_law.2.1 1138 = .ok (.ireturn, 1) := by decide +kernel
theorem d_Law_law_1139 : decode m_Law_law.2.1 1139 = .ok (.aload_n 1, 1) := by decide +kernel
theorem d_Law_law_1140 : decode m_Law_law.2.1 1140 = .ok (.aload_n 0, 1) := by decide +kernel
theorem d_Law_law_1141 : decode m_Law_law.2.1 1141 = .ok (.iload 4, 2) := by decide +kernel
theorem d_Law_law_1143 : decode m_Law_law.2.1 1143 = .ok (.iconst 1, 1) := by decide +kernel
theorem d_Law_law_1144 : decode m_Law_law.2.1 1144 = .ok (.iadd, 1) := by decide +kernel
theorem d_Law_law_1145 : decode m_Law_law.2.1 1145 = .ok (.iaload, 1) := by decide +kernel
theorem d_Law_law_1146 : decode m_Law_law.2.1 1146 = .ok (.aload_n 0, 1) := by decide +kernel
theorem d_Law_law_1147 : decode m_Law_law.2.1 1147 = .ok (.iload 4, 2) := by decide +kernel
theorem d_Law_law_1149 : decode m_Law_law.2.1 1149 = .ok (.iconst 2, 1) := by decide +kernel
theorem d_Law_law_1150 : decode m_Law_law.2.1 1150 = .ok (.iadd, 1) := by decide +kernel
theorem d_Law_law_1151 : decode m_Law_law.2.1 1151 = .ok (.iaload, 1) := by decide +kernel
theorem d_Law_law_1152 : decode m_Law_law.2.1 1152 = .ok (.invokevirtual 127, 3) := by decide +kernel
theorem d_Law_law_1155 : decode m_Law_law.2.1 1155 = .ok (.aload_n 2, 1) := by decide +kernel
theorem d_Law_law_1156 : decode m_Law_law.2.1 1156 = .ok (.aload_n 0, 1) := by decide +kernel
theorem d_Law_law_1157 : decode m_Law_law.2.1 1157 = .ok (.iload 4, 2) := by decide +kernel
theorem d_Law_law_1159 : decode m_Law_law.2.1 1159 = .ok (.iconst 1, 1) := by decide +kernel
theorem d_Law_law_1160 : decode m_Law_law.2.1 1160 = .ok (.iadd, 1) := by decide +kernel
theorem d_Law_law_1161 : decode m_Law_law.2.1 1161 = .ok (.iaload, 1) := by decide +kernel
theorem d_Law_law_1162 : decode m_Law_law.2.1 1162 = .ok (.aload_n 0, 1) := by decide +kernel
theorem d_Law_law_1163 : decode m_Law_law.2.1 1163 = .ok (.iload 4, 2) := by decide +kernel
theorem d_Law_law_1165 : decode m_Law_law.2.1 1165 = .ok (.iconst 2, 1) := by decide +kernel
theorem d_Law_law_1166 : decode m_Law_law.2.1 1166 = .ok (.iadd, 1) := by decide +kernel
theorem d_Law_law_1167 : decode m_Law_law.2.1 1167 = .ok (.iaload, 1) := by decide +kernel
theorem d_Law_law_1168 : decode m_Law_law.2.1 1168 = .ok (.invokevirtual 130, 3) := by decide +kernel
theorem d_Law_law_1171 : decode m_Law_law.2.1 1171 = .ok (.if_icmp .eq 367, 3) := by decide +kernel
theorem d_Law_law_1174 : decode m_Law_law.2.1 1174 = .ok (.iconst 0, 1) := by decide +kernel
theorem d_Law_law_1175 : decode m_Law_law.2.1 1175 = .ok (.ireturn, 1) := by decide +kernel
theorem d_Law_law_1176 : decode m_Law_law.2.1 1176 = .ok (.aload_n 1, 1) := by decide +kernel
theorem d_Law_law_1177 : decode m_Law_law.2.1 1177 = .ok (.aload_n 0, 1) := by decide +kernel
theorem d_Law_law_1178 : decode m_Law_law.2.1 1178 = .ok (.iload 4, 2) := by decide +kernel
theorem d_Law_law_1180 : decode m_Law_law.2.1 1180 = .ok (.iconst 1, 1) := by decide +kernel
theorem d_Law_law_1181 : decode m_Law_law.2.1 1181 = .ok (.iadd, 1) := by decide +kernel
theorem d_Law_law_1182 : decode m_Law_law.2.1 1182 = .ok (.iaload, 1) := by decide +kernel
theorem d_Law_law_1183 : decode m_Law_law.2.1 1183 = .ok (.invokevirtual 131, 3) := by decide +kernel
theorem d_Law_law_1186 : decode m_Law_law.2.1 1186 = .ok (.aload_n 2, 1) := by decide +kernel
theorem d_Law_law_1187 : decode m_Law_law.2.1 1187 = .ok (.aload_n 0, 1) := by decide +kernel
theorem d_Law_law_1188 : decode m_Law_law.2.1 1188 = .ok (.iload 4, 2) := by decide +kernel
theorem d_Law_law_1190 : decode m_Law_law.2.1 1190 = .ok (.iconst 1, 1) := by decide +kernel
theorem d_Law_law_1191 : decode m_Law_law.2.1 1191 = .ok (.iadd, 1) := by decide +kernel
theorem d_Law_law_1192 : decode m_Law_law.2.1 1192 = .ok (.iaload, 1) := by decide +kernel
theorem d_Law_law_1193 : decode m_Law_law.2.1 1193 = .ok (.invokevirtual 134, 3) := by decide +kernel
theorem d_Law_law_1196 : decode m_Law_law.2.1 1196 = .ok (.if_icmp .eq 342, 3) := by decide +kernel
theorem d_Law_law_1199 : decode m_Law_law.2.1 1199 = .ok (.iconst 0, 1) := by decide +kernel
theorem d_Law_law_1200 : decode m_Law_law.2.1 1200 = .ok (.ireturn, 1) := by decide +kernel
theorem d_Law_law_1201 : decode m_Law_law.2.1 1201 = .ok (.aload_n 1, 1) := by decide +kernel
theorem d_Law_law_1202 : decode m_Law_law.2.1 1202 = .ok (.aload_n 0, 1) := by decide +kernel
theorem d_Law_law_1203 : decode m_Law_law.2.1 1203 = .ok (.iload 4, 2) := by decide +kernel
theorem d_Law_law_1205 : decode m_Law_law.2.1 1205 = .ok (.iconst 1, 1) := by decide +kernel
theorem d_Law_law_1206 : decode m_Law_law.2.1 1206 = .ok (.iadd, 1) := by decide +kernel
theorem d_Law_law_1207 : decode m_Law_law.2.1 1207 = .ok (.iaload, 1) := by decide +kernel
theorem d_Law_law_1208 : decode m_Law_law.2.1 1208 = .ok (.invokevirtual 135, 3) := by decide +kernel
theorem d_Law_law_1211 : decode m_Law_law.2.1 1211 = .ok (.aload_n 2, 1) := by decide +kernel
theorem d_Law_law_1212 : decode m_Law_law.2.1 1212 = .ok (.aload_n 0, 1) := by decide +kernel
theorem d_Law_law_1213 : decode m_Law_law.2.1 1213 = .ok (.iload 4, 2) := by decide +kernel
theorem d_Law_law_1215 : decode m_Law_law.2.1 1215 = .ok (.iconst 1, 1) := by decide +kernel
theorem d_Law_law_1216 : decode m_Law_law.2.1 1216 = .ok (.iadd, 1) := by decide +kernel
theorem d_Law_law_1217 : decode m_Law_law.2.1 1217 = .ok (.iaload, 1) := by decide +kernel
theorem d_Law_law_1218 : decode m_Law_law.2.1 1218 = .ok (.invokevirtual 138, 3) := by decide +kernel
theorem d_Law_law_1221 : decode m_Law_law.2.1 1221 = .ok (.if_icmp .eq 317, 3) := by decide +kernel
theorem d_Law_law_1224 : decode m_Law_law.2.1 1224 = .ok (.iconst 0, 1) := by decide +kernel
theorem d_Law_law_1225 : decode m_Law_law.2.1 1225 = .ok (.ireturn, 1) := by decide +kernel
theorem d_Law_law_1226 : decode m_Law_law.2.1 1226 = .ok (.aload_n 1, 1) := by decide +kernel
theorem d_Law_law_1227 : decode m_Law_law.2.1 1227 = .ok (.invokevirtual 139, 3) := by decide +kernel
theorem d_Law_law_1230 : decode m_Law_law.2.1 1230 = .ok (.aload_n 2, 1) := by decide +kernel
theorem d_Law_law_1231 : decode m_Law_law.2.1 1231 = .ok (.invokevirtual 142, 3) := by decide +kernel
theorem d_Law_law_1234 : decode m_Law_law.2.1 1234 = .ok (.if_icmp .eq 304, 3) := by decide +kernel
theorem d_Law_law_1237 : decode m_Law_law.2.1 1237 = .ok (.iconst 0, 1) := by decide +kernel
theorem d_Law_law_1238 : decode m_Law_law.2.1 1238 = .ok (.ireturn, 1) := by decide +kernel
theorem d_Law_law_1239 : decode m_Law_law.2.1 1239 = .ok (.aload_n 1, 1) := by decide +kernel
theorem d_Law_law_1240 : decode m_Law_law.2.1 1240 = .ok (.aload_n 0, 1) := by decide +kernel
theorem d_Law_law_1241 : decode m_Law_law.2.1 1241 = .ok (.iload 4, 2) := by decide +kernel
theorem d_Law_law_1243 : decode m_Law_law.2.1 1243 = .ok (.iconst 1, 1) := by decide +kernel
theorem d_Law_law_1244 : decode m_Law_law.2.1 1244 = .ok (.iadd, 1) := by decide +kernel
theorem d_Law_law_1245 : decode m_Law_law.2.1 1245 = .ok (.iaload, 1) := by decide +kernel
theorem d_Law_law_1246 : decode m_Law_law.2.1 1246 = .ok (.invokevirtual 143, 3) := by decide +kernel
theorem d_Law_law_1249 : decode m_Law_law.2.1 1249 = .ok (.aload_n 2, 1) := by decide +kernel
theorem d_Law_law_1250 : decode m_Law_law.2.1 1250 = .ok (.aload_n 0, 1) := by decide +kernel
theorem d_Law_law_1251 : decode m_Law_law.2.1 1251 = .ok (.iload 4, 2) := by decide +kernel
theorem d_Law_law_1253 : decode m_Law_law.2.1 1253 = .ok (.iconst 1, 1) := by decide +kernel
theorem d_Law_law_1254 : decode m_Law_law.2.1 1254 = .ok (.iadd, 1) := by decide +kernel
theorem d_Law_law_1255 : decode m_Law_law.2.1 1255 = .ok (.iaload, 1) := by decide +kernel
theorem d_Law_law_1256 : decode m_Law_law.2.1 1256 = .ok (.invokevirtual 146, 3) := by decide +kernel
theorem d_Law_law_1259 : decode m_Law_law.2.1 1259 = .ok (.if_icmp .eq 279, 3) := by decide +kernel
theorem d_Law_law_1262 : decode m_Law_law.2.1 1262 = .ok (.iconst 0, 1) := by decide +kernel
theorem d_Law_law_1263 : decode m_Law_law.2.1 1263 = .ok (.ireturn, 1) := by decide +kernel
theorem d_Law_law_1264 : decode m_Law_law.2.1 1264 = .ok (.aload_n 1, 1) := by decide +kernel
theorem d_Law_law_1265 : decode m_Law_law.2.1 1265 = .ok (.aload_n 0, 1) := by decide +kernel
theorem d_Law_law_1266 : decode m_Law_law.2.1 1266 = .ok (.iload 4, 2) := by decide +kernel
theorem d_Law_law_1268 : decode m_Law_law.2.1 1268 = .ok (.iconst 1, 1) := by decide +kernel
theorem d_Law_law_1269 : decode m_Law_law.2.1 1269 = .ok (.iadd, 1) := by decide +kernel
theorem d_Law_law_1270 : decode m_Law_law.2.1 1270 = .ok (.iaload, 1) := by decide +kernel
theorem d_Law_law_1271 : decode m_Law_law.2.1 1271 = .ok (.aload_n 0, 1) := by decide +kernel
theorem d_Law_law_1272 : decode m_Law_law.2.1 1272 = .ok (.iload 4, 2) := by decide +kernel
theorem d_Law_law_1274 : decode m_Law_law.2.1 1274 = .ok (.iconst 2, 1) := by decide +kernel
theorem d_Law_law_1275 : decode m_Law_law.2.1 1275 = .ok (.iadd, 1) := by decide +kernel
theorem d_Law_law_1276 : decode m_Law_law.2.1 1276 = .ok (.iaload, 1) := by decide +kernel
theorem d_Law_law_1277 : decode m_Law_law.2.1 1277 = .ok (.aload_n 0, 1) := by decide +kernel
theorem d_Law_law_1278 : decode m_Law_law.2.1 1278 = .ok (.iload 4, 2) := by decide +kernel
theorem d_Law_law_1280 : decode m_Law_law.2.1 1280 = .ok (.iconst 3, 1) := by decide +kernel
theorem d_Law_law_1281 : decode m_Law_law.2.1 1281 = .ok (.iadd, 1) := by decide +kernel
theorem d_Law_law_1282 : decode m_Law_law.2.1 1282 = .ok (.iaload, 1) := by decide +kernel
theorem d_Law_law_1283 : decode m_Law_law.2.1 1283 = .ok (.invokevirtual 147, 3) := by decide +kernel
theorem d_Law_law_1286 : decode m_Law_law.2.1 1286 = .ok (.aload_n 2, 1) := by decide +kernel
theorem d_Law_law_1287 : decode m_Law_law.2.1 1287 = .ok (.aload_n 0, 1) := by decide +kernel
theorem d_Law_law_1288 : decode m_Law_law.2.1 1288 = .ok (.iload 4, 2) := by decide +kernel
theorem d_Law_law_1290 : decode m_Law_law.2.1 1290 = .ok (.iconst 1, 1) := by decide +kernel
theorem d_Law_law_1291 : decode m_Law_law.2.1 1291 = .ok (.iadd, 1) := by decide +kernel
theorem d_Law_law_1292 : decode m_Law_law.2.1 1292 = .ok (.iaload, 1) := by decide +kernel
theorem d_Law_law_1293 : decode m_Law_law.2.1 1293 = .ok (.aload_n 0, 1) := by decide +kernel
theorem d_Law_law_1294 : decode m_Law_law.2.1 1294 = .ok (.iload 4, 2) := by decide +kernel
theorem d_Law_law_1296 : decode m_Law_law.2.1 1296 = .ok (.iconst 2, 1) := by decide +kernel
theorem d_Law_law_1297 : decode m_Law_law.2.1 1297 = .ok (.iadd, 1) := by decide +kernel
theorem d_Law_law_1298 : decode m_Law_law.2.1 1298 = .ok (.iaload, 1) := by decide +kernel
theorem d_Law_law_1299 : decode m_Law_law.2.1 1299 = .ok (.aload_n 0, 1) := by decide +kernel
theorem d_Law_law_1300 : decode m_Law_law.2.1 1300 = .ok (.iload 4, 2) := by decide +kernel
theorem d_Law_law_1302 : decode m_Law_law.2.1 1302 = .ok (.iconst 3, 1) := by decide +kernel
theorem d_Law_law_1303 : decode m_Law_law.2.1 1303 = .ok (.iadd, 1) := by decide +kernel
theorem d_Law_law_1304 : decode m_Law_law.2.1 1304 = .ok (.iaload, 1) := by decide +kernel
theorem d_Law_law_1305 : decode m_Law_law.2.1 1305 = .ok (.invokevirtual 150, 3) := by decide +kernel
theorem d_Law_law_1308 : decode m_Law_law.2.1 1308 = .ok (.if_icmp .eq 230, 3) := by decide +kernel
theorem d_Law_law_1311 : decode m_Law_law.2.1 1311 = .ok (.iconst 0, 1) := by decide +kernel
theorem d_Law_law_1312 : decode m_Law_law.2.1 1312 = .ok (.ireturn, 1) := by decide +kernel
theorem d_Law_law_1313 : decode m_Law_law.2.1 1313 = .ok (.aload_n 1, 1) := by decide +kernel
theorem d_Law_law_1314 : decode m_Law_law.2.1 1314 = .ok (.aload_n 0, 1) := by decide +kernel
theorem d_Law_law_1315 : decode m_Law_law.2.1 1315 = .ok (.iload 4, 2) := by decide +kernel
theorem d_Law_law_1317 : decode m_Law_law.2.1 1317 = .ok (.iconst 1, 1) := by decide +kernel
theorem d_Law_law_1318 : decode m_Law_law.2.1 1318 = .ok (.iadd, 1) := by decide +kernel
theorem d_Law_law_1319 : decode m_Law_law.2.1 1319 = .ok (.iaload, 1) := by decide +kernel
theorem d_Law_law_1320 : decode m_Law_law.2.1 1320 = .ok (.invokevirtual 151, 3) := by decide +kernel
theorem d_Law_law_1323 : decode m_Law_law.2.1 1323 = .ok (.aload_n 2, 1) := by decide +kernel
theorem d_Law_law_1324 : decode m_Law_law.2.1 1324 = .ok (.aload_n 0, 1) := by decide +kernel
theorem d_Law_law_1325 : decode m_Law_law.2.1 1325 = .ok (.iload 4, 2) := by decide +kernel
theorem d_Law_law_1327 : decode m_Law_law.2.1 1327 = .ok (.iconst 1, 1) := by decide +kernel
theorem d_Law_law_1328 : decode m_Law_law.2.1 1328 = .ok (.iadd, 1) := by decide +kernel
theorem d_Law_law_1329 : decode m_Law_law.2.1 1329 = .ok (.iaload, 1) := by decide +kernel
theorem d_Law_law_1330 : decode m_Law_law.2.1 1330 = .ok (.invokevirtual 154, 3) := by decide +kernel
theorem d_Law_law_1333 : decode m_Law_law.2.1 1333 = .ok (.if_icmp .eq 205, 3) := by decide +kernel
theorem d_Law_law_1336 : decode m_Law_law.2.1 1336 = .ok (.iconst 0, 1) := by decide +kernel
theorem d_Law_law_1337 : decode m_Law_law.2.1 1337 = .ok (.ireturn, 1) := by decide +kernel
theorem d_Law_law_1338 : decode m_Law_law.2.1 1338 = .ok (.aload_n 1, 1) := by decide +kernel
theorem d_Law_law_1339 : decode m_Law_law.2.1 1339 = .ok (.aload_n 0, 1) := by decide +kernel
theorem d_Law_law_1340 : decode m_Law_law.2.1 1340 = .ok (.iload 4, 2) := by decide +kernel
theorem d_Law_law_1342 : decode m_Law_law.2.1 1342 = .ok (.iconst 1, 1) := by decide +kernel
theorem d_Law_law_1343 : decode m_Law_law.2.1 1343 = .ok (.iadd, 1) := by decide +kernel
theorem d_Law_law_1344 : decode m_Law_law.2.1 1344 = .ok (.iaload, 1) := by decide +kernel
theorem d_Law_law_1345 : decode m_Law_law.2.1 1345 = .ok (.invokevirtual 155, 3) := by decide +kernel
theorem d_Law_law_1348 : decode m_Law_law.2.1 1348 = .ok (.aload_n 2, 1) := by decide +kernel
theorem d_Law_law_1349 : decode m_Law_law.2.1 1349 = .ok (.aload_n 0, 1) := by decide +kernel
theorem d_Law_law_1350 : decode m_Law_law.2.1 1350 = .ok (.iload 4, 2) := by decide +kernel
theorem d_Law_law_1352 : decode m_Law_law.2.1 1352 = .ok (.iconst 1, 1) := by decide +kernel
theorem d_Law_law_1353 : decode m_Law_law.2.1 1353 = .ok (.iadd, 1) := by decide +kernel
theorem d_Law_law_1354 : decode m_Law_law.2.1 1354 = .ok (.iaload, 1) := by decide +kernel
theorem d_Law_law_1355 : decode m_Law_law.2.1 1355 = .ok (.invokevirtual 159, 3) := by decide +kernel
theorem d_Law_law_1358 : decode m_Law_law.2.1 1358 = .ok (.if_icmp .eq 180, 3) := by decide +kernel
theorem d_Law_law_1361 : decode m_Law_law.2.1 1361 = .ok (.iconst 0, 1) := by decide +kernel
theorem d_Law_law_1362 : decode m_Law_law.2.1 1362 = .ok (.ireturn, 1) := by decide +kernel
theorem d_Law_law_1363 : decode m_Law_law.2.1 1363 = .ok (.aload_n 1, 1) := by decide +kernel
theorem d_Law_law_1364 : decode m_Law_law.2.1 1364 = .ok (.aload_n 0, 1) := by decide +kernel
theorem d_Law_law_1365 : decode m_Law_law.2.1 1365 = .ok (.iload 4, 2) := by decide +kernel
theorem d_Law_law_1367 : decode m_Law_law.2.1 1367 = .ok (.iconst 1, 1) := by decide +kernel
theorem d_Law_law_1368 : decode m_Law_law.2.1 1368 = .ok (.iadd, 1) := by decide +kernel
theorem d_Law_law_1369 : decode m_Law_law.2.1 1369 = .ok (.iaload, 1) := by decide +kernel
theorem d_Law_law_1370 : decode m_Law_law.2.1 1370 = .ok (.invokevirtual 160, 3) := by decide +kernel
theorem d_Law_law_1373 : decode m_Law_law.2.1 1373 = .ok (.aload_n 2, 1) := by decide +kernel
theorem d_Law_law_1374 : decode m_Law_law.2.1 1374 = .ok (.aload_n 0, 1) := by decide +kernel
theorem d_Law_law_1375 : decode m_Law_law.2.1 1375 = .ok (.iload 4, 2) := by decide +kernel
theorem d_Law_law_1377 : decode m_Law_law.2.1 1377 = .ok (.iconst 1, 1) := by decide +kernel
theorem d_Law_law_1378 : decode m_Law_law.2.1 1378 = .ok (.iadd, 1) := by decide +kernel
theorem d_Law_law_1379 : decode m_Law_law.2.1 1379 = .ok (.iaload, 1) := by decide +kernel
theorem d_Law_law_1380 : decode m_Law_law.2.1 1380 = .ok (.invokevirtual 163, 3) := by decide +kernel
theorem d_Law_law_1383 : decode m_Law_law.2.1 1383 = .ok (.if_icmp .eq 155, 3) := by decide +kernel
theorem d_Law_law_1386 : decode m_Law_law.2.1 1386 = .ok (.iconst 0, 1) := by decide +kernel
theorem d_Law_law_1387 : decode m_Law_law.2.1 1387 = .ok (.ireturn, 1) := by decide +kernel
theorem d_Law_law_1388 : decode m_Law_law.2.1 1388 = .ok (.aload_n 1, 1) := by decide +kernel
theorem d_Law_law_1389 : decode m_Law_law.2.1 1389 = .ok (.aload_n 0, 1) := by decide +kernel
theorem d_Law_law_1390 : decode m_Law_law.2.1 1390 = .ok (.iload 4, 2) := by decide +kernel
theorem d_Law_law_1392 : decode m_Law_law.2.1 1392 = .ok (.iconst 1, 1) := by decide +kernel
theorem d_Law_law_1393 : decode m_Law_law.2.1 1393 = .ok (.iadd, 1) := by decide +kernel
theorem d_Law_law_1394 : decode m_Law_law.2.1 1394 = .ok (.iaload, 1) := by decide +kernel
theorem d_Law_law_1395 : decode m_Law_law.2.1 1395 = .ok (.aload_n 0, 1) := by decide +kernel
theorem d_Law_law_1396 : decode m_Law_law.2.1 1396 = .ok (.iload 4, 2) := by decide +kernel
theorem d_Law_law_1398 : decode m_Law_law.2.1 1398 = .ok (.iconst 2, 1) := by decide +kernel
theorem d_Law_law_1399 : decode m_Law_law.2.1 1399 = .ok (.iadd, 1) := by decide +kernel
theorem d_Law_law_1400 : decode m_Law_law.2.1 1400 = .ok (.iaload, 1) := by decide +kernel
theorem d_Law_law_1401 : decode m_Law_law.2.1 1401 = .ok (.aload_n 0, 1) := by decide +kernel
theorem d_Law_law_1402 : decode m_Law_law.2.1 1402 = .ok (.iload 4, 2) := by decide +kernel
theorem d_Law_law_1404 : decode m_Law_law.2.1 1404 = .ok (.iconst 3, 1) := by decide +kernel
theorem d_Law_law_1405 : decode m_Law_law.2.1 1405 = .ok (.iadd, 1) := by decide +kernel
theorem d_Law_law_1406 : decode m_Law_law.2.1 1406 = .ok (.iaload, 1) := by decide +kernel
theorem d_Law_law_1407 : decode m_Law_law.2.1 1407 = .ok (.invokevirtual 164, 3) := by decide +kernel
theorem d_Law_law_1410 : decode m_Law_law.2.1 1410 = .ok (.aload_n 2, 1) := by decide +kernel
theorem d_Law_law_1411 : decode m_Law_law.2.1 1411 = .ok (.aload_n 0, 1) := by decide +kernel
theorem d_Law_law_1412 : decode m_Law_law.2.1 1412 = .ok (.iload 4, 2) := by decide +kernel
theorem d_Law_law_1414 : decode m_Law_law.2.1 1414 = .ok (.iconst 1, 1) := by decide +kernel
theorem d_Law_law_1415 : decode m_Law_law.2.1 1415 = .ok (.iadd, 1) := by decide +kernel
theorem d_Law_law_1416 : decode m_Law_law.2.1 1416 = .ok (.iaload, 1) := by decide +kernel
theorem d_Law_law_1417 : decode m_Law_law.2.1 1417 = .ok (.aload_n 0, 1) := by decide +kernel
theorem d_Law_law_1418 : decode m_Law_law.2.1 1418 = .ok (.iload 4, 2) := by decide +kernel
theorem d_Law_law_1420 : decode m_Law_law.2.1 1420 = .ok (.iconst 2, 1) := by decide +kernel
theorem d_Law_law_1421 : decode m_Law_law.2.1 1421 = .ok (.iadd, 1) := by decide +kernel
theorem d_Law_law_1422 : decode m_Law_law.2.1 1422 = .ok (.iaload, 1) := by decide +kernel
theorem d_Law_law_1423 : decode m_Law_law.2.1 1423 = .ok (.aload_n 0, 1) := by decide +kernel
theorem d_Law_law_1424 : decode m_Law_law.2.1 1424 = .ok (.iload 4, 2) := by decide +kernel
theorem d_Law_law_1426 : decode m_Law_law.2.1 1426 = .ok (.iconst 3, 1) := by decide +kernel
theorem d_Law_law_1427 : decode m_Law_law.2.1 1427 = .ok (.iadd, 1) := by decide +kernel
theorem d_Law_law_1428 : decode m_Law_law.2.1 1428 = .ok (.iaload, 1) := by decide +kernel
theorem d_Law_law_1429 : decode m_Law_law.2.1 1429 = .ok (.invokevirtual 167, 3) := by decide +kernel
theorem d_Law_law_1432 : decode m_Law_law.2.1 1432 = .ok (.if_icmp .eq 106, 3) := by decide +kernel
theorem d_Law_law_1435 : decode m_Law_law.2.1 1435 = .ok (.iconst 0, 1) := by decide +kernel
theorem d_Law_law_1436 : decode m_Law_law.2.1 1436 = .ok (.ireturn, 1) := by decide +kernel
theorem d_Law_law_1437 : decode m_Law_law.2.1 1437 = .ok (.aload_n 1, 1) := by decide +kernel
theorem d_Law_law_1438 : decode m_Law_law.2.1 1438 = .ok (.aload_n 0, 1) := by decide +kernel
theorem d_Law_law_1439 : decode m_Law_law.2.1 1439 = .ok (.iload 4, 2) := by decide +kernel
theorem d_Law_law_1441 : decode m_Law_law.2.1 1441 = .ok (.iconst 1, 1) := by decide +kernel
theorem d_Law_law_1442 : decode m_Law_law.2.1 1442 = .ok (.iadd, 1) := by decide +kernel
theorem d_Law_law_1443 : decode m_Law_law.2.1 1443 = .ok (.iaload, 1) := by decide +kernel
theorem d_Law_law_1444 : decode m_Law_law.2.1 1444 = .ok (.aload_n 0, 1) := by decide +kernel
theorem d_Law_law_1445 : decode m_Law_law.2.1 1445 = .ok (.iload 4, 2) := by decide +kernel
theorem d_Law_law_1447 : decode m_Law_law.2.1 1447 = .ok (.iconst 2, 1) := by decide +kernel
theorem d_Law_law_1448 : decode m_Law_law.2.1 1448 = .ok (.iadd, 1) := by decide +kernel
theorem d_Law_law_1449 : decode m_Law_law.2.1 1449 = .ok (.iaload, 1) := by decide +kernel
theorem d_Law_law_1450 : decode m_Law_law.2.1 1450 = .ok (.invokevirtual 168, 3) := by decide +kernel
theorem d_Law_law_1453 : decode m_Law_law.2.1 1453 = .ok (.aload_n 2, 1) := by decide +kernel
theorem d_Law_law_1454 : decode m_Law_law.2.1 1454 = .ok (.aload_n 0, 1) := by decide +kernel
theorem d_Law_law_1455 : decode m_Law_law.2.1 1455 = .ok (.iload 4, 2) := by decide +kernel
theorem d_Law_law_1457 : decode m_Law_law.2.1 1457 = .ok (.iconst 1, 1) := by decide +kernel
theorem d_Law_law_1458 : decode m_Law_law.2.1 1458 = .ok (.iadd, 1) := by decide +kernel
theorem d_Law_law_1459 : decode m_Law_law.2.1 1459 = .ok (.iaload, 1) := by decide +kernel
theorem d_Law_law_1460 : decode m_Law_law.2.1 1460 = .ok (.aload_n 0, 1) := by decide +kernel
theorem d_Law_law_1461 : decode m_Law_law.2.1 1461 = .ok (.iload 4, 2) := by decide +kernel
theorem d_Law_law_1463 : decode m_Law_law.2.1 1463 = .ok (.iconst 2, 1) := by decide +kernel
theorem d_Law_law_1464 : decode m_Law_law.2.1 1464 = .ok (.iadd, 1) := by decide +kernel
theorem d_Law_law_1465 : decode m_Law_law.2.1 1465 = .ok (.iaload, 1) := by decide +kernel
theorem d_Law_law_1466 : decode m_Law_law.2.1 1466 = .ok (.invokevirtual 171, 3) := by decide +kernel
theorem d_Law_law_1469 : decode m_Law_law.2.1 1469 = .ok (.if_icmp .eq 69, 3) := by decide +kernel
theorem d_Law_law_1472 : decode m_Law_law.2.1 1472 = .ok (.iconst 0, 1) := by decide +kernel
theorem d_Law_law_1473 : decode m_Law_law.2.1 1473 = .ok (.ireturn, 1) := by decide +kernel
theorem d_Law_law_1474 : decode m_Law_law.2.1 1474 = .ok (.aload_n 1, 1) := by decide +kernel
theorem d_Law_law_1475 : decode m_Law_law.2.1 1475 = .ok (.invokevirtual 172, 3) := by decide +kernel
theorem d_Law_law_1478 : decode m_Law_law.2.1 1478 = .ok (.aload_n 2, 1) := by decide +kernel
theorem d_Law_law_1479 : decode m_Law_law.2.1 1479 = .ok (.invokevirtual 175, 3) := by decide +kernel
theorem d_Law_law_1482 : decode m_Law_law.2.1 1482 = .ok (.if_icmp .eq 56, 3) := by decide +kernel
theorem d_Law_law_1485 : decode m_Law_law.2.1 1485 = .ok (.iconst 0, 1) := by decide +kernel
theorem d_Law_law_1486 : decode m_Law_law.2.1 1486 = .ok (.ireturn, 1) := by decide +kernel
theorem d_Law_law_1487 : decode m_Law_law.2.1 1487 = .ok (.aload_n 1, 1) := by decide +kernel
theorem d_Law_law_1488 : decode m_Law_law.2.1 1488 = .ok (.invokevirtual 176, 3) := by decide +kernel
theorem d_Law_law_1491 : decode m_Law_law.2.1 1491 = .ok (.aload_n 2, 1) := by decide +kernel
theorem d_Law_law_1492 : decode m_Law_law.2.1 1492 = .ok (.invokevirtual 179, 3) := by decide +kernel
theorem d_Law_law_1495 : decode m_Law_law.2.1 1495 = .ok (.if_icmp .eq 43, 3) := by decide +kernel
theorem d_Law_law_1498 : decode m_Law_law.2.1 1498 = .ok (.iconst 0, 1) := by decide +kernel
theorem d_Law_law_1499 : decode m_Law_law.2.1 1499 = .ok (.ireturn, 1) := by decide +kernel
theorem d_Law_law_1500 : decode m_Law_law.2.1 1500 = .ok (.aload_n 1, 1) := by decide +kernel
theorem d_Law_law_1501 : decode m_Law_law.2.1 1501 = .ok (.invokevirtual 180, 3) := by decide +kernel
theorem d_Law_law_1504 : decode m_Law_law.2.1 1504 = .ok (.aload_n 2, 1) := by decide +kernel
theorem d_Law_law_1505 : decode m_Law_law.2.1 1505 = .ok (.invokevirtual 183, 3) := by decide +kernel
theorem d_Law_law_1508 : decode m_Law_law.2.1 1508 = .ok (.if_icmp .eq 30, 3) := by decide +kernel
theorem d_Law_law_1511 : decode m_Law_law.2.1 1511 = .ok (.iconst 0, 1) := by decide +kernel
theorem d_Law_law_1512 : decode m_Law_law.2.1 1512 = .ok (.ireturn, 1) := by decide +kernel
theorem d_Law_law_1513 : decode m_Law_law.2.1 1513 = .ok (.aload_n 1, 1) := by decide +kernel
theorem d_Law_law_1514 : decode m_Law_law.2.1 1514 = .ok (.aload_n 0, 1) := by decide +kernel
theorem d_Law_law_1515 : decode m_Law_law.2.1 1515 = .ok (.iload 4, 2) := by decide +kernel
theorem d_Law_law_1517 : decode m_Law_law.2.1 1517 = .ok (.iconst 1, 1) := by decide +kernel
theorem d_Law_law_1518 : decode m_Law_law.2.1 1518 = .ok (.iadd, 1) := by decide +kernel
theorem d_Law_law_1519 : decode m_Law_law.2.1 1519 = .ok (.iaload, 1) := by decide +kernel
theorem d_Law_law_1520 : decode m_Law_law.2.1 1520 = .ok (.invokevirtual 184, 3) := by decide +kernel
theorem d_Law_law_1523 : decode m_Law_law.2.1 1523 = .ok (.aload_n 2, 1) := by decide +kernel
theorem d_Law_law_1524 : decode m_Law_law.2.1 1524 = .ok (.aload_n 0, 1) := by decide +kernel
theorem d_Law_law_1525 : decode m_Law_law.2.1 1525 = .ok (.iload 4, 2) := by decide +kernel
theorem d_Law_law_1527 : decode m_Law_law.2.1 1527 = .ok (.iconst 1, 1) := by decide +kernel
theorem d_Law_law_1528 : decode m_Law_law.2.1 1528 = .ok (.iadd, 1) := by decide +kernel
theorem d_Law_law_1529 : decode m_Law_law.2.1 1529 = .ok (.iaload, 1) := by decide +kernel
theorem d_Law_law_1530 : decode m_Law_law.2.1 1530 = .ok (.invokevirtual 187, 3) := by decide +kernel
theorem d_Law_law_1533 : decode m_Law_law.2.1 1533 = .ok (.if_icmp .eq 5, 3) := by decide +kernel
theorem d_Law_law_1536 : decode m_Law_law.2.1 1536 = .ok (.iconst 0, 1) := by decide +kernel
theorem d_Law_law_1537 : decode m_Law_law.2.1 1537 = .ok (.ireturn, 1) := by decide +kernel
theorem d_Law_law_1538 : decode m_Law_law.2.1 1538 = .ok (.iinc 4 6, 3) := by decide +kernel
theorem d_Law_law_1541 : decode m_Law_law.2.1 1541 = .ok (.goto (-1518), 3) := by decide +kernel
theorem d_Law_law_1544 : decode m_Law_law.2.1 1544 = .ok (.iconst 1, 1) := by decide +kernel
theorem d_Law_law_1545 : decode m_Law_law.2.1 1545 = .ok (.ireturn, 1) := by decide +kernel
theorem d_Enum_ordinal_0 : decode m_Enum_ordinal.2.1 0 = .ok (.aload_n 0, 1) := by decide +kernel
theorem d_Enum_ordinal_1 : decode m_Enum_ordinal.2.1 1 = .ok (.getfield 7, 3) := by decide +kernel
theorem d_Enum_ordinal_4 : decode m_Enum_ordinal.2.1 4 = .ok (.ireturn, 1) := by decide +kernel
theorem d_Integer_bitCount_0 : decode m_Integer_bitCount.2.1 0 = .ok (.iload_n 0, 1) := by decide +kernel
theorem d_Integer_bitCount_1 : decode m_Integer_bitCount.2.1 1 = .ok (.iload_n 0, 1) := by decide +kernel
theorem d_Integer_bitCount_2 : decode m_Integer_bitCount.2.1 2 = .ok (.iconst 1, 1) := by decide +kernel
theorem d_Integer_bitCount_3 : decode m_Integer_bitCount.2.1 3 = .ok (.iushr, 1) := by decide +kernel
theorem d_Integer_bitCount_4 : decode m_Integer_bitCount.2.1 4 = .ok (.ldc_w 265, 3) := by decide +kernel
theorem d_Integer_bitCount_7 : decode m_Integer_bitCount.2.1 7 = .ok (.iand, 1) := by decide +kernel
theorem d_Integer_bitCount_8 : decode m_Integer_bitCount.2.1 8 = .ok (.isub, 1) := by decide +kernel
theorem d_Integer_bitCount_9 : decode m_Integer_bitCount.2.1 9 = .ok (.istore_n 0, 1) := by decide +kernel
theorem d_Integer_bitCount_10 : decode m_Integer_bitCount.2.1 10 = .ok (.iload_n 0, 1) := by decide +kernel
theorem d_Integer_bitCount_11 : decode m_Integer_bitCount.2.1 11 = .ok (.ldc_w 266, 3) := by decide +kernel
theorem d_Integer_bitCount_14 : decode m_Integer_bitCount.2.1 14 = .ok (.iand, 1) := by decide +kernel
theorem d_Integer_bitCount_15 : decode m_Integer_bitCount.2.1 15 = .ok (.iload_n 0, 1) := by decide +kernel
theorem d_Integer_bitCount_16 : decode m_Integer_bitCount.2.1 16 = .ok (.iconst 2, 1) := by decide +kernel
theorem d_Integer_bitCount_17 : decode m_Integer_bitCount.2.1 17 = .ok (.iushr, 1) := by decide +kernel
theorem d_Integer_bitCount_18 : decode m_Integer_bitCount.2.1 18 = .ok (.ldc_w 266, 3) := by decide +kernel
theorem d_Integer_bitCount_21 : decode m_Integer_bitCount.2.1 21 = .ok (.iand, 1) := by decide +kernel
theorem d_Integer_bitCount_22 : decode m_Integer_bitCount.2.1 22 = .ok (.iadd, 1) := by decide +kernel
theorem d_Integer_bitCount_23 : decode m_Integer_bitCount.2.1 23 = .ok (.istore_n 0, 1) := by decide +kernel
theorem d_Integer_bitCount_24 : decode m_Integer_bitCount.2.1 24 = .ok (.iload_n 0, 1) := by decide +kernel
theorem d_Integer_bitCount_25 : decode m_Integer_bitCount.2.1 25 = .ok (.iload_n 0, 1) := by decide +kernel
theorem d_Integer_bitCount_26 : decode m_Integer_bitCount.2.1 26 = .ok (.iconst 4, 1) := by decide +kernel
theorem d_Integer_bitCount_27 : decode m_Integer_bitCount.2.1 27 = .ok (.iushr, 1) := by decide +kernel
theorem d_Integer_bitCount_28 : decode m_Integer_bitCount.2.1 28 = .ok (.iadd, 1) := by decide +kernel
theorem d_Integer_bitCount_29 : decode m_Integer_bitCount.2.1 29 = .ok (.ldc_w 267, 3) := by decide +kernel
theorem d_Integer_bitCount_32 : decode m_Integer_bitCount.2.1 32 = .ok (.iand, 1) := by decide +kernel
theorem d_Integer_bitCount_33 : decode m_Integer_bitCount.2.1 33 = .ok (.istore_n 0, 1) := by decide +kernel
theorem d_Integer_bitCount_34 : decode m_Integer_bitCount.2.1 34 = .ok (.iload_n 0, 1) := by decide +kernel
theorem d_Integer_bitCount_35 : decode m_Integer_bitCount.2.1 35 = .ok (.iload_n 0, 1) := by decide +kernel
theorem d_Integer_bitCount_36 : decode m_Integer_bitCount.2.1 36 = .ok (.bipush 8, 2) := by decide +kernel
theorem d_Integer_bitCount_38 : decode m_Integer_bitCount.2.1 38 = .ok (.iushr, 1) := by decide +kernel
theorem d_Integer_bitCount_39 : decode m_Integer_bitCount.2.1 39 = .ok (.iadd, 1) := by decide +kernel
theorem d_Integer_bitCount_40 : decode m_Integer_bitCount.2.1 40 = .ok (.istore_n 0, 1) := by decide +kernel
theorem d_Integer_bitCount_41 : decode m_Integer_bitCount.2.1 41 = .ok (.iload_n 0, 1) := by decide +kernel
theorem d_Integer_bitCount_42 : decode m_Integer_bitCount.2.1 42 = .ok (.iload_n 0, 1) := by decide +kernel
theorem d_Integer_bitCount_43 : decode m_Integer_bitCount.2.1 43 = .ok (.bipush 16, 2) := by decide +kernel
theorem d_Integer_bitCount_45 : decode m_Integer_bitCount.2.1 45 = .ok (.iushr, 1) := by decide +kernel
theorem d_Integer_bitCount_46 : decode m_Integer_bitCount.2.1 46 = .ok (.iadd, 1) := by decide +kernel
theorem d_Integer_bitCount_47 : decode m_Integer_bitCount.2.1 47 = .ok (.istore_n 0, 1) := by decide +kernel
theorem d_Integer_bitCount_48 : decode m_Integer_bitCount.2.1 48 = .ok (.iload_n 0, 1) := by decide +kernel
theorem d_Integer_bitCount_49 : decode m_Integer_bitCount.2.1 49 = .ok (.bipush 63, 2) := by decide +kernel
theorem d_Integer_bitCount_51 : decode m_Integer_bitCount.2.1 51 = .ok (.iand, 1) := by decide +kernel
theorem d_Integer_bitCount_52 : decode m_Integer_bitCount.2.1 52 = .ok (.ireturn, 1) := by decide +kernel
theorem d_Math_abs_I_0 : decode m_Math_abs_I.2.1 0 = .ok (.iload_n 0, 1) := by decide +kernel
theorem d_Math_abs_I_1 : decode m_Math_abs_I.2.1 1 = .ok (.ifCond .ge 8, 3) := by decide +kernel
theorem d_Math_abs_I_4 : decode m_Math_abs_I.2.1 4 = .ok (.iload_n 0, 1) := by decide +kernel
theorem d_Math_abs_I_5 : decode m_Math_abs_I.2.1 5 = .ok (.ineg, 1) := by decide +kernel
theorem d_Math_abs_I_6 : decode m_Math_abs_I.2.1 6 = .ok (.goto 4, 3) := by decide +kernel
theorem d_Math_abs_I_9 : decode m_Math_abs_I.2.1 9 = .ok (.iload_n 0, 1) := by decide +kernel
theorem d_Math_abs_I_10 : decode m_Math_abs_I.2.1 10 = .ok (.ireturn, 1) := by decide +kernel
theorem d_Math_abs_J_0 : decode m_Math_abs_J.2.1 0 = .ok (.lload_n 0, 1) := by decide +kernel
theorem d_Math_abs_J_1 : decode m_Math_abs_J.2.1 1 = .ok (.lconst 0, 1) := by decide +kernel
theorem d_Math_abs_J_2 : decode m_Math_abs_J.2.1 2 = .ok (.lcmp, 1) := by decide +kernel
theorem d_Math_abs_J_3 : decode m_Math_abs_J.2.1 3 = .ok (.ifCond .ge 8, 3) := by decide +kernel
theorem d_Math_abs_J_6 : decode m_Math_abs_J.2.1 6 = .ok (.lload_n 0, 1) := by decide +kernel
theorem d_Math_abs_J_7 : decode m_Math_abs_J.2.1 7 = .ok (.lneg, 1) := by decide +kernel
theorem d_Math_abs_J_8 : decode m_Math_abs_J.2.1 8 = .ok (.goto 4, 3) := by decide +kernel
theorem d_Math_abs_J_11 : decode m_Math_abs_J.2.1 11 = .ok (.lload_n 0, 1) := by decide +kernel
theorem d_Math_abs_J_12 : decode m_Math_abs_J.2.1 12 = .ok (.lreturn, 1) := by decide +kernel
theorem d_Math_max_I_0 : decode m_Math_max_I.2.1 0 = .ok (.iload_n 0, 1) := by decide +kernel
theorem d_Math_max_I_1 : decode m_Math_max_I.2.1 1 = .ok (.iload_n 1, 1) := by decide +kernel
theorem d_Math_max_I_2 : decode m_Math_max_I.2.1 2 = .ok (.if_icmp .lt 7, 3) := by decide +kernel
theorem d_Math_max_I_5 : decode m_Math_max_I.2.1 5 = .ok (.iload_n 0, 1) := by decide +kernel
theorem d_Math_max_I_6 : decode m_Math_max_I.2.1 6 = .ok (.goto 4, 3) := by decide +kernel
theorem d_Math_max_I_9 : decode m_Math_max_I.2.1 9 = .ok (.iload_n 1, 1) := by decide +kernel
theorem d_Math_max_I_10 : decode m_Math_max_I.2.1 10 = .ok (.ireturn, 1) := by decide +kernel
theorem d_Math_max_J_0 : decode m_Math_max_J.2.1 0 = .ok (.lload_n 0, 1) := by decide +kernel
theorem d_Math_max_J_1 : decode m_Math_max_J.2.1 1 = .ok (.lload_n 2, 1) := by decide +kernel
theorem d_Math_max_J_2 : decode m_Math_max_J.2.1 2 = .ok (.lcmp, 1) := by decide +kernel
theorem d_Math_max_J_3 : decode m_Math_max_J.2.1 3 = .ok (.ifCond .lt 7, 3) := by decide +kernel
theorem d_Math_max_J_6 : decode m_Math_max_J.2.1 6 = .ok (.lload_n 0, 1) := by decide +kernel
theorem d_Math_max_J_7 : decode m_Math_max_J.2.1 7 = .ok (.goto 4, 3) := by decide +kernel
theorem d_Math_max_J_10 : decode m_Math_max_J.2.1 10 = .ok (.lload_n 2, 1) := by decide +kernel
theorem d_Math_max_J_11 : decode m_Math_max_J.2.1 11 = .ok (.lreturn, 1) := by decide +kernel
theorem d_Math_min_I_0 : decode m_Math_min_I.2.1 0 = .ok (.iload_n 0, 1) := by decide +kernel
theorem d_Math_min_I_1 : decode m_Math_min_I.2.1 1 = .ok (.iload_n 1, 1) := by decide +kernel
theorem d_Math_min_I_2 : decode m_Math_min_I.2.1 2 = .ok (.if_icmp .gt 7, 3) := by decide +kernel
theorem d_Math_min_I_5 : decode m_Math_min_I.2.1 5 = .ok (.iload_n 0, 1) := by decide +kernel
theorem d_Math_min_I_6 : decode m_Math_min_I.2.1 6 = .ok (.goto 4, 3) := by decide +kernel
theorem d_Math_min_I_9 : decode m_Math_min_I.2.1 9 = .ok (.iload_n 1, 1) := by decide +kernel
theorem d_Math_min_I_10 : decode m_Math_min_I.2.1 10 = .ok (.ireturn, 1) := by decide +kernel
theorem d_Math_min_J_0 : decode m_Math_min_J.2.1 0 = .ok (.lload_n 0, 1) := by decide +kernel
theorem d_Math_min_J_1 : decode m_Math_min_J.2.1 1 = .ok (.lload_n 2, 1) := by decide +kernel
theorem d_Math_min_J_2 : decode m_Math_min_J.2.1 2 = .ok (.lcmp, 1) := by decide +kernel
theorem d_Math_min_J_3 : decode m_Math_min_J.2.1 3 = .ok (.ifCond .gt 7, 3) := by decide +kernel
theorem d_Math_min_J_6 : decode m_Math_min_J.2.1 6 = .ok (.lload_n 0, 1) := by decide +kernel
theorem d_Math_min_J_7 : decode m_Math_min_J.2.1 7 = .ok (.goto 4, 3) := by decide +kernel
theorem d_Math_min_J_10 : decode m_Math_min_J.2.1 10 = .ok (.lload_n 2, 1) := by decide +kernel
theorem d_Math_min_J_11 : decode m_Math_min_J.2.1 11 = .ok (.lreturn, 1) := by decide +kernel
theorem d_Str_length_0 : decode m_Str_length.2.1 0 = .ok (.aload_n 0, 1) := by decide +kernel
theorem d_Str_length_1 : decode m_Str_length.2.1 1 = .ok (.getfield 9, 3) := by decide +kernel
theorem d_Str_length_4 : decode m_Str_length.2.1 4 = .ok (.arraylength, 1) := by decide +kernel
theorem d_Str_length_5 : decode m_Str_length.2.1 5 = .ok (.aload_n 0, 1) := by decide +kernel
theorem d_Str_length_6 : decode m_Str_length.2.1 6 = .ok (.invokevirtual 335, 3) := by decide +kernel
theorem d_Str_length_9 : decode m_Str_length.2.1 9 = .ok (.ishr, 1) := by decide +kernel
theorem d_Str_length_10 : decode m_Str_length.2.1 10 = .ok (.ireturn, 1) := by decide +kernel
theorem d_Str_charAt_0 : decode m_Str_charAt.2.1 0 = .ok (.aload_n 0, 1) := by decide +kernel
theorem d_Str_charAt_1 : decode m_Str_charAt.2.1 1 = .ok (.invokevirtual 492, 3) := by decide +kernel
theorem d_Str_charAt_4 : decode m_Str_charAt.2.1 4 = .ok (.ifCond .eq 12, 3) := by decide +kernel
theorem d_Str_charAt_7 : decode m_Str_charAt.2.1 7 = .ok (.aload_n 0, 1) := by decide +kernel
theorem d_Str_charAt_8 : decode m_Str_charAt.2.1 8 = .ok (.getfield 9, 3) := by decide +kernel
theorem d_Str_charAt_11 : decode m_Str_charAt.2.1 11 = .ok (.iload_n 1, 1) := by decide +kernel
theorem d_Str_charAt_12 : decode m_Str_charAt.2.1 12 = .ok (.invokestatic 495, 3) := by decide +kernel
theorem d_Str_charAt_15 : decode m_Str_charAt.2.1 15 = .ok (.ireturn, 1) := by decide +kernel
theorem d_Str_charAt_16 : decode m_Str_charAt.2.1 16 = .ok (.aload_n 0, 1) := by decide +kernel
theorem d_Str_charAt_17 : decode m_Str_charAt.2.1 17 = .ok (.getfield 9, 3) := by decide +kernel
theorem d_Str_charAt_20 : decode m_Str_charAt.2.1 20 = .ok (.iload_n 1, 1) := by decide +kernel
theorem d_Str_charAt_21 : decode m_Str_charAt.2.1 21 = .ok (.invokestatic 498, 3) := by decide +kernel
theorem d_Str_charAt_24 : decode m_Str_charAt.2.1 24 = .ok (.ireturn, 1) := by decide +kernel
theorem d_Str_coder_0 : decode m_Str_coder.2.1 0 = .ok (.getstatic 38, 3) := by decide +kernel
theorem d_Str_coder_3 : decode m_Str_coder.2.1 3 = .ok (.ifCond .eq 10, 3) := by decide +kernel
theorem d_Str_coder_6 : decode m_Str_coder.2.1 6 = .ok (.aload_n 0, 1) := by decide +kernel
theorem d_Str_coder_7 : decode m_Str_coder.2.1 7 = .ok (.getfield 15, 3) := by decide +kernel
theorem d_Str_coder_10 : decode m_Str_coder.2.1 10 = .ok (.goto 4, 3) := by decide +kernel
theorem d_Str_coder_13 : decode m_Str_coder.2.1 13 = .ok (.iconst 1, 1) := by decide +kernel
theorem d_Str_coder_14 : decode m_Str_coder.2.1 14 = .ok (.ireturn, 1) := by decide +kernel
theorem d_Str_isLatin1_0 : decode m_Str_isLatin1.2.1 0 = .ok (.getstatic 38, 3) := by decide +kernel
theorem d_Str_isLatin1_3 : decode m_Str_isLatin1.2.1 3 = .ok (.ifCond .eq 14, 3) := by decide +kernel
theorem d_Str_isLatin1_6 : decode m_Str_isLatin1.2.1 6 = .ok (.aload_n 0, 1) := by decide +kernel
theorem d_Str_isLatin1_7 : decode m_Str_isLatin1.2.1 7 = .ok (.getfield 15, 3) := by decide +kernel
theorem d_Str_isLatin1_10 : decode m_Str_isLatin1.2.1 10 = .ok (.ifCond .ne 7, 3) := by decide +kernel
theorem d_Str_isLatin1_13 : decode m_Str_isLatin1.2.1 13 = .ok (.iconst 1, 1) := by decide +kernel
theorem d_Str_isLatin1_14 : decode m_Str_isLatin1.2.1 14 = .ok (.goto 4, 3) := by decide +kernel
theorem d_Str_isLatin1_17 : decode m_Str_isLatin1.2.1 17 = .ok (.iconst 0, 1) := by decide +kernel
theorem d_Str_isLatin1_18 : decode m_Str_isLatin1.2.1 18 = .ok (.ireturn, 1) := by decide +kernel
theorem d_Lat_charAt_0 : decode m_Lat_charAt.2.1 0 = .ok (.iload_n 1, 1) := by decide +kernel
theorem d_Lat_charAt_1 : decode m_Lat_charAt.2.1 1 = .ok (.aload_n 0, 1) := by decide +kernel
theorem d_Lat_charAt_2 : decode m_Lat_charAt.2.1 2 = .ok (.arraylength, 1) := by decide +kernel
theorem d_Lat_charAt_3 : decode m_Lat_charAt.2.1 3 = .ok (.invokestatic 9, 3) := by decide +kernel
theorem d_Lat_charAt_6 : decode m_Lat_charAt.2.1 6 = .ok (.aload_n 0, 1) := by decide +kernel
theorem d_Lat_charAt_7 : decode m_Lat_charAt.2.1 7 = .ok (.iload_n 1, 1) := by decide +kernel
theorem d_Lat_charAt_8 : decode m_Lat_charAt.2.1 8 = .ok (.baload, 1) := by decide +kernel
theorem d_Lat_charAt_9 : decode m_Lat_charAt.2.1 9 = .ok (.sipush 255, 3) := by decide +kernel
theorem d_Lat_charAt_12 : decode m_Lat_charAt.2.1 12 = .ok (.iand, 1) := by decide +kernel
theorem d_Lat_charAt_13 : decode m_Lat_charAt.2.1 13 = .ok (.i2c, 1) := by decide +kernel
theorem d_Lat_charAt_14 : decode m_Lat_charAt.2.1 14 = .ok (.ireturn, 1) := by decide +kernel
