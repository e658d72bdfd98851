-- ===== printed by program (wip/whole/gen11.py): two more methods of the JDK =====
def m_Str_checkIndex : fs_D := (⟨"java/lang/String", "checkIndex", "(II)V"⟩, prog_25_method_155_code, 2, none)
def m_Pre_checkIndex : fs_D := (⟨"jdk/internal/util/Preconditions", "checkIndex", "(IILjava/util/function/BiFunction;)I"⟩, prog_33_method_11_code, 3, some .int)
theorem k_Str_checkIndex : fs_MK m_Str_checkIndex 2 := ⟨fs_inB 1697 (by decide +kernel) rfl, fs_inB 165 (by decide +kernel) rfl, by decide +kernel, by decide +kernel, by decide +kernel, by decide +kernel⟩
theorem s_Str_checkIndex : Cond.static m_Str_checkIndex.1 ∈ fs_B := fs_inB 1696 (by decide +kernel) rfl
theorem d_Str_checkIndex_0 : decode m_Str_checkIndex.2.1 0 = .ok (.iload_n 0, 1) := by decide +kernel
theorem d_Str_checkIndex_1 : decode m_Str_checkIndex.2.1 1 = .ok (.iload_n 1, 1) := by decide +kernel
theorem d_Str_checkIndex_2 : decode m_Str_checkIndex.2.1 2 = .ok (.getstatic 1053, 3) := by decide +kernel
theorem d_Str_checkIndex_5 : decode m_Str_checkIndex.2.1 5 = .ok (.invokestatic 1059, 3) := by decide +kernel
theorem d_Str_checkIndex_8 : decode m_Str_checkIndex.2.1 8 = .ok (.pop, 1) := by decide +kernel
theorem d_Str_checkIndex_9 : decode m_Str_checkIndex.2.1 9 = .ok (.return_, 1) := by decide +kernel
theorem k_Pre_checkIndex : fs_MK m_Pre_checkIndex 3 := ⟨fs_inB 1702 (by decide +kernel) rfl, fs_inB 167 (by decide +kernel) rfl, by decide +kernel, by decide +kernel, by decide +kernel, by decide +kernel⟩
theorem s_Pre_checkIndex : Cond.static m_Pre_checkIndex.1 ∈ fs_B := fs_inB 1701 (by decide +kernel) rfl
theorem d_Pre_checkIndex_0 : decode m_Pre_checkIndex.2.1 0 = .ok (.iload_n 0, 1) := by decide +kernel
theorem d_Pre_checkIndex_1 : decode m_Pre_checkIndex.2.1 1 = .ok (.ifCond .lt 8, 3) := by decide +kernel
theorem d_Pre_checkIndex_4 : decode m_Pre_checkIndex.2.1 4 = .ok (.iload_n 0, 1) := by decide +kernel
theorem d_Pre_checkIndex_5 : decode m_Pre_checkIndex.2.1 5 = .ok (.iload_n 1, 1) := by decide +kernel
theorem d_Pre_checkIndex_6 : decode m_Pre_checkIndex.2.1 6 = .ok (.if_icmp .lt 10, 3) := by decide +kernel
theorem d_Pre_checkIndex_9 : decode m_Pre_checkIndex.2.1 9 = .ok (.aload_n 2, 1) := by decide +kernel
theorem d_Pre_checkIndex_10 : decode m_Pre_checkIndex.2.1 10 = .ok (.iload_n 0, 1) := by decide +kernel
theorem d_Pre_checkIndex_11 : decode m_Pre_checkIndex.2.1 11 = .ok (.iload_n 1, 1) := by decide +kernel
theorem d_Pre_checkIndex_12 : decode m_Pre_checkIndex.2.1 12 = .ok (.invokestatic 95, 3) := by decide +kernel
theorem d_Pre_checkIndex_15 : decode m_Pre_checkIndex.2.1 15 = .ok (.athrow, 1) := by decide +kernel
theorem d_Pre_checkIndex_16 : decode m_Pre_checkIndex.2.1 16 = .ok (.iload_n 0, 1) := by decide +kernel
theorem d_Pre_checkIndex_17 : decode m_Pre_checkIndex.2.1 17 = .ok (.ireturn, 1) := by decide +kernel
theorem ml_Str_1059 : fs_ML "java/lang/String" 1059 m_Pre_checkIndex.1 := Or.inl (fs_inB 1700 (by decide +kernel) rfl)
theorem ml_Lat_9 : fs_ML "java/lang/StringLatin1" 9 m_Str_checkIndex.1 := Or.inl (fs_inB 1695 (by decide +kernel) rfl)
theorem ml_Utf_414 : fs_ML "java/lang/StringUTF16" 414 m_Str_checkIndex.1 := Or.inl (fs_inB 1712 (by decide +kernel) rfl)
theorem sy_Laws_60 : Cond.methodLink "FirstSill$Laws" 60 arraycopyName ∈ fs_B ∧ Cond.native arraycopyName ∈ fs_B ∧ Cond.static arraycopyName ∈ fs_B ∧ Cond.initialized "java/lang/System" ∈ fs_B := ⟨fs_inB 845 (by decide +kernel) rfl, fs_inB 840 (by decide +kernel) rfl, fs_inB 839 (by decide +kernel) rfl, fs_inB 164 (by decide +kernel) rfl⟩
theorem or_Laws_113 : Cond.methodLink "FirstSill$Laws" 113 ⟨"FirstSill$Token", "ordinal", "()I"⟩ ∈ fs_B := fs_inB 913 (by decide +kernel) rfl
theorem sy_Night_25 : Cond.methodLink "FirstSill$Night" 25 arraycopyName ∈ fs_B ∧ Cond.native arraycopyName ∈ fs_B ∧ Cond.static arraycopyName ∈ fs_B ∧ Cond.initialized "java/lang/System" ∈ fs_B := ⟨fs_inB 1076 (by decide +kernel) rfl, fs_inB 840 (by decide +kernel) rfl, fs_inB 839 (by decide +kernel) rfl, fs_inB 164 (by decide +kernel) rfl⟩
theorem sy_Plan_27 : Cond.methodLink "FirstSill$Plan" 27 arraycopyName ∈ fs_B ∧ Cond.native arraycopyName ∈ fs_B ∧ Cond.static arraycopyName ∈ fs_B ∧ Cond.initialized "java/lang/System" ∈ fs_B := ⟨fs_inB 964 (by decide +kernel) rfl, fs_inB 840 (by decide +kernel) rfl, fs_inB 839 (by decide +kernel) rfl, fs_inB 164 (by decide +kernel) rfl⟩
theorem or_Reader_186 : Cond.methodLink "FirstSill$Reader" 186 ⟨"FirstSill$Token", "ordinal", "()I"⟩ ∈ fs_B := fs_inB 802 (by decide +kernel) rfl
theorem sy_Script_60 : Cond.methodLink "FirstSill$Script" 60 arraycopyName ∈ fs_B ∧ Cond.native arraycopyName ∈ fs_B ∧ Cond.static arraycopyName ∈ fs_B ∧ Cond.initialized "java/lang/System" ∈ fs_B := ⟨fs_inB 838 (by decide +kernel) rfl, fs_inB 840 (by decide +kernel) rfl, fs_inB 839 (by decide +kernel) rfl, fs_inB 164 (by decide +kernel) rfl⟩
theorem or_any : Cond.sameMethod "FirstSill$Token" m_Enum_ordinal.1.cls "ordinal" "()I" ∈ fs_B ∧ Cond.selects "FirstSill$Token" ⟨"FirstSill$Token", "ordinal", "()I"⟩ m_Enum_ordinal.1 ∈ fs_B ∧ m_Enum_ordinal.1 = ⟨m_Enum_ordinal.1.cls, "ordinal", "()I"⟩ := ⟨fs_inB 803 (by decide +kernel) rfl, fs_inB 805 (by decide +kernel) rfl, rfl⟩
