-- ===== printed by program (wip/whole/gen12h.py): each cell, each token; where pointers lead =====
theorem pn_Book : plainName "FirstSill$Book" = true := by decide +kernel
theorem pn_Course : plainName "FirstSill$Course" = true := by decide +kernel
theorem pn_Goer : plainName "FirstSill$Goer" = true := by decide +kernel
theorem pn_Laws : plainName "FirstSill$Laws" = true := by decide +kernel
theorem pn_Night : plainName "FirstSill$Night" = true := by decide +kernel
theorem pn_Past : plainName "FirstSill$Past" = true := by decide +kernel
theorem pn_Plan : plainName "FirstSill$Plan" = true := by decide +kernel
theorem pn_Reader : plainName "FirstSill$Reader" = true := by decide +kernel
theorem pn_Script : plainName "FirstSill$Script" = true := by decide +kernel
theorem pn_Tracks : plainName "FirstSill$Tracks" = true := by decide +kernel
theorem pn_Token : plainName "FirstSill$Token" = true := by decide +kernel
theorem pn_Fs : plainName "FirstSill" = true := by decide +kernel
theorem pn_Mo : plainName "FirstSillModel" = true := by decide +kernel
theorem pn_Law : plainName "FirstSillLaw" = true := by decide +kernel
theorem io_0 : fs_isO 10 0 := ⟨by decide, by decide +kernel⟩
theorem io_1 : fs_isO 8 1 := ⟨by decide, by decide +kernel⟩
theorem ia_2 : fs_isA 0 6 2 := ⟨by decide, by decide +kernel⟩
theorem ia_3 : fs_isA 0 6 3 := ⟨by decide, by decide +kernel⟩
theorem ia_4 : fs_isA 0 6 4 := ⟨by decide, by decide +kernel⟩
theorem ia_5 : fs_isA 0 6 5 := ⟨by decide, by decide +kernel⟩
theorem ia_6 : fs_isA 0 3 6 := ⟨by decide, by decide +kernel⟩
theorem ia_7 : fs_isA 0 3 7 := ⟨by decide, by decide +kernel⟩
theorem ia_8 : fs_isA 0 3 8 := ⟨by decide, by decide +kernel⟩
theorem io_9 : fs_isO 3 9 := ⟨by decide, by decide +kernel⟩
theorem ia_10 : fs_isA 7 64 10 := ⟨by decide, by decide +kernel⟩
theorem ia_11 : fs_isA 0 64 11 := ⟨by decide, by decide +kernel⟩
theorem ia_12 : fs_isA 0 4 12 := ⟨by decide, by decide +kernel⟩
theorem ia_13 : fs_isA 0 4 13 := ⟨by decide, by decide +kernel⟩
theorem ia_14 : fs_isA 2 64 14 := ⟨by decide, by decide +kernel⟩
theorem io_15 : fs_isO 8 15 := ⟨by decide, by decide +kernel⟩
theorem ia_16 : fs_isA 0 6 16 := ⟨by decide, by decide +kernel⟩
theorem ia_17 : fs_isA 0 6 17 := ⟨by decide, by decide +kernel⟩
theorem ia_18 : fs_isA 0 6 18 := ⟨by decide, by decide +kernel⟩
theorem ia_19 : fs_isA 0 6 19 := ⟨by decide, by decide +kernel⟩
theorem ia_20 : fs_isA 0 3 20 := ⟨by decide, by decide +kernel⟩
theorem ia_21 : fs_isA 0 3 21 := ⟨by decide, by decide +kernel⟩
theorem ia_22 : fs_isA 0 3 22 := ⟨by decide, by decide +kernel⟩
theorem io_23 : fs_isO 3 23 := ⟨by decide, by decide +kernel⟩
theorem ia_24 : fs_isA 7 64 24 := ⟨by decide, by decide +kernel⟩
theorem ia_25 : fs_isA 0 64 25 := ⟨by decide, by decide +kernel⟩
theorem ia_26 : fs_isA 0 4 26 := ⟨by decide, by decide +kernel⟩
theorem ia_27 : fs_isA 0 4 27 := ⟨by decide, by decide +kernel⟩
theorem ia_28 : fs_isA 2 64 28 := ⟨by decide, by decide +kernel⟩
theorem io_29 : fs_isO 7 29 := ⟨by decide, by decide +kernel⟩
theorem ia_30 : fs_isA 0 600 30 := ⟨by decide, by decide +kernel⟩
theorem io_31 : fs_isO 6 31 := ⟨by decide, by decide +kernel⟩
theorem ia_32 : fs_isA 3 3 32 := ⟨by decide, by decide +kernel⟩
theorem ia_33 : fs_isA 0 9 33 := ⟨by decide, by decide +kernel⟩
theorem ia_34 : fs_isA 0 9 34 := ⟨by decide, by decide +kernel⟩
theorem ia_35 : fs_isA 0 9 35 := ⟨by decide, by decide +kernel⟩
theorem ia_36 : fs_isA 0 3 36 := ⟨by decide, by decide +kernel⟩
theorem io_37 : fs_isO 6 37 := ⟨by decide, by decide +kernel⟩
theorem ia_38 : fs_isA 3 3 38 := ⟨by decide, by decide +kernel⟩
theorem ia_39 : fs_isA 0 9 39 := ⟨by decide, by decide +kernel⟩
theorem ia_40 : fs_isA 0 9 40 := ⟨by decide, by decide +kernel⟩
theorem ia_41 : fs_isA 0 9 41 := ⟨by decide, by decide +kernel⟩
theorem ia_42 : fs_isA 0 3 42 := ⟨by decide, by decide +kernel⟩
theorem io_43 : fs_isO 1 43 := ⟨by decide, by decide +kernel⟩
theorem ia_44 : fs_isA 5 3 44 := ⟨by decide, by decide +kernel⟩
theorem ia_45 : fs_isA 3 3 45 := ⟨by decide, by decide +kernel⟩
theorem ia_46 : fs_isA 0 9 46 := ⟨by decide, by decide +kernel⟩
theorem ia_47 : fs_isA 0 9 47 := ⟨by decide, by decide +kernel⟩
theorem ia_48 : fs_isA 0 9 48 := ⟨by decide, by decide +kernel⟩
theorem ia_49 : fs_isA 0 6 49 := ⟨by decide, by decide +kernel⟩
theorem ia_50 : fs_isA 0 6 50 := ⟨by decide, by decide +kernel⟩
theorem io_51 : fs_isO 2 51 := ⟨by decide, by decide +kernel⟩
theorem io_52 : fs_isO 2 52 := ⟨by decide, by decide +kernel⟩
theorem io_53 : fs_isO 2 53 := ⟨by decide, by decide +kernel⟩
theorem io_54 : fs_isO 4 54 := ⟨by decide, by decide +kernel⟩
theorem ia_55 : fs_isA 0 6 55 := ⟨by decide, by decide +kernel⟩
theorem ia_56 : fs_isA 0 6 56 := ⟨by decide, by decide +kernel⟩
theorem io_57 : fs_isO 4 57 := ⟨by decide, by decide +kernel⟩
theorem ia_58 : fs_isA 0 6 58 := ⟨by decide, by decide +kernel⟩
theorem ia_59 : fs_isA 0 6 59 := ⟨by decide, by decide +kernel⟩
theorem io_60 : fs_isO 0 60 := ⟨by decide, by decide +kernel⟩
theorem ia_61 : fs_isA 0 1957 61 := ⟨by decide, by decide +kernel⟩
theorem ia_62 : fs_isA 0 1957 62 := ⟨by decide, by decide +kernel⟩
theorem ia_63 : fs_isA 4 3 63 := ⟨by decide, by decide +kernel⟩
theorem ia_64 : fs_isA 2 1957 64 := ⟨by decide, by decide +kernel⟩
theorem ia_65 : fs_isA 2 1957 65 := ⟨by decide, by decide +kernel⟩
theorem ia_66 : fs_isA 2 1957 66 := ⟨by decide, by decide +kernel⟩
theorem ia_67 : fs_isA 3 3 67 := ⟨by decide, by decide +kernel⟩
theorem ia_68 : fs_isA 0 1957 68 := ⟨by decide, by decide +kernel⟩
theorem ia_69 : fs_isA 0 1957 69 := ⟨by decide, by decide +kernel⟩
theorem ia_70 : fs_isA 0 1957 70 := ⟨by decide, by decide +kernel⟩
theorem ia_71 : fs_isA 5 7 71 := ⟨by decide, by decide +kernel⟩
theorem ia_72 : fs_isA 0 64 72 := ⟨by decide, by decide +kernel⟩
theorem ia_73 : fs_isA 3 3 73 := ⟨by decide, by decide +kernel⟩
theorem ia_74 : fs_isA 0 64 74 := ⟨by decide, by decide +kernel⟩
theorem ia_75 : fs_isA 0 64 75 := ⟨by decide, by decide +kernel⟩
theorem ia_76 : fs_isA 0 64 76 := ⟨by decide, by decide +kernel⟩
theorem ia_77 : fs_isA 3 4 77 := ⟨by decide, by decide +kernel⟩
theorem ia_78 : fs_isA 0 64 78 := ⟨by decide, by decide +kernel⟩
theorem ia_79 : fs_isA 0 64 79 := ⟨by decide, by decide +kernel⟩
theorem ia_80 : fs_isA 0 64 80 := ⟨by decide, by decide +kernel⟩
theorem ia_81 : fs_isA 0 64 81 := ⟨by decide, by decide +kernel⟩
theorem ia_82 : fs_isA 0 3 82 := ⟨by decide, by decide +kernel⟩
theorem io_83 : fs_isO 2 83 := ⟨by decide, by decide +kernel⟩
theorem io_84 : fs_isO 2 84 := ⟨by decide, by decide +kernel⟩
theorem io_85 : fs_isO 2 85 := ⟨by decide, by decide +kernel⟩
theorem io_86 : fs_isO 2 86 := ⟨by decide, by decide +kernel⟩
theorem io_87 : fs_isO 2 87 := ⟨by decide, by decide +kernel⟩
theorem io_88 : fs_isO 2 88 := ⟨by decide, by decide +kernel⟩
theorem io_89 : fs_isO 2 89 := ⟨by decide, by decide +kernel⟩
theorem io_90 : fs_isO 9 90 := ⟨by decide, by decide +kernel⟩
theorem ia_91 : fs_isA 0 24 91 := ⟨by decide, by decide +kernel⟩
theorem ia_92 : fs_isA 0 24 92 := ⟨by decide, by decide +kernel⟩
theorem ia_93 : fs_isA 0 24 93 := ⟨by decide, by decide +kernel⟩
theorem ia_94 : fs_isA 0 24 94 := ⟨by decide, by decide +kernel⟩
theorem io_95 : fs_isO 5 95 := ⟨by decide, by decide +kernel⟩
theorem ia_96 : fs_isA 6 20 96 := ⟨by decide, by decide +kernel⟩
theorem io_97 : fs_isO 6 97 := ⟨by decide, by decide +kernel⟩
theorem ia_98 : fs_isA 3 3 98 := ⟨by decide, by decide +kernel⟩
theorem ia_99 : fs_isA 0 9 99 := ⟨by decide, by decide +kernel⟩
theorem ia_100 : fs_isA 0 9 100 := ⟨by decide, by decide +kernel⟩
theorem ia_101 : fs_isA 0 9 101 := ⟨by decide, by decide +kernel⟩
theorem ia_102 : fs_isA 0 3 102 := ⟨by decide, by decide +kernel⟩
theorem io_103 : fs_isO 6 103 := ⟨by decide, by decide +kernel⟩
theorem ia_104 : fs_isA 3 3 104 := ⟨by decide, by decide +kernel⟩
theorem ia_105 : fs_isA 0 9 105 := ⟨by decide, by decide +kernel⟩
theorem ia_106 : fs_isA 0 9 106 := ⟨by decide, by decide +kernel⟩
theorem ia_107 : fs_isA 0 9 107 := ⟨by decide, by decide +kernel⟩
theorem ia_108 : fs_isA 0 3 108 := ⟨by decide, by decide +kernel⟩
theorem io_109 : fs_isO 6 109 := ⟨by decide, by decide +kernel⟩
theorem ia_110 : fs_isA 3 3 110 := ⟨by decide, by decide +kernel⟩
theorem ia_111 : fs_isA 0 9 111 := ⟨by decide, by decide +kernel⟩
theorem ia_112 : fs_isA 0 9 112 := ⟨by decide, by decide +kernel⟩
theorem ia_113 : fs_isA 0 9 113 := ⟨by decide, by decide +kernel⟩
theorem ia_114 : fs_isA 0 3 114 := ⟨by decide, by decide +kernel⟩
theorem io_115 : fs_isO 6 115 := ⟨by decide, by decide +kernel⟩
theorem ia_116 : fs_isA 3 3 116 := ⟨by decide, by decide +kernel⟩
theorem ia_117 : fs_isA 0 9 117 := ⟨by decide, by decide +kernel⟩
theorem ia_118 : fs_isA 0 9 118 := ⟨by decide, by decide +kernel⟩
theorem ia_119 : fs_isA 0 9 119 := ⟨by decide, by decide +kernel⟩
theorem ia_120 : fs_isA 0 3 120 := ⟨by decide, by decide +kernel⟩
theorem io_121 : fs_isO 6 121 := ⟨by decide, by decide +kernel⟩
theorem ia_122 : fs_isA 3 3 122 := ⟨by decide, by decide +kernel⟩
theorem ia_123 : fs_isA 0 9 123 := ⟨by decide, by decide +kernel⟩
theorem ia_124 : fs_isA 0 9 124 := ⟨by decide, by decide +kernel⟩
theorem ia_125 : fs_isA 0 9 125 := ⟨by decide, by decide +kernel⟩
theorem ia_126 : fs_isA 0 3 126 := ⟨by decide, by decide +kernel⟩
theorem io_127 : fs_isO 6 127 := ⟨by decide, by decide +kernel⟩
theorem ia_128 : fs_isA 3 3 128 := ⟨by decide, by decide +kernel⟩
theorem ia_129 : fs_isA 0 9 129 := ⟨by decide, by decide +kernel⟩
theorem ia_130 : fs_isA 0 9 130 := ⟨by decide, by decide +kernel⟩
theorem ia_131 : fs_isA 0 9 131 := ⟨by decide, by decide +kernel⟩
theorem ia_132 : fs_isA 0 3 132 := ⟨by decide, by decide +kernel⟩
theorem io_133 : fs_isO 6 133 := ⟨by decide, by decide +kernel⟩
theorem ia_134 : fs_isA 3 3 134 := ⟨by decide, by decide +kernel⟩
theorem ia_135 : fs_isA 0 9 135 := ⟨by decide, by decide +kernel⟩
theorem ia_136 : fs_isA 0 9 136 := ⟨by decide, by decide +kernel⟩
theorem ia_137 : fs_isA 0 9 137 := ⟨by decide, by decide +kernel⟩
theorem ia_138 : fs_isA 0 3 138 := ⟨by decide, by decide +kernel⟩
theorem io_139 : fs_isO 6 139 := ⟨by decide, by decide +kernel⟩
theorem ia_140 : fs_isA 3 3 140 := ⟨by decide, by decide +kernel⟩
theorem ia_141 : fs_isA 0 9 141 := ⟨by decide, by decide +kernel⟩
theorem ia_142 : fs_isA 0 9 142 := ⟨by decide, by decide +kernel⟩
theorem ia_143 : fs_isA 0 9 143 := ⟨by decide, by decide +kernel⟩
theorem ia_144 : fs_isA 0 3 144 := ⟨by decide, by decide +kernel⟩
theorem io_145 : fs_isO 6 145 := ⟨by decide, by decide +kernel⟩
theorem ia_146 : fs_isA 3 3 146 := ⟨by decide, by decide +kernel⟩
theorem ia_147 : fs_isA 0 9 147 := ⟨by decide, by decide +kernel⟩
theorem ia_148 : fs_isA 0 9 148 := ⟨by decide, by decide +kernel⟩
theorem ia_149 : fs_isA 0 9 149 := ⟨by decide, by decide +kernel⟩
theorem ia_150 : fs_isA 0 3 150 := ⟨by decide, by decide +kernel⟩
theorem io_151 : fs_isO 6 151 := ⟨by decide, by decide +kernel⟩
theorem ia_152 : fs_isA 3 3 152 := ⟨by decide, by decide +kernel⟩
theorem ia_153 : fs_isA 0 9 153 := ⟨by decide, by decide +kernel⟩
theorem ia_154 : fs_isA 0 9 154 := ⟨by decide, by decide +kernel⟩
theorem ia_155 : fs_isA 0 9 155 := ⟨by decide, by decide +kernel⟩
theorem ia_156 : fs_isA 0 3 156 := ⟨by decide, by decide +kernel⟩
theorem io_157 : fs_isO 6 157 := ⟨by decide, by decide +kernel⟩
theorem ia_158 : fs_isA 3 3 158 := ⟨by decide, by decide +kernel⟩
theorem ia_159 : fs_isA 0 9 159 := ⟨by decide, by decide +kernel⟩
theorem ia_160 : fs_isA 0 9 160 := ⟨by decide, by decide +kernel⟩
theorem ia_161 : fs_isA 0 9 161 := ⟨by decide, by decide +kernel⟩
theorem ia_162 : fs_isA 0 3 162 := ⟨by decide, by decide +kernel⟩
theorem io_163 : fs_isO 6 163 := ⟨by decide, by decide +kernel⟩
theorem ia_164 : fs_isA 3 3 164 := ⟨by decide, by decide +kernel⟩
theorem ia_165 : fs_isA 0 9 165 := ⟨by decide, by decide +kernel⟩
theorem ia_166 : fs_isA 0 9 166 := ⟨by decide, by decide +kernel⟩
theorem ia_167 : fs_isA 0 9 167 := ⟨by decide, by decide +kernel⟩
theorem ia_168 : fs_isA 0 3 168 := ⟨by decide, by decide +kernel⟩
theorem io_169 : fs_isO 6 169 := ⟨by decide, by decide +kernel⟩
theorem ia_170 : fs_isA 3 3 170 := ⟨by decide, by decide +kernel⟩
theorem ia_171 : fs_isA 0 9 171 := ⟨by decide, by decide +kernel⟩
theorem ia_172 : fs_isA 0 9 172 := ⟨by decide, by decide +kernel⟩
theorem ia_173 : fs_isA 0 9 173 := ⟨by decide, by decide +kernel⟩
theorem ia_174 : fs_isA 0 3 174 := ⟨by decide, by decide +kernel⟩
theorem io_175 : fs_isO 6 175 := ⟨by decide, by decide +kernel⟩
theorem ia_176 : fs_isA 3 3 176 := ⟨by decide, by decide +kernel⟩
theorem ia_177 : fs_isA 0 9 177 := ⟨by decide, by decide +kernel⟩
theorem ia_178 : fs_isA 0 9 178 := ⟨by decide, by decide +kernel⟩
theorem ia_179 : fs_isA 0 9 179 := ⟨by decide, by decide +kernel⟩
theorem ia_180 : fs_isA 0 3 180 := ⟨by decide, by decide +kernel⟩
theorem io_181 : fs_isO 6 181 := ⟨by decide, by decide +kernel⟩
theorem ia_182 : fs_isA 3 3 182 := ⟨by decide, by decide +kernel⟩
theorem ia_183 : fs_isA 0 9 183 := ⟨by decide, by decide +kernel⟩
theorem ia_184 : fs_isA 0 9 184 := ⟨by decide, by decide +kernel⟩
theorem ia_185 : fs_isA 0 9 185 := ⟨by decide, by decide +kernel⟩
theorem ia_186 : fs_isA 0 3 186 := ⟨by decide, by decide +kernel⟩
theorem io_187 : fs_isO 6 187 := ⟨by decide, by decide +kernel⟩
theorem ia_188 : fs_isA 3 3 188 := ⟨by decide, by decide +kernel⟩
theorem ia_189 : fs_isA 0 9 189 := ⟨by decide, by decide +kernel⟩
theorem ia_190 : fs_isA 0 9 190 := ⟨by decide, by decide +kernel⟩
theorem ia_191 : fs_isA 0 9 191 := ⟨by decide, by decide +kernel⟩
theorem ia_192 : fs_isA 0 3 192 := ⟨by decide, by decide +kernel⟩
theorem io_193 : fs_isO 6 193 := ⟨by decide, by decide +kernel⟩
theorem ia_194 : fs_isA 3 3 194 := ⟨by decide, by decide +kernel⟩
theorem ia_195 : fs_isA 0 9 195 := ⟨by decide, by decide +kernel⟩
theorem ia_196 : fs_isA 0 9 196 := ⟨by decide, by decide +kernel⟩
theorem ia_197 : fs_isA 0 9 197 := ⟨by decide, by decide +kernel⟩
theorem ia_198 : fs_isA 0 3 198 := ⟨by decide, by decide +kernel⟩
theorem io_199 : fs_isO 6 199 := ⟨by decide, by decide +kernel⟩
theorem ia_200 : fs_isA 3 3 200 := ⟨by decide, by decide +kernel⟩
theorem ia_201 : fs_isA 0 9 201 := ⟨by decide, by decide +kernel⟩
theorem ia_202 : fs_isA 0 9 202 := ⟨by decide, by decide +kernel⟩
theorem ia_203 : fs_isA 0 9 203 := ⟨by decide, by decide +kernel⟩
theorem ia_204 : fs_isA 0 3 204 := ⟨by decide, by decide +kernel⟩
theorem io_205 : fs_isO 6 205 := ⟨by decide, by decide +kernel⟩
theorem ia_206 : fs_isA 3 3 206 := ⟨by decide, by decide +kernel⟩
theorem ia_207 : fs_isA 0 9 207 := ⟨by decide, by decide +kernel⟩
theorem ia_208 : fs_isA 0 9 208 := ⟨by decide, by decide +kernel⟩
theorem ia_209 : fs_isA 0 9 209 := ⟨by decide, by decide +kernel⟩
theorem ia_210 : fs_isA 0 3 210 := ⟨by decide, by decide +kernel⟩
theorem io_211 : fs_isO 6 211 := ⟨by decide, by decide +kernel⟩
theorem ia_212 : fs_isA 3 3 212 := ⟨by decide, by decide +kernel⟩
theorem ia_213 : fs_isA 0 9 213 := ⟨by decide, by decide +kernel⟩
theorem ia_214 : fs_isA 0 9 214 := ⟨by decide, by decide +kernel⟩
theorem ia_215 : fs_isA 0 9 215 := ⟨by decide, by decide +kernel⟩
theorem ia_216 : fs_isA 0 3 216 := ⟨by decide, by decide +kernel⟩
theorem io_217 : fs_isO 6 217 := ⟨by decide, by decide +kernel⟩
theorem ia_218 : fs_isA 3 3 218 := ⟨by decide, by decide +kernel⟩
theorem ia_219 : fs_isA 0 9 219 := ⟨by decide, by decide +kernel⟩
theorem ia_220 : fs_isA 0 9 220 := ⟨by decide, by decide +kernel⟩
theorem ia_221 : fs_isA 0 9 221 := ⟨by decide, by decide +kernel⟩
theorem ia_222 : fs_isA 0 3 222 := ⟨by decide, by decide +kernel⟩
theorem io_223 : fs_isO 4 223 := ⟨by decide, by decide +kernel⟩
theorem ia_224 : fs_isA 0 6 224 := ⟨by decide, by decide +kernel⟩
theorem ia_225 : fs_isA 0 6 225 := ⟨by decide, by decide +kernel⟩
theorem io_226 : fs_isO 11 226 := ⟨by decide, by decide +kernel⟩
theorem ia_227 : fs_isA 0 600 227 := ⟨by decide, by decide +kernel⟩
theorem ia_228 : fs_isA 0 8 228 := ⟨by decide, by decide +kernel⟩
theorem ia_229 : fs_isA 0 12 229 := ⟨by decide, by decide +kernel⟩
theorem ia_230 : fs_isA 0 12 230 := ⟨by decide, by decide +kernel⟩
theorem ia_231 : fs_isA 0 12 231 := ⟨by decide, by decide +kernel⟩
theorem ia_232 : fs_isA 0 12 232 := ⟨by decide, by decide +kernel⟩
theorem ia_233 : fs_isA 1 12 233 := ⟨by decide, by decide +kernel⟩
theorem ia_234 : fs_isA 0 6 234 := ⟨by decide, by decide +kernel⟩
theorem ia_235 : fs_isA 0 6 235 := ⟨by decide, by decide +kernel⟩
theorem ia_236 : fs_isA 0 6 236 := ⟨by decide, by decide +kernel⟩
theorem ia_237 : fs_isA 0 8 237 := ⟨by decide, by decide +kernel⟩
theorem ia_238 : fs_isA 0 8 238 := ⟨by decide, by decide +kernel⟩
theorem ia_239 : fs_isA 0 128 239 := ⟨by decide, by decide +kernel⟩
theorem ia_240 : fs_isA 0 128 240 := ⟨by decide, by decide +kernel⟩
theorem ia_241 : fs_isA 0 594 241 := ⟨by decide, by decide +kernel⟩
theorem ia_242 : fs_isA 0 66 242 := ⟨by decide, by decide +kernel⟩
theorem ia_243 : fs_isA 0 22 243 := ⟨by decide, by decide +kernel⟩
theorem ia_244 : fs_isA 0 22 244 := ⟨by decide, by decide +kernel⟩
theorem ia_245 : fs_isA 0 2 245 := ⟨by decide, by decide +kernel⟩
theorem ia_246 : fs_isA 0 2 246 := ⟨by decide, by decide +kernel⟩
theorem ia_247 : fs_isA 0 12 247 := ⟨by decide, by decide +kernel⟩
theorem ia_248 : fs_isA 0 12 248 := ⟨by decide, by decide +kernel⟩
theorem ia_249 : fs_isA 2 7 249 := ⟨by decide, by decide +kernel⟩
theorem ia_250 : fs_isA 2 64 250 := ⟨by decide, by decide +kernel⟩
theorem ia_251 : fs_isA 0 27 251 := ⟨by decide, by decide +kernel⟩
theorem ia_252 : fs_isA 0 3 252 := ⟨by decide, by decide +kernel⟩
theorem ia_253 : fs_isA 0 3 253 := ⟨by decide, by decide +kernel⟩
theorem ia_254 : fs_isA 0 3 254 := ⟨by decide, by decide +kernel⟩
theorem ia_255 : fs_isA 0 3 255 := ⟨by decide, by decide +kernel⟩
theorem ia_256 : fs_isA 0 3 256 := ⟨by decide, by decide +kernel⟩
theorem ia_257 : fs_isA 0 3 257 := ⟨by decide, by decide +kernel⟩
theorem ia_258 : fs_isA 0 3 258 := ⟨by decide, by decide +kernel⟩
theorem ia_259 : fs_isA 0 3 259 := ⟨by decide, by decide +kernel⟩
theorem ia_260 : fs_isA 0 3 260 := ⟨by decide, by decide +kernel⟩
theorem ia_261 : fs_isA 0 6 261 := ⟨by decide, by decide +kernel⟩
theorem ia_262 : fs_isA 0 6 262 := ⟨by decide, by decide +kernel⟩
theorem ia_263 : fs_isA 0 27 263 := ⟨by decide, by decide +kernel⟩
theorem ia_264 : fs_isA 0 3 264 := ⟨by decide, by decide +kernel⟩
theorem ia_265 : fs_isA 0 24 265 := ⟨by decide, by decide +kernel⟩
theorem ia_266 : fs_isA 0 24 266 := ⟨by decide, by decide +kernel⟩
theorem ia_267 : fs_isA 0 24 267 := ⟨by decide, by decide +kernel⟩
theorem ia_268 : fs_isA 1 24 268 := ⟨by decide, by decide +kernel⟩
theorem ia_269 : fs_isA 0 9 269 := ⟨by decide, by decide +kernel⟩
theorem ia_270 : fs_isA 2 1 270 := ⟨by decide, by decide +kernel⟩
theorem tk_1000 : fs_tk 1000 := ⟨by decide, by decide⟩
theorem tk_1001 : fs_tk 1001 := ⟨by decide, by decide⟩
theorem tk_1002 : fs_tk 1002 := ⟨by decide, by decide⟩
theorem tk_1003 : fs_tk 1003 := ⟨by decide, by decide⟩
theorem tk_1004 : fs_tk 1004 := ⟨by decide, by decide⟩
theorem tk_1005 : fs_tk 1005 := ⟨by decide, by decide⟩
theorem tk_1006 : fs_tk 1006 := ⟨by decide, by decide⟩
theorem tk_1007 : fs_tk 1007 := ⟨by decide, by decide⟩
theorem tk_1008 : fs_tk 1008 := ⟨by decide, by decide⟩
theorem tk_1009 : fs_tk 1009 := ⟨by decide, by decide⟩
theorem tk_1010 : fs_tk 1010 := ⟨by decide, by decide⟩
theorem tk_1011 : fs_tk 1011 := ⟨by decide, by decide⟩
theorem tk_1012 : fs_tk 1012 := ⟨by decide, by decide⟩
theorem tk_1013 : fs_tk 1013 := ⟨by decide, by decide⟩
theorem tk_1014 : fs_tk 1014 := ⟨by decide, by decide⟩
theorem tk_1015 : fs_tk 1015 := ⟨by decide, by decide⟩
theorem tk_1016 : fs_tk 1016 := ⟨by decide, by decide⟩
theorem tk_1017 : fs_tk 1017 := ⟨by decide, by decide⟩
theorem tk_1018 : fs_tk 1018 := ⟨by decide, by decide⟩
theorem tk_1019 : fs_tk 1019 := ⟨by decide, by decide⟩
theorem tk_1020 : fs_tk 1020 := ⟨by decide, by decide⟩
theorem tk_1021 : fs_tk 1021 := ⟨by decide, by decide⟩
theorem tk_1022 : fs_tk 1022 := ⟨by decide, by decide⟩
theorem tk_1023 : fs_tk 1023 := ⟨by decide, by decide⟩
theorem tk_1024 : fs_tk 1024 := ⟨by decide, by decide⟩
theorem tk_1025 : fs_tk 1025 := ⟨by decide, by decide⟩
theorem tk_1026 : fs_tk 1026 := ⟨by decide, by decide⟩
theorem tk_1027 : fs_tk 1027 := ⟨by decide, by decide⟩
theorem tk_1028 : fs_tk 1028 := ⟨by decide, by decide⟩
theorem tk_1029 : fs_tk 1029 := ⟨by decide, by decide⟩
theorem tk_1030 : fs_tk 1030 := ⟨by decide, by decide⟩
theorem tk_1031 : fs_tk 1031 := ⟨by decide, by decide⟩
theorem tk_1032 : fs_tk 1032 := ⟨by decide, by decide⟩
theorem tk_1033 : fs_tk 1033 := ⟨by decide, by decide⟩
theorem tk_1034 : fs_tk 1034 := ⟨by decide, by decide⟩
theorem tk_1035 : fs_tk 1035 := ⟨by decide, by decide⟩
theorem tk_1036 : fs_tk 1036 := ⟨by decide, by decide⟩
theorem fs_st_s {M : fs_M} {o k v : Int} : fs_st M o k v o k = v := by simp [fs_st]
theorem fs_st_o {M : fs_M} {o k v a b : Int} (h : a ≠ o) : fs_st M o k v a b = M a b := by simp [fs_st, h]
theorem fs_st_k {M : fs_M} {o k v a b : Int} (h : b ≠ k) : fs_st M o k v a b = M a b := by simp [fs_st, h]
theorem fs_cpy_o {M : fs_M} {a sp b dp n o k : Int} (h : o ≠ b) : fs_cpy M a sp b dp n o k = M o k := by simp [fs_cpy, h]
theorem fs_off {ci off : Nat} {q : Nat ⊕ (Nat × Nat)} (h : ∀ i, i < 271 → fs_kinds[i]? = some (.inl ci) → fs_kinds[i + off]? = some q) {o : Int} (ho : fs_isO ci o) : 0 ≤ o + (off : Int) ∧ fs_kinds[(o + (off : Int)).toNat]? = some q := by
  obtain ⟨h0, h1⟩ := ho
  have h2 := fs_n2 h1
  refine ⟨by omega, ?_⟩
  rw [show (o + (off : Int)).toNat = o.toNat + off by omega]
  exact h _ h2 h1
theorem pk_3_1 {o : Int} (h : fs_isO 3 o) : fs_isA 7 64 (o + 1) := fs_off (off := 1) (by decide +kernel) h
theorem pk_3_2 {o : Int} (h : fs_isO 3 o) : fs_isA 0 64 (o + 2) := fs_off (off := 2) (by decide +kernel) h
theorem pk_3_3 {o : Int} (h : fs_isO 3 o) : fs_isA 0 4 (o + 3) := fs_off (off := 3) (by decide +kernel) h
theorem pk_3_4 {o : Int} (h : fs_isO 3 o) : fs_isA 0 4 (o + 4) := fs_off (off := 4) (by decide +kernel) h
theorem pk_3_5 {o : Int} (h : fs_isO 3 o) : fs_isA 2 64 (o + 5) := fs_off (off := 5) (by decide +kernel) h
theorem pk_4_1 {o : Int} (h : fs_isO 4 o) : fs_isA 0 6 (o + 1) := fs_off (off := 1) (by decide +kernel) h
theorem pk_4_2 {o : Int} (h : fs_isO 4 o) : fs_isA 0 6 (o + 2) := fs_off (off := 2) (by decide +kernel) h
theorem pk_6_1 {o : Int} (h : fs_isO 6 o) : fs_isA 3 3 (o + 1) := fs_off (off := 1) (by decide +kernel) h
theorem pk_6_5 {o : Int} (h : fs_isO 6 o) : fs_isA 0 3 (o + 5) := fs_off (off := 5) (by decide +kernel) h
theorem pk_8_1 {o : Int} (h : fs_isO 8 o) : fs_isA 0 6 (o + 1) := fs_off (off := 1) (by decide +kernel) h
theorem pk_8_2 {o : Int} (h : fs_isO 8 o) : fs_isA 0 6 (o + 2) := fs_off (off := 2) (by decide +kernel) h
theorem pk_8_3 {o : Int} (h : fs_isO 8 o) : fs_isA 0 6 (o + 3) := fs_off (off := 3) (by decide +kernel) h
theorem pk_8_4 {o : Int} (h : fs_isO 8 o) : fs_isA 0 6 (o + 4) := fs_off (off := 4) (by decide +kernel) h
theorem pk_8_5 {o : Int} (h : fs_isO 8 o) : fs_isA 0 3 (o + 5) := fs_off (off := 5) (by decide +kernel) h
theorem pk_8_6 {o : Int} (h : fs_isO 8 o) : fs_isA 0 3 (o + 6) := fs_off (off := 6) (by decide +kernel) h
theorem pk_8_7 {o : Int} (h : fs_isO 8 o) : fs_isA 0 3 (o + 7) := fs_off (off := 7) (by decide +kernel) h
theorem pk_8_8 {o : Int} (h : fs_isO 8 o) : fs_isO 3 (o + 8) := fs_off (off := 8) (by decide +kernel) h
theorem pl_6_2 {o : Int} (h : fs_isO 6 o) : fs_isA 0 9 (o + 2) := fs_off (off := 2) (by decide +kernel) h
theorem pl_6_3 {o : Int} (h : fs_isO 6 o) : fs_isA 0 9 (o + 3) := fs_off (off := 3) (by decide +kernel) h
theorem pl_6_4 {o : Int} (h : fs_isO 6 o) : fs_isA 0 9 (o + 4) := fs_off (off := 4) (by decide +kernel) h
theorem aq_32 (i : Int) : (32 : Int) + (fs_pA 32).1 + (fs_pA 32).2 * i = 33 + i := by
  have e : fs_pA 32 = (1, 1) := by decide +kernel
  simp only [e]
  omega
theorem ae_32 {i : Int} (h0 : 0 ≤ i) (h1 : i < 3) : fs_isA 0 9 (33 + i) := by
  rcases (by omega : i = 0 ∨ i = 1 ∨ i = 2) with rfl | rfl | rfl <;> exact ⟨by decide, by decide +kernel⟩
theorem aq_38 (i : Int) : (38 : Int) + (fs_pA 38).1 + (fs_pA 38).2 * i = 39 + i := by
  have e : fs_pA 38 = (1, 1) := by decide +kernel
  simp only [e]
  omega
theorem ae_38 {i : Int} (h0 : 0 ≤ i) (h1 : i < 3) : fs_isA 0 9 (39 + i) := by
  rcases (by omega : i = 0 ∨ i = 1 ∨ i = 2) with rfl | rfl | rfl <;> exact ⟨by decide, by decide +kernel⟩
theorem aq_44 (i : Int) : (44 : Int) + (fs_pA 44).1 + (fs_pA 44).2 * i = 51 + i := by
  have e : fs_pA 44 = (7, 1) := by decide +kernel
  simp only [e]
  omega
theorem ae_44 {i : Int} (h0 : 0 ≤ i) (h1 : i < 3) : fs_isO 2 (51 + i) := by
  rcases (by omega : i = 0 ∨ i = 1 ∨ i = 2) with rfl | rfl | rfl <;> exact ⟨by decide, by decide +kernel⟩
theorem aq_45 (i : Int) : (45 : Int) + (fs_pA 45).1 + (fs_pA 45).2 * i = 46 + i := by
  have e : fs_pA 45 = (1, 1) := by decide +kernel
  simp only [e]
  omega
theorem ae_45 {i : Int} (h0 : 0 ≤ i) (h1 : i < 3) : fs_isA 0 9 (46 + i) := by
  rcases (by omega : i = 0 ∨ i = 1 ∨ i = 2) with rfl | rfl | rfl <;> exact ⟨by decide, by decide +kernel⟩
theorem aq_63 (i : Int) : (63 : Int) + (fs_pA 63).1 + (fs_pA 63).2 * i = 64 + i := by
  have e : fs_pA 63 = (1, 1) := by decide +kernel
  simp only [e]
  omega
theorem ae_63 {i : Int} (h0 : 0 ≤ i) (h1 : i < 3) : fs_isA 2 1957 (64 + i) := by
  rcases (by omega : i = 0 ∨ i = 1 ∨ i = 2) with rfl | rfl | rfl <;> exact ⟨by decide, by decide +kernel⟩
theorem aq_67 (i : Int) : (67 : Int) + (fs_pA 67).1 + (fs_pA 67).2 * i = 68 + i := by
  have e : fs_pA 67 = (1, 1) := by decide +kernel
  simp only [e]
  omega
theorem ae_67 {i : Int} (h0 : 0 ≤ i) (h1 : i < 3) : fs_isA 0 1957 (68 + i) := by
  rcases (by omega : i = 0 ∨ i = 1 ∨ i = 2) with rfl | rfl | rfl <;> exact ⟨by decide, by decide +kernel⟩
theorem aq_71 (i : Int) : (71 : Int) + (fs_pA 71).1 + (fs_pA 71).2 * i = 83 + i := by
  have e : fs_pA 71 = (12, 1) := by decide +kernel
  simp only [e]
  omega
theorem ae_71 {i : Int} (h0 : 0 ≤ i) (h1 : i < 7) : fs_isO 2 (83 + i) := by
  rcases (by omega : i = 0 ∨ i = 1 ∨ i = 2 ∨ i = 3 ∨ i = 4 ∨ i = 5 ∨ i = 6) with rfl | rfl | rfl | rfl | rfl | rfl | rfl <;> exact ⟨by decide, by decide +kernel⟩
theorem aq_73 (i : Int) : (73 : Int) + (fs_pA 73).1 + (fs_pA 73).2 * i = 74 + i := by
  have e : fs_pA 73 = (1, 1) := by decide +kernel
  simp only [e]
  omega
theorem ae_73 {i : Int} (h0 : 0 ≤ i) (h1 : i < 3) : fs_isA 0 64 (74 + i) := by
  rcases (by omega : i = 0 ∨ i = 1 ∨ i = 2) with rfl | rfl | rfl <;> exact ⟨by decide, by decide +kernel⟩
theorem aq_77 (i : Int) : (77 : Int) + (fs_pA 77).1 + (fs_pA 77).2 * i = 78 + i := by
  have e : fs_pA 77 = (1, 1) := by decide +kernel
  simp only [e]
  omega
theorem ae_77 {i : Int} (h0 : 0 ≤ i) (h1 : i < 4) : fs_isA 0 64 (78 + i) := by
  rcases (by omega : i = 0 ∨ i = 1 ∨ i = 2 ∨ i = 3) with rfl | rfl | rfl | rfl <;> exact ⟨by decide, by decide +kernel⟩
theorem aq_96 (i : Int) : (96 : Int) + (fs_pA 96).1 + (fs_pA 96).2 * i = 97 + 6 * i := by
  have e : fs_pA 96 = (1, 6) := by decide +kernel
  simp only [e]
  omega
theorem ae_96 {i : Int} (h0 : 0 ≤ i) (h1 : i < 20) : fs_isO 6 (97 + 6 * i) := by
  rcases (by omega : i = 0 ∨ i = 1 ∨ i = 2 ∨ i = 3 ∨ i = 4 ∨ i = 5 ∨ i = 6 ∨ i = 7 ∨ i = 8 ∨ i = 9 ∨ i = 10 ∨ i = 11 ∨ i = 12 ∨ i = 13 ∨ i = 14 ∨ i = 15 ∨ i = 16 ∨ i = 17 ∨ i = 18 ∨ i = 19) with rfl | rfl | rfl | rfl | rfl | rfl | rfl | rfl | rfl | rfl | rfl | rfl | rfl | rfl | rfl | rfl | rfl | rfl | rfl | rfl <;> exact ⟨by decide, by decide +kernel⟩
theorem aq_98 (i : Int) : (98 : Int) + (fs_pA 98).1 + (fs_pA 98).2 * i = 99 + i := by
  have e : fs_pA 98 = (1, 1) := by decide +kernel
  simp only [e]
  omega
theorem ae_98 {i : Int} (h0 : 0 ≤ i) (h1 : i < 3) : fs_isA 0 9 (99 + i) := by
  rcases (by omega : i = 0 ∨ i = 1 ∨ i = 2) with rfl | rfl | rfl <;> exact ⟨by decide, by decide +kernel⟩
theorem aq_104 (i : Int) : (104 : Int) + (fs_pA 104).1 + (fs_pA 104).2 * i = 105 + i := by
  have e : fs_pA 104 = (1, 1) := by decide +kernel
  simp only [e]
  omega
theorem ae_104 {i : Int} (h0 : 0 ≤ i) (h1 : i < 3) : fs_isA 0 9 (105 + i) := by
  rcases (by omega : i = 0 ∨ i = 1 ∨ i = 2) with rfl | rfl | rfl <;> exact ⟨by decide, by decide +kernel⟩
theorem aq_110 (i : Int) : (110 : Int) + (fs_pA 110).1 + (fs_pA 110).2 * i = 111 + i := by
  have e : fs_pA 110 = (1, 1) := by decide +kernel
  simp only [e]
  omega
theorem ae_110 {i : Int} (h0 : 0 ≤ i) (h1 : i < 3) : fs_isA 0 9 (111 + i) := by
  rcases (by omega : i = 0 ∨ i = 1 ∨ i = 2) with rfl | rfl | rfl <;> exact ⟨by decide, by decide +kernel⟩
theorem aq_116 (i : Int) : (116 : Int) + (fs_pA 116).1 + (fs_pA 116).2 * i = 117 + i := by
  have e : fs_pA 116 = (1, 1) := by decide +kernel
  simp only [e]
  omega
theorem ae_116 {i : Int} (h0 : 0 ≤ i) (h1 : i < 3) : fs_isA 0 9 (117 + i) := by
  rcases (by omega : i = 0 ∨ i = 1 ∨ i = 2) with rfl | rfl | rfl <;> exact ⟨by decide, by decide +kernel⟩
theorem aq_122 (i : Int) : (122 : Int) + (fs_pA 122).1 + (fs_pA 122).2 * i = 123 + i := by
  have e : fs_pA 122 = (1, 1) := by decide +kernel
  simp only [e]
  omega
theorem ae_122 {i : Int} (h0 : 0 ≤ i) (h1 : i < 3) : fs_isA 0 9 (123 + i) := by
  rcases (by omega : i = 0 ∨ i = 1 ∨ i = 2) with rfl | rfl | rfl <;> exact ⟨by decide, by decide +kernel⟩
theorem aq_128 (i : Int) : (128 : Int) + (fs_pA 128).1 + (fs_pA 128).2 * i = 129 + i := by
  have e : fs_pA 128 = (1, 1) := by decide +kernel
  simp only [e]
  omega
theorem ae_128 {i : Int} (h0 : 0 ≤ i) (h1 : i < 3) : fs_isA 0 9 (129 + i) := by
  rcases (by omega : i = 0 ∨ i = 1 ∨ i = 2) with rfl | rfl | rfl <;> exact ⟨by decide, by decide +kernel⟩
theorem aq_134 (i : Int) : (134 : Int) + (fs_pA 134).1 + (fs_pA 134).2 * i = 135 + i := by
  have e : fs_pA 134 = (1, 1) := by decide +kernel
  simp only [e]
  omega
theorem ae_134 {i : Int} (h0 : 0 ≤ i) (h1 : i < 3) : fs_isA 0 9 (135 + i) := by
  rcases (by omega : i = 0 ∨ i = 1 ∨ i = 2) with rfl | rfl | rfl <;> exact ⟨by decide, by decide +kernel⟩
theorem aq_140 (i : Int) : (140 : Int) + (fs_pA 140).1 + (fs_pA 140).2 * i = 141 + i := by
  have e : fs_pA 140 = (1, 1) := by decide +kernel
  simp only [e]
  omega
theorem ae_140 {i : Int} (h0 : 0 ≤ i) (h1 : i < 3) : fs_isA 0 9 (141 + i) := by
  rcases (by omega : i = 0 ∨ i = 1 ∨ i = 2) with rfl | rfl | rfl <;> exact ⟨by decide, by decide +kernel⟩
theorem aq_146 (i : Int) : (146 : Int) + (fs_pA 146).1 + (fs_pA 146).2 * i = 147 + i := by
  have e : fs_pA 146 = (1, 1) := by decide +kernel
  simp only [e]
  omega
theorem ae_146 {i : Int} (h0 : 0 ≤ i) (h1 : i < 3) : fs_isA 0 9 (147 + i) := by
  rcases (by omega : i = 0 ∨ i = 1 ∨ i = 2) with rfl | rfl | rfl <;> exact ⟨by decide, by decide +kernel⟩
theorem aq_152 (i : Int) : (152 : Int) + (fs_pA 152).1 + (fs_pA 152).2 * i = 153 + i := by
  have e : fs_pA 152 = (1, 1) := by decide +kernel
  simp only [e]
  omega
theorem ae_152 {i : Int} (h0 : 0 ≤ i) (h1 : i < 3) : fs_isA 0 9 (153 + i) := by
  rcases (by omega : i = 0 ∨ i = 1 ∨ i = 2) with rfl | rfl | rfl <;> exact ⟨by decide, by decide +kernel⟩
theorem aq_158 (i : Int) : (158 : Int) + (fs_pA 158).1 + (fs_pA 158).2 * i = 159 + i := by
  have e : fs_pA 158 = (1, 1) := by decide +kernel
  simp only [e]
  omega
theorem ae_158 {i : Int} (h0 : 0 ≤ i) (h1 : i < 3) : fs_isA 0 9 (159 + i) := by
  rcases (by omega : i = 0 ∨ i = 1 ∨ i = 2) with rfl | rfl | rfl <;> exact ⟨by decide, by decide +kernel⟩
theorem aq_164 (i : Int) : (164 : Int) + (fs_pA 164).1 + (fs_pA 164).2 * i = 165 + i := by
  have e : fs_pA 164 = (1, 1) := by decide +kernel
  simp only [e]
  omega
theorem ae_164 {i : Int} (h0 : 0 ≤ i) (h1 : i < 3) : fs_isA 0 9 (165 + i) := by
  rcases (by omega : i = 0 ∨ i = 1 ∨ i = 2) with rfl | rfl | rfl <;> exact ⟨by decide, by decide +kernel⟩
theorem aq_170 (i : Int) : (170 : Int) + (fs_pA 170).1 + (fs_pA 170).2 * i = 171 + i := by
  have e : fs_pA 170 = (1, 1) := by decide +kernel
  simp only [e]
  omega
theorem ae_170 {i : Int} (h0 : 0 ≤ i) (h1 : i < 3) : fs_isA 0 9 (171 + i) := by
  rcases (by omega : i = 0 ∨ i = 1 ∨ i = 2) with rfl | rfl | rfl <;> exact ⟨by decide, by decide +kernel⟩
theorem aq_176 (i : Int) : (176 : Int) + (fs_pA 176).1 + (fs_pA 176).2 * i = 177 + i := by
  have e : fs_pA 176 = (1, 1) := by decide +kernel
  simp only [e]
  omega
theorem ae_176 {i : Int} (h0 : 0 ≤ i) (h1 : i < 3) : fs_isA 0 9 (177 + i) := by
  rcases (by omega : i = 0 ∨ i = 1 ∨ i = 2) with rfl | rfl | rfl <;> exact ⟨by decide, by decide +kernel⟩
theorem aq_182 (i : Int) : (182 : Int) + (fs_pA 182).1 + (fs_pA 182).2 * i = 183 + i := by
  have e : fs_pA 182 = (1, 1) := by decide +kernel
  simp only [e]
  omega
theorem ae_182 {i : Int} (h0 : 0 ≤ i) (h1 : i < 3) : fs_isA 0 9 (183 + i) := by
  rcases (by omega : i = 0 ∨ i = 1 ∨ i = 2) with rfl | rfl | rfl <;> exact ⟨by decide, by decide +kernel⟩
theorem aq_188 (i : Int) : (188 : Int) + (fs_pA 188).1 + (fs_pA 188).2 * i = 189 + i := by
  have e : fs_pA 188 = (1, 1) := by decide +kernel
  simp only [e]
  omega
theorem ae_188 {i : Int} (h0 : 0 ≤ i) (h1 : i < 3) : fs_isA 0 9 (189 + i) := by
  rcases (by omega : i = 0 ∨ i = 1 ∨ i = 2) with rfl | rfl | rfl <;> exact ⟨by decide, by decide +kernel⟩
theorem aq_194 (i : Int) : (194 : Int) + (fs_pA 194).1 + (fs_pA 194).2 * i = 195 + i := by
  have e : fs_pA 194 = (1, 1) := by decide +kernel
  simp only [e]
  omega
theorem ae_194 {i : Int} (h0 : 0 ≤ i) (h1 : i < 3) : fs_isA 0 9 (195 + i) := by
  rcases (by omega : i = 0 ∨ i = 1 ∨ i = 2) with rfl | rfl | rfl <;> exact ⟨by decide, by decide +kernel⟩
theorem aq_200 (i : Int) : (200 : Int) + (fs_pA 200).1 + (fs_pA 200).2 * i = 201 + i := by
  have e : fs_pA 200 = (1, 1) := by decide +kernel
  simp only [e]
  omega
theorem ae_200 {i : Int} (h0 : 0 ≤ i) (h1 : i < 3) : fs_isA 0 9 (201 + i) := by
  rcases (by omega : i = 0 ∨ i = 1 ∨ i = 2) with rfl | rfl | rfl <;> exact ⟨by decide, by decide +kernel⟩
theorem aq_206 (i : Int) : (206 : Int) + (fs_pA 206).1 + (fs_pA 206).2 * i = 207 + i := by
  have e : fs_pA 206 = (1, 1) := by decide +kernel
  simp only [e]
  omega
theorem ae_206 {i : Int} (h0 : 0 ≤ i) (h1 : i < 3) : fs_isA 0 9 (207 + i) := by
  rcases (by omega : i = 0 ∨ i = 1 ∨ i = 2) with rfl | rfl | rfl <;> exact ⟨by decide, by decide +kernel⟩
theorem aq_212 (i : Int) : (212 : Int) + (fs_pA 212).1 + (fs_pA 212).2 * i = 213 + i := by
  have e : fs_pA 212 = (1, 1) := by decide +kernel
  simp only [e]
  omega
theorem ae_212 {i : Int} (h0 : 0 ≤ i) (h1 : i < 3) : fs_isA 0 9 (213 + i) := by
  rcases (by omega : i = 0 ∨ i = 1 ∨ i = 2) with rfl | rfl | rfl <;> exact ⟨by decide, by decide +kernel⟩
theorem aq_218 (i : Int) : (218 : Int) + (fs_pA 218).1 + (fs_pA 218).2 * i = 219 + i := by
  have e : fs_pA 218 = (1, 1) := by decide +kernel
  simp only [e]
  omega
theorem ae_218 {i : Int} (h0 : 0 ≤ i) (h1 : i < 3) : fs_isA 0 9 (219 + i) := by
  rcases (by omega : i = 0 ∨ i = 1 ∨ i = 2) with rfl | rfl | rfl <;> exact ⟨by decide, by decide +kernel⟩
theorem ae_plan {x i : Int} (h : fs_isO 6 x) (h0 : 0 ≤ i) (h1 : i < 3) : fs_isA 0 9 (x + 2 + i) := by
  rcases (by omega : i = 0 ∨ i = 1 ∨ i = 2) with rfl | rfl | rfl
  · rw [show x + 2 + 0 = x + 2 by omega]; exact pl_6_2 h
  · rw [show x + 2 + 1 = x + 3 by omega]; exact pl_6_3 h
  · rw [show x + 2 + 2 = x + 4 by omega]; exact pl_6_4 h
theorem aq_plan {x : Int} (h : fs_isO 6 x) (i : Int) : (x + 1) + (fs_pA (x + 1)).1 + (fs_pA (x + 1)).2 * i = x + 2 + i := by
  have e : fs_pA (x + 1) = (1, 1) := by
    unfold fs_pA
    have n1 : ¬ x + 1 = 44 := fun q => by
      have h2 := h.2
      rw [show x = 43 by omega] at h2
      revert h2; decide +kernel
    have n2 : ¬ x + 1 = 71 := fun q => by
      have h2 := h.2
      rw [show x = 70 by omega] at h2
      revert h2; decide +kernel
    have n3 : ¬ x + 1 = 96 := fun q => by
      have h2 := h.2
      rw [show x = 95 by omega] at h2
      revert h2; decide +kernel
    rw [if_neg n1, if_neg n2, if_neg n3]
  simp only [e]
  omega
theorem fs_ord_eq {t : Int} (h : fs_tk t) : fs_ord t = t - 1000 := by
  have key : ∀ k, k < 37 → (fs_tokO.getD k 0).toInt = (k : Int) := by decide +kernel
  obtain ⟨a, b⟩ := h
  unfold fs_ord
  rw [key _ (by omega)]
  omega
theorem fs_ord_in {t : Int} (h : fs_tk t) : 0 ≤ fs_ord t ∧ fs_ord t < 37 := by
  rw [fs_ord_eq h]
  obtain ⟨a, b⟩ := h
  omega
theorem fs_tkof {i : Int} (h0 : 0 ≤ i) (h1 : i < 37) : fs_tk (1000 + i) := ⟨by omega, by omega⟩
def fs_wch (i : Int) : Int := (fs_wby.getD i.toNat 0).toInt
def fs_scr (g : fs_G) (i : Int) : Int := (g_xs g i.toNat).toInt
theorem fs_fm_in (g : fs_G) : fs_ok (fs_r (fs_fm g)) := by
  show fs_in32 (fs_fm g)
  unfold fs_fm fs_in32
  split <;> omega
def fs_i2c (x : Int) : Int := ((Int32.ofInt x).toUInt32 % 65536).toInt32.toInt
theorem fs_lgl (g : fs_G) : ∀ vs : List fs_V, (lg_sl (vs.map (fs_e g))).length = fs_wt vs
  | [] => rfl
  | v :: vs => by
    have h := fs_lgl g vs
    have hc := fs_e_cat g v
    unfold lg_sl at h ⊢
    unfold fs_wt at h ⊢
    rw [List.map_cons, List.map_cons, List.sum_cons, List.flatMap_cons, List.length_append, h, ← hc]
    rcases lv_cat (fs_e g v) with q | q <;> rw [q] <;> rfl
def fs_args : Nat → List fs_V → List (Nat × fs_V)
  | _, [] => []
  | i, v :: vs => (i, v) :: fs_args (if fs_isl v = true then i + 2 else i + 1) vs
theorem fs_args_lv (g : fs_G) : ∀ (vs : List fs_V) (i : Nat), lv_args i (vs.map (fs_e g)) = fs_lv g (fs_args i vs)
  | [], i => rfl
  | v :: vs, i => by
    have hc := fs_e_cat g v
    show (i, fs_e g v) :: lv_args (if (fs_e g v).category = 2 then i + 2 else i + 1) (vs.map (fs_e g)) = (i, fs_e g v) :: fs_lv g (fs_args (if fs_isl v = true then i + 2 else i + 1) vs)
    rw [fs_args_lv g vs, ← hc]
    rcases lv_cat (fs_e g v) with q | q <;> rw [q] <;> rfl
theorem fs_args_mem : ∀ (vs : List fs_V) (i : Nat) (q : Nat × fs_V), q ∈ fs_args i vs → q.2 ∈ vs
  | [], i, q, h => by cases h
  | v :: vs, i, q, h => by
    rcases List.mem_cons.mp h with h | h
    · rw [h]; exact List.mem_cons_self
    · exact List.mem_cons_of_mem _ (fs_args_mem vs _ q h)
section HELP
variable {g : fs_G} {md : fs_D} {d : Nat} {z : fs_Z} {y : Nat × Nat × Nat} {pc : Nat} {ls : List (Nat × fs_V)} {st : List fs_V} {M : fs_M} {K : fs_K}
theorem b_enter2 {args : List fs_V} (hpl : plainFor md.1 = true) (hsz : fs_wt args ≤ md.2.2.1) (hls : fs_args 0 args = ls) (h : fs_A2 g md d 0 ls [] M K) : fs_C2 g md d args M K :=
  b_enter hpl (by rw [fs_lgl]; exact hsz) (by rw [fs_args_lv, hls]) (by rw [← hls]; exact fs_args_mem args 0) h
theorem a_i2c {x : Int} (hd : decode md.2.1 pc = .ok (.i2c, 1)) (k : fs_At g md d z y (pc + 1) ls (fs_i (fs_i2c x) :: st) M K) : fs_At g md d z y pc ls (fs_i x :: st) M K := by
  intro p e R s m args below meth c C H locs lc hl hR hS hI hlo hok
  refine lv_i2c (x := Int32.ofInt x) (v := Int32.ofInt (fs_i2c x)) C.1 C.2.1 hd ?_ (k p e R s m args below meth c C H locs lc hl hR hS hI hlo (hok.t.c (fs_I_in _)))
  unfold fs_i2c
  rw [Int32.ofInt_toInt]
theorem b_str {idx k : Nat} {mc : fs_D} {dc : Nat} (as rest : List fs_V) (hd : decode md.2.1 pc = .ok (.invokevirtual idx, 3)) (hl : fs_ML md.1.cls idx mc.1) (hk : fs_MK mc k) (hv : fs_MV mc) (hlen : as.length = k) (hz : dc + 1 ≤ d) (hst : as.reverse ++ fs_r 3001 :: rest = st) (hwt : fs_wt rest ≤ 8) (hcn : mc.1.cls = "java/lang/String")
    (h : fs_C2 g mc dc (fs_r 3001 :: as) M (fun v M1 => fs_A2 g md d (pc + 3) ls (v.toList ++ rest) M1 K)) : fs_A2 g md d pc ls st M K := by
  subst hst
  intro p e R s m args below meth c C H locs lc hll hR hS hI hlo hok
  refine fs_hsz (fun hsz => ?_)
  have hz2 := fs_zok2 hz
  have hokr : fs_oks rest := fun w hw => hok w (List.mem_append.mpr (Or.inr (List.mem_cons_of_mem _ hw)))
  have hM := h hI (fun w hw => by
    rcases List.mem_cons.mp hw with rfl | hw
    · exact hok _ (List.mem_append.mpr (Or.inr List.mem_cons_self))
    · exact hok _ (List.mem_append.mpr (Or.inl (List.mem_reverse.mpr hw))))
  have hts : ∀ w ∈ fs_B, w.before args s = true := C.2.2.2.2.2.2.1
  have hSt := C.2.2.2.2.2.2.2.1
  have hroom := C.2.2.2.2.2.2.2.2.1
  have e0 : fs_e g (fs_r 3001) = .ref (g_so g 3001) := fs_e_so (by decide)
  rw [List.map_append, List.map_cons, List.map_reverse, e0]
  rw [List.map_cons, e0] at hM
  have hrm : (fs_rm dc 0 0).frames + 1 ≤ R.frames ∧ 8 + (mc.2.2.1 + 11) + (fs_rm dc 0 0).locals ≤ R.locals := by
    have h2 := hk.2.2.2.2.2
    have h3 := hroom.1
    have h4 := hroom.2.1
    show dc + 1 ≤ R.frames ∧ 8 + (mc.2.2.1 + 11) + 64 * dc ≤ R.locals
    omega
  have hrecv : ∃ cellB : Cell, H[g_so g 3001]? = some cellB ∧ cellB.vm.isStatics = false ∧ s.vm.findClass mc.1.cls = some cellB.cls := by
    rw [hcn]
    obtain ⟨cell, h1, h2, h3, -⟩ := (fs_Ostr s _ hSt.2.2.1).kept hS.2.1
    exact ⟨cell, h1, h2, h3⟩
  have hpre : PreV s H mc.1.cls (g_so g 3001) (va_Pc (Value.ref (g_so g 3001) :: as.map (fs_e g)) (fun U => fs_R g 2 271 M U.heap ∧ fs_S g U)) (as.map (fs_e g)) := by
    refine ⟨fs_blind, hrecv, ?_⟩
    exact fs_pre (z := fs_Z2) (zc := fs_Z2) hSt hS hR rfl (fun q => by cases q)
  have hcl2 : 0 + 0 ≤ R.cells ∧ 0 + 0 ≤ R.slots := ⟨Nat.zero_le _, Nat.zero_le _⟩
  have hwt2 : 2 * (F0 m pc lc ((as.map (fs_e g)).reverse ++ Value.ref (g_so g 3001) :: rest.map (fs_e g))).monitorRoom + ((rest.map (fs_e g)).map fun v => v.category).sum ≤ 8 := lv_room (by rw [fs_wt_eq]; exact hwt)
  refine fs_kk (zc := fs_Z2) (rest := rest) C hz2 hll hR hS hlo hokr (a := (Value.ref (g_so g 3001) :: as.map (fs_e g)).toArray) ?_
  rcases hl with hw | ⟨host, hw⟩
  · refine va_runV (Ts := fs_B) (own := md.1.cls) (C := mc.1.cls) (nL := md.2.2.1) (n := k) (As := as.map (fs_e g)) (rest := rest.map (fs_e g)) ⟨C.1, C.2.1, C.2.2.1, C.2.2.2.2.2.1, hts⟩ hM (cwV k hts ?_ rfl rfl rfl ⟨rfl, hk.2.2.1, hk.2.2.2.1, hk.2.2.2.2.1⟩ hrm) hpre rfl (by rw [List.length_map]; exact hlen) hll.1 rfl hwt2 hd hcl2
    intro w hw2
    unfold wsV at hw2
    rcases List.mem_append.mp hw2 with h1 | h1
    · have hmem : w ∈ fs_B := by
        rcases List.mem_cons.mp h1 with rfl | h1
        · exact hw
        rcases List.mem_cons.mp h1 with rfl | h1
        · exact hv.1
        rcases List.mem_cons.mp h1 with rfl | h1
        · exact hv.2
        rcases List.mem_cons.mp h1 with rfl | h1
        · exact hk.2.1
        · cases h1
      exact ⟨hmem, fs_goodB hmem⟩
    · exact fs_wsGood hk.1 w h1
  · exact va_runVN (Ts := fs_B) (own := md.1.cls) (C := mc.1.cls) (nL := md.2.2.1) (n := k) (As := as.map (fs_e g)) (rest := rest.map (fs_e g)) ⟨C.1, C.2.1, C.2.2.1, C.2.2.2.2.2.1, hts⟩ hM ⟨va_cnB k hts (fs_wsGood hk.1) rfl rfl rfl (hSt.2.1 _ hw) (hts _ hk.2.1) ⟨hk.2.2.1, hk.2.2.2.1, hk.2.2.2.2.1⟩ hrm, hts _ hv.1, hts _ hv.2⟩ hpre rfl (by rw [List.length_map]; exact hlen) hll.1 rfl hwt2 hd hcl2
theorem b_aastok {n : Nat} {o i t : Int} (hd : decode md.2.1 pc = .ok (.aastore, 1)) (ho : fs_isA 7 n o) (h0 : 0 ≤ i) (h1 : i < n) (ht : fs_tk t) (kk : fs_A2 g md d (pc + 1) ls st (fs_st M o i t) K) : fs_A2 g md d pc ls (fs_r t :: fs_i i :: fs_r o :: st) M K := by
  intro p e R s m args below meth c C H locs lc hl hR hS hI hlo hok
  have hSt := C.2.2.2.2.2.2.2.1
  have hi : fs_in32 i := hok.t.h
  rw [List.map_cons, List.map_cons, List.map_cons, fs_e_in ho.1 ho.2, fs_e_so ht.1]
  have hO := (fs_Otk ht s _ hSt.2.2.1).kept hS.2.1
  have hAny : va_Any "FirstSill$Token" s H (g_so g t) := by
    obtain ⟨cell, q1, q2, q3, q4⟩ := hO
    obtain ⟨kC, hkC, -⟩ := Vm.findClass_spec q3
    refine ⟨cell, q1, q2, ⟨kC, hkC⟩, fun comp hcomp => ?_⟩
    have e2 : cell.cls = comp := Option.some.inj (q3.symm.trans hcomp)
    rw [e2]
    exact va_asg _ _
  refine va_astqM (f := fun j : Nat => fs_ro g (M o j)) (E := "FirstSill$Token") C.1 C.2.1 hSt.1 hR.1 fs_W_D hS o.toNat 7 (fs_W_A ho (fs_n2 ho.2)) (fs_tys_get (by decide)) hAny (fs_vin hi h0 h1) hd (fun H1 locs1 hP1 _ hS1 => ?_)
  have hpe : (.inr (.inr (.inr (.inr (va_up (fun j : Nat => fs_ro g (M o j)) (Int32.ofInt i).toNatClampNeg (some (g_so g t)))))) : (Nat → Int32) ⊕ (Nat → Int64) ⊕ (Nat → UInt32) ⊕ (Nat → UInt64) ⊕ (Nat → Option Nat)) = fs_pay g 7 (fs_st M o i t o) := by
    show _ = Sum.inr (Sum.inr (Sum.inr (Sum.inr (fun j : Nat => fs_ro g (fs_st M o i t o j)))))
    congr 4
    funext j
    rw [fs_vcl hi h0]
    unfold va_up fs_st
    rw [if_pos rfl]
    by_cases a : j = i.toNat
    · rw [if_pos a, if_pos (by omega)]
      unfold fs_ro fs_ad
      have := ht.1
      rw [if_neg (by omega), if_neg (by omega)]
    · rw [if_neg a, if_neg (by omega)]
  rw [hpe, ← fs_cellA ho, ← fs_W_set ho.1] at hP1
  refine kk p e R s m args below meth c C H1 locs1 lc hl ⟨hP1, hR.2⟩ hS1 ⟨fs_rngS hI.1 ?_, fun q => fs_P2_A (hI.2 q) ho (Or.inr (by decide))⟩ hlo hok.t.t.t
  have h3 : fs_isL o i = false := by
    unfold fs_isL
    rw [if_neg (by have := ho.1; omega), ho.2]
    rfl
  rw [h3]
  obtain ⟨a, b⟩ := ht
  show fs_in32 t
  unfold fs_in32
  omega
end HELP
