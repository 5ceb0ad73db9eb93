theorem dX10_init_0 : decode cX10_init 0 = .ok (.aload_n 0, 1) := by decide +kernel
theorem dX10_init_1 : decode cX10_init 1 = .ok (.invokespecial 1, 3) := by decide +kernel
theorem dX10_init_4 : decode cX10_init 4 = .ok (.aload_n 0, 1) := by decide +kernel
theorem dX10_init_5 : decode cX10_init 5 = .ok (.bipush 40, 2) := by decide +kernel
theorem dX10_init_7 : decode cX10_init 7 = .ok (.newarray .long, 2) := by decide +kernel
theorem dX10_init_9 : decode cX10_init 9 = .ok (.putfield 7, 3) := by decide +kernel
theorem dX10_init_12 : decode cX10_init 12 = .ok (.aload_n 0, 1) := by decide +kernel
theorem dX10_init_13 : decode cX10_init 13 = .ok (.bipush 40, 2) := by decide +kernel
theorem dX10_init_15 : decode cX10_init 15 = .ok (.newarray .int, 2) := by decide +kernel
theorem dX10_init_17 : decode cX10_init 17 = .ok (.putfield 13, 3) := by decide +kernel
theorem dX10_init_20 : decode cX10_init 20 = .ok (.aload_n 0, 1) := by decide +kernel
theorem dX10_init_21 : decode cX10_init 21 = .ok (.bipush 40, 2) := by decide +kernel
theorem dX10_init_23 : decode cX10_init 23 = .ok (.newarray .int, 2) := by decide +kernel
theorem dX10_init_25 : decode cX10_init 25 = .ok (.putfield 17, 3) := by decide +kernel
theorem dX10_init_28 : decode cX10_init 28 = .ok (.aload_n 0, 1) := by decide +kernel
theorem dX10_init_29 : decode cX10_init 29 = .ok (.bipush 40, 2) := by decide +kernel
theorem dX10_init_31 : decode cX10_init 31 = .ok (.newarray .int, 2) := by decide +kernel
theorem dX10_init_33 : decode cX10_init 33 = .ok (.putfield 20, 3) := by decide +kernel
theorem dX10_init_36 : decode cX10_init 36 = .ok (.aload_n 0, 1) := by decide +kernel
theorem dX10_init_37 : decode cX10_init 37 = .ok (.bipush 11, 2) := by decide +kernel
theorem dX10_init_39 : decode cX10_init 39 = .ok (.newarray .int, 2) := by decide +kernel
theorem dX10_init_41 : decode cX10_init 41 = .ok (.putfield 23, 3) := by decide +kernel
theorem dX10_init_44 : decode cX10_init 44 = .ok (.aload_n 0, 1) := by decide +kernel
theorem dX10_init_45 : decode cX10_init 45 = .ok (.bipush 11, 2) := by decide +kernel
theorem dX10_init_47 : decode cX10_init 47 = .ok (.newarray .int, 2) := by decide +kernel
theorem dX10_init_49 : decode cX10_init 49 = .ok (.putfield 26, 3) := by decide +kernel
theorem dX10_init_52 : decode cX10_init 52 = .ok (.aload_n 0, 1) := by decide +kernel
theorem dX10_init_53 : decode cX10_init 53 = .ok (.bipush 121, 2) := by decide +kernel
theorem dX10_init_55 : decode cX10_init 55 = .ok (.newarray .int, 2) := by decide +kernel
theorem dX10_init_57 : decode cX10_init 57 = .ok (.putfield 29, 3) := by decide +kernel
theorem dX10_init_60 : decode cX10_init 60 = .ok (.aload_n 0, 1) := by decide +kernel
theorem dX10_init_61 : decode cX10_init 61 = .ok (.bipush 27, 2) := by decide +kernel
theorem dX10_init_63 : decode cX10_init 63 = .ok (.newarray .int, 2) := by decide +kernel
theorem dX10_init_65 : decode cX10_init 65 = .ok (.dup, 1) := by decide +kernel
theorem dX10_init_66 : decode cX10_init 66 = .ok (.iconst 0, 1) := by decide +kernel
theorem dX10_init_67 : decode cX10_init 67 = .ok (.iconst 0, 1) := by decide +kernel
theorem dX10_init_68 : decode cX10_init 68 = .ok (.iastore, 1) := by decide +kernel
theorem dX10_init_69 : decode cX10_init 69 = .ok (.dup, 1) := by decide +kernel
theorem dX10_init_70 : decode cX10_init 70 = .ok (.iconst 1, 1) := by decide +kernel
theorem dX10_init_71 : decode cX10_init 71 = .ok (.bipush 10, 2) := by decide +kernel
theorem dX10_init_73 : decode cX10_init 73 = .ok (.iastore, 1) := by decide +kernel
theorem dX10_init_74 : decode cX10_init 74 = .ok (.dup, 1) := by decide +kernel
theorem dX10_init_75 : decode cX10_init 75 = .ok (.iconst 2, 1) := by decide +kernel
theorem dX10_init_76 : decode cX10_init 76 = .ok (.bipush 24, 2) := by decide +kernel
theorem dX10_init_78 : decode cX10_init 78 = .ok (.iastore, 1) := by decide +kernel
theorem dX10_init_79 : decode cX10_init 79 = .ok (.dup, 1) := by decide +kernel
theorem dX10_init_80 : decode cX10_init 80 = .ok (.iconst 3, 1) := by decide +kernel
theorem dX10_init_81 : decode cX10_init 81 = .ok (.bipush 22, 2) := by decide +kernel
theorem dX10_init_83 : decode cX10_init 83 = .ok (.iastore, 1) := by decide +kernel
theorem dX10_init_84 : decode cX10_init 84 = .ok (.dup, 1) := by decide +kernel
theorem dX10_init_85 : decode cX10_init 85 = .ok (.iconst 4, 1) := by decide +kernel
theorem dX10_init_86 : decode cX10_init 86 = .ok (.bipush 12, 2) := by decide +kernel
theorem dX10_init_88 : decode cX10_init 88 = .ok (.iastore, 1) := by decide +kernel
theorem dX10_init_89 : decode cX10_init 89 = .ok (.dup, 1) := by decide +kernel
theorem dX10_init_90 : decode cX10_init 90 = .ok (.iconst 5, 1) := by decide +kernel
theorem dX10_init_91 : decode cX10_init 91 = .ok (.iconst 2, 1) := by decide +kernel
theorem dX10_init_92 : decode cX10_init 92 = .ok (.iastore, 1) := by decide +kernel
theorem dX10_init_93 : decode cX10_init 93 = .ok (.dup, 1) := by decide +kernel
theorem dX10_init_94 : decode cX10_init 94 = .ok (.bipush 6, 2) := by decide +kernel
theorem dX10_init_96 : decode cX10_init 96 = .ok (.bipush 13, 2) := by decide +kernel
theorem dX10_init_98 : decode cX10_init 98 = .ok (.iastore, 1) := by decide +kernel
theorem dX10_init_99 : decode cX10_init 99 = .ok (.dup, 1) := by decide +kernel
theorem dX10_init_100 : decode cX10_init 100 = .ok (.bipush 7, 2) := by decide +kernel
theorem dX10_init_102 : decode cX10_init 102 = .ok (.bipush 14, 2) := by decide +kernel
theorem dX10_init_104 : decode cX10_init 104 = .ok (.iastore, 1) := by decide +kernel
theorem dX10_init_105 : decode cX10_init 105 = .ok (.dup, 1) := by decide +kernel
theorem dX10_init_106 : decode cX10_init 106 = .ok (.bipush 8, 2) := by decide +kernel
theorem dX10_init_108 : decode cX10_init 108 = .ok (.bipush 15, 2) := by decide +kernel
theorem dX10_init_110 : decode cX10_init 110 = .ok (.iastore, 1) := by decide +kernel
theorem dX10_init_111 : decode cX10_init 111 = .ok (.dup, 1) := by decide +kernel
theorem dX10_init_112 : decode cX10_init 112 = .ok (.bipush 9, 2) := by decide +kernel
theorem dX10_init_114 : decode cX10_init 114 = .ok (.bipush 7, 2) := by decide +kernel
theorem dX10_init_116 : decode cX10_init 116 = .ok (.iastore, 1) := by decide +kernel
theorem dX10_init_117 : decode cX10_init 117 = .ok (.dup, 1) := by decide +kernel
theorem dX10_init_118 : decode cX10_init 118 = .ok (.bipush 10, 2) := by decide +kernel
theorem dX10_init_120 : decode cX10_init 120 = .ok (.bipush 16, 2) := by decide +kernel
theorem dX10_init_122 : decode cX10_init 122 = .ok (.iastore, 1) := by decide +kernel
theorem dX10_init_123 : decode cX10_init 123 = .ok (.dup, 1) := by decide +kernel
theorem dX10_init_124 : decode cX10_init 124 = .ok (.bipush 11, 2) := by decide +kernel
theorem dX10_init_126 : decode cX10_init 126 = .ok (.bipush 17, 2) := by decide +kernel
theorem dX10_init_128 : decode cX10_init 128 = .ok (.iastore, 1) := by decide +kernel
theorem dX10_init_129 : decode cX10_init 129 = .ok (.dup, 1) := by decide +kernel
theorem dX10_init_130 : decode cX10_init 130 = .ok (.bipush 12, 2) := by decide +kernel
theorem dX10_init_132 : decode cX10_init 132 = .ok (.bipush 18, 2) := by decide +kernel
theorem dX10_init_134 : decode cX10_init 134 = .ok (.iastore, 1) := by decide +kernel
theorem dX10_init_135 : decode cX10_init 135 = .ok (.dup, 1) := by decide +kernel
theorem dX10_init_136 : decode cX10_init 136 = .ok (.bipush 13, 2) := by decide +kernel
theorem dX10_init_138 : decode cX10_init 138 = .ok (.bipush 26, 2) := by decide +kernel
theorem dX10_init_140 : decode cX10_init 140 = .ok (.iastore, 1) := by decide +kernel
theorem dX10_init_141 : decode cX10_init 141 = .ok (.dup, 1) := by decide +kernel
theorem dX10_init_142 : decode cX10_init 142 = .ok (.bipush 14, 2) := by decide +kernel
theorem dX10_init_144 : decode cX10_init 144 = .ok (.bipush 25, 2) := by decide +kernel
theorem dX10_init_146 : decode cX10_init 146 = .ok (.iastore, 1) := by decide +kernel
theorem dX10_init_147 : decode cX10_init 147 = .ok (.dup, 1) := by decide +kernel
theorem dX10_init_148 : decode cX10_init 148 = .ok (.bipush 15, 2) := by decide +kernel
theorem dX10_init_150 : decode cX10_init 150 = .ok (.bipush 8, 2) := by decide +kernel
theorem dX10_init_152 : decode cX10_init 152 = .ok (.iastore, 1) := by decide +kernel
theorem dX10_init_153 : decode cX10_init 153 = .ok (.dup, 1) := by decide +kernel
theorem dX10_init_154 : decode cX10_init 154 = .ok (.bipush 16, 2) := by decide +kernel
theorem dX10_init_156 : decode cX10_init 156 = .ok (.bipush 9, 2) := by decide +kernel
theorem dX10_init_158 : decode cX10_init 158 = .ok (.iastore, 1) := by decide +kernel
theorem dX10_init_159 : decode cX10_init 159 = .ok (.dup, 1) := by decide +kernel
theorem dX10_init_160 : decode cX10_init 160 = .ok (.bipush 17, 2) := by decide +kernel
theorem dX10_init_162 : decode cX10_init 162 = .ok (.iconst 0, 1) := by decide +kernel
theorem dX10_init_163 : decode cX10_init 163 = .ok (.iastore, 1) := by decide +kernel
theorem dX10_init_164 : decode cX10_init 164 = .ok (.dup, 1) := by decide +kernel
theorem dX10_init_165 : decode cX10_init 165 = .ok (.bipush 18, 2) := by decide +kernel
theorem dX10_init_167 : decode cX10_init 167 = .ok (.iconst 3, 1) := by decide +kernel
theorem dX10_init_168 : decode cX10_init 168 = .ok (.iastore, 1) := by decide +kernel
theorem dX10_init_169 : decode cX10_init 169 = .ok (.dup, 1) := by decide +kernel
theorem dX10_init_170 : decode cX10_init 170 = .ok (.bipush 19, 2) := by decide +kernel
theorem dX10_init_172 : decode cX10_init 172 = .ok (.bipush 11, 2) := by decide +kernel
theorem dX10_init_174 : decode cX10_init 174 = .ok (.iastore, 1) := by decide +kernel
theorem dX10_init_175 : decode cX10_init 175 = .ok (.dup, 1) := by decide +kernel
theorem dX10_init_176 : decode cX10_init 176 = .ok (.bipush 20, 2) := by decide +kernel
theorem dX10_init_178 : decode cX10_init 178 = .ok (.iconst 4, 1) := by decide +kernel
theorem dX10_init_179 : decode cX10_init 179 = .ok (.iastore, 1) := by decide +kernel
theorem dX10_init_180 : decode cX10_init 180 = .ok (.dup, 1) := by decide +kernel
theorem dX10_init_181 : decode cX10_init 181 = .ok (.bipush 21, 2) := by decide +kernel
theorem dX10_init_183 : decode cX10_init 183 = .ok (.bipush 6, 2) := by decide +kernel
theorem dX10_init_185 : decode cX10_init 185 = .ok (.iastore, 1) := by decide +kernel
theorem dX10_init_186 : decode cX10_init 186 = .ok (.dup, 1) := by decide +kernel
theorem dX10_init_187 : decode cX10_init 187 = .ok (.bipush 22, 2) := by decide +kernel
theorem dX10_init_189 : decode cX10_init 189 = .ok (.bipush 23, 2) := by decide +kernel
theorem dX10_init_191 : decode cX10_init 191 = .ok (.iastore, 1) := by decide +kernel
theorem dX10_init_192 : decode cX10_init 192 = .ok (.dup, 1) := by decide +kernel
theorem dX10_init_193 : decode cX10_init 193 = .ok (.bipush 23, 2) := by decide +kernel
theorem dX10_init_195 : decode cX10_init 195 = .ok (.iconst 1, 1) := by decide +kernel
theorem dX10_init_196 : decode cX10_init 196 = .ok (.iastore, 1) := by decide +kernel
theorem dX10_init_197 : decode cX10_init 197 = .ok (.dup, 1) := by decide +kernel
theorem dX10_init_198 : decode cX10_init 198 = .ok (.bipush 24, 2) := by decide +kernel
theorem dX10_init_200 : decode cX10_init 200 = .ok (.bipush 21, 2) := by decide +kernel
theorem dX10_init_202 : decode cX10_init 202 = .ok (.iastore, 1) := by decide +kernel
theorem dX10_init_203 : decode cX10_init 203 = .ok (.dup, 1) := by decide +kernel
theorem dX10_init_204 : decode cX10_init 204 = .ok (.bipush 25, 2) := by decide +kernel
theorem dX10_init_206 : decode cX10_init 206 = .ok (.iconst 5, 1) := by decide +kernel
theorem dX10_init_207 : decode cX10_init 207 = .ok (.iastore, 1) := by decide +kernel
theorem dX10_init_208 : decode cX10_init 208 = .ok (.dup, 1) := by decide +kernel
theorem dX10_init_209 : decode cX10_init 209 = .ok (.bipush 26, 2) := by decide +kernel
theorem dX10_init_211 : decode cX10_init 211 = .ok (.bipush 20, 2) := by decide +kernel
theorem dX10_init_213 : decode cX10_init 213 = .ok (.iastore, 1) := by decide +kernel
theorem dX10_init_214 : decode cX10_init 214 = .ok (.putfield 32, 3) := by decide +kernel
theorem dX10_init_217 : decode cX10_init 217 = .ok (.aload_n 0, 1) := by decide +kernel
theorem dX10_init_218 : decode cX10_init 218 = .ok (.sipush 401, 3) := by decide +kernel
theorem dX10_init_221 : decode cX10_init 221 = .ok (.newarray .long, 2) := by decide +kernel
theorem dX10_init_223 : decode cX10_init 223 = .ok (.putfield 35, 3) := by decide +kernel
theorem dX10_init_226 : decode cX10_init 226 = .ok (.aload_n 0, 1) := by decide +kernel
theorem dX10_init_227 : decode cX10_init 227 = .ok (.bipush 64, 2) := by decide +kernel
theorem dX10_init_229 : decode cX10_init 229 = .ok (.newarray .long, 2) := by decide +kernel
theorem dX10_init_231 : decode cX10_init 231 = .ok (.putfield 38, 3) := by decide +kernel
theorem dX10_init_234 : decode cX10_init 234 = .ok (.aload_n 0, 1) := by decide +kernel
theorem dX10_init_235 : decode cX10_init 235 = .ok (.bipush 64, 2) := by decide +kernel
theorem dX10_init_237 : decode cX10_init 237 = .ok (.newarray .long, 2) := by decide +kernel
theorem dX10_init_239 : decode cX10_init 239 = .ok (.putfield 41, 3) := by decide +kernel
theorem dX10_init_242 : decode cX10_init 242 = .ok (.return_, 1) := by decide +kernel
theorem dX10_thrown_0 : decode cX10_thrown 0 = .ok (.aload_n 0, 1) := by decide +kernel
theorem dX10_thrown_1 : decode cX10_thrown 1 = .ok (.getfield 44, 3) := by decide +kernel
theorem dX10_thrown_4 : decode cX10_thrown 4 = .ok (.ireturn, 1) := by decide +kernel
theorem dX10_goesWell_0 : decode cX10_goesWell 0 = .ok (.aload_n 0, 1) := by decide +kernel
theorem dX10_goesWell_1 : decode cX10_goesWell 1 = .ok (.iload_n 1, 1) := by decide +kernel
theorem dX10_goesWell_2 : decode cX10_goesWell 2 = .ok (.putfield 44, 3) := by decide +kernel
theorem dX10_goesWell_5 : decode cX10_goesWell 5 = .ok (.iload_n 1, 1) := by decide +kernel
theorem dX10_goesWell_6 : decode cX10_goesWell 6 = .ok (.ifCond .ne 7, 3) := by decide +kernel
theorem dX10_goesWell_9 : decode cX10_goesWell 9 = .ok (.iconst 1, 1) := by decide +kernel
theorem dX10_goesWell_10 : decode cX10_goesWell 10 = .ok (.goto 4, 3) := by decide +kernel
theorem dX10_goesWell_13 : decode cX10_goesWell 13 = .ok (.iconst 0, 1) := by decide +kernel
theorem dX10_goesWell_14 : decode cX10_goesWell 14 = .ok (.ireturn, 1) := by decide +kernel
theorem dX10_lengthOf_0 : decode cX10_lengthOf 0 = .ok (.iconst 0, 1) := by decide +kernel
theorem dX10_lengthOf_1 : decode cX10_lengthOf 1 = .ok (.istore_n 2, 1) := by decide +kernel
theorem dX10_lengthOf_2 : decode cX10_lengthOf 2 = .ok (.lload_n 0, 1) := by decide +kernel
theorem dX10_lengthOf_3 : decode cX10_lengthOf 3 = .ok (.lstore_n 3, 1) := by decide +kernel
theorem dX10_lengthOf_4 : decode cX10_lengthOf 4 = .ok (.lload_n 3, 1) := by decide +kernel
theorem dX10_lengthOf_5 : decode cX10_lengthOf 5 = .ok (.lconst 0, 1) := by decide +kernel
theorem dX10_lengthOf_6 : decode cX10_lengthOf 6 = .ok (.lcmp, 1) := by decide +kernel
theorem dX10_lengthOf_7 : decode cX10_lengthOf 7 = .ok (.ifCond .le 15, 3) := by decide +kernel
theorem dX10_lengthOf_10 : decode cX10_lengthOf 10 = .ok (.iinc 2 1, 3) := by decide +kernel
theorem dX10_lengthOf_13 : decode cX10_lengthOf 13 = .ok (.lload_n 3, 1) := by decide +kernel
theorem dX10_lengthOf_14 : decode cX10_lengthOf 14 = .ok (.ldc2_w 48, 3) := by decide +kernel
theorem dX10_lengthOf_17 : decode cX10_lengthOf 17 = .ok (.ldiv, 1) := by decide +kernel
theorem dX10_lengthOf_18 : decode cX10_lengthOf 18 = .ok (.lstore_n 3, 1) := by decide +kernel
theorem dX10_lengthOf_19 : decode cX10_lengthOf 19 = .ok (.goto (-15), 3) := by decide +kernel
theorem dX10_lengthOf_22 : decode cX10_lengthOf 22 = .ok (.iload_n 2, 1) := by decide +kernel
theorem dX10_lengthOf_23 : decode cX10_lengthOf 23 = .ok (.ireturn, 1) := by decide +kernel
set_option maxRecDepth 20000 in
theorem ggX10_isWord_X10_lengthOf : GoodIn wsX10_isWord wsX10_lengthOf := goodIn_r _ [6, 1] (by decide +kernel) (by decide +kernel)
set_option maxRecDepth 20000 in
theorem gX10_isWord_X10_lengthOf : GoodIn wsX10_isWord (va_wsS RX10 50 yX10_lengthOf wsX10_lengthOf) := goodIn_app (goodIn_of _ (by decide +kernel)) ggX10_isWord_X10_lengthOf
theorem dX10_isWord_0 : decode cX10_isWord 0 = .ok (.lload_n 0, 1) := by decide +kernel
theorem dX10_isWord_1 : decode cX10_isWord 1 = .ok (.lconst 0, 1) := by decide +kernel
theorem dX10_isWord_2 : decode cX10_isWord 2 = .ok (.lcmp, 1) := by decide +kernel
theorem dX10_isWord_3 : decode cX10_isWord 3 = .ok (.ifCond .le 16, 3) := by decide +kernel
theorem dX10_isWord_6 : decode cX10_isWord 6 = .ok (.lload_n 0, 1) := by decide +kernel
theorem dX10_isWord_7 : decode cX10_isWord 7 = .ok (.invokestatic 50, 3) := by decide +kernel
theorem dX10_isWord_10 : decode cX10_isWord 10 = .ok (.bipush 10, 2) := by decide +kernel
theorem dX10_isWord_12 : decode cX10_isWord 12 = .ok (.if_icmp .gt 7, 3) := by decide +kernel
theorem dX10_isWord_15 : decode cX10_isWord 15 = .ok (.iconst 1, 1) := by decide +kernel
theorem dX10_isWord_16 : decode cX10_isWord 16 = .ok (.goto 4, 3) := by decide +kernel
theorem dX10_isWord_19 : decode cX10_isWord 19 = .ok (.iconst 0, 1) := by decide +kernel
theorem dX10_isWord_20 : decode cX10_isWord 20 = .ok (.istore_n 2, 1) := by decide +kernel
theorem dX10_isWord_21 : decode cX10_isWord 21 = .ok (.lload_n 0, 1) := by decide +kernel
theorem dX10_isWord_22 : decode cX10_isWord 22 = .ok (.lstore_n 3, 1) := by decide +kernel
theorem dX10_isWord_23 : decode cX10_isWord 23 = .ok (.lload_n 3, 1) := by decide +kernel
theorem dX10_isWord_24 : decode cX10_isWord 24 = .ok (.lconst 0, 1) := by decide +kernel
theorem dX10_isWord_25 : decode cX10_isWord 25 = .ok (.lcmp, 1) := by decide +kernel
theorem dX10_isWord_26 : decode cX10_isWord 26 = .ok (.ifCond .le 44, 3) := by decide +kernel
theorem dX10_isWord_29 : decode cX10_isWord 29 = .ok (.iload_n 2, 1) := by decide +kernel
theorem dX10_isWord_30 : decode cX10_isWord 30 = .ok (.ifCond .eq 29, 3) := by decide +kernel
theorem dX10_isWord_33 : decode cX10_isWord 33 = .ok (.lload_n 3, 1) := by decide +kernel
theorem dX10_isWord_34 : decode cX10_isWord 34 = .ok (.ldc2_w 48, 3) := by decide +kernel
theorem dX10_isWord_37 : decode cX10_isWord 37 = .ok (.lrem, 1) := by decide +kernel
theorem dX10_isWord_38 : decode cX10_isWord 38 = .ok (.lconst 1, 1) := by decide +kernel
theorem dX10_isWord_39 : decode cX10_isWord 39 = .ok (.lcmp, 1) := by decide +kernel
theorem dX10_isWord_40 : decode cX10_isWord 40 = .ok (.ifCond .lt 19, 3) := by decide +kernel
theorem dX10_isWord_43 : decode cX10_isWord 43 = .ok (.lload_n 3, 1) := by decide +kernel
theorem dX10_isWord_44 : decode cX10_isWord 44 = .ok (.ldc2_w 48, 3) := by decide +kernel
theorem dX10_isWord_47 : decode cX10_isWord 47 = .ok (.lrem, 1) := by decide +kernel
theorem dX10_isWord_48 : decode cX10_isWord 48 = .ok (.ldc2_w 54, 3) := by decide +kernel
theorem dX10_isWord_51 : decode cX10_isWord 51 = .ok (.lcmp, 1) := by decide +kernel
theorem dX10_isWord_52 : decode cX10_isWord 52 = .ok (.ifCond .gt 7, 3) := by decide +kernel
theorem dX10_isWord_55 : decode cX10_isWord 55 = .ok (.iconst 1, 1) := by decide +kernel
theorem dX10_isWord_56 : decode cX10_isWord 56 = .ok (.goto 4, 3) := by decide +kernel
theorem dX10_isWord_59 : decode cX10_isWord 59 = .ok (.iconst 0, 1) := by decide +kernel
theorem dX10_isWord_60 : decode cX10_isWord 60 = .ok (.istore_n 2, 1) := by decide +kernel
theorem dX10_isWord_61 : decode cX10_isWord 61 = .ok (.lload_n 3, 1) := by decide +kernel
theorem dX10_isWord_62 : decode cX10_isWord 62 = .ok (.ldc2_w 48, 3) := by decide +kernel
theorem dX10_isWord_65 : decode cX10_isWord 65 = .ok (.ldiv, 1) := by decide +kernel
theorem dX10_isWord_66 : decode cX10_isWord 66 = .ok (.lstore_n 3, 1) := by decide +kernel
theorem dX10_isWord_67 : decode cX10_isWord 67 = .ok (.goto (-44), 3) := by decide +kernel
theorem dX10_isWord_70 : decode cX10_isWord 70 = .ok (.iload_n 2, 1) := by decide +kernel
theorem dX10_isWord_71 : decode cX10_isWord 71 = .ok (.ireturn, 1) := by decide +kernel
set_option maxRecDepth 20000 in
theorem ggX10_beginning_X10_lengthOf : GoodIn wsX10_beginning wsX10_lengthOf := goodIn_r _ [5, 1] (by decide +kernel) (by decide +kernel)
set_option maxRecDepth 20000 in
theorem gX10_beginning_X10_lengthOf : GoodIn wsX10_beginning (va_wsS RX10 50 yX10_lengthOf wsX10_lengthOf) := goodIn_app (goodIn_of _ (by decide +kernel)) ggX10_beginning_X10_lengthOf
theorem dX10_beginning_0 : decode cX10_beginning 0 = .ok (.lload_n 0, 1) := by decide +kernel
theorem dX10_beginning_1 : decode cX10_beginning 1 = .ok (.lstore_n 3, 1) := by decide +kernel
theorem dX10_beginning_2 : decode cX10_beginning 2 = .ok (.lload_n 0, 1) := by decide +kernel
theorem dX10_beginning_3 : decode cX10_beginning 3 = .ok (.invokestatic 50, 3) := by decide +kernel
theorem dX10_beginning_6 : decode cX10_beginning 6 = .ok (.istore 5, 2) := by decide +kernel
theorem dX10_beginning_8 : decode cX10_beginning 8 = .ok (.iload 5, 2) := by decide +kernel
theorem dX10_beginning_10 : decode cX10_beginning 10 = .ok (.iload_n 2, 1) := by decide +kernel
theorem dX10_beginning_11 : decode cX10_beginning 11 = .ok (.if_icmp .le 15, 3) := by decide +kernel
theorem dX10_beginning_14 : decode cX10_beginning 14 = .ok (.lload_n 3, 1) := by decide +kernel
theorem dX10_beginning_15 : decode cX10_beginning 15 = .ok (.ldc2_w 48, 3) := by decide +kernel
theorem dX10_beginning_18 : decode cX10_beginning 18 = .ok (.ldiv, 1) := by decide +kernel
theorem dX10_beginning_19 : decode cX10_beginning 19 = .ok (.lstore_n 3, 1) := by decide +kernel
theorem dX10_beginning_20 : decode cX10_beginning 20 = .ok (.iinc 5 (-1), 3) := by decide +kernel
theorem dX10_beginning_23 : decode cX10_beginning 23 = .ok (.goto (-15), 3) := by decide +kernel
theorem dX10_beginning_26 : decode cX10_beginning 26 = .ok (.lload_n 3, 1) := by decide +kernel
theorem dX10_beginning_27 : decode cX10_beginning 27 = .ok (.lreturn, 1) := by decide +kernel
set_option maxRecDepth 20000 in
theorem ggX10_isAhead_X10_lengthOf : GoodIn wsX10_isAhead wsX10_lengthOf := goodIn_r _ [5, 1] (by decide +kernel) (by decide +kernel)
set_option maxRecDepth 20000 in
theorem gX10_isAhead_X10_lengthOf : GoodIn wsX10_isAhead (va_wsS RX10 50 yX10_lengthOf wsX10_lengthOf) := goodIn_app (goodIn_of _ (by decide +kernel)) ggX10_isAhead_X10_lengthOf
theorem dX10_isAhead_0 : decode cX10_isAhead 0 = .ok (.lload_n 0, 1) := by decide +kernel
theorem dX10_isAhead_1 : decode cX10_isAhead 1 = .ok (.lstore 4, 2) := by decide +kernel
theorem dX10_isAhead_3 : decode cX10_isAhead 3 = .ok (.lload_n 2, 1) := by decide +kernel
theorem dX10_isAhead_4 : decode cX10_isAhead 4 = .ok (.lstore 6, 2) := by decide +kernel
theorem dX10_isAhead_6 : decode cX10_isAhead 6 = .ok (.lload_n 0, 1) := by decide +kernel
theorem dX10_isAhead_7 : decode cX10_isAhead 7 = .ok (.invokestatic 50, 3) := by decide +kernel
theorem dX10_isAhead_10 : decode cX10_isAhead 10 = .ok (.istore 8, 2) := by decide +kernel
theorem dX10_isAhead_12 : decode cX10_isAhead 12 = .ok (.iload 8, 2) := by decide +kernel
theorem dX10_isAhead_14 : decode cX10_isAhead 14 = .ok (.bipush 10, 2) := by decide +kernel
theorem dX10_isAhead_16 : decode cX10_isAhead 16 = .ok (.if_icmp .ge 17, 3) := by decide +kernel
theorem dX10_isAhead_19 : decode cX10_isAhead 19 = .ok (.lload 4, 2) := by decide +kernel
theorem dX10_isAhead_21 : decode cX10_isAhead 21 = .ok (.ldc2_w 48, 3) := by decide +kernel
theorem dX10_isAhead_24 : decode cX10_isAhead 24 = .ok (.lmul, 1) := by decide +kernel
theorem dX10_isAhead_25 : decode cX10_isAhead 25 = .ok (.lstore 4, 2) := by decide +kernel
theorem dX10_isAhead_27 : decode cX10_isAhead 27 = .ok (.iinc 8 1, 3) := by decide +kernel
theorem dX10_isAhead_30 : decode cX10_isAhead 30 = .ok (.goto (-18), 3) := by decide +kernel
theorem dX10_isAhead_33 : decode cX10_isAhead 33 = .ok (.lload_n 2, 1) := by decide +kernel
theorem dX10_isAhead_34 : decode cX10_isAhead 34 = .ok (.invokestatic 50, 3) := by decide +kernel
theorem dX10_isAhead_37 : decode cX10_isAhead 37 = .ok (.istore 8, 2) := by decide +kernel
theorem dX10_isAhead_39 : decode cX10_isAhead 39 = .ok (.iload 8, 2) := by decide +kernel
theorem dX10_isAhead_41 : decode cX10_isAhead 41 = .ok (.bipush 10, 2) := by decide +kernel
theorem dX10_isAhead_43 : decode cX10_isAhead 43 = .ok (.if_icmp .ge 17, 3) := by decide +kernel
theorem dX10_isAhead_46 : decode cX10_isAhead 46 = .ok (.lload 6, 2) := by decide +kernel
theorem dX10_isAhead_48 : decode cX10_isAhead 48 = .ok (.ldc2_w 48, 3) := by decide +kernel
theorem dX10_isAhead_51 : decode cX10_isAhead 51 = .ok (.lmul, 1) := by decide +kernel
theorem dX10_isAhead_52 : decode cX10_isAhead 52 = .ok (.lstore 6, 2) := by decide +kernel
theorem dX10_isAhead_54 : decode cX10_isAhead 54 = .ok (.iinc 8 1, 3) := by decide +kernel
theorem dX10_isAhead_57 : decode cX10_isAhead 57 = .ok (.goto (-18), 3) := by decide +kernel
theorem dX10_isAhead_60 : decode cX10_isAhead 60 = .ok (.lload 4, 2) := by decide +kernel
theorem dX10_isAhead_62 : decode cX10_isAhead 62 = .ok (.lload 6, 2) := by decide +kernel
theorem dX10_isAhead_64 : decode cX10_isAhead 64 = .ok (.lcmp, 1) := by decide +kernel
theorem dX10_isAhead_65 : decode cX10_isAhead 65 = .ok (.ifCond .ge 7, 3) := by decide +kernel
theorem dX10_isAhead_68 : decode cX10_isAhead 68 = .ok (.iconst 1, 1) := by decide +kernel
theorem dX10_isAhead_69 : decode cX10_isAhead 69 = .ok (.goto 4, 3) := by decide +kernel
theorem dX10_isAhead_72 : decode cX10_isAhead 72 = .ok (.iconst 0, 1) := by decide +kernel
theorem dX10_isAhead_73 : decode cX10_isAhead 73 = .ok (.ireturn, 1) := by decide +kernel
set_option maxRecDepth 20000 in
theorem ggX10_layOne_X10_lengthOf : GoodIn wsX10_layOne wsX10_lengthOf := goodIn_r _ [7, 3] (by decide +kernel) (by decide +kernel)
set_option maxRecDepth 20000 in
theorem gX10_layOne_X10_lengthOf : GoodIn wsX10_layOne (va_wsS RX10 50 yX10_lengthOf wsX10_lengthOf) := goodIn_app (goodIn_of _ (by decide +kernel)) ggX10_layOne_X10_lengthOf
theorem dX10_layOne_0 : decode cX10_layOne 0 = .ok (.aload_n 0, 1) := by decide +kernel
theorem dX10_layOne_1 : decode cX10_layOne 1 = .ok (.lload_n 1, 1) := by decide +kernel
theorem dX10_layOne_2 : decode cX10_layOne 2 = .ok (.invokestatic 50, 3) := by decide +kernel
theorem dX10_layOne_5 : decode cX10_layOne 5 = .ok (.putfield 56, 3) := by decide +kernel
theorem dX10_layOne_8 : decode cX10_layOne 8 = .ok (.lload_n 1, 1) := by decide +kernel
theorem dX10_layOne_9 : decode cX10_layOne 9 = .ok (.lstore_n 3, 1) := by decide +kernel
theorem dX10_layOne_10 : decode cX10_layOne 10 = .ok (.aload_n 0, 1) := by decide +kernel
theorem dX10_layOne_11 : decode cX10_layOne 11 = .ok (.getfield 56, 3) := by decide +kernel
theorem dX10_layOne_14 : decode cX10_layOne 14 = .ok (.istore 5, 2) := by decide +kernel
theorem dX10_layOne_16 : decode cX10_layOne 16 = .ok (.iload 5, 2) := by decide +kernel
theorem dX10_layOne_18 : decode cX10_layOne 18 = .ok (.ifCond .le 28, 3) := by decide +kernel
theorem dX10_layOne_21 : decode cX10_layOne 21 = .ok (.aload_n 0, 1) := by decide +kernel
theorem dX10_layOne_22 : decode cX10_layOne 22 = .ok (.getfield 23, 3) := by decide +kernel
theorem dX10_layOne_25 : decode cX10_layOne 25 = .ok (.iload 5, 2) := by decide +kernel
theorem dX10_layOne_27 : decode cX10_layOne 27 = .ok (.lload_n 3, 1) := by decide +kernel
theorem dX10_layOne_28 : decode cX10_layOne 28 = .ok (.ldc2_w 48, 3) := by decide +kernel
theorem dX10_layOne_31 : decode cX10_layOne 31 = .ok (.lrem, 1) := by decide +kernel
theorem dX10_layOne_32 : decode cX10_layOne 32 = .ok (.l2i, 1) := by decide +kernel
theorem dX10_layOne_33 : decode cX10_layOne 33 = .ok (.iastore, 1) := by decide +kernel
theorem dX10_layOne_34 : decode cX10_layOne 34 = .ok (.lload_n 3, 1) := by decide +kernel
theorem dX10_layOne_35 : decode cX10_layOne 35 = .ok (.ldc2_w 48, 3) := by decide +kernel
theorem dX10_layOne_38 : decode cX10_layOne 38 = .ok (.ldiv, 1) := by decide +kernel
theorem dX10_layOne_39 : decode cX10_layOne 39 = .ok (.lstore_n 3, 1) := by decide +kernel
theorem dX10_layOne_40 : decode cX10_layOne 40 = .ok (.iinc 5 (-1), 3) := by decide +kernel
theorem dX10_layOne_43 : decode cX10_layOne 43 = .ok (.goto (-27), 3) := by decide +kernel
theorem dX10_layOne_46 : decode cX10_layOne 46 = .ok (.return_, 1) := by decide +kernel
set_option maxRecDepth 20000 in
theorem ggX10_layOther_X10_lengthOf : GoodIn wsX10_layOther wsX10_lengthOf := goodIn_r _ [7, 3] (by decide +kernel) (by decide +kernel)
set_option maxRecDepth 20000 in
theorem gX10_layOther_X10_lengthOf : GoodIn wsX10_layOther (va_wsS RX10 50 yX10_lengthOf wsX10_lengthOf) := goodIn_app (goodIn_of _ (by decide +kernel)) ggX10_layOther_X10_lengthOf
theorem dX10_layOther_0 : decode cX10_layOther 0 = .ok (.aload_n 0, 1) := by decide +kernel
theorem dX10_layOther_1 : decode cX10_layOther 1 = .ok (.lload_n 1, 1) := by decide +kernel
theorem dX10_layOther_2 : decode cX10_layOther 2 = .ok (.invokestatic 50, 3) := by decide +kernel
theorem dX10_layOther_5 : decode cX10_layOther 5 = .ok (.putfield 59, 3) := by decide +kernel
theorem dX10_layOther_8 : decode cX10_layOther 8 = .ok (.lload_n 1, 1) := by decide +kernel
theorem dX10_layOther_9 : decode cX10_layOther 9 = .ok (.lstore_n 3, 1) := by decide +kernel
theorem dX10_layOther_10 : decode cX10_layOther 10 = .ok (.aload_n 0, 1) := by decide +kernel
theorem dX10_layOther_11 : decode cX10_layOther 11 = .ok (.getfield 59, 3) := by decide +kernel
theorem dX10_layOther_14 : decode cX10_layOther 14 = .ok (.istore 5, 2) := by decide +kernel
theorem dX10_layOther_16 : decode cX10_layOther 16 = .ok (.iload 5, 2) := by decide +kernel
theorem dX10_layOther_18 : decode cX10_layOther 18 = .ok (.ifCond .le 28, 3) := by decide +kernel
theorem dX10_layOther_21 : decode cX10_layOther 21 = .ok (.aload_n 0, 1) := by decide +kernel
theorem dX10_layOther_22 : decode cX10_layOther 22 = .ok (.getfield 26, 3) := by decide +kernel
theorem dX10_layOther_25 : decode cX10_layOther 25 = .ok (.iload 5, 2) := by decide +kernel
theorem dX10_layOther_27 : decode cX10_layOther 27 = .ok (.lload_n 3, 1) := by decide +kernel
theorem dX10_layOther_28 : decode cX10_layOther 28 = .ok (.ldc2_w 48, 3) := by decide +kernel
theorem dX10_layOther_31 : decode cX10_layOther 31 = .ok (.lrem, 1) := by decide +kernel
theorem dX10_layOther_32 : decode cX10_layOther 32 = .ok (.l2i, 1) := by decide +kernel
theorem dX10_layOther_33 : decode cX10_layOther 33 = .ok (.iastore, 1) := by decide +kernel
theorem dX10_layOther_34 : decode cX10_layOther 34 = .ok (.lload_n 3, 1) := by decide +kernel
theorem dX10_layOther_35 : decode cX10_layOther 35 = .ok (.ldc2_w 48, 3) := by decide +kernel
theorem dX10_layOther_38 : decode cX10_layOther 38 = .ok (.ldiv, 1) := by decide +kernel
theorem dX10_layOther_39 : decode cX10_layOther 39 = .ok (.lstore_n 3, 1) := by decide +kernel
theorem dX10_layOther_40 : decode cX10_layOther 40 = .ok (.iinc 5 (-1), 3) := by decide +kernel
theorem dX10_layOther_43 : decode cX10_layOther 43 = .ok (.goto (-27), 3) := by decide +kernel
theorem dX10_layOther_46 : decode cX10_layOther 46 = .ok (.return_, 1) := by decide +kernel
theorem dX10_lesser_0 : decode cX10_lesser 0 = .ok (.iload_n 0, 1) := by decide +kernel
theorem dX10_lesser_1 : decode cX10_lesser 1 = .ok (.iload_n 1, 1) := by decide +kernel
theorem dX10_lesser_2 : decode cX10_lesser 2 = .ok (.if_icmp .ge 7, 3) := by decide +kernel
theorem dX10_lesser_5 : decode cX10_lesser 5 = .ok (.iload_n 0, 1) := by decide +kernel
theorem dX10_lesser_6 : decode cX10_lesser 6 = .ok (.goto 4, 3) := by decide +kernel
theorem dX10_lesser_9 : decode cX10_lesser 9 = .ok (.iload_n 1, 1) := by decide +kernel
theorem dX10_lesser_10 : decode cX10_lesser 10 = .ok (.ireturn, 1) := by decide +kernel
set_option maxRecDepth 20000 in
theorem ggX10_layDistances_X10_layOne : GoodIn wsX10_layDistances wsX10_layOne := goodIn_r _ [10, 1, 4, 11, 12, 13, 9, 14, 22, 23, 24, 25, 26, 27, 28, 29, 30, 31, 32, 33, 34, 35, 36] (by decide +kernel) (by decide +kernel)
set_option maxRecDepth 20000 in
theorem gX10_layDistances_X10_layOne : GoodIn wsX10_layDistances (wsV RX10 62 RX10 yX10_layOne wsX10_layOne) := goodIn_app (goodIn_of _ (by decide +kernel)) ggX10_layDistances_X10_layOne
set_option maxRecDepth 20000 in
theorem ggX10_layDistances_X10_layOther : GoodIn wsX10_layDistances wsX10_layOther := goodIn_r _ [18, 2, 5, 11, 12, 13, 9, 14, 22, 23, 24, 25, 26, 27, 28, 29, 30, 31, 32, 33, 34, 35, 36] (by decide +kernel) (by decide +kernel)
set_option maxRecDepth 20000 in
theorem gX10_layDistances_X10_layOther : GoodIn wsX10_layDistances (wsV RX10 66 RX10 yX10_layOther wsX10_layOther) := goodIn_app (goodIn_of _ (by decide +kernel)) ggX10_layDistances_X10_layOther
set_option maxRecDepth 20000 in
theorem ggX10_layDistances_X10_lesser : GoodIn wsX10_layDistances wsX10_lesser := goodIn_r _ [21] (by decide +kernel) (by decide +kernel)
set_option maxRecDepth 20000 in
theorem gX10_layDistances_X10_lesser : GoodIn wsX10_layDistances (va_wsS RX10 69 yX10_lesser wsX10_lesser) := goodIn_app (goodIn_of _ (by decide +kernel)) ggX10_layDistances_X10_lesser
theorem dX10_layDistances_0 : decode cX10_layDistances 0 = .ok (.aload_n 0, 1) := by decide +kernel
theorem dX10_layDistances_1 : decode cX10_layDistances 1 = .ok (.lload_n 1, 1) := by decide +kernel
theorem dX10_layDistances_2 : decode cX10_layDistances 2 = .ok (.invokevirtual 62, 3) := by decide +kernel
theorem dX10_layDistances_5 : decode cX10_layDistances 5 = .ok (.aload_n 0, 1) := by decide +kernel
theorem dX10_layDistances_6 : decode cX10_layDistances 6 = .ok (.lload_n 3, 1) := by decide +kernel
theorem dX10_layDistances_7 : decode cX10_layDistances 7 = .ok (.invokevirtual 66, 3) := by decide +kernel
theorem dX10_layDistances_10 : decode cX10_layDistances 10 = .ok (.iconst 0, 1) := by decide +kernel
theorem dX10_layDistances_11 : decode cX10_layDistances 11 = .ok (.istore 5, 2) := by decide +kernel
theorem dX10_layDistances_13 : decode cX10_layDistances 13 = .ok (.iload 5, 2) := by decide +kernel
theorem dX10_layDistances_15 : decode cX10_layDistances 15 = .ok (.aload_n 0, 1) := by decide +kernel
theorem dX10_layDistances_16 : decode cX10_layDistances 16 = .ok (.getfield 56, 3) := by decide +kernel
theorem dX10_layDistances_19 : decode cX10_layDistances 19 = .ok (.if_icmp .gt 143, 3) := by decide +kernel
theorem dX10_layDistances_22 : decode cX10_layDistances 22 = .ok (.iconst 0, 1) := by decide +kernel
theorem dX10_layDistances_23 : decode cX10_layDistances 23 = .ok (.istore 6, 2) := by decide +kernel
theorem dX10_layDistances_25 : decode cX10_layDistances 25 = .ok (.iload 6, 2) := by decide +kernel
theorem dX10_layDistances_27 : decode cX10_layDistances 27 = .ok (.aload_n 0, 1) := by decide +kernel
theorem dX10_layDistances_28 : decode cX10_layDistances 28 = .ok (.getfield 59, 3) := by decide +kernel
theorem dX10_layDistances_31 : decode cX10_layDistances 31 = .ok (.if_icmp .gt 125, 3) := by decide +kernel
theorem dX10_layDistances_34 : decode cX10_layDistances 34 = .ok (.iload 5, 2) := by decide +kernel
theorem dX10_layDistances_36 : decode cX10_layDistances 36 = .ok (.iload 6, 2) := by decide +kernel
theorem dX10_layDistances_38 : decode cX10_layDistances 38 = .ok (.iadd, 1) := by decide +kernel
theorem dX10_layDistances_39 : decode cX10_layDistances 39 = .ok (.istore 7, 2) := by decide +kernel
theorem dX10_layDistances_41 : decode cX10_layDistances 41 = .ok (.iload 5, 2) := by decide +kernel
theorem dX10_layDistances_43 : decode cX10_layDistances 43 = .ok (.ifCond .le 92, 3) := by decide +kernel
theorem dX10_layDistances_46 : decode cX10_layDistances 46 = .ok (.iload 6, 2) := by decide +kernel
theorem dX10_layDistances_48 : decode cX10_layDistances 48 = .ok (.ifCond .le 87, 3) := by decide +kernel
theorem dX10_layDistances_51 : decode cX10_layDistances 51 = .ok (.aload_n 0, 1) := by decide +kernel
theorem dX10_layDistances_52 : decode cX10_layDistances 52 = .ok (.getfield 29, 3) := by decide +kernel
theorem dX10_layDistances_55 : decode cX10_layDistances 55 = .ok (.bipush 11, 2) := by decide +kernel
theorem dX10_layDistances_57 : decode cX10_layDistances 57 = .ok (.iload 5, 2) := by decide +kernel
theorem dX10_layDistances_59 : decode cX10_layDistances 59 = .ok (.iconst 1, 1) := by decide +kernel
theorem dX10_layDistances_60 : decode cX10_layDistances 60 = .ok (.isub, 1) := by decide +kernel
theorem dX10_layDistances_61 : decode cX10_layDistances 61 = .ok (.imul, 1) := by decide +kernel
theorem dX10_layDistances_62 : decode cX10_layDistances 62 = .ok (.iload 6, 2) := by decide +kernel
theorem dX10_layDistances_64 : decode cX10_layDistances 64 = .ok (.iadd, 1) := by decide +kernel
theorem dX10_layDistances_65 : decode cX10_layDistances 65 = .ok (.iaload, 1) := by decide +kernel
theorem dX10_layDistances_66 : decode cX10_layDistances 66 = .ok (.aload_n 0, 1) := by decide +kernel
theorem dX10_layDistances_67 : decode cX10_layDistances 67 = .ok (.getfield 29, 3) := by decide +kernel
theorem dX10_layDistances_70 : decode cX10_layDistances 70 = .ok (.bipush 11, 2) := by decide +kernel
theorem dX10_layDistances_72 : decode cX10_layDistances 72 = .ok (.iload 5, 2) := by decide +kernel
theorem dX10_layDistances_74 : decode cX10_layDistances 74 = .ok (.imul, 1) := by decide +kernel
theorem dX10_layDistances_75 : decode cX10_layDistances 75 = .ok (.iload 6, 2) := by decide +kernel
theorem dX10_layDistances_77 : decode cX10_layDistances 77 = .ok (.iadd, 1) := by decide +kernel
theorem dX10_layDistances_78 : decode cX10_layDistances 78 = .ok (.iconst 1, 1) := by decide +kernel
theorem dX10_layDistances_79 : decode cX10_layDistances 79 = .ok (.isub, 1) := by decide +kernel
theorem dX10_layDistances_80 : decode cX10_layDistances 80 = .ok (.iaload, 1) := by decide +kernel
theorem dX10_layDistances_81 : decode cX10_layDistances 81 = .ok (.invokestatic 69, 3) := by decide +kernel
theorem dX10_layDistances_84 : decode cX10_layDistances 84 = .ok (.iconst 1, 1) := by decide +kernel
theorem dX10_layDistances_85 : decode cX10_layDistances 85 = .ok (.iadd, 1) := by decide +kernel
theorem dX10_layDistances_86 : decode cX10_layDistances 86 = .ok (.istore 7, 2) := by decide +kernel
theorem dX10_layDistances_88 : decode cX10_layDistances 88 = .ok (.iload 7, 2) := by decide +kernel
theorem dX10_layDistances_90 : decode cX10_layDistances 90 = .ok (.aload_n 0, 1) := by decide +kernel
theorem dX10_layDistances_91 : decode cX10_layDistances 91 = .ok (.getfield 29, 3) := by decide +kernel
theorem dX10_layDistances_94 : decode cX10_layDistances 94 = .ok (.bipush 11, 2) := by decide +kernel
theorem dX10_layDistances_96 : decode cX10_layDistances 96 = .ok (.iload 5, 2) := by decide +kernel
theorem dX10_layDistances_98 : decode cX10_layDistances 98 = .ok (.iconst 1, 1) := by decide +kernel
theorem dX10_layDistances_99 : decode cX10_layDistances 99 = .ok (.isub, 1) := by decide +kernel
theorem dX10_layDistances_100 : decode cX10_layDistances 100 = .ok (.imul, 1) := by decide +kernel
theorem dX10_layDistances_101 : decode cX10_layDistances 101 = .ok (.iload 6, 2) := by decide +kernel
theorem dX10_layDistances_103 : decode cX10_layDistances 103 = .ok (.iadd, 1) := by decide +kernel
theorem dX10_layDistances_104 : decode cX10_layDistances 104 = .ok (.iconst 1, 1) := by decide +kernel
theorem dX10_layDistances_105 : decode cX10_layDistances 105 = .ok (.isub, 1) := by decide +kernel
theorem dX10_layDistances_106 : decode cX10_layDistances 106 = .ok (.iaload, 1) := by decide +kernel
theorem dX10_layDistances_107 : decode cX10_layDistances 107 = .ok (.aload_n 0, 1) := by decide +kernel
theorem dX10_layDistances_108 : decode cX10_layDistances 108 = .ok (.getfield 23, 3) := by decide +kernel
theorem dX10_layDistances_111 : decode cX10_layDistances 111 = .ok (.iload 5, 2) := by decide +kernel
theorem dX10_layDistances_113 : decode cX10_layDistances 113 = .ok (.iaload, 1) := by decide +kernel
theorem dX10_layDistances_114 : decode cX10_layDistances 114 = .ok (.aload_n 0, 1) := by decide +kernel
theorem dX10_layDistances_115 : decode cX10_layDistances 115 = .ok (.getfield 26, 3) := by decide +kernel
theorem dX10_layDistances_118 : decode cX10_layDistances 118 = .ok (.iload 6, 2) := by decide +kernel
theorem dX10_layDistances_120 : decode cX10_layDistances 120 = .ok (.iaload, 1) := by decide +kernel
theorem dX10_layDistances_121 : decode cX10_layDistances 121 = .ok (.if_icmp .ne 7, 3) := by decide +kernel
theorem dX10_layDistances_124 : decode cX10_layDistances 124 = .ok (.iconst 0, 1) := by decide +kernel
theorem dX10_layDistances_125 : decode cX10_layDistances 125 = .ok (.goto 4, 3) := by decide +kernel
theorem dX10_layDistances_128 : decode cX10_layDistances 128 = .ok (.iconst 1, 1) := by decide +kernel
theorem dX10_layDistances_129 : decode cX10_layDistances 129 = .ok (.iadd, 1) := by decide +kernel
theorem dX10_layDistances_130 : decode cX10_layDistances 130 = .ok (.invokestatic 69, 3) := by decide +kernel
theorem dX10_layDistances_133 : decode cX10_layDistances 133 = .ok (.istore 7, 2) := by decide +kernel
theorem dX10_layDistances_135 : decode cX10_layDistances 135 = .ok (.aload_n 0, 1) := by decide +kernel
theorem dX10_layDistances_136 : decode cX10_layDistances 136 = .ok (.getfield 29, 3) := by decide +kernel
theorem dX10_layDistances_139 : decode cX10_layDistances 139 = .ok (.bipush 11, 2) := by decide +kernel
theorem dX10_layDistances_141 : decode cX10_layDistances 141 = .ok (.iload 5, 2) := by decide +kernel
theorem dX10_layDistances_143 : decode cX10_layDistances 143 = .ok (.imul, 1) := by decide +kernel
theorem dX10_layDistances_144 : decode cX10_layDistances 144 = .ok (.iload 6, 2) := by decide +kernel
theorem dX10_layDistances_146 : decode cX10_layDistances 146 = .ok (.iadd, 1) := by decide +kernel
theorem dX10_layDistances_147 : decode cX10_layDistances 147 = .ok (.iload 7, 2) := by decide +kernel
theorem dX10_layDistances_149 : decode cX10_layDistances 149 = .ok (.iastore, 1) := by decide +kernel
theorem dX10_layDistances_150 : decode cX10_layDistances 150 = .ok (.iinc 6 1, 3) := by decide +kernel
theorem dX10_layDistances_153 : decode cX10_layDistances 153 = .ok (.goto (-128), 3) := by decide +kernel
theorem dX10_layDistances_156 : decode cX10_layDistances 156 = .ok (.iinc 5 1, 3) := by decide +kernel
theorem dX10_layDistances_159 : decode cX10_layDistances 159 = .ok (.goto (-146), 3) := by decide +kernel
theorem dX10_layDistances_162 : decode cX10_layDistances 162 = .ok (.return_, 1) := by decide +kernel
set_option maxRecDepth 20000 in
theorem ggX10_apart_X10_layDistances : GoodIn wsX10_apart wsX10_layDistances := goodIn_r _ [8, 2, 3, 1, 9, 10, 11, 12, 13, 7, 14, 15, 16, 17, 18, 19, 20, 21, 22, 23, 24, 25, 26, 27, 28, 29, 30, 31, 32, 33, 34, 35, 36, 37, 38, 39, 40] (by decide +kernel) (by decide +kernel)
set_option maxRecDepth 20000 in
theorem gX10_apart_X10_layDistances : GoodIn wsX10_apart (wsV RX10 73 RX10 yX10_layDistances wsX10_layDistances) := goodIn_app (goodIn_of _ (by decide +kernel)) ggX10_apart_X10_layDistances
theorem dX10_apart_0 : decode cX10_apart 0 = .ok (.aload_n 0, 1) := by decide +kernel
theorem dX10_apart_1 : decode cX10_apart 1 = .ok (.lload_n 1, 1) := by decide +kernel
theorem dX10_apart_2 : decode cX10_apart 2 = .ok (.lload_n 3, 1) := by decide +kernel
theorem dX10_apart_3 : decode cX10_apart 3 = .ok (.invokevirtual 73, 3) := by decide +kernel
theorem dX10_apart_6 : decode cX10_apart 6 = .ok (.aload_n 0, 1) := by decide +kernel
theorem dX10_apart_7 : decode cX10_apart 7 = .ok (.getfield 29, 3) := by decide +kernel
theorem dX10_apart_10 : decode cX10_apart 10 = .ok (.bipush 11, 2) := by decide +kernel
theorem dX10_apart_12 : decode cX10_apart 12 = .ok (.aload_n 0, 1) := by decide +kernel
theorem dX10_apart_13 : decode cX10_apart 13 = .ok (.getfield 56, 3) := by decide +kernel
theorem dX10_apart_16 : decode cX10_apart 16 = .ok (.imul, 1) := by decide +kernel
theorem dX10_apart_17 : decode cX10_apart 17 = .ok (.aload_n 0, 1) := by decide +kernel
theorem dX10_apart_18 : decode cX10_apart 18 = .ok (.getfield 59, 3) := by decide +kernel
theorem dX10_apart_21 : decode cX10_apart 21 = .ok (.iadd, 1) := by decide +kernel
theorem dX10_apart_22 : decode cX10_apart 22 = .ok (.iaload, 1) := by decide +kernel
theorem dX10_apart_23 : decode cX10_apart 23 = .ok (.ireturn, 1) := by decide +kernel
theorem dX10_find_0 : decode cX10_find 0 = .ok (.iconst (-1), 1) := by decide +kernel
theorem dX10_find_1 : decode cX10_find 1 = .ok (.istore_n 3, 1) := by decide +kernel
theorem dX10_find_2 : decode cX10_find 2 = .ok (.iconst 0, 1) := by decide +kernel
theorem dX10_find_3 : decode cX10_find 3 = .ok (.istore 4, 2) := by decide +kernel
theorem dX10_find_5 : decode cX10_find 5 = .ok (.iload 4, 2) := by decide +kernel
theorem dX10_find_7 : decode cX10_find 7 = .ok (.aload_n 0, 1) := by decide +kernel
theorem dX10_find_8 : decode cX10_find 8 = .ok (.getfield 77, 3) := by decide +kernel
theorem dX10_find_11 : decode cX10_find 11 = .ok (.if_icmp .ge 28, 3) := by decide +kernel
theorem dX10_find_14 : decode cX10_find 14 = .ok (.aload_n 0, 1) := by decide +kernel
theorem dX10_find_15 : decode cX10_find 15 = .ok (.getfield 7, 3) := by decide +kernel
theorem dX10_find_18 : decode cX10_find 18 = .ok (.iload 4, 2) := by decide +kernel
theorem dX10_find_20 : decode cX10_find 20 = .ok (.laload, 1) := by decide +kernel
theorem dX10_find_21 : decode cX10_find 21 = .ok (.lload_n 1, 1) := by decide +kernel
theorem dX10_find_22 : decode cX10_find 22 = .ok (.lcmp, 1) := by decide +kernel
theorem dX10_find_23 : decode cX10_find 23 = .ok (.ifCond .ne 8, 3) := by decide +kernel
theorem dX10_find_26 : decode cX10_find 26 = .ok (.iload 4, 2) := by decide +kernel
theorem dX10_find_28 : decode cX10_find 28 = .ok (.goto 4, 3) := by decide +kernel
theorem dX10_find_31 : decode cX10_find 31 = .ok (.iload_n 3, 1) := by decide +kernel
theorem dX10_find_32 : decode cX10_find 32 = .ok (.istore_n 3, 1) := by decide +kernel
theorem dX10_find_33 : decode cX10_find 33 = .ok (.iinc 4 1, 3) := by decide +kernel
theorem dX10_find_36 : decode cX10_find 36 = .ok (.goto (-31), 3) := by decide +kernel
theorem dX10_find_39 : decode cX10_find 39 = .ok (.iload_n 3, 1) := by decide +kernel
theorem dX10_find_40 : decode cX10_find 40 = .ok (.ireturn, 1) := by decide +kernel
theorem dX10_isKnown_0 : decode cX10_isKnown 0 = .ok (.iload_n 1, 1) := by decide +kernel
theorem dX10_isKnown_1 : decode cX10_isKnown 1 = .ok (.ifCond .lt 16, 3) := by decide +kernel
theorem dX10_isKnown_4 : decode cX10_isKnown 4 = .ok (.aload_n 0, 1) := by decide +kernel
theorem dX10_isKnown_5 : decode cX10_isKnown 5 = .ok (.getfield 13, 3) := by decide +kernel
theorem dX10_isKnown_8 : decode cX10_isKnown 8 = .ok (.iload_n 1, 1) := by decide +kernel
theorem dX10_isKnown_9 : decode cX10_isKnown 9 = .ok (.iaload, 1) := by decide +kernel
theorem dX10_isKnown_10 : decode cX10_isKnown 10 = .ok (.ifCond .le 7, 3) := by decide +kernel
theorem dX10_isKnown_13 : decode cX10_isKnown 13 = .ok (.iconst 1, 1) := by decide +kernel
theorem dX10_isKnown_14 : decode cX10_isKnown 14 = .ok (.goto 4, 3) := by decide +kernel
theorem dX10_isKnown_17 : decode cX10_isKnown 17 = .ok (.iconst 0, 1) := by decide +kernel
theorem dX10_isKnown_18 : decode cX10_isKnown 18 = .ok (.ireturn, 1) := by decide +kernel
set_option maxRecDepth 20000 in
theorem ggX10_plant_X10_apart : GoodIn wsX10_plant wsX10_apart := goodIn_r _ [10, 11, 12, 13, 14, 15, 16, 9, 17, 18, 19, 20, 21, 22, 23, 24, 25, 26, 27, 28, 29, 30, 31, 32, 33, 34, 35, 36, 37, 38, 39, 40, 41, 42, 43, 44, 45, 46, 47, 48, 49] (by decide +kernel) (by decide +kernel)
set_option maxRecDepth 20000 in
theorem gX10_plant_X10_apart : GoodIn wsX10_plant (wsV RX10 80 RX10 yX10_apart wsX10_apart) := goodIn_app (goodIn_of _ (by decide +kernel)) ggX10_plant_X10_apart
theorem dX10_plant_0 : decode cX10_plant 0 = .ok (.aload_n 0, 1) := by decide +kernel
theorem dX10_plant_1 : decode cX10_plant 1 = .ok (.getfield 7, 3) := by decide +kernel
theorem dX10_plant_4 : decode cX10_plant 4 = .ok (.aload_n 0, 1) := by decide +kernel
theorem dX10_plant_5 : decode cX10_plant 5 = .ok (.getfield 77, 3) := by decide +kernel
theorem dX10_plant_8 : decode cX10_plant 8 = .ok (.lload_n 1, 1) := by decide +kernel
theorem dX10_plant_9 : decode cX10_plant 9 = .ok (.lastore, 1) := by decide +kernel
theorem dX10_plant_10 : decode cX10_plant 10 = .ok (.aload_n 0, 1) := by decide +kernel
theorem dX10_plant_11 : decode cX10_plant 11 = .ok (.getfield 13, 3) := by decide +kernel
theorem dX10_plant_14 : decode cX10_plant 14 = .ok (.aload_n 0, 1) := by decide +kernel
theorem dX10_plant_15 : decode cX10_plant 15 = .ok (.getfield 77, 3) := by decide +kernel
theorem dX10_plant_18 : decode cX10_plant 18 = .ok (.iconst 0, 1) := by decide +kernel
theorem dX10_plant_19 : decode cX10_plant 19 = .ok (.iastore, 1) := by decide +kernel
theorem dX10_plant_20 : decode cX10_plant 20 = .ok (.aload_n 0, 1) := by decide +kernel
theorem dX10_plant_21 : decode cX10_plant 21 = .ok (.getfield 17, 3) := by decide +kernel
theorem dX10_plant_24 : decode cX10_plant 24 = .ok (.aload_n 0, 1) := by decide +kernel
theorem dX10_plant_25 : decode cX10_plant 25 = .ok (.getfield 77, 3) := by decide +kernel
theorem dX10_plant_28 : decode cX10_plant 28 = .ok (.iconst (-1), 1) := by decide +kernel
theorem dX10_plant_29 : decode cX10_plant 29 = .ok (.iastore, 1) := by decide +kernel
theorem dX10_plant_30 : decode cX10_plant 30 = .ok (.aload_n 0, 1) := by decide +kernel
theorem dX10_plant_31 : decode cX10_plant 31 = .ok (.getfield 77, 3) := by decide +kernel
theorem dX10_plant_34 : decode cX10_plant 34 = .ok (.ifCond .le 7, 3) := by decide +kernel
theorem dX10_plant_37 : decode cX10_plant 37 = .ok (.iconst 0, 1) := by decide +kernel
theorem dX10_plant_38 : decode cX10_plant 38 = .ok (.goto 4, 3) := by decide +kernel
theorem dX10_plant_41 : decode cX10_plant 41 = .ok (.iconst (-1), 1) := by decide +kernel
theorem dX10_plant_42 : decode cX10_plant 42 = .ok (.istore_n 3, 1) := by decide +kernel
theorem dX10_plant_43 : decode cX10_plant 43 = .ok (.iload_n 3, 1) := by decide +kernel
theorem dX10_plant_44 : decode cX10_plant 44 = .ok (.iconst (-1), 1) := by decide +kernel
theorem dX10_plant_45 : decode cX10_plant 45 = .ok (.if_icmp .eq 96, 3) := by decide +kernel
theorem dX10_plant_48 : decode cX10_plant 48 = .ok (.aload_n 0, 1) := by decide +kernel
theorem dX10_plant_49 : decode cX10_plant 49 = .ok (.lload_n 1, 1) := by decide +kernel
theorem dX10_plant_50 : decode cX10_plant 50 = .ok (.aload_n 0, 1) := by decide +kernel
theorem dX10_plant_51 : decode cX10_plant 51 = .ok (.getfield 7, 3) := by decide +kernel
theorem dX10_plant_54 : decode cX10_plant 54 = .ok (.iload_n 3, 1) := by decide +kernel
theorem dX10_plant_55 : decode cX10_plant 55 = .ok (.laload, 1) := by decide +kernel
theorem dX10_plant_56 : decode cX10_plant 56 = .ok (.invokevirtual 80, 3) := by decide +kernel
theorem dX10_plant_59 : decode cX10_plant 59 = .ok (.istore 4, 2) := by decide +kernel
theorem dX10_plant_61 : decode cX10_plant 61 = .ok (.iconst (-1), 1) := by decide +kernel
theorem dX10_plant_62 : decode cX10_plant 62 = .ok (.istore 5, 2) := by decide +kernel
theorem dX10_plant_64 : decode cX10_plant 64 = .ok (.iconst 0, 1) := by decide +kernel
theorem dX10_plant_65 : decode cX10_plant 65 = .ok (.istore 6, 2) := by decide +kernel
theorem dX10_plant_67 : decode cX10_plant 67 = .ok (.iload 6, 2) := by decide +kernel
theorem dX10_plant_69 : decode cX10_plant 69 = .ok (.aload_n 0, 1) := by decide +kernel
theorem dX10_plant_70 : decode cX10_plant 70 = .ok (.getfield 77, 3) := by decide +kernel
theorem dX10_plant_73 : decode cX10_plant 73 = .ok (.if_icmp .ge 41, 3) := by decide +kernel
theorem dX10_plant_76 : decode cX10_plant 76 = .ok (.aload_n 0, 1) := by decide +kernel
theorem dX10_plant_77 : decode cX10_plant 77 = .ok (.getfield 17, 3) := by decide +kernel
theorem dX10_plant_80 : decode cX10_plant 80 = .ok (.iload 6, 2) := by decide +kernel
theorem dX10_plant_82 : decode cX10_plant 82 = .ok (.iaload, 1) := by decide +kernel
theorem dX10_plant_83 : decode cX10_plant 83 = .ok (.iload_n 3, 1) := by decide +kernel
theorem dX10_plant_84 : decode cX10_plant 84 = .ok (.if_icmp .ne 20, 3) := by decide +kernel
theorem dX10_plant_87 : decode cX10_plant 87 = .ok (.aload_n 0, 1) := by decide +kernel
theorem dX10_plant_88 : decode cX10_plant 88 = .ok (.getfield 20, 3) := by decide +kernel
theorem dX10_plant_91 : decode cX10_plant 91 = .ok (.iload 6, 2) := by decide +kernel
theorem dX10_plant_93 : decode cX10_plant 93 = .ok (.iaload, 1) := by decide +kernel
theorem dX10_plant_94 : decode cX10_plant 94 = .ok (.iload 4, 2) := by decide +kernel
theorem dX10_plant_96 : decode cX10_plant 96 = .ok (.if_icmp .ne 8, 3) := by decide +kernel
theorem dX10_plant_99 : decode cX10_plant 99 = .ok (.iload 6, 2) := by decide +kernel
theorem dX10_plant_101 : decode cX10_plant 101 = .ok (.goto 5, 3) := by decide +kernel
theorem dX10_plant_104 : decode cX10_plant 104 = .ok (.iload 5, 2) := by decide +kernel
theorem dX10_plant_106 : decode cX10_plant 106 = .ok (.istore 5, 2) := by decide +kernel
theorem dX10_plant_108 : decode cX10_plant 108 = .ok (.iinc 6 1, 3) := by decide +kernel
theorem dX10_plant_111 : decode cX10_plant 111 = .ok (.goto (-44), 3) := by decide +kernel
theorem dX10_plant_114 : decode cX10_plant 114 = .ok (.aload_n 0, 1) := by decide +kernel
theorem dX10_plant_115 : decode cX10_plant 115 = .ok (.getfield 17, 3) := by decide +kernel
theorem dX10_plant_118 : decode cX10_plant 118 = .ok (.aload_n 0, 1) := by decide +kernel
theorem dX10_plant_119 : decode cX10_plant 119 = .ok (.getfield 77, 3) := by decide +kernel
theorem dX10_plant_122 : decode cX10_plant 122 = .ok (.iload_n 3, 1) := by decide +kernel
theorem dX10_plant_123 : decode cX10_plant 123 = .ok (.iastore, 1) := by decide +kernel
theorem dX10_plant_124 : decode cX10_plant 124 = .ok (.aload_n 0, 1) := by decide +kernel
theorem dX10_plant_125 : decode cX10_plant 125 = .ok (.getfield 20, 3) := by decide +kernel
theorem dX10_plant_128 : decode cX10_plant 128 = .ok (.aload_n 0, 1) := by decide +kernel
theorem dX10_plant_129 : decode cX10_plant 129 = .ok (.getfield 77, 3) := by decide +kernel
theorem dX10_plant_132 : decode cX10_plant 132 = .ok (.iload 4, 2) := by decide +kernel
theorem dX10_plant_134 : decode cX10_plant 134 = .ok (.iastore, 1) := by decide +kernel
theorem dX10_plant_135 : decode cX10_plant 135 = .ok (.iload 5, 2) := by decide +kernel
theorem dX10_plant_137 : decode cX10_plant 137 = .ok (.istore_n 3, 1) := by decide +kernel
theorem dX10_plant_138 : decode cX10_plant 138 = .ok (.goto (-95), 3) := by decide +kernel
theorem dX10_plant_141 : decode cX10_plant 141 = .ok (.aload_n 0, 1) := by decide +kernel
theorem dX10_plant_142 : decode cX10_plant 142 = .ok (.dup, 1) := by decide +kernel
theorem dX10_plant_143 : decode cX10_plant 143 = .ok (.getfield 77, 3) := by decide +kernel
theorem dX10_plant_146 : decode cX10_plant 146 = .ok (.iconst 1, 1) := by decide +kernel
theorem dX10_plant_147 : decode cX10_plant 147 = .ok (.iadd, 1) := by decide +kernel
theorem dX10_plant_148 : decode cX10_plant 148 = .ok (.putfield 77, 3) := by decide +kernel
theorem dX10_plant_151 : decode cX10_plant 151 = .ok (.return_, 1) := by decide +kernel
set_option maxRecDepth 20000 in
theorem ggX10_add_X10_isWord : GoodIn wsX10_add wsX10_isWord := goodIn_r _ [7, 8, 9, 10, 11, 6, 12] (by decide +kernel) (by decide +kernel)
set_option maxRecDepth 20000 in
theorem gX10_add_X10_isWord : GoodIn wsX10_add (va_wsS RX10 84 yX10_isWord wsX10_isWord) := goodIn_app (goodIn_of _ (by decide +kernel)) ggX10_add_X10_isWord
set_option maxRecDepth 20000 in
theorem ggX10_add_X10_find : GoodIn wsX10_add wsX10_find := goodIn_r _ [16, 1, 17, 53, 54, 55, 56, 57, 58, 59, 60, 61, 62, 63, 64, 65, 66, 67] (by decide +kernel) (by decide +kernel)
set_option maxRecDepth 20000 in
theorem gX10_add_X10_find : GoodIn wsX10_add (wsV RX10 88 RX10 yX10_find wsX10_find) := goodIn_app (goodIn_of _ (by decide +kernel)) ggX10_add_X10_find
set_option maxRecDepth 20000 in
theorem ggX10_add_X10_goesWell : GoodIn wsX10_add wsX10_goesWell := goodIn_r _ [21, 22, 53, 54, 55, 56, 57, 58, 59, 60, 61, 62, 63, 64, 65, 66, 67] (by decide +kernel) (by decide +kernel)
set_option maxRecDepth 20000 in
theorem gX10_add_X10_goesWell : GoodIn wsX10_add (wsV RX10 92 RX10 yX10_goesWell wsX10_goesWell) := goodIn_app (goodIn_of _ (by decide +kernel)) ggX10_add_X10_goesWell
set_option maxRecDepth 20000 in
theorem ggX10_add_X10_plant : GoodIn wsX10_add wsX10_plant := goodIn_r _ [26, 17, 1, 2, 27, 28, 29, 30, 31, 6, 32, 33, 34, 35, 36, 37, 38, 39, 40, 41, 42, 43, 44, 45, 8, 10, 11, 12, 46, 47, 48, 49, 50, 51, 52, 53, 54, 55, 56, 57, 58, 59, 60, 61, 62, 63, 64, 65, 66, 67] (by decide +kernel) (by decide +kernel)
set_option maxRecDepth 20000 in
theorem gX10_add_X10_plant : GoodIn wsX10_add (wsV RX10 96 RX10 yX10_plant wsX10_plant) := goodIn_app (goodIn_of _ (by decide +kernel)) ggX10_add_X10_plant
theorem dX10_add_0 : decode cX10_add 0 = .ok (.lload_n 1, 1) := by decide +kernel
theorem dX10_add_1 : decode cX10_add 1 = .ok (.invokestatic 84, 3) := by decide +kernel
theorem dX10_add_4 : decode cX10_add 4 = .ok (.ifCond .eq 19, 3) := by decide +kernel
theorem dX10_add_7 : decode cX10_add 7 = .ok (.iload_n 3, 1) := by decide +kernel
theorem dX10_add_8 : decode cX10_add 8 = .ok (.iconst 1, 1) := by decide +kernel
theorem dX10_add_9 : decode cX10_add 9 = .ok (.if_icmp .lt 14, 3) := by decide +kernel
theorem dX10_add_12 : decode cX10_add 12 = .ok (.iload_n 3, 1) := by decide +kernel
theorem dX10_add_13 : decode cX10_add 13 = .ok (.sipush 1000, 3) := by decide +kernel
theorem dX10_add_16 : decode cX10_add 16 = .ok (.if_icmp .gt 7, 3) := by decide +kernel
theorem dX10_add_19 : decode cX10_add 19 = .ok (.iconst 1, 1) := by decide +kernel
theorem dX10_add_20 : decode cX10_add 20 = .ok (.goto 4, 3) := by decide +kernel
theorem dX10_add_23 : decode cX10_add 23 = .ok (.iconst 0, 1) := by decide +kernel
theorem dX10_add_24 : decode cX10_add 24 = .ok (.istore 4, 2) := by decide +kernel
theorem dX10_add_26 : decode cX10_add 26 = .ok (.iload 4, 2) := by decide +kernel
theorem dX10_add_28 : decode cX10_add 28 = .ok (.ifCond .eq 11, 3) := by decide +kernel
theorem dX10_add_31 : decode cX10_add 31 = .ok (.aload_n 0, 1) := by decide +kernel
theorem dX10_add_32 : decode cX10_add 32 = .ok (.lload_n 1, 1) := by decide +kernel
theorem dX10_add_33 : decode cX10_add 33 = .ok (.invokevirtual 88, 3) := by decide +kernel
theorem dX10_add_36 : decode cX10_add 36 = .ok (.goto 4, 3) := by decide +kernel
theorem dX10_add_39 : decode cX10_add 39 = .ok (.iconst (-1), 1) := by decide +kernel
theorem dX10_add_40 : decode cX10_add 40 = .ok (.istore 5, 2) := by decide +kernel
theorem dX10_add_42 : decode cX10_add 42 = .ok (.iload 5, 2) := by decide +kernel
theorem dX10_add_44 : decode cX10_add 44 = .ok (.iconst (-1), 1) := by decide +kernel
theorem dX10_add_45 : decode cX10_add 45 = .ok (.if_icmp .ne 20, 3) := by decide +kernel
theorem dX10_add_48 : decode cX10_add 48 = .ok (.aload_n 0, 1) := by decide +kernel
theorem dX10_add_49 : decode cX10_add 49 = .ok (.getfield 77, 3) := by decide +kernel
theorem dX10_add_52 : decode cX10_add 52 = .ok (.bipush 40, 2) := by decide +kernel
theorem dX10_add_54 : decode cX10_add 54 = .ok (.if_icmp .ne 7, 3) := by decide +kernel
theorem dX10_add_57 : decode cX10_add 57 = .ok (.iconst 1, 1) := by decide +kernel
theorem dX10_add_58 : decode cX10_add 58 = .ok (.goto 26, 3) := by decide +kernel
theorem dX10_add_61 : decode cX10_add 61 = .ok (.iconst 0, 1) := by decide +kernel
theorem dX10_add_62 : decode cX10_add 62 = .ok (.goto 22, 3) := by decide +kernel
theorem dX10_add_65 : decode cX10_add 65 = .ok (.aload_n 0, 1) := by decide +kernel
theorem dX10_add_66 : decode cX10_add 66 = .ok (.getfield 13, 3) := by decide +kernel
theorem dX10_add_69 : decode cX10_add 69 = .ok (.iload 5, 2) := by decide +kernel
theorem dX10_add_71 : decode cX10_add 71 = .ok (.iaload, 1) := by decide +kernel
theorem dX10_add_72 : decode cX10_add 72 = .ok (.iload_n 3, 1) := by decide +kernel
theorem dX10_add_73 : decode cX10_add 73 = .ok (.iadd, 1) := by decide +kernel
theorem dX10_add_74 : decode cX10_add 74 = .ok (.ldc 91, 2) := by decide +kernel
theorem dX10_add_76 : decode cX10_add 76 = .ok (.if_icmp .le 7, 3) := by decide +kernel
theorem dX10_add_79 : decode cX10_add 79 = .ok (.iconst 1, 1) := by decide +kernel
theorem dX10_add_80 : decode cX10_add 80 = .ok (.goto 4, 3) := by decide +kernel
theorem dX10_add_83 : decode cX10_add 83 = .ok (.iconst 0, 1) := by decide +kernel
theorem dX10_add_84 : decode cX10_add 84 = .ok (.istore 6, 2) := by decide +kernel
theorem dX10_add_86 : decode cX10_add 86 = .ok (.aload_n 0, 1) := by decide +kernel
theorem dX10_add_87 : decode cX10_add 87 = .ok (.iload 4, 2) := by decide +kernel
theorem dX10_add_89 : decode cX10_add 89 = .ok (.ifCond .ne 7, 3) := by decide +kernel
theorem dX10_add_92 : decode cX10_add 92 = .ok (.iconst 1, 1) := by decide +kernel
theorem dX10_add_93 : decode cX10_add 93 = .ok (.goto 13, 3) := by decide +kernel
theorem dX10_add_96 : decode cX10_add 96 = .ok (.iload 6, 2) := by decide +kernel
theorem dX10_add_98 : decode cX10_add 98 = .ok (.ifCond .eq 7, 3) := by decide +kernel
theorem dX10_add_101 : decode cX10_add 101 = .ok (.iconst 2, 1) := by decide +kernel
theorem dX10_add_102 : decode cX10_add 102 = .ok (.goto 4, 3) := by decide +kernel
theorem dX10_add_105 : decode cX10_add 105 = .ok (.iconst 0, 1) := by decide +kernel
theorem dX10_add_106 : decode cX10_add 106 = .ok (.invokevirtual 92, 3) := by decide +kernel
theorem dX10_add_109 : decode cX10_add 109 = .ok (.ifCond .ne 5, 3) := by decide +kernel
theorem dX10_add_112 : decode cX10_add 112 = .ok (.iconst 0, 1) := by decide +kernel
theorem dX10_add_113 : decode cX10_add 113 = .ok (.ireturn, 1) := by decide +kernel
theorem dX10_add_114 : decode cX10_add 114 = .ok (.iload 5, 2) := by decide +kernel
theorem dX10_add_116 : decode cX10_add 116 = .ok (.iconst (-1), 1) := by decide +kernel
theorem dX10_add_117 : decode cX10_add 117 = .ok (.if_icmp .ne 14, 3) := by decide +kernel
theorem dX10_add_120 : decode cX10_add 120 = .ok (.aload_n 0, 1) := by decide +kernel
theorem dX10_add_121 : decode cX10_add 121 = .ok (.getfield 77, 3) := by decide +kernel
theorem dX10_add_124 : decode cX10_add 124 = .ok (.istore 5, 2) := by decide +kernel
theorem dX10_add_126 : decode cX10_add 126 = .ok (.aload_n 0, 1) := by decide +kernel
theorem dX10_add_127 : decode cX10_add 127 = .ok (.lload_n 1, 1) := by decide +kernel
theorem dX10_add_128 : decode cX10_add 128 = .ok (.invokevirtual 96, 3) := by decide +kernel
theorem dX10_add_131 : decode cX10_add 131 = .ok (.aload_n 0, 1) := by decide +kernel
theorem dX10_add_132 : decode cX10_add 132 = .ok (.getfield 13, 3) := by decide +kernel
theorem dX10_add_135 : decode cX10_add 135 = .ok (.iload 5, 2) := by decide +kernel
theorem dX10_add_137 : decode cX10_add 137 = .ok (.dup2, 1) := by decide +kernel
theorem dX10_add_138 : decode cX10_add 138 = .ok (.iaload, 1) := by decide +kernel
theorem dX10_add_139 : decode cX10_add 139 = .ok (.iload_n 3, 1) := by decide +kernel
theorem dX10_add_140 : decode cX10_add 140 = .ok (.iadd, 1) := by decide +kernel
theorem dX10_add_141 : decode cX10_add 141 = .ok (.iastore, 1) := by decide +kernel
theorem dX10_add_142 : decode cX10_add 142 = .ok (.aload_n 0, 1) := by decide +kernel
theorem dX10_add_143 : decode cX10_add 143 = .ok (.getfield 13, 3) := by decide +kernel
theorem dX10_add_146 : decode cX10_add 146 = .ok (.iload 5, 2) := by decide +kernel
theorem dX10_add_148 : decode cX10_add 148 = .ok (.iaload, 1) := by decide +kernel
theorem dX10_add_149 : decode cX10_add 149 = .ok (.ireturn, 1) := by decide +kernel
set_option maxRecDepth 20000 in
theorem ggX10_forget_X10_isWord : GoodIn wsX10_forget wsX10_isWord := goodIn_r _ [5, 6, 7, 8, 9, 4, 10] (by decide +kernel) (by decide +kernel)
set_option maxRecDepth 20000 in
theorem gX10_forget_X10_isWord : GoodIn wsX10_forget (va_wsS RX10 84 yX10_isWord wsX10_isWord) := goodIn_app (goodIn_of _ (by decide +kernel)) ggX10_forget_X10_isWord
set_option maxRecDepth 20000 in
theorem ggX10_forget_X10_find : GoodIn wsX10_forget wsX10_find := goodIn_r _ [14, 15, 16, 26, 27, 28, 29, 30, 31, 32, 33, 34, 35, 36, 37, 38, 39, 40] (by decide +kernel) (by decide +kernel)
set_option maxRecDepth 20000 in
theorem gX10_forget_X10_find : GoodIn wsX10_forget (wsV RX10 88 RX10 yX10_find wsX10_find) := goodIn_app (goodIn_of _ (by decide +kernel)) ggX10_forget_X10_find
set_option maxRecDepth 20000 in
theorem ggX10_forget_X10_isKnown : GoodIn wsX10_forget wsX10_isKnown := goodIn_r _ [20, 1, 26, 27, 28, 29, 30, 31, 32, 33, 34, 35, 36, 37, 38, 39, 40] (by decide +kernel) (by decide +kernel)
set_option maxRecDepth 20000 in
theorem gX10_forget_X10_isKnown : GoodIn wsX10_forget (wsV RX10 99 RX10 yX10_isKnown wsX10_isKnown) := goodIn_app (goodIn_of _ (by decide +kernel)) ggX10_forget_X10_isKnown
set_option maxRecDepth 20000 in
theorem ggX10_forget_X10_goesWell : GoodIn wsX10_forget wsX10_goesWell := goodIn_r _ [24, 25, 26, 27, 28, 29, 30, 31, 32, 33, 34, 35, 36, 37, 38, 39, 40] (by decide +kernel) (by decide +kernel)
set_option maxRecDepth 20000 in
theorem gX10_forget_X10_goesWell : GoodIn wsX10_forget (wsV RX10 92 RX10 yX10_goesWell wsX10_goesWell) := goodIn_app (goodIn_of _ (by decide +kernel)) ggX10_forget_X10_goesWell
theorem dX10_forget_0 : decode cX10_forget 0 = .ok (.lload_n 1, 1) := by decide +kernel
theorem dX10_forget_1 : decode cX10_forget 1 = .ok (.invokestatic 84, 3) := by decide +kernel
theorem dX10_forget_4 : decode cX10_forget 4 = .ok (.ifCond .eq 11, 3) := by decide +kernel
theorem dX10_forget_7 : decode cX10_forget 7 = .ok (.aload_n 0, 1) := by decide +kernel
theorem dX10_forget_8 : decode cX10_forget 8 = .ok (.lload_n 1, 1) := by decide +kernel
theorem dX10_forget_9 : decode cX10_forget 9 = .ok (.invokevirtual 88, 3) := by decide +kernel
theorem dX10_forget_12 : decode cX10_forget 12 = .ok (.goto 4, 3) := by decide +kernel
theorem dX10_forget_15 : decode cX10_forget 15 = .ok (.iconst (-1), 1) := by decide +kernel
theorem dX10_forget_16 : decode cX10_forget 16 = .ok (.istore_n 3, 1) := by decide +kernel
theorem dX10_forget_17 : decode cX10_forget 17 = .ok (.aload_n 0, 1) := by decide +kernel
theorem dX10_forget_18 : decode cX10_forget 18 = .ok (.lload_n 1, 1) := by decide +kernel
theorem dX10_forget_19 : decode cX10_forget 19 = .ok (.invokestatic 84, 3) := by decide +kernel
theorem dX10_forget_22 : decode cX10_forget 22 = .ok (.ifCond .ne 7, 3) := by decide +kernel
theorem dX10_forget_25 : decode cX10_forget 25 = .ok (.iconst 1, 1) := by decide +kernel
theorem dX10_forget_26 : decode cX10_forget 26 = .ok (.goto 16, 3) := by decide +kernel
theorem dX10_forget_29 : decode cX10_forget 29 = .ok (.aload_n 0, 1) := by decide +kernel
theorem dX10_forget_30 : decode cX10_forget 30 = .ok (.iload_n 3, 1) := by decide +kernel
theorem dX10_forget_31 : decode cX10_forget 31 = .ok (.invokevirtual 99, 3) := by decide +kernel
theorem dX10_forget_34 : decode cX10_forget 34 = .ok (.ifCond .eq 7, 3) := by decide +kernel
theorem dX10_forget_37 : decode cX10_forget 37 = .ok (.iconst 0, 1) := by decide +kernel
theorem dX10_forget_38 : decode cX10_forget 38 = .ok (.goto 4, 3) := by decide +kernel
theorem dX10_forget_41 : decode cX10_forget 41 = .ok (.iconst 2, 1) := by decide +kernel
theorem dX10_forget_42 : decode cX10_forget 42 = .ok (.invokevirtual 92, 3) := by decide +kernel
theorem dX10_forget_45 : decode cX10_forget 45 = .ok (.ifCond .ne 5, 3) := by decide +kernel
theorem dX10_forget_48 : decode cX10_forget 48 = .ok (.iconst 0, 1) := by decide +kernel
theorem dX10_forget_49 : decode cX10_forget 49 = .ok (.ireturn, 1) := by decide +kernel
theorem dX10_forget_50 : decode cX10_forget 50 = .ok (.aload_n 0, 1) := by decide +kernel
theorem dX10_forget_51 : decode cX10_forget 51 = .ok (.getfield 13, 3) := by decide +kernel
theorem dX10_forget_54 : decode cX10_forget 54 = .ok (.iload_n 3, 1) := by decide +kernel
theorem dX10_forget_55 : decode cX10_forget 55 = .ok (.iaload, 1) := by decide +kernel
theorem dX10_forget_56 : decode cX10_forget 56 = .ok (.istore 4, 2) := by decide +kernel
theorem dX10_forget_58 : decode cX10_forget 58 = .ok (.aload_n 0, 1) := by decide +kernel
theorem dX10_forget_59 : decode cX10_forget 59 = .ok (.getfield 13, 3) := by decide +kernel
theorem dX10_forget_62 : decode cX10_forget 62 = .ok (.iload_n 3, 1) := by decide +kernel
theorem dX10_forget_63 : decode cX10_forget 63 = .ok (.iconst 0, 1) := by decide +kernel
theorem dX10_forget_64 : decode cX10_forget 64 = .ok (.iastore, 1) := by decide +kernel
theorem dX10_forget_65 : decode cX10_forget 65 = .ok (.iload 4, 2) := by decide +kernel
theorem dX10_forget_67 : decode cX10_forget 67 = .ok (.ireturn, 1) := by decide +kernel
theorem dX10_known_0 : decode cX10_known 0 = .ok (.iconst 0, 1) := by decide +kernel
theorem dX10_known_1 : decode cX10_known 1 = .ok (.istore_n 1, 1) := by decide +kernel
theorem dX10_known_2 : decode cX10_known 2 = .ok (.iconst 0, 1) := by decide +kernel
theorem dX10_known_3 : decode cX10_known 3 = .ok (.istore_n 2, 1) := by decide +kernel
theorem dX10_known_4 : decode cX10_known 4 = .ok (.iload_n 2, 1) := by decide +kernel
theorem dX10_known_5 : decode cX10_known 5 = .ok (.aload_n 0, 1) := by decide +kernel
theorem dX10_known_6 : decode cX10_known 6 = .ok (.getfield 77, 3) := by decide +kernel
theorem dX10_known_9 : decode cX10_known 9 = .ok (.if_icmp .ge 26, 3) := by decide +kernel
theorem dX10_known_12 : decode cX10_known 12 = .ok (.iload_n 1, 1) := by decide +kernel
theorem dX10_known_13 : decode cX10_known 13 = .ok (.aload_n 0, 1) := by decide +kernel
theorem dX10_known_14 : decode cX10_known 14 = .ok (.getfield 13, 3) := by decide +kernel
theorem dX10_known_17 : decode cX10_known 17 = .ok (.iload_n 2, 1) := by decide +kernel
theorem dX10_known_18 : decode cX10_known 18 = .ok (.iaload, 1) := by decide +kernel
theorem dX10_known_19 : decode cX10_known 19 = .ok (.ifCond .le 7, 3) := by decide +kernel
theorem dX10_known_22 : decode cX10_known 22 = .ok (.iconst 1, 1) := by decide +kernel
theorem dX10_known_23 : decode cX10_known 23 = .ok (.goto 4, 3) := by decide +kernel
theorem dX10_known_26 : decode cX10_known 26 = .ok (.iconst 0, 1) := by decide +kernel
theorem dX10_known_27 : decode cX10_known 27 = .ok (.iadd, 1) := by decide +kernel
theorem dX10_known_28 : decode cX10_known 28 = .ok (.istore_n 1, 1) := by decide +kernel
theorem dX10_known_29 : decode cX10_known 29 = .ok (.iinc 2 1, 3) := by decide +kernel
theorem dX10_known_32 : decode cX10_known 32 = .ok (.goto (-28), 3) := by decide +kernel
theorem dX10_known_35 : decode cX10_known 35 = .ok (.iload_n 1, 1) := by decide +kernel
theorem dX10_known_36 : decode cX10_known 36 = .ok (.ireturn, 1) := by decide +kernel
set_option maxRecDepth 20000 in
theorem ggX10_words_X10_known : GoodIn wsX10_words wsX10_known := goodIn_r _ [6, 7, 8, 9, 10, 11, 12, 13, 14, 15, 16, 17, 18, 19, 20, 21, 22, 23] (by decide +kernel) (by decide +kernel)
set_option maxRecDepth 20000 in
theorem gX10_words_X10_known : GoodIn wsX10_words (wsV RX10 102 RX10 yX10_known wsX10_known) := goodIn_app (goodIn_of _ (by decide +kernel)) ggX10_words_X10_known
theorem dX10_words_0 : decode cX10_words 0 = .ok (.aload_n 0, 1) := by decide +kernel
theorem dX10_words_1 : decode cX10_words 1 = .ok (.iconst 0, 1) := by decide +kernel
theorem dX10_words_2 : decode cX10_words 2 = .ok (.putfield 44, 3) := by decide +kernel
theorem dX10_words_5 : decode cX10_words 5 = .ok (.aload_n 0, 1) := by decide +kernel
theorem dX10_words_6 : decode cX10_words 6 = .ok (.invokevirtual 102, 3) := by decide +kernel
theorem dX10_words_9 : decode cX10_words 9 = .ok (.ireturn, 1) := by decide +kernel
set_option maxRecDepth 20000 in
theorem ggX10_count_X10_isWord : GoodIn wsX10_count wsX10_isWord := goodIn_r _ [5, 6, 7, 8, 9, 4, 10] (by decide +kernel) (by decide +kernel)
set_option maxRecDepth 20000 in
theorem gX10_count_X10_isWord : GoodIn wsX10_count (va_wsS RX10 84 yX10_isWord wsX10_isWord) := goodIn_app (goodIn_of _ (by decide +kernel)) ggX10_count_X10_isWord
set_option maxRecDepth 20000 in
theorem ggX10_count_X10_goesWell : GoodIn wsX10_count wsX10_goesWell := goodIn_r _ [14, 15, 22, 23, 24, 25, 26, 27, 28, 29, 30, 31, 32, 33, 34, 35, 36] (by decide +kernel) (by decide +kernel)
set_option maxRecDepth 20000 in
theorem gX10_count_X10_goesWell : GoodIn wsX10_count (wsV RX10 92 RX10 yX10_goesWell wsX10_goesWell) := goodIn_app (goodIn_of _ (by decide +kernel)) ggX10_count_X10_goesWell
set_option maxRecDepth 20000 in
theorem ggX10_count_X10_find : GoodIn wsX10_count wsX10_find := goodIn_r _ [19, 20, 21, 22, 23, 24, 25, 26, 27, 28, 29, 30, 31, 32, 33, 34, 35, 36] (by decide +kernel) (by decide +kernel)
set_option maxRecDepth 20000 in
theorem gX10_count_X10_find : GoodIn wsX10_count (wsV RX10 88 RX10 yX10_find wsX10_find) := goodIn_app (goodIn_of _ (by decide +kernel)) ggX10_count_X10_find
theorem dX10_count_0 : decode cX10_count 0 = .ok (.aload_n 0, 1) := by decide +kernel
theorem dX10_count_1 : decode cX10_count 1 = .ok (.lload_n 1, 1) := by decide +kernel
theorem dX10_count_2 : decode cX10_count 2 = .ok (.invokestatic 84, 3) := by decide +kernel
theorem dX10_count_5 : decode cX10_count 5 = .ok (.ifCond .eq 7, 3) := by decide +kernel
theorem dX10_count_8 : decode cX10_count 8 = .ok (.iconst 0, 1) := by decide +kernel
theorem dX10_count_9 : decode cX10_count 9 = .ok (.goto 4, 3) := by decide +kernel
theorem dX10_count_12 : decode cX10_count 12 = .ok (.iconst 1, 1) := by decide +kernel
theorem dX10_count_13 : decode cX10_count 13 = .ok (.invokevirtual 92, 3) := by decide +kernel
theorem dX10_count_16 : decode cX10_count 16 = .ok (.ifCond .ne 5, 3) := by decide +kernel
theorem dX10_count_19 : decode cX10_count 19 = .ok (.iconst 0, 1) := by decide +kernel
theorem dX10_count_20 : decode cX10_count 20 = .ok (.ireturn, 1) := by decide +kernel
theorem dX10_count_21 : decode cX10_count 21 = .ok (.aload_n 0, 1) := by decide +kernel
theorem dX10_count_22 : decode cX10_count 22 = .ok (.lload_n 1, 1) := by decide +kernel
theorem dX10_count_23 : decode cX10_count 23 = .ok (.invokevirtual 88, 3) := by decide +kernel
theorem dX10_count_26 : decode cX10_count 26 = .ok (.istore_n 3, 1) := by decide +kernel
theorem dX10_count_27 : decode cX10_count 27 = .ok (.iload_n 3, 1) := by decide +kernel
theorem dX10_count_28 : decode cX10_count 28 = .ok (.iconst (-1), 1) := by decide +kernel
theorem dX10_count_29 : decode cX10_count 29 = .ok (.if_icmp .ne 7, 3) := by decide +kernel
theorem dX10_count_32 : decode cX10_count 32 = .ok (.iconst 0, 1) := by decide +kernel
theorem dX10_count_33 : decode cX10_count 33 = .ok (.goto 9, 3) := by decide +kernel
theorem dX10_count_36 : decode cX10_count 36 = .ok (.aload_n 0, 1) := by decide +kernel
theorem dX10_count_37 : decode cX10_count 37 = .ok (.getfield 13, 3) := by decide +kernel
theorem dX10_count_40 : decode cX10_count 40 = .ok (.iload_n 3, 1) := by decide +kernel
theorem dX10_count_41 : decode cX10_count 41 = .ok (.iaload, 1) := by decide +kernel
theorem dX10_count_42 : decode cX10_count 42 = .ok (.ireturn, 1) := by decide +kernel
set_option maxRecDepth 20000 in
theorem ggX10_wordAt_X10_known : GoodIn wsX10_wordAt wsX10_known := goodIn_r _ [8, 1, 2, 21, 22, 23, 24, 25, 26, 27, 28, 29, 30, 31, 32, 33, 34, 35] (by decide +kernel) (by decide +kernel)
set_option maxRecDepth 20000 in
theorem gX10_wordAt_X10_known : GoodIn wsX10_wordAt (wsV RX10 102 RX10 yX10_known wsX10_known) := goodIn_app (goodIn_of _ (by decide +kernel)) ggX10_wordAt_X10_known
set_option maxRecDepth 20000 in
theorem ggX10_wordAt_X10_goesWell : GoodIn wsX10_wordAt wsX10_goesWell := goodIn_r _ [12, 13, 21, 22, 23, 24, 25, 26, 27, 28, 29, 30, 31, 32, 33, 34, 35] (by decide +kernel) (by decide +kernel)
set_option maxRecDepth 20000 in
theorem gX10_wordAt_X10_goesWell : GoodIn wsX10_wordAt (wsV RX10 92 RX10 yX10_goesWell wsX10_goesWell) := goodIn_app (goodIn_of _ (by decide +kernel)) ggX10_wordAt_X10_goesWell
set_option maxRecDepth 20000 in
theorem ggX10_wordAt_X10_isAhead : GoodIn wsX10_wordAt wsX10_isAhead := goodIn_r _ [16, 17, 18, 19, 7, 20] (by decide +kernel) (by decide +kernel)
set_option maxRecDepth 20000 in
theorem gX10_wordAt_X10_isAhead : GoodIn wsX10_wordAt (va_wsS RX10 106 yX10_isAhead wsX10_isAhead) := goodIn_app (goodIn_of _ (by decide +kernel)) ggX10_wordAt_X10_isAhead
theorem dX10_wordAt_0 : decode cX10_wordAt 0 = .ok (.aload_n 0, 1) := by decide +kernel
theorem dX10_wordAt_1 : decode cX10_wordAt 1 = .ok (.iload_n 1, 1) := by decide +kernel
theorem dX10_wordAt_2 : decode cX10_wordAt 2 = .ok (.ifCond .lt 15, 3) := by decide +kernel
theorem dX10_wordAt_5 : decode cX10_wordAt 5 = .ok (.iload_n 1, 1) := by decide +kernel
theorem dX10_wordAt_6 : decode cX10_wordAt 6 = .ok (.aload_n 0, 1) := by decide +kernel
theorem dX10_wordAt_7 : decode cX10_wordAt 7 = .ok (.invokevirtual 102, 3) := by decide +kernel
theorem dX10_wordAt_10 : decode cX10_wordAt 10 = .ok (.if_icmp .ge 7, 3) := by decide +kernel
theorem dX10_wordAt_13 : decode cX10_wordAt 13 = .ok (.iconst 0, 1) := by decide +kernel
theorem dX10_wordAt_14 : decode cX10_wordAt 14 = .ok (.goto 4, 3) := by decide +kernel
theorem dX10_wordAt_17 : decode cX10_wordAt 17 = .ok (.iconst 1, 1) := by decide +kernel
theorem dX10_wordAt_18 : decode cX10_wordAt 18 = .ok (.invokevirtual 92, 3) := by decide +kernel
theorem dX10_wordAt_21 : decode cX10_wordAt 21 = .ok (.ifCond .ne 5, 3) := by decide +kernel
theorem dX10_wordAt_24 : decode cX10_wordAt 24 = .ok (.lconst 0, 1) := by decide +kernel
theorem dX10_wordAt_25 : decode cX10_wordAt 25 = .ok (.lreturn, 1) := by decide +kernel
theorem dX10_wordAt_26 : decode cX10_wordAt 26 = .ok (.lconst 0, 1) := by decide +kernel
theorem dX10_wordAt_27 : decode cX10_wordAt 27 = .ok (.lstore_n 2, 1) := by decide +kernel
theorem dX10_wordAt_28 : decode cX10_wordAt 28 = .ok (.iconst 0, 1) := by decide +kernel
theorem dX10_wordAt_29 : decode cX10_wordAt 29 = .ok (.istore 4, 2) := by decide +kernel
theorem dX10_wordAt_31 : decode cX10_wordAt 31 = .ok (.iload 4, 2) := by decide +kernel
theorem dX10_wordAt_33 : decode cX10_wordAt 33 = .ok (.aload_n 0, 1) := by decide +kernel
theorem dX10_wordAt_34 : decode cX10_wordAt 34 = .ok (.getfield 77, 3) := by decide +kernel
theorem dX10_wordAt_37 : decode cX10_wordAt 37 = .ok (.if_icmp .ge 98, 3) := by decide +kernel
theorem dX10_wordAt_40 : decode cX10_wordAt 40 = .ok (.iconst 0, 1) := by decide +kernel
theorem dX10_wordAt_41 : decode cX10_wordAt 41 = .ok (.istore 5, 2) := by decide +kernel
theorem dX10_wordAt_43 : decode cX10_wordAt 43 = .ok (.iconst 0, 1) := by decide +kernel
theorem dX10_wordAt_44 : decode cX10_wordAt 44 = .ok (.istore 6, 2) := by decide +kernel
theorem dX10_wordAt_46 : decode cX10_wordAt 46 = .ok (.iload 6, 2) := by decide +kernel
theorem dX10_wordAt_48 : decode cX10_wordAt 48 = .ok (.aload_n 0, 1) := by decide +kernel
theorem dX10_wordAt_49 : decode cX10_wordAt 49 = .ok (.getfield 77, 3) := by decide +kernel
theorem dX10_wordAt_52 : decode cX10_wordAt 52 = .ok (.if_icmp .ge 49, 3) := by decide +kernel
theorem dX10_wordAt_55 : decode cX10_wordAt 55 = .ok (.iload 5, 2) := by decide +kernel
theorem dX10_wordAt_57 : decode cX10_wordAt 57 = .ok (.aload_n 0, 1) := by decide +kernel
theorem dX10_wordAt_58 : decode cX10_wordAt 58 = .ok (.getfield 13, 3) := by decide +kernel
theorem dX10_wordAt_61 : decode cX10_wordAt 61 = .ok (.iload 6, 2) := by decide +kernel
theorem dX10_wordAt_63 : decode cX10_wordAt 63 = .ok (.iaload, 1) := by decide +kernel
theorem dX10_wordAt_64 : decode cX10_wordAt 64 = .ok (.ifCond .le 27, 3) := by decide +kernel
theorem dX10_wordAt_67 : decode cX10_wordAt 67 = .ok (.aload_n 0, 1) := by decide +kernel
theorem dX10_wordAt_68 : decode cX10_wordAt 68 = .ok (.getfield 7, 3) := by decide +kernel
theorem dX10_wordAt_71 : decode cX10_wordAt 71 = .ok (.iload 6, 2) := by decide +kernel
theorem dX10_wordAt_73 : decode cX10_wordAt 73 = .ok (.laload, 1) := by decide +kernel
theorem dX10_wordAt_74 : decode cX10_wordAt 74 = .ok (.aload_n 0, 1) := by decide +kernel
theorem dX10_wordAt_75 : decode cX10_wordAt 75 = .ok (.getfield 7, 3) := by decide +kernel
theorem dX10_wordAt_78 : decode cX10_wordAt 78 = .ok (.iload 4, 2) := by decide +kernel
theorem dX10_wordAt_80 : decode cX10_wordAt 80 = .ok (.laload, 1) := by decide +kernel
theorem dX10_wordAt_81 : decode cX10_wordAt 81 = .ok (.invokestatic 106, 3) := by decide +kernel
theorem dX10_wordAt_84 : decode cX10_wordAt 84 = .ok (.ifCond .eq 7, 3) := by decide +kernel
theorem dX10_wordAt_87 : decode cX10_wordAt 87 = .ok (.iconst 1, 1) := by decide +kernel
theorem dX10_wordAt_88 : decode cX10_wordAt 88 = .ok (.goto 4, 3) := by decide +kernel
theorem dX10_wordAt_91 : decode cX10_wordAt 91 = .ok (.iconst 0, 1) := by decide +kernel
theorem dX10_wordAt_92 : decode cX10_wordAt 92 = .ok (.iadd, 1) := by decide +kernel
theorem dX10_wordAt_93 : decode cX10_wordAt 93 = .ok (.istore 5, 2) := by decide +kernel
theorem dX10_wordAt_95 : decode cX10_wordAt 95 = .ok (.iinc 6 1, 3) := by decide +kernel
theorem dX10_wordAt_98 : decode cX10_wordAt 98 = .ok (.goto (-52), 3) := by decide +kernel
theorem dX10_wordAt_101 : decode cX10_wordAt 101 = .ok (.aload_n 0, 1) := by decide +kernel
theorem dX10_wordAt_102 : decode cX10_wordAt 102 = .ok (.getfield 13, 3) := by decide +kernel
theorem dX10_wordAt_105 : decode cX10_wordAt 105 = .ok (.iload 4, 2) := by decide +kernel
theorem dX10_wordAt_107 : decode cX10_wordAt 107 = .ok (.iaload, 1) := by decide +kernel
theorem dX10_wordAt_108 : decode cX10_wordAt 108 = .ok (.ifCond .le 19, 3) := by decide +kernel
theorem dX10_wordAt_111 : decode cX10_wordAt 111 = .ok (.iload 5, 2) := by decide +kernel
theorem dX10_wordAt_113 : decode cX10_wordAt 113 = .ok (.iload_n 1, 1) := by decide +kernel
theorem dX10_wordAt_114 : decode cX10_wordAt 114 = .ok (.if_icmp .ne 13, 3) := by decide +kernel
theorem dX10_wordAt_117 : decode cX10_wordAt 117 = .ok (.aload_n 0, 1) := by decide +kernel
theorem dX10_wordAt_118 : decode cX10_wordAt 118 = .ok (.getfield 7, 3) := by decide +kernel
theorem dX10_wordAt_121 : decode cX10_wordAt 121 = .ok (.iload 4, 2) := by decide +kernel
theorem dX10_wordAt_123 : decode cX10_wordAt 123 = .ok (.laload, 1) := by decide +kernel
theorem dX10_wordAt_124 : decode cX10_wordAt 124 = .ok (.goto 4, 3) := by decide +kernel
theorem dX10_wordAt_127 : decode cX10_wordAt 127 = .ok (.lload_n 2, 1) := by decide +kernel
theorem dX10_wordAt_128 : decode cX10_wordAt 128 = .ok (.lstore_n 2, 1) := by decide +kernel
theorem dX10_wordAt_129 : decode cX10_wordAt 129 = .ok (.iinc 4 1, 3) := by decide +kernel
theorem dX10_wordAt_132 : decode cX10_wordAt 132 = .ok (.goto (-101), 3) := by decide +kernel
theorem dX10_wordAt_135 : decode cX10_wordAt 135 = .ok (.lload_n 2, 1) := by decide +kernel
theorem dX10_wordAt_136 : decode cX10_wordAt 136 = .ok (.lreturn, 1) := by decide +kernel
set_option maxRecDepth 20000 in
theorem ggX10_distance_X10_isWord : GoodIn wsX10_distance wsX10_isWord := goodIn_r _ [4, 5, 6, 7, 8, 3, 9] (by decide +kernel) (by decide +kernel)
set_option maxRecDepth 20000 in
theorem gX10_distance_X10_isWord : GoodIn wsX10_distance (va_wsS RX10 84 yX10_isWord wsX10_isWord) := goodIn_app (goodIn_of _ (by decide +kernel)) ggX10_distance_X10_isWord
set_option maxRecDepth 20000 in
theorem ggX10_distance_X10_goesWell : GoodIn wsX10_distance wsX10_goesWell := goodIn_r _ [13, 14, 39, 40, 41, 42, 43, 44, 45, 46, 47, 48, 49, 50, 51, 52, 53] (by decide +kernel) (by decide +kernel)
set_option maxRecDepth 20000 in
theorem gX10_distance_X10_goesWell : GoodIn wsX10_distance (wsV RX10 92 RX10 yX10_goesWell wsX10_goesWell) := goodIn_app (goodIn_of _ (by decide +kernel)) ggX10_distance_X10_goesWell
set_option maxRecDepth 20000 in
theorem ggX10_distance_X10_apart : GoodIn wsX10_distance wsX10_apart := goodIn_r _ [18, 19, 20, 21, 22, 23, 24, 3, 25, 26, 27, 28, 29, 30, 31, 5, 7, 8, 9, 32, 33, 34, 35, 36, 37, 38, 39, 40, 41, 42, 43, 44, 45, 46, 47, 48, 49, 50, 51, 52, 53] (by decide +kernel) (by decide +kernel)
set_option maxRecDepth 20000 in
theorem gX10_distance_X10_apart : GoodIn wsX10_distance (wsV RX10 80 RX10 yX10_apart wsX10_apart) := goodIn_app (goodIn_of _ (by decide +kernel)) ggX10_distance_X10_apart
theorem dX10_distance_0 : decode cX10_distance 0 = .ok (.aload_n 0, 1) := by decide +kernel
theorem dX10_distance_1 : decode cX10_distance 1 = .ok (.lload_n 1, 1) := by decide +kernel
theorem dX10_distance_2 : decode cX10_distance 2 = .ok (.invokestatic 84, 3) := by decide +kernel
theorem dX10_distance_5 : decode cX10_distance 5 = .ok (.ifCond .eq 14, 3) := by decide +kernel
theorem dX10_distance_8 : decode cX10_distance 8 = .ok (.lload_n 3, 1) := by decide +kernel
theorem dX10_distance_9 : decode cX10_distance 9 = .ok (.invokestatic 84, 3) := by decide +kernel
theorem dX10_distance_12 : decode cX10_distance 12 = .ok (.ifCond .eq 7, 3) := by decide +kernel
theorem dX10_distance_15 : decode cX10_distance 15 = .ok (.iconst 0, 1) := by decide +kernel
theorem dX10_distance_16 : decode cX10_distance 16 = .ok (.goto 4, 3) := by decide +kernel
theorem dX10_distance_19 : decode cX10_distance 19 = .ok (.iconst 1, 1) := by decide +kernel
theorem dX10_distance_20 : decode cX10_distance 20 = .ok (.invokevirtual 92, 3) := by decide +kernel
theorem dX10_distance_23 : decode cX10_distance 23 = .ok (.ifCond .eq 12, 3) := by decide +kernel
theorem dX10_distance_26 : decode cX10_distance 26 = .ok (.aload_n 0, 1) := by decide +kernel
theorem dX10_distance_27 : decode cX10_distance 27 = .ok (.lload_n 1, 1) := by decide +kernel
theorem dX10_distance_28 : decode cX10_distance 28 = .ok (.lload_n 3, 1) := by decide +kernel
theorem dX10_distance_29 : decode cX10_distance 29 = .ok (.invokevirtual 80, 3) := by decide +kernel
theorem dX10_distance_32 : decode cX10_distance 32 = .ok (.goto 4, 3) := by decide +kernel
theorem dX10_distance_35 : decode cX10_distance 35 = .ok (.iconst 0, 1) := by decide +kernel
theorem dX10_distance_36 : decode cX10_distance 36 = .ok (.ireturn, 1) := by decide +kernel
theorem dX10_beside_0 : decode cX10_beside 0 = .ok (.aload_n 0, 1) := by decide +kernel
theorem dX10_beside_1 : decode cX10_beside 1 = .ok (.getfield 32, 3) := by decide +kernel
theorem dX10_beside_4 : decode cX10_beside 4 = .ok (.iload_n 1, 1) := by decide +kernel
theorem dX10_beside_5 : decode cX10_beside 5 = .ok (.iaload, 1) := by decide +kernel
theorem dX10_beside_6 : decode cX10_beside 6 = .ok (.istore_n 3, 1) := by decide +kernel
theorem dX10_beside_7 : decode cX10_beside 7 = .ok (.aload_n 0, 1) := by decide +kernel
theorem dX10_beside_8 : decode cX10_beside 8 = .ok (.getfield 32, 3) := by decide +kernel
theorem dX10_beside_11 : decode cX10_beside 11 = .ok (.iload_n 2, 1) := by decide +kernel
theorem dX10_beside_12 : decode cX10_beside 12 = .ok (.iaload, 1) := by decide +kernel
theorem dX10_beside_13 : decode cX10_beside 13 = .ok (.istore 4, 2) := by decide +kernel
theorem dX10_beside_15 : decode cX10_beside 15 = .ok (.iload_n 3, 1) := by decide +kernel
theorem dX10_beside_16 : decode cX10_beside 16 = .ok (.bipush 10, 2) := by decide +kernel
theorem dX10_beside_18 : decode cX10_beside 18 = .ok (.idiv, 1) := by decide +kernel
theorem dX10_beside_19 : decode cX10_beside 19 = .ok (.iload 4, 2) := by decide +kernel
theorem dX10_beside_21 : decode cX10_beside 21 = .ok (.bipush 10, 2) := by decide +kernel
theorem dX10_beside_23 : decode cX10_beside 23 = .ok (.idiv, 1) := by decide +kernel
theorem dX10_beside_24 : decode cX10_beside 24 = .ok (.if_icmp .ne 25, 3) := by decide +kernel
theorem dX10_beside_27 : decode cX10_beside 27 = .ok (.iload_n 3, 1) := by decide +kernel
theorem dX10_beside_28 : decode cX10_beside 28 = .ok (.iload 4, 2) := by decide +kernel
theorem dX10_beside_30 : decode cX10_beside 30 = .ok (.isub, 1) := by decide +kernel
theorem dX10_beside_31 : decode cX10_beside 31 = .ok (.iconst 1, 1) := by decide +kernel
theorem dX10_beside_32 : decode cX10_beside 32 = .ok (.if_icmp .eq 11, 3) := by decide +kernel
theorem dX10_beside_35 : decode cX10_beside 35 = .ok (.iload 4, 2) := by decide +kernel
theorem dX10_beside_37 : decode cX10_beside 37 = .ok (.iload_n 3, 1) := by decide +kernel
theorem dX10_beside_38 : decode cX10_beside 38 = .ok (.isub, 1) := by decide +kernel
theorem dX10_beside_39 : decode cX10_beside 39 = .ok (.iconst 1, 1) := by decide +kernel
theorem dX10_beside_40 : decode cX10_beside 40 = .ok (.if_icmp .ne 7, 3) := by decide +kernel
theorem dX10_beside_43 : decode cX10_beside 43 = .ok (.iconst 1, 1) := by decide +kernel
theorem dX10_beside_44 : decode cX10_beside 44 = .ok (.goto 4, 3) := by decide +kernel
theorem dX10_beside_47 : decode cX10_beside 47 = .ok (.iconst 0, 1) := by decide +kernel
theorem dX10_beside_48 : decode cX10_beside 48 = .ok (.ireturn, 1) := by decide +kernel
theorem dX10_beside_49 : decode cX10_beside 49 = .ok (.iload_n 3, 1) := by decide +kernel
theorem dX10_beside_50 : decode cX10_beside 50 = .ok (.iload 4, 2) := by decide +kernel
theorem dX10_beside_52 : decode cX10_beside 52 = .ok (.if_icmp .ge 7, 3) := by decide +kernel
theorem dX10_beside_55 : decode cX10_beside 55 = .ok (.iload_n 3, 1) := by decide +kernel
theorem dX10_beside_56 : decode cX10_beside 56 = .ok (.goto 5, 3) := by decide +kernel
theorem dX10_beside_59 : decode cX10_beside 59 = .ok (.iload 4, 2) := by decide +kernel
theorem dX10_beside_61 : decode cX10_beside 61 = .ok (.istore 5, 2) := by decide +kernel
theorem dX10_beside_63 : decode cX10_beside 63 = .ok (.iload_n 3, 1) := by decide +kernel
theorem dX10_beside_64 : decode cX10_beside 64 = .ok (.iload 4, 2) := by decide +kernel
theorem dX10_beside_66 : decode cX10_beside 66 = .ok (.if_icmp .ge 8, 3) := by decide +kernel
theorem dX10_beside_69 : decode cX10_beside 69 = .ok (.iload 4, 2) := by decide +kernel
theorem dX10_beside_71 : decode cX10_beside 71 = .ok (.goto 4, 3) := by decide +kernel
theorem dX10_beside_74 : decode cX10_beside 74 = .ok (.iload_n 3, 1) := by decide +kernel
theorem dX10_beside_75 : decode cX10_beside 75 = .ok (.istore 6, 2) := by decide +kernel
theorem dX10_beside_77 : decode cX10_beside 77 = .ok (.iload 6, 2) := by decide +kernel
theorem dX10_beside_79 : decode cX10_beside 79 = .ok (.bipush 10, 2) := by decide +kernel
theorem dX10_beside_81 : decode cX10_beside 81 = .ok (.irem, 1) := by decide +kernel
theorem dX10_beside_82 : decode cX10_beside 82 = .ok (.iload 5, 2) := by decide +kernel
theorem dX10_beside_84 : decode cX10_beside 84 = .ok (.bipush 10, 2) := by decide +kernel
theorem dX10_beside_86 : decode cX10_beside 86 = .ok (.irem, 1) := by decide +kernel
theorem dX10_beside_87 : decode cX10_beside 87 = .ok (.isub, 1) := by decide +kernel
theorem dX10_beside_88 : decode cX10_beside 88 = .ok (.istore 7, 2) := by decide +kernel
theorem dX10_beside_90 : decode cX10_beside 90 = .ok (.iload 6, 2) := by decide +kernel
theorem dX10_beside_92 : decode cX10_beside 92 = .ok (.bipush 10, 2) := by decide +kernel
theorem dX10_beside_94 : decode cX10_beside 94 = .ok (.idiv, 1) := by decide +kernel
theorem dX10_beside_95 : decode cX10_beside 95 = .ok (.iload 5, 2) := by decide +kernel
theorem dX10_beside_97 : decode cX10_beside 97 = .ok (.bipush 10, 2) := by decide +kernel
theorem dX10_beside_99 : decode cX10_beside 99 = .ok (.idiv, 1) := by decide +kernel
theorem dX10_beside_100 : decode cX10_beside 100 = .ok (.isub, 1) := by decide +kernel
theorem dX10_beside_101 : decode cX10_beside 101 = .ok (.iconst 1, 1) := by decide +kernel
theorem dX10_beside_102 : decode cX10_beside 102 = .ok (.if_icmp .ne 18, 3) := by decide +kernel
theorem dX10_beside_105 : decode cX10_beside 105 = .ok (.iload 7, 2) := by decide +kernel
theorem dX10_beside_107 : decode cX10_beside 107 = .ok (.ifCond .eq 9, 3) := by decide +kernel
theorem dX10_beside_110 : decode cX10_beside 110 = .ok (.iload 7, 2) := by decide +kernel
theorem dX10_beside_112 : decode cX10_beside 112 = .ok (.iconst (-1), 1) := by decide +kernel
theorem dX10_beside_113 : decode cX10_beside 113 = .ok (.if_icmp .ne 7, 3) := by decide +kernel
theorem dX10_beside_116 : decode cX10_beside 116 = .ok (.iconst 1, 1) := by decide +kernel
theorem dX10_beside_117 : decode cX10_beside 117 = .ok (.goto 4, 3) := by decide +kernel
theorem dX10_beside_120 : decode cX10_beside 120 = .ok (.iconst 0, 1) := by decide +kernel
theorem dX10_beside_121 : decode cX10_beside 121 = .ok (.ireturn, 1) := by decide +kernel
set_option maxRecDepth 20000 in
theorem ggX10_priceUpTo_X10_lesser : GoodIn wsX10_priceUpTo wsX10_lesser := goodIn_r _ [7] (by decide +kernel) (by decide +kernel)
set_option maxRecDepth 20000 in
theorem gX10_priceUpTo_X10_lesser : GoodIn wsX10_priceUpTo (va_wsS RX10 69 yX10_lesser wsX10_lesser) := goodIn_app (goodIn_of _ (by decide +kernel)) ggX10_priceUpTo_X10_lesser
set_option maxRecDepth 20000 in
theorem ggX10_priceUpTo_X10_beside : GoodIn wsX10_priceUpTo wsX10_beside := goodIn_r _ [11, 12, 13, 14, 15, 16, 17, 18, 19, 20, 21, 22, 23, 24, 25, 26, 27] (by decide +kernel) (by decide +kernel)
set_option maxRecDepth 20000 in
theorem gX10_priceUpTo_X10_beside : GoodIn wsX10_priceUpTo (wsV RX10 110 RX10 yX10_beside wsX10_beside) := goodIn_app (goodIn_of _ (by decide +kernel)) ggX10_priceUpTo_X10_beside
theorem dX10_priceUpTo_0 : decode cX10_priceUpTo 0 = .ok (.sipush 1000, 3) := by decide +kernel
theorem dX10_priceUpTo_3 : decode cX10_priceUpTo 3 = .ok (.istore_n 3, 1) := by decide +kernel
theorem dX10_priceUpTo_4 : decode cX10_priceUpTo 4 = .ok (.iload_n 1, 1) := by decide +kernel
theorem dX10_priceUpTo_5 : decode cX10_priceUpTo 5 = .ok (.ifCond .ne 9, 3) := by decide +kernel
theorem dX10_priceUpTo_8 : decode cX10_priceUpTo 8 = .ok (.iload_n 2, 1) := by decide +kernel
theorem dX10_priceUpTo_9 : decode cX10_priceUpTo 9 = .ok (.ifCond .ne 5, 3) := by decide +kernel
theorem dX10_priceUpTo_12 : decode cX10_priceUpTo 12 = .ok (.iconst 0, 1) := by decide +kernel
theorem dX10_priceUpTo_13 : decode cX10_priceUpTo 13 = .ok (.ireturn, 1) := by decide +kernel
theorem dX10_priceUpTo_14 : decode cX10_priceUpTo 14 = .ok (.iload_n 2, 1) := by decide +kernel
theorem dX10_priceUpTo_15 : decode cX10_priceUpTo 15 = .ok (.ifCond .le 19, 3) := by decide +kernel
theorem dX10_priceUpTo_18 : decode cX10_priceUpTo 18 = .ok (.aload_n 0, 1) := by decide +kernel
theorem dX10_priceUpTo_19 : decode cX10_priceUpTo 19 = .ok (.getfield 29, 3) := by decide +kernel
theorem dX10_priceUpTo_22 : decode cX10_priceUpTo 22 = .ok (.bipush 11, 2) := by decide +kernel
theorem dX10_priceUpTo_24 : decode cX10_priceUpTo 24 = .ok (.iload_n 1, 1) := by decide +kernel
theorem dX10_priceUpTo_25 : decode cX10_priceUpTo 25 = .ok (.imul, 1) := by decide +kernel
theorem dX10_priceUpTo_26 : decode cX10_priceUpTo 26 = .ok (.iload_n 2, 1) := by decide +kernel
theorem dX10_priceUpTo_27 : decode cX10_priceUpTo 27 = .ok (.iadd, 1) := by decide +kernel
theorem dX10_priceUpTo_28 : decode cX10_priceUpTo 28 = .ok (.iconst 1, 1) := by decide +kernel
theorem dX10_priceUpTo_29 : decode cX10_priceUpTo 29 = .ok (.isub, 1) := by decide +kernel
theorem dX10_priceUpTo_30 : decode cX10_priceUpTo 30 = .ok (.iaload, 1) := by decide +kernel
theorem dX10_priceUpTo_31 : decode cX10_priceUpTo 31 = .ok (.iconst 2, 1) := by decide +kernel
theorem dX10_priceUpTo_32 : decode cX10_priceUpTo 32 = .ok (.iadd, 1) := by decide +kernel
theorem dX10_priceUpTo_33 : decode cX10_priceUpTo 33 = .ok (.istore_n 3, 1) := by decide +kernel
theorem dX10_priceUpTo_34 : decode cX10_priceUpTo 34 = .ok (.iload_n 1, 1) := by decide +kernel
theorem dX10_priceUpTo_35 : decode cX10_priceUpTo 35 = .ok (.ifCond .le 61, 3) := by decide +kernel
theorem dX10_priceUpTo_38 : decode cX10_priceUpTo 38 = .ok (.iload_n 1, 1) := by decide +kernel
theorem dX10_priceUpTo_39 : decode cX10_priceUpTo 39 = .ok (.iconst 1, 1) := by decide +kernel
theorem dX10_priceUpTo_40 : decode cX10_priceUpTo 40 = .ok (.if_icmp .le 24, 3) := by decide +kernel
theorem dX10_priceUpTo_43 : decode cX10_priceUpTo 43 = .ok (.aload_n 0, 1) := by decide +kernel
theorem dX10_priceUpTo_44 : decode cX10_priceUpTo 44 = .ok (.getfield 23, 3) := by decide +kernel
theorem dX10_priceUpTo_47 : decode cX10_priceUpTo 47 = .ok (.iload_n 1, 1) := by decide +kernel
theorem dX10_priceUpTo_48 : decode cX10_priceUpTo 48 = .ok (.iconst 1, 1) := by decide +kernel
theorem dX10_priceUpTo_49 : decode cX10_priceUpTo 49 = .ok (.isub, 1) := by decide +kernel
theorem dX10_priceUpTo_50 : decode cX10_priceUpTo 50 = .ok (.iaload, 1) := by decide +kernel
theorem dX10_priceUpTo_51 : decode cX10_priceUpTo 51 = .ok (.aload_n 0, 1) := by decide +kernel
theorem dX10_priceUpTo_52 : decode cX10_priceUpTo 52 = .ok (.getfield 23, 3) := by decide +kernel
theorem dX10_priceUpTo_55 : decode cX10_priceUpTo 55 = .ok (.iload_n 1, 1) := by decide +kernel
theorem dX10_priceUpTo_56 : decode cX10_priceUpTo 56 = .ok (.iaload, 1) := by decide +kernel
theorem dX10_priceUpTo_57 : decode cX10_priceUpTo 57 = .ok (.if_icmp .ne 7, 3) := by decide +kernel
theorem dX10_priceUpTo_60 : decode cX10_priceUpTo 60 = .ok (.iconst 1, 1) := by decide +kernel
theorem dX10_priceUpTo_61 : decode cX10_priceUpTo 61 = .ok (.goto 4, 3) := by decide +kernel
theorem dX10_priceUpTo_64 : decode cX10_priceUpTo 64 = .ok (.iconst 0, 1) := by decide +kernel
theorem dX10_priceUpTo_65 : decode cX10_priceUpTo 65 = .ok (.istore 4, 2) := by decide +kernel
theorem dX10_priceUpTo_67 : decode cX10_priceUpTo 67 = .ok (.iload_n 3, 1) := by decide +kernel
theorem dX10_priceUpTo_68 : decode cX10_priceUpTo 68 = .ok (.aload_n 0, 1) := by decide +kernel
theorem dX10_priceUpTo_69 : decode cX10_priceUpTo 69 = .ok (.getfield 29, 3) := by decide +kernel
theorem dX10_priceUpTo_72 : decode cX10_priceUpTo 72 = .ok (.bipush 11, 2) := by decide +kernel
theorem dX10_priceUpTo_74 : decode cX10_priceUpTo 74 = .ok (.iload_n 1, 1) := by decide +kernel
theorem dX10_priceUpTo_75 : decode cX10_priceUpTo 75 = .ok (.iconst 1, 1) := by decide +kernel
theorem dX10_priceUpTo_76 : decode cX10_priceUpTo 76 = .ok (.isub, 1) := by decide +kernel
theorem dX10_priceUpTo_77 : decode cX10_priceUpTo 77 = .ok (.imul, 1) := by decide +kernel
theorem dX10_priceUpTo_78 : decode cX10_priceUpTo 78 = .ok (.iload_n 2, 1) := by decide +kernel
theorem dX10_priceUpTo_79 : decode cX10_priceUpTo 79 = .ok (.iadd, 1) := by decide +kernel
theorem dX10_priceUpTo_80 : decode cX10_priceUpTo 80 = .ok (.iaload, 1) := by decide +kernel
theorem dX10_priceUpTo_81 : decode cX10_priceUpTo 81 = .ok (.iload 4, 2) := by decide +kernel
theorem dX10_priceUpTo_83 : decode cX10_priceUpTo 83 = .ok (.ifCond .eq 7, 3) := by decide +kernel
theorem dX10_priceUpTo_86 : decode cX10_priceUpTo 86 = .ok (.iconst 1, 1) := by decide +kernel
theorem dX10_priceUpTo_87 : decode cX10_priceUpTo 87 = .ok (.goto 4, 3) := by decide +kernel
theorem dX10_priceUpTo_90 : decode cX10_priceUpTo 90 = .ok (.iconst 2, 1) := by decide +kernel
theorem dX10_priceUpTo_91 : decode cX10_priceUpTo 91 = .ok (.iadd, 1) := by decide +kernel
theorem dX10_priceUpTo_92 : decode cX10_priceUpTo 92 = .ok (.invokestatic 69, 3) := by decide +kernel
theorem dX10_priceUpTo_95 : decode cX10_priceUpTo 95 = .ok (.istore_n 3, 1) := by decide +kernel
theorem dX10_priceUpTo_96 : decode cX10_priceUpTo 96 = .ok (.iload_n 1, 1) := by decide +kernel
theorem dX10_priceUpTo_97 : decode cX10_priceUpTo 97 = .ok (.ifCond .le 75, 3) := by decide +kernel
theorem dX10_priceUpTo_100 : decode cX10_priceUpTo 100 = .ok (.iload_n 2, 1) := by decide +kernel
theorem dX10_priceUpTo_101 : decode cX10_priceUpTo 101 = .ok (.ifCond .le 71, 3) := by decide +kernel
theorem dX10_priceUpTo_104 : decode cX10_priceUpTo 104 = .ok (.aload_n 0, 1) := by decide +kernel
theorem dX10_priceUpTo_105 : decode cX10_priceUpTo 105 = .ok (.getfield 23, 3) := by decide +kernel
theorem dX10_priceUpTo_108 : decode cX10_priceUpTo 108 = .ok (.iload_n 1, 1) := by decide +kernel
theorem dX10_priceUpTo_109 : decode cX10_priceUpTo 109 = .ok (.iaload, 1) := by decide +kernel
theorem dX10_priceUpTo_110 : decode cX10_priceUpTo 110 = .ok (.aload_n 0, 1) := by decide +kernel
theorem dX10_priceUpTo_111 : decode cX10_priceUpTo 111 = .ok (.getfield 26, 3) := by decide +kernel
theorem dX10_priceUpTo_114 : decode cX10_priceUpTo 114 = .ok (.iload_n 2, 1) := by decide +kernel
theorem dX10_priceUpTo_115 : decode cX10_priceUpTo 115 = .ok (.iaload, 1) := by decide +kernel
theorem dX10_priceUpTo_116 : decode cX10_priceUpTo 116 = .ok (.if_icmp .ne 7, 3) := by decide +kernel
theorem dX10_priceUpTo_119 : decode cX10_priceUpTo 119 = .ok (.iconst 0, 1) := by decide +kernel
theorem dX10_priceUpTo_120 : decode cX10_priceUpTo 120 = .ok (.goto 27, 3) := by decide +kernel
theorem dX10_priceUpTo_123 : decode cX10_priceUpTo 123 = .ok (.aload_n 0, 1) := by decide +kernel
theorem dX10_priceUpTo_124 : decode cX10_priceUpTo 124 = .ok (.aload_n 0, 1) := by decide +kernel
theorem dX10_priceUpTo_125 : decode cX10_priceUpTo 125 = .ok (.getfield 23, 3) := by decide +kernel
theorem dX10_priceUpTo_128 : decode cX10_priceUpTo 128 = .ok (.iload_n 1, 1) := by decide +kernel
theorem dX10_priceUpTo_129 : decode cX10_priceUpTo 129 = .ok (.iaload, 1) := by decide +kernel
theorem dX10_priceUpTo_130 : decode cX10_priceUpTo 130 = .ok (.aload_n 0, 1) := by decide +kernel
theorem dX10_priceUpTo_131 : decode cX10_priceUpTo 131 = .ok (.getfield 26, 3) := by decide +kernel
theorem dX10_priceUpTo_134 : decode cX10_priceUpTo 134 = .ok (.iload_n 2, 1) := by decide +kernel
theorem dX10_priceUpTo_135 : decode cX10_priceUpTo 135 = .ok (.iaload, 1) := by decide +kernel
theorem dX10_priceUpTo_136 : decode cX10_priceUpTo 136 = .ok (.invokevirtual 110, 3) := by decide +kernel
theorem dX10_priceUpTo_139 : decode cX10_priceUpTo 139 = .ok (.ifCond .eq 7, 3) := by decide +kernel
theorem dX10_priceUpTo_142 : decode cX10_priceUpTo 142 = .ok (.iconst 1, 1) := by decide +kernel
theorem dX10_priceUpTo_143 : decode cX10_priceUpTo 143 = .ok (.goto 4, 3) := by decide +kernel
theorem dX10_priceUpTo_146 : decode cX10_priceUpTo 146 = .ok (.iconst 3, 1) := by decide +kernel
theorem dX10_priceUpTo_147 : decode cX10_priceUpTo 147 = .ok (.istore 4, 2) := by decide +kernel
theorem dX10_priceUpTo_149 : decode cX10_priceUpTo 149 = .ok (.iload_n 3, 1) := by decide +kernel
theorem dX10_priceUpTo_150 : decode cX10_priceUpTo 150 = .ok (.aload_n 0, 1) := by decide +kernel
theorem dX10_priceUpTo_151 : decode cX10_priceUpTo 151 = .ok (.getfield 29, 3) := by decide +kernel
theorem dX10_priceUpTo_154 : decode cX10_priceUpTo 154 = .ok (.bipush 11, 2) := by decide +kernel
theorem dX10_priceUpTo_156 : decode cX10_priceUpTo 156 = .ok (.iload_n 1, 1) := by decide +kernel
theorem dX10_priceUpTo_157 : decode cX10_priceUpTo 157 = .ok (.iconst 1, 1) := by decide +kernel
theorem dX10_priceUpTo_158 : decode cX10_priceUpTo 158 = .ok (.isub, 1) := by decide +kernel
theorem dX10_priceUpTo_159 : decode cX10_priceUpTo 159 = .ok (.imul, 1) := by decide +kernel
theorem dX10_priceUpTo_160 : decode cX10_priceUpTo 160 = .ok (.iload_n 2, 1) := by decide +kernel
theorem dX10_priceUpTo_161 : decode cX10_priceUpTo 161 = .ok (.iadd, 1) := by decide +kernel
theorem dX10_priceUpTo_162 : decode cX10_priceUpTo 162 = .ok (.iconst 1, 1) := by decide +kernel
theorem dX10_priceUpTo_163 : decode cX10_priceUpTo 163 = .ok (.isub, 1) := by decide +kernel
theorem dX10_priceUpTo_164 : decode cX10_priceUpTo 164 = .ok (.iaload, 1) := by decide +kernel
theorem dX10_priceUpTo_165 : decode cX10_priceUpTo 165 = .ok (.iload 4, 2) := by decide +kernel
theorem dX10_priceUpTo_167 : decode cX10_priceUpTo 167 = .ok (.iadd, 1) := by decide +kernel
theorem dX10_priceUpTo_168 : decode cX10_priceUpTo 168 = .ok (.invokestatic 69, 3) := by decide +kernel
theorem dX10_priceUpTo_171 : decode cX10_priceUpTo 171 = .ok (.istore_n 3, 1) := by decide +kernel
theorem dX10_priceUpTo_172 : decode cX10_priceUpTo 172 = .ok (.iload_n 1, 1) := by decide +kernel
theorem dX10_priceUpTo_173 : decode cX10_priceUpTo 173 = .ok (.iconst 1, 1) := by decide +kernel
theorem dX10_priceUpTo_174 : decode cX10_priceUpTo 174 = .ok (.if_icmp .le 81, 3) := by decide +kernel
theorem dX10_priceUpTo_177 : decode cX10_priceUpTo 177 = .ok (.iload_n 2, 1) := by decide +kernel
theorem dX10_priceUpTo_178 : decode cX10_priceUpTo 178 = .ok (.iconst 1, 1) := by decide +kernel
theorem dX10_priceUpTo_179 : decode cX10_priceUpTo 179 = .ok (.if_icmp .le 76, 3) := by decide +kernel
theorem dX10_priceUpTo_182 : decode cX10_priceUpTo 182 = .ok (.aload_n 0, 1) := by decide +kernel
theorem dX10_priceUpTo_183 : decode cX10_priceUpTo 183 = .ok (.getfield 23, 3) := by decide +kernel
theorem dX10_priceUpTo_186 : decode cX10_priceUpTo 186 = .ok (.iload_n 1, 1) := by decide +kernel
theorem dX10_priceUpTo_187 : decode cX10_priceUpTo 187 = .ok (.iaload, 1) := by decide +kernel
theorem dX10_priceUpTo_188 : decode cX10_priceUpTo 188 = .ok (.aload_n 0, 1) := by decide +kernel
theorem dX10_priceUpTo_189 : decode cX10_priceUpTo 189 = .ok (.getfield 23, 3) := by decide +kernel
theorem dX10_priceUpTo_192 : decode cX10_priceUpTo 192 = .ok (.iload_n 1, 1) := by decide +kernel
theorem dX10_priceUpTo_193 : decode cX10_priceUpTo 193 = .ok (.iconst 1, 1) := by decide +kernel
theorem dX10_priceUpTo_194 : decode cX10_priceUpTo 194 = .ok (.isub, 1) := by decide +kernel
theorem dX10_priceUpTo_195 : decode cX10_priceUpTo 195 = .ok (.iaload, 1) := by decide +kernel
theorem dX10_priceUpTo_196 : decode cX10_priceUpTo 196 = .ok (.if_icmp .eq 59, 3) := by decide +kernel
theorem dX10_priceUpTo_199 : decode cX10_priceUpTo 199 = .ok (.aload_n 0, 1) := by decide +kernel
theorem dX10_priceUpTo_200 : decode cX10_priceUpTo 200 = .ok (.getfield 23, 3) := by decide +kernel
theorem dX10_priceUpTo_203 : decode cX10_priceUpTo 203 = .ok (.iload_n 1, 1) := by decide +kernel
theorem dX10_priceUpTo_204 : decode cX10_priceUpTo 204 = .ok (.iaload, 1) := by decide +kernel
theorem dX10_priceUpTo_205 : decode cX10_priceUpTo 205 = .ok (.aload_n 0, 1) := by decide +kernel
theorem dX10_priceUpTo_206 : decode cX10_priceUpTo 206 = .ok (.getfield 26, 3) := by decide +kernel
theorem dX10_priceUpTo_209 : decode cX10_priceUpTo 209 = .ok (.iload_n 2, 1) := by decide +kernel
theorem dX10_priceUpTo_210 : decode cX10_priceUpTo 210 = .ok (.iconst 1, 1) := by decide +kernel
theorem dX10_priceUpTo_211 : decode cX10_priceUpTo 211 = .ok (.isub, 1) := by decide +kernel
theorem dX10_priceUpTo_212 : decode cX10_priceUpTo 212 = .ok (.iaload, 1) := by decide +kernel
theorem dX10_priceUpTo_213 : decode cX10_priceUpTo 213 = .ok (.if_icmp .ne 42, 3) := by decide +kernel
theorem dX10_priceUpTo_216 : decode cX10_priceUpTo 216 = .ok (.aload_n 0, 1) := by decide +kernel
theorem dX10_priceUpTo_217 : decode cX10_priceUpTo 217 = .ok (.getfield 23, 3) := by decide +kernel
theorem dX10_priceUpTo_220 : decode cX10_priceUpTo 220 = .ok (.iload_n 1, 1) := by decide +kernel
theorem dX10_priceUpTo_221 : decode cX10_priceUpTo 221 = .ok (.iconst 1, 1) := by decide +kernel
theorem dX10_priceUpTo_222 : decode cX10_priceUpTo 222 = .ok (.isub, 1) := by decide +kernel
theorem dX10_priceUpTo_223 : decode cX10_priceUpTo 223 = .ok (.iaload, 1) := by decide +kernel
theorem dX10_priceUpTo_224 : decode cX10_priceUpTo 224 = .ok (.aload_n 0, 1) := by decide +kernel
theorem dX10_priceUpTo_225 : decode cX10_priceUpTo 225 = .ok (.getfield 26, 3) := by decide +kernel
theorem dX10_priceUpTo_228 : decode cX10_priceUpTo 228 = .ok (.iload_n 2, 1) := by decide +kernel
theorem dX10_priceUpTo_229 : decode cX10_priceUpTo 229 = .ok (.iaload, 1) := by decide +kernel
theorem dX10_priceUpTo_230 : decode cX10_priceUpTo 230 = .ok (.if_icmp .ne 25, 3) := by decide +kernel
theorem dX10_priceUpTo_233 : decode cX10_priceUpTo 233 = .ok (.iload_n 3, 1) := by decide +kernel
theorem dX10_priceUpTo_234 : decode cX10_priceUpTo 234 = .ok (.aload_n 0, 1) := by decide +kernel
theorem dX10_priceUpTo_235 : decode cX10_priceUpTo 235 = .ok (.getfield 29, 3) := by decide +kernel
theorem dX10_priceUpTo_238 : decode cX10_priceUpTo 238 = .ok (.bipush 11, 2) := by decide +kernel
theorem dX10_priceUpTo_240 : decode cX10_priceUpTo 240 = .ok (.iload_n 1, 1) := by decide +kernel
theorem dX10_priceUpTo_241 : decode cX10_priceUpTo 241 = .ok (.iconst 2, 1) := by decide +kernel
theorem dX10_priceUpTo_242 : decode cX10_priceUpTo 242 = .ok (.isub, 1) := by decide +kernel
theorem dX10_priceUpTo_243 : decode cX10_priceUpTo 243 = .ok (.imul, 1) := by decide +kernel
theorem dX10_priceUpTo_244 : decode cX10_priceUpTo 244 = .ok (.iload_n 2, 1) := by decide +kernel
theorem dX10_priceUpTo_245 : decode cX10_priceUpTo 245 = .ok (.iadd, 1) := by decide +kernel
theorem dX10_priceUpTo_246 : decode cX10_priceUpTo 246 = .ok (.iconst 2, 1) := by decide +kernel
theorem dX10_priceUpTo_247 : decode cX10_priceUpTo 247 = .ok (.isub, 1) := by decide +kernel
theorem dX10_priceUpTo_248 : decode cX10_priceUpTo 248 = .ok (.iaload, 1) := by decide +kernel
theorem dX10_priceUpTo_249 : decode cX10_priceUpTo 249 = .ok (.iconst 1, 1) := by decide +kernel
theorem dX10_priceUpTo_250 : decode cX10_priceUpTo 250 = .ok (.iadd, 1) := by decide +kernel
theorem dX10_priceUpTo_251 : decode cX10_priceUpTo 251 = .ok (.invokestatic 69, 3) := by decide +kernel
theorem dX10_priceUpTo_254 : decode cX10_priceUpTo 254 = .ok (.istore_n 3, 1) := by decide +kernel
theorem dX10_priceUpTo_255 : decode cX10_priceUpTo 255 = .ok (.iload_n 3, 1) := by decide +kernel
theorem dX10_priceUpTo_256 : decode cX10_priceUpTo 256 = .ok (.ireturn, 1) := by decide +kernel
set_option maxRecDepth 20000 in
theorem ggX10_priceOf_X10_layOne : GoodIn wsX10_priceOf wsX10_layOne := goodIn_r _ [8, 1, 9, 10, 11, 12, 7, 13, 31, 32, 33, 34, 35, 36, 37, 38, 39, 40, 41, 42, 43, 44, 45] (by decide +kernel) (by decide +kernel)
set_option maxRecDepth 20000 in
theorem gX10_priceOf_X10_layOne : GoodIn wsX10_priceOf (wsV RX10 62 RX10 yX10_layOne wsX10_layOne) := goodIn_app (goodIn_of _ (by decide +kernel)) ggX10_priceOf_X10_layOne
set_option maxRecDepth 20000 in
theorem ggX10_priceOf_X10_layOther : GoodIn wsX10_priceOf wsX10_layOther := goodIn_r _ [17, 2, 18, 10, 11, 12, 7, 13, 31, 32, 33, 34, 35, 36, 37, 38, 39, 40, 41, 42, 43, 44, 45] (by decide +kernel) (by decide +kernel)
set_option maxRecDepth 20000 in
theorem gX10_priceOf_X10_layOther : GoodIn wsX10_priceOf (wsV RX10 66 RX10 yX10_layOther wsX10_layOther) := goodIn_app (goodIn_of _ (by decide +kernel)) ggX10_priceOf_X10_layOther
set_option maxRecDepth 20000 in
theorem ggX10_priceOf_X10_priceUpTo : GoodIn wsX10_priceOf wsX10_priceUpTo := goodIn_r _ [22, 3, 9, 18, 23, 24, 7, 25, 26, 27, 28, 29, 30, 31, 32, 33, 34, 35, 36, 37, 38, 39, 40, 41, 42, 43, 44, 45] (by decide +kernel) (by decide +kernel)
set_option maxRecDepth 20000 in
theorem gX10_priceOf_X10_priceUpTo : GoodIn wsX10_priceOf (wsV RX10 114 RX10 yX10_priceUpTo wsX10_priceUpTo) := goodIn_app (goodIn_of _ (by decide +kernel)) ggX10_priceOf_X10_priceUpTo
theorem dX10_priceOf_0 : decode cX10_priceOf 0 = .ok (.aload_n 0, 1) := by decide +kernel
theorem dX10_priceOf_1 : decode cX10_priceOf 1 = .ok (.lload_n 1, 1) := by decide +kernel
theorem dX10_priceOf_2 : decode cX10_priceOf 2 = .ok (.invokevirtual 62, 3) := by decide +kernel
theorem dX10_priceOf_5 : decode cX10_priceOf 5 = .ok (.aload_n 0, 1) := by decide +kernel
theorem dX10_priceOf_6 : decode cX10_priceOf 6 = .ok (.lload_n 3, 1) := by decide +kernel
theorem dX10_priceOf_7 : decode cX10_priceOf 7 = .ok (.invokevirtual 66, 3) := by decide +kernel
theorem dX10_priceOf_10 : decode cX10_priceOf 10 = .ok (.iconst 0, 1) := by decide +kernel
theorem dX10_priceOf_11 : decode cX10_priceOf 11 = .ok (.istore 5, 2) := by decide +kernel
theorem dX10_priceOf_13 : decode cX10_priceOf 13 = .ok (.iload 5, 2) := by decide +kernel
theorem dX10_priceOf_15 : decode cX10_priceOf 15 = .ok (.aload_n 0, 1) := by decide +kernel
theorem dX10_priceOf_16 : decode cX10_priceOf 16 = .ok (.getfield 56, 3) := by decide +kernel
theorem dX10_priceOf_19 : decode cX10_priceOf 19 = .ok (.if_icmp .gt 48, 3) := by decide +kernel
theorem dX10_priceOf_22 : decode cX10_priceOf 22 = .ok (.iconst 0, 1) := by decide +kernel
theorem dX10_priceOf_23 : decode cX10_priceOf 23 = .ok (.istore 6, 2) := by decide +kernel
theorem dX10_priceOf_25 : decode cX10_priceOf 25 = .ok (.iload 6, 2) := by decide +kernel
theorem dX10_priceOf_27 : decode cX10_priceOf 27 = .ok (.aload_n 0, 1) := by decide +kernel
theorem dX10_priceOf_28 : decode cX10_priceOf 28 = .ok (.getfield 59, 3) := by decide +kernel
theorem dX10_priceOf_31 : decode cX10_priceOf 31 = .ok (.if_icmp .gt 30, 3) := by decide +kernel
theorem dX10_priceOf_34 : decode cX10_priceOf 34 = .ok (.aload_n 0, 1) := by decide +kernel
theorem dX10_priceOf_35 : decode cX10_priceOf 35 = .ok (.getfield 29, 3) := by decide +kernel
theorem dX10_priceOf_38 : decode cX10_priceOf 38 = .ok (.bipush 11, 2) := by decide +kernel
theorem dX10_priceOf_40 : decode cX10_priceOf 40 = .ok (.iload 5, 2) := by decide +kernel
theorem dX10_priceOf_42 : decode cX10_priceOf 42 = .ok (.imul, 1) := by decide +kernel
theorem dX10_priceOf_43 : decode cX10_priceOf 43 = .ok (.iload 6, 2) := by decide +kernel
theorem dX10_priceOf_45 : decode cX10_priceOf 45 = .ok (.iadd, 1) := by decide +kernel
theorem dX10_priceOf_46 : decode cX10_priceOf 46 = .ok (.aload_n 0, 1) := by decide +kernel
theorem dX10_priceOf_47 : decode cX10_priceOf 47 = .ok (.iload 5, 2) := by decide +kernel
theorem dX10_priceOf_49 : decode cX10_priceOf 49 = .ok (.iload 6, 2) := by decide +kernel
theorem dX10_priceOf_51 : decode cX10_priceOf 51 = .ok (.invokevirtual 114, 3) := by decide +kernel
theorem dX10_priceOf_54 : decode cX10_priceOf 54 = .ok (.iastore, 1) := by decide +kernel
theorem dX10_priceOf_55 : decode cX10_priceOf 55 = .ok (.iinc 6 1, 3) := by decide +kernel
theorem dX10_priceOf_58 : decode cX10_priceOf 58 = .ok (.goto (-33), 3) := by decide +kernel
theorem dX10_priceOf_61 : decode cX10_priceOf 61 = .ok (.iinc 5 1, 3) := by decide +kernel
theorem dX10_priceOf_64 : decode cX10_priceOf 64 = .ok (.goto (-51), 3) := by decide +kernel
theorem dX10_priceOf_67 : decode cX10_priceOf 67 = .ok (.aload_n 0, 1) := by decide +kernel
theorem dX10_priceOf_68 : decode cX10_priceOf 68 = .ok (.getfield 29, 3) := by decide +kernel
theorem dX10_priceOf_71 : decode cX10_priceOf 71 = .ok (.bipush 11, 2) := by decide +kernel
theorem dX10_priceOf_73 : decode cX10_priceOf 73 = .ok (.aload_n 0, 1) := by decide +kernel
theorem dX10_priceOf_74 : decode cX10_priceOf 74 = .ok (.getfield 56, 3) := by decide +kernel
theorem dX10_priceOf_77 : decode cX10_priceOf 77 = .ok (.imul, 1) := by decide +kernel
theorem dX10_priceOf_78 : decode cX10_priceOf 78 = .ok (.aload_n 0, 1) := by decide +kernel
theorem dX10_priceOf_79 : decode cX10_priceOf 79 = .ok (.getfield 59, 3) := by decide +kernel
theorem dX10_priceOf_82 : decode cX10_priceOf 82 = .ok (.iadd, 1) := by decide +kernel
theorem dX10_priceOf_83 : decode cX10_priceOf 83 = .ok (.iaload, 1) := by decide +kernel
theorem dX10_priceOf_84 : decode cX10_priceOf 84 = .ok (.ireturn, 1) := by decide +kernel
set_option maxRecDepth 20000 in
theorem ggX10_price_X10_isWord : GoodIn wsX10_price wsX10_isWord := goodIn_r _ [4, 5, 6, 7, 8, 3, 9] (by decide +kernel) (by decide +kernel)
set_option maxRecDepth 20000 in
theorem gX10_price_X10_isWord : GoodIn wsX10_price (va_wsS RX10 84 yX10_isWord wsX10_isWord) := goodIn_app (goodIn_of _ (by decide +kernel)) ggX10_price_X10_isWord
set_option maxRecDepth 20000 in
theorem ggX10_price_X10_goesWell : GoodIn wsX10_price wsX10_goesWell := goodIn_r _ [13, 14, 44, 45, 46, 47, 48, 49, 50, 51, 52, 53, 54, 55, 56, 57, 58] (by decide +kernel) (by decide +kernel)
set_option maxRecDepth 20000 in
theorem gX10_price_X10_goesWell : GoodIn wsX10_price (wsV RX10 92 RX10 yX10_goesWell wsX10_goesWell) := goodIn_app (goodIn_of _ (by decide +kernel)) ggX10_price_X10_goesWell
set_option maxRecDepth 20000 in
theorem ggX10_price_X10_priceOf : GoodIn wsX10_price wsX10_priceOf := goodIn_r _ [18, 19, 20, 21, 22, 23, 24, 3, 25, 26, 5, 7, 8, 9, 27, 28, 29, 30, 31, 32, 33, 34, 35, 36, 37, 38, 39, 40, 41, 42, 43, 44, 45, 46, 47, 48, 49, 50, 51, 52, 53, 54, 55, 56, 57, 58] (by decide +kernel) (by decide +kernel)
set_option maxRecDepth 20000 in
theorem gX10_price_X10_priceOf : GoodIn wsX10_price (wsV RX10 117 RX10 yX10_priceOf wsX10_priceOf) := goodIn_app (goodIn_of _ (by decide +kernel)) ggX10_price_X10_priceOf
theorem dX10_price_0 : decode cX10_price 0 = .ok (.aload_n 0, 1) := by decide +kernel
theorem dX10_price_1 : decode cX10_price 1 = .ok (.lload_n 1, 1) := by decide +kernel
theorem dX10_price_2 : decode cX10_price 2 = .ok (.invokestatic 84, 3) := by decide +kernel
theorem dX10_price_5 : decode cX10_price 5 = .ok (.ifCond .eq 14, 3) := by decide +kernel
theorem dX10_price_8 : decode cX10_price 8 = .ok (.lload_n 3, 1) := by decide +kernel
theorem dX10_price_9 : decode cX10_price 9 = .ok (.invokestatic 84, 3) := by decide +kernel
theorem dX10_price_12 : decode cX10_price 12 = .ok (.ifCond .eq 7, 3) := by decide +kernel
theorem dX10_price_15 : decode cX10_price 15 = .ok (.iconst 0, 1) := by decide +kernel
theorem dX10_price_16 : decode cX10_price 16 = .ok (.goto 4, 3) := by decide +kernel
theorem dX10_price_19 : decode cX10_price 19 = .ok (.iconst 1, 1) := by decide +kernel
theorem dX10_price_20 : decode cX10_price 20 = .ok (.invokevirtual 92, 3) := by decide +kernel
theorem dX10_price_23 : decode cX10_price 23 = .ok (.ifCond .eq 12, 3) := by decide +kernel
theorem dX10_price_26 : decode cX10_price 26 = .ok (.aload_n 0, 1) := by decide +kernel
theorem dX10_price_27 : decode cX10_price 27 = .ok (.lload_n 1, 1) := by decide +kernel
theorem dX10_price_28 : decode cX10_price 28 = .ok (.lload_n 3, 1) := by decide +kernel
theorem dX10_price_29 : decode cX10_price 29 = .ok (.invokevirtual 117, 3) := by decide +kernel
theorem dX10_price_32 : decode cX10_price 32 = .ok (.goto 4, 3) := by decide +kernel
theorem dX10_price_35 : decode cX10_price 35 = .ok (.iconst 0, 1) := by decide +kernel
theorem dX10_price_36 : decode cX10_price 36 = .ok (.ireturn, 1) := by decide +kernel
theorem dX10_isLetter_0 : decode cX10_isLetter 0 = .ok (.iload_n 0, 1) := by decide +kernel
theorem dX10_isLetter_1 : decode cX10_isLetter 1 = .ok (.iconst 1, 1) := by decide +kernel
theorem dX10_isLetter_2 : decode cX10_isLetter 2 = .ok (.if_icmp .lt 13, 3) := by decide +kernel
theorem dX10_isLetter_5 : decode cX10_isLetter 5 = .ok (.iload_n 0, 1) := by decide +kernel
theorem dX10_isLetter_6 : decode cX10_isLetter 6 = .ok (.bipush 26, 2) := by decide +kernel
theorem dX10_isLetter_8 : decode cX10_isLetter 8 = .ok (.if_icmp .gt 7, 3) := by decide +kernel
theorem dX10_isLetter_11 : decode cX10_isLetter 11 = .ok (.iconst 1, 1) := by decide +kernel
theorem dX10_isLetter_12 : decode cX10_isLetter 12 = .ok (.goto 4, 3) := by decide +kernel
theorem dX10_isLetter_15 : decode cX10_isLetter 15 = .ok (.iconst 0, 1) := by decide +kernel
theorem dX10_isLetter_16 : decode cX10_isLetter 16 = .ok (.ireturn, 1) := by decide +kernel
set_option maxRecDepth 20000 in
theorem ggX10_areNeighbours_X10_isLetter : GoodIn wsX10_areNeighbours wsX10_isLetter := goodIn_r _ [4] (by decide +kernel) (by decide +kernel)
set_option maxRecDepth 20000 in
theorem gX10_areNeighbours_X10_isLetter : GoodIn wsX10_areNeighbours (va_wsS RX10 120 yX10_isLetter wsX10_isLetter) := goodIn_app (goodIn_of _ (by decide +kernel)) ggX10_areNeighbours_X10_isLetter
set_option maxRecDepth 20000 in
theorem ggX10_areNeighbours_X10_goesWell : GoodIn wsX10_areNeighbours wsX10_goesWell := goodIn_r _ [8, 9, 15, 16, 17, 18, 19, 20, 21, 22, 23, 24, 25, 26, 27, 28, 29] (by decide +kernel) (by decide +kernel)
set_option maxRecDepth 20000 in
theorem gX10_areNeighbours_X10_goesWell : GoodIn wsX10_areNeighbours (wsV RX10 92 RX10 yX10_goesWell wsX10_goesWell) := goodIn_app (goodIn_of _ (by decide +kernel)) ggX10_areNeighbours_X10_goesWell
set_option maxRecDepth 20000 in
theorem ggX10_areNeighbours_X10_beside : GoodIn wsX10_areNeighbours wsX10_beside := goodIn_r _ [13, 14, 15, 16, 17, 18, 19, 20, 21, 22, 23, 24, 25, 26, 27, 28, 29] (by decide +kernel) (by decide +kernel)
set_option maxRecDepth 20000 in
theorem gX10_areNeighbours_X10_beside : GoodIn wsX10_areNeighbours (wsV RX10 110 RX10 yX10_beside wsX10_beside) := goodIn_app (goodIn_of _ (by decide +kernel)) ggX10_areNeighbours_X10_beside
theorem dX10_areNeighbours_0 : decode cX10_areNeighbours 0 = .ok (.aload_n 0, 1) := by decide +kernel
theorem dX10_areNeighbours_1 : decode cX10_areNeighbours 1 = .ok (.iload_n 1, 1) := by decide +kernel
theorem dX10_areNeighbours_2 : decode cX10_areNeighbours 2 = .ok (.invokestatic 120, 3) := by decide +kernel
theorem dX10_areNeighbours_5 : decode cX10_areNeighbours 5 = .ok (.ifCond .eq 14, 3) := by decide +kernel
theorem dX10_areNeighbours_8 : decode cX10_areNeighbours 8 = .ok (.iload_n 2, 1) := by decide +kernel
theorem dX10_areNeighbours_9 : decode cX10_areNeighbours 9 = .ok (.invokestatic 120, 3) := by decide +kernel
theorem dX10_areNeighbours_12 : decode cX10_areNeighbours 12 = .ok (.ifCond .eq 7, 3) := by decide +kernel
theorem dX10_areNeighbours_15 : decode cX10_areNeighbours 15 = .ok (.iconst 0, 1) := by decide +kernel
theorem dX10_areNeighbours_16 : decode cX10_areNeighbours 16 = .ok (.goto 4, 3) := by decide +kernel
theorem dX10_areNeighbours_19 : decode cX10_areNeighbours 19 = .ok (.iconst 1, 1) := by decide +kernel
theorem dX10_areNeighbours_20 : decode cX10_areNeighbours 20 = .ok (.invokevirtual 92, 3) := by decide +kernel
theorem dX10_areNeighbours_23 : decode cX10_areNeighbours 23 = .ok (.ifCond .eq 16, 3) := by decide +kernel
theorem dX10_areNeighbours_26 : decode cX10_areNeighbours 26 = .ok (.aload_n 0, 1) := by decide +kernel
theorem dX10_areNeighbours_27 : decode cX10_areNeighbours 27 = .ok (.iload_n 1, 1) := by decide +kernel
theorem dX10_areNeighbours_28 : decode cX10_areNeighbours 28 = .ok (.iload_n 2, 1) := by decide +kernel
theorem dX10_areNeighbours_29 : decode cX10_areNeighbours 29 = .ok (.invokevirtual 110, 3) := by decide +kernel
theorem dX10_areNeighbours_32 : decode cX10_areNeighbours 32 = .ok (.ifCond .eq 7, 3) := by decide +kernel
theorem dX10_areNeighbours_35 : decode cX10_areNeighbours 35 = .ok (.iconst 1, 1) := by decide +kernel
theorem dX10_areNeighbours_36 : decode cX10_areNeighbours 36 = .ok (.goto 4, 3) := by decide +kernel
theorem dX10_areNeighbours_39 : decode cX10_areNeighbours 39 = .ok (.iconst 0, 1) := by decide +kernel
theorem dX10_areNeighbours_40 : decode cX10_areNeighbours 40 = .ok (.ireturn, 1) := by decide +kernel
set_option maxRecDepth 20000 in
theorem ggX10_isSearch_X10_isWord : GoodIn wsX10_isSearch wsX10_isWord := goodIn_r _ [4, 5, 6, 7, 8, 3, 9] (by decide +kernel) (by decide +kernel)
set_option maxRecDepth 20000 in
theorem gX10_isSearch_X10_isWord : GoodIn wsX10_isSearch (va_wsS RX10 84 yX10_isWord wsX10_isWord) := goodIn_app (goodIn_of _ (by decide +kernel)) ggX10_isSearch_X10_isWord
theorem dX10_isSearch_0 : decode cX10_isSearch 0 = .ok (.lload_n 0, 1) := by decide +kernel
theorem dX10_isSearch_1 : decode cX10_isSearch 1 = .ok (.invokestatic 84, 3) := by decide +kernel
theorem dX10_isSearch_4 : decode cX10_isSearch 4 = .ok (.ifCond .eq 16, 3) := by decide +kernel
theorem dX10_isSearch_7 : decode cX10_isSearch 7 = .ok (.iload_n 2, 1) := by decide +kernel
theorem dX10_isSearch_8 : decode cX10_isSearch 8 = .ok (.ifCond .lt 12, 3) := by decide +kernel
theorem dX10_isSearch_11 : decode cX10_isSearch 11 = .ok (.iload_n 2, 1) := by decide +kernel
theorem dX10_isSearch_12 : decode cX10_isSearch 12 = .ok (.iload_n 3, 1) := by decide +kernel
theorem dX10_isSearch_13 : decode cX10_isSearch 13 = .ok (.if_icmp .gt 7, 3) := by decide +kernel
theorem dX10_isSearch_16 : decode cX10_isSearch 16 = .ok (.iconst 1, 1) := by decide +kernel
theorem dX10_isSearch_17 : decode cX10_isSearch 17 = .ok (.goto 4, 3) := by decide +kernel
theorem dX10_isSearch_20 : decode cX10_isSearch 20 = .ok (.iconst 0, 1) := by decide +kernel
theorem dX10_isSearch_21 : decode cX10_isSearch 21 = .ok (.ireturn, 1) := by decide +kernel
set_option maxRecDepth 20000 in
theorem ggX10_corrects_X10_apart : GoodIn wsX10_corrects wsX10_apart := goodIn_r _ [7, 8, 9, 10, 11, 12, 13, 6, 14, 15, 16, 17, 18, 19, 20, 21, 22, 23, 24, 25, 26, 27, 28, 29, 30, 31, 32, 33, 34, 35, 36, 37, 38, 39, 40, 41, 42, 43, 44, 45, 46] (by decide +kernel) (by decide +kernel)
set_option maxRecDepth 20000 in
theorem gX10_corrects_X10_apart : GoodIn wsX10_corrects (wsV RX10 80 RX10 yX10_apart wsX10_apart) := goodIn_app (goodIn_of _ (by decide +kernel)) ggX10_corrects_X10_apart
theorem dX10_corrects_0 : decode cX10_corrects 0 = .ok (.aload_n 0, 1) := by decide +kernel
theorem dX10_corrects_1 : decode cX10_corrects 1 = .ok (.getfield 13, 3) := by decide +kernel
theorem dX10_corrects_4 : decode cX10_corrects 4 = .ok (.iload_n 1, 1) := by decide +kernel
theorem dX10_corrects_5 : decode cX10_corrects 5 = .ok (.iaload, 1) := by decide +kernel
theorem dX10_corrects_6 : decode cX10_corrects 6 = .ok (.ifCond .le 23, 3) := by decide +kernel
theorem dX10_corrects_9 : decode cX10_corrects 9 = .ok (.aload_n 0, 1) := by decide +kernel
theorem dX10_corrects_10 : decode cX10_corrects 10 = .ok (.lload_n 2, 1) := by decide +kernel
theorem dX10_corrects_11 : decode cX10_corrects 11 = .ok (.aload_n 0, 1) := by decide +kernel
theorem dX10_corrects_12 : decode cX10_corrects 12 = .ok (.getfield 7, 3) := by decide +kernel
theorem dX10_corrects_15 : decode cX10_corrects 15 = .ok (.iload_n 1, 1) := by decide +kernel
theorem dX10_corrects_16 : decode cX10_corrects 16 = .ok (.laload, 1) := by decide +kernel
theorem dX10_corrects_17 : decode cX10_corrects 17 = .ok (.invokevirtual 80, 3) := by decide +kernel
theorem dX10_corrects_20 : decode cX10_corrects 20 = .ok (.iload 4, 2) := by decide +kernel
theorem dX10_corrects_22 : decode cX10_corrects 22 = .ok (.if_icmp .gt 7, 3) := by decide +kernel
theorem dX10_corrects_25 : decode cX10_corrects 25 = .ok (.iconst 1, 1) := by decide +kernel
theorem dX10_corrects_26 : decode cX10_corrects 26 = .ok (.goto 4, 3) := by decide +kernel
theorem dX10_corrects_29 : decode cX10_corrects 29 = .ok (.iconst 0, 1) := by decide +kernel
theorem dX10_corrects_30 : decode cX10_corrects 30 = .ok (.ireturn, 1) := by decide +kernel
set_option maxRecDepth 20000 in
theorem ggX10_correctionMany_X10_corrects : GoodIn wsX10_correctionMany wsX10_corrects := goodIn_r _ [6, 7, 8, 9, 10, 11, 5, 12, 13, 14, 15, 16, 17, 18, 19, 20, 21, 22, 23, 24, 25, 26, 27, 28, 29, 30, 31, 32, 33, 34, 35, 36, 37, 38, 39, 40, 41, 42, 43, 44, 45, 46, 47, 48, 49, 50, 51] (by decide +kernel) (by decide +kernel)
set_option maxRecDepth 20000 in
theorem gX10_correctionMany_X10_corrects : GoodIn wsX10_correctionMany (wsV RX10 123 RX10 yX10_corrects wsX10_corrects) := goodIn_app (goodIn_of _ (by decide +kernel)) ggX10_correctionMany_X10_corrects
theorem dX10_correctionMany_0 : decode cX10_correctionMany 0 = .ok (.iconst 0, 1) := by decide +kernel
theorem dX10_correctionMany_1 : decode cX10_correctionMany 1 = .ok (.istore 4, 2) := by decide +kernel
theorem dX10_correctionMany_3 : decode cX10_correctionMany 3 = .ok (.iconst 0, 1) := by decide +kernel
theorem dX10_correctionMany_4 : decode cX10_correctionMany 4 = .ok (.istore 5, 2) := by decide +kernel
theorem dX10_correctionMany_6 : decode cX10_correctionMany 6 = .ok (.iload 5, 2) := by decide +kernel
theorem dX10_correctionMany_8 : decode cX10_correctionMany 8 = .ok (.aload_n 0, 1) := by decide +kernel
theorem dX10_correctionMany_9 : decode cX10_correctionMany 9 = .ok (.getfield 77, 3) := by decide +kernel
theorem dX10_correctionMany_12 : decode cX10_correctionMany 12 = .ok (.if_icmp .ge 30, 3) := by decide +kernel
theorem dX10_correctionMany_15 : decode cX10_correctionMany 15 = .ok (.iload 4, 2) := by decide +kernel
theorem dX10_correctionMany_17 : decode cX10_correctionMany 17 = .ok (.aload_n 0, 1) := by decide +kernel
theorem dX10_correctionMany_18 : decode cX10_correctionMany 18 = .ok (.iload 5, 2) := by decide +kernel
theorem dX10_correctionMany_20 : decode cX10_correctionMany 20 = .ok (.lload_n 1, 1) := by decide +kernel
theorem dX10_correctionMany_21 : decode cX10_correctionMany 21 = .ok (.iload_n 3, 1) := by decide +kernel
theorem dX10_correctionMany_22 : decode cX10_correctionMany 22 = .ok (.invokevirtual 123, 3) := by decide +kernel
theorem dX10_correctionMany_25 : decode cX10_correctionMany 25 = .ok (.ifCond .eq 7, 3) := by decide +kernel
theorem dX10_correctionMany_28 : decode cX10_correctionMany 28 = .ok (.iconst 1, 1) := by decide +kernel
theorem dX10_correctionMany_29 : decode cX10_correctionMany 29 = .ok (.goto 4, 3) := by decide +kernel
theorem dX10_correctionMany_32 : decode cX10_correctionMany 32 = .ok (.iconst 0, 1) := by decide +kernel
theorem dX10_correctionMany_33 : decode cX10_correctionMany 33 = .ok (.iadd, 1) := by decide +kernel
theorem dX10_correctionMany_34 : decode cX10_correctionMany 34 = .ok (.istore 4, 2) := by decide +kernel
theorem dX10_correctionMany_36 : decode cX10_correctionMany 36 = .ok (.iinc 5 1, 3) := by decide +kernel
theorem dX10_correctionMany_39 : decode cX10_correctionMany 39 = .ok (.goto (-33), 3) := by decide +kernel
theorem dX10_correctionMany_42 : decode cX10_correctionMany 42 = .ok (.iload 4, 2) := by decide +kernel
theorem dX10_correctionMany_44 : decode cX10_correctionMany 44 = .ok (.ireturn, 1) := by decide +kernel
set_option maxRecDepth 20000 in
theorem ggX10_corrections_X10_isSearch : GoodIn wsX10_corrections wsX10_isSearch := goodIn_r _ [4, 5, 6, 3, 7, 8, 9, 10, 11, 12] (by decide +kernel) (by decide +kernel)
set_option maxRecDepth 20000 in
theorem gX10_corrections_X10_isSearch : GoodIn wsX10_corrections (va_wsS RX10 127 yX10_isSearch wsX10_isSearch) := goodIn_app (goodIn_of _ (by decide +kernel)) ggX10_corrections_X10_isSearch
set_option maxRecDepth 20000 in
theorem ggX10_corrections_X10_goesWell : GoodIn wsX10_corrections wsX10_goesWell := goodIn_r _ [16, 17, 53, 54, 55, 56, 57, 58, 59, 60, 61, 62, 63, 64, 65, 66, 67] (by decide +kernel) (by decide +kernel)
set_option maxRecDepth 20000 in
theorem gX10_corrections_X10_goesWell : GoodIn wsX10_corrections (wsV RX10 92 RX10 yX10_goesWell wsX10_goesWell) := goodIn_app (goodIn_of _ (by decide +kernel)) ggX10_corrections_X10_goesWell
set_option maxRecDepth 20000 in
theorem ggX10_corrections_X10_correctionMany : GoodIn wsX10_corrections wsX10_correctionMany := goodIn_r _ [21, 22, 23, 24, 25, 3, 26, 27, 28, 29, 30, 31, 32, 33, 34, 35, 36, 37, 38, 39, 40, 41, 42, 43, 44, 45, 8, 10, 11, 12, 46, 47, 48, 49, 50, 51, 52, 53, 54, 55, 56, 57, 58, 59, 60, 61, 62, 63, 64, 65, 66, 67] (by decide +kernel) (by decide +kernel)
set_option maxRecDepth 20000 in
theorem gX10_corrections_X10_correctionMany : GoodIn wsX10_corrections (wsV RX10 131 RX10 yX10_correctionMany wsX10_correctionMany) := goodIn_app (goodIn_of _ (by decide +kernel)) ggX10_corrections_X10_correctionMany
theorem dX10_corrections_0 : decode cX10_corrections 0 = .ok (.aload_n 0, 1) := by decide +kernel
theorem dX10_corrections_1 : decode cX10_corrections 1 = .ok (.lload_n 1, 1) := by decide +kernel
theorem dX10_corrections_2 : decode cX10_corrections 2 = .ok (.iload_n 3, 1) := by decide +kernel
theorem dX10_corrections_3 : decode cX10_corrections 3 = .ok (.iconst 3, 1) := by decide +kernel
theorem dX10_corrections_4 : decode cX10_corrections 4 = .ok (.invokestatic 127, 3) := by decide +kernel
theorem dX10_corrections_7 : decode cX10_corrections 7 = .ok (.ifCond .eq 7, 3) := by decide +kernel
theorem dX10_corrections_10 : decode cX10_corrections 10 = .ok (.iconst 0, 1) := by decide +kernel
theorem dX10_corrections_11 : decode cX10_corrections 11 = .ok (.goto 4, 3) := by decide +kernel
theorem dX10_corrections_14 : decode cX10_corrections 14 = .ok (.iconst 1, 1) := by decide +kernel
theorem dX10_corrections_15 : decode cX10_corrections 15 = .ok (.invokevirtual 92, 3) := by decide +kernel
theorem dX10_corrections_18 : decode cX10_corrections 18 = .ok (.ifCond .eq 12, 3) := by decide +kernel
theorem dX10_corrections_21 : decode cX10_corrections 21 = .ok (.aload_n 0, 1) := by decide +kernel
theorem dX10_corrections_22 : decode cX10_corrections 22 = .ok (.lload_n 1, 1) := by decide +kernel
theorem dX10_corrections_23 : decode cX10_corrections 23 = .ok (.iload_n 3, 1) := by decide +kernel
theorem dX10_corrections_24 : decode cX10_corrections 24 = .ok (.invokevirtual 131, 3) := by decide +kernel
theorem dX10_corrections_27 : decode cX10_corrections 27 = .ok (.goto 4, 3) := by decide +kernel
theorem dX10_corrections_30 : decode cX10_corrections 30 = .ok (.iconst 0, 1) := by decide +kernel
theorem dX10_corrections_31 : decode cX10_corrections 31 = .ok (.ireturn, 1) := by decide +kernel
set_option maxRecDepth 20000 in
theorem ggX10_isBetter_X10_priceOf : GoodIn wsX10_isBetter wsX10_priceOf := goodIn_r _ [7, 8, 9, 10, 11, 12, 13, 6, 14, 15, 16, 17, 18, 19, 20, 21, 22, 23, 24, 25, 26, 27, 28, 29, 30, 31, 32, 33, 34, 35, 36, 40, 41, 42, 43, 44, 45, 46, 47, 48, 49, 50, 51, 52, 53, 54] (by decide +kernel) (by decide +kernel)
set_option maxRecDepth 20000 in
theorem gX10_isBetter_X10_priceOf : GoodIn wsX10_isBetter (wsV RX10 117 RX10 yX10_priceOf wsX10_priceOf) := goodIn_app (goodIn_of _ (by decide +kernel)) ggX10_isBetter_X10_priceOf
set_option maxRecDepth 20000 in
theorem ggX10_isBetter_X10_isAhead : GoodIn wsX10_isBetter wsX10_isAhead := goodIn_r _ [39, 16, 17, 18, 6, 19] (by decide +kernel) (by decide +kernel)
set_option maxRecDepth 20000 in
theorem gX10_isBetter_X10_isAhead : GoodIn wsX10_isBetter (va_wsS RX10 106 yX10_isAhead wsX10_isAhead) := goodIn_app (goodIn_of _ (by decide +kernel)) ggX10_isBetter_X10_isAhead
theorem dX10_isBetter_0 : decode cX10_isBetter 0 = .ok (.aload_n 0, 1) := by decide +kernel
theorem dX10_isBetter_1 : decode cX10_isBetter 1 = .ok (.lload_n 3, 1) := by decide +kernel
theorem dX10_isBetter_2 : decode cX10_isBetter 2 = .ok (.aload_n 0, 1) := by decide +kernel
theorem dX10_isBetter_3 : decode cX10_isBetter 3 = .ok (.getfield 7, 3) := by decide +kernel
theorem dX10_isBetter_6 : decode cX10_isBetter 6 = .ok (.iload_n 1, 1) := by decide +kernel
theorem dX10_isBetter_7 : decode cX10_isBetter 7 = .ok (.laload, 1) := by decide +kernel
theorem dX10_isBetter_8 : decode cX10_isBetter 8 = .ok (.invokevirtual 117, 3) := by decide +kernel
theorem dX10_isBetter_11 : decode cX10_isBetter 11 = .ok (.istore 5, 2) := by decide +kernel
theorem dX10_isBetter_13 : decode cX10_isBetter 13 = .ok (.aload_n 0, 1) := by decide +kernel
theorem dX10_isBetter_14 : decode cX10_isBetter 14 = .ok (.lload_n 3, 1) := by decide +kernel
theorem dX10_isBetter_15 : decode cX10_isBetter 15 = .ok (.aload_n 0, 1) := by decide +kernel
theorem dX10_isBetter_16 : decode cX10_isBetter 16 = .ok (.getfield 7, 3) := by decide +kernel
theorem dX10_isBetter_19 : decode cX10_isBetter 19 = .ok (.iload_n 2, 1) := by decide +kernel
theorem dX10_isBetter_20 : decode cX10_isBetter 20 = .ok (.laload, 1) := by decide +kernel
theorem dX10_isBetter_21 : decode cX10_isBetter 21 = .ok (.invokevirtual 117, 3) := by decide +kernel
theorem dX10_isBetter_24 : decode cX10_isBetter 24 = .ok (.istore 6, 2) := by decide +kernel
theorem dX10_isBetter_26 : decode cX10_isBetter 26 = .ok (.iload 5, 2) := by decide +kernel
theorem dX10_isBetter_28 : decode cX10_isBetter 28 = .ok (.iload 6, 2) := by decide +kernel
theorem dX10_isBetter_30 : decode cX10_isBetter 30 = .ok (.if_icmp .eq 16, 3) := by decide +kernel
theorem dX10_isBetter_33 : decode cX10_isBetter 33 = .ok (.iload 5, 2) := by decide +kernel
theorem dX10_isBetter_35 : decode cX10_isBetter 35 = .ok (.iload 6, 2) := by decide +kernel
theorem dX10_isBetter_37 : decode cX10_isBetter 37 = .ok (.if_icmp .ge 7, 3) := by decide +kernel
theorem dX10_isBetter_40 : decode cX10_isBetter 40 = .ok (.iconst 1, 1) := by decide +kernel
theorem dX10_isBetter_41 : decode cX10_isBetter 41 = .ok (.goto 4, 3) := by decide +kernel
theorem dX10_isBetter_44 : decode cX10_isBetter 44 = .ok (.iconst 0, 1) := by decide +kernel
theorem dX10_isBetter_45 : decode cX10_isBetter 45 = .ok (.ireturn, 1) := by decide +kernel
theorem dX10_isBetter_46 : decode cX10_isBetter 46 = .ok (.aload_n 0, 1) := by decide +kernel
theorem dX10_isBetter_47 : decode cX10_isBetter 47 = .ok (.getfield 13, 3) := by decide +kernel
theorem dX10_isBetter_50 : decode cX10_isBetter 50 = .ok (.iload_n 1, 1) := by decide +kernel
theorem dX10_isBetter_51 : decode cX10_isBetter 51 = .ok (.iaload, 1) := by decide +kernel
theorem dX10_isBetter_52 : decode cX10_isBetter 52 = .ok (.aload_n 0, 1) := by decide +kernel
theorem dX10_isBetter_53 : decode cX10_isBetter 53 = .ok (.getfield 13, 3) := by decide +kernel
theorem dX10_isBetter_56 : decode cX10_isBetter 56 = .ok (.iload_n 2, 1) := by decide +kernel
theorem dX10_isBetter_57 : decode cX10_isBetter 57 = .ok (.iaload, 1) := by decide +kernel
theorem dX10_isBetter_58 : decode cX10_isBetter 58 = .ok (.if_icmp .ne 21, 3) := by decide +kernel
theorem dX10_isBetter_61 : decode cX10_isBetter 61 = .ok (.aload_n 0, 1) := by decide +kernel
theorem dX10_isBetter_62 : decode cX10_isBetter 62 = .ok (.getfield 7, 3) := by decide +kernel
theorem dX10_isBetter_65 : decode cX10_isBetter 65 = .ok (.iload_n 1, 1) := by decide +kernel
theorem dX10_isBetter_66 : decode cX10_isBetter 66 = .ok (.laload, 1) := by decide +kernel
theorem dX10_isBetter_67 : decode cX10_isBetter 67 = .ok (.aload_n 0, 1) := by decide +kernel
theorem dX10_isBetter_68 : decode cX10_isBetter 68 = .ok (.getfield 7, 3) := by decide +kernel
theorem dX10_isBetter_71 : decode cX10_isBetter 71 = .ok (.iload_n 2, 1) := by decide +kernel
theorem dX10_isBetter_72 : decode cX10_isBetter 72 = .ok (.laload, 1) := by decide +kernel
theorem dX10_isBetter_73 : decode cX10_isBetter 73 = .ok (.invokestatic 106, 3) := by decide +kernel
theorem dX10_isBetter_76 : decode cX10_isBetter 76 = .ok (.goto 23, 3) := by decide +kernel
theorem dX10_isBetter_79 : decode cX10_isBetter 79 = .ok (.aload_n 0, 1) := by decide +kernel
theorem dX10_isBetter_80 : decode cX10_isBetter 80 = .ok (.getfield 13, 3) := by decide +kernel
theorem dX10_isBetter_83 : decode cX10_isBetter 83 = .ok (.iload_n 1, 1) := by decide +kernel
theorem dX10_isBetter_84 : decode cX10_isBetter 84 = .ok (.iaload, 1) := by decide +kernel
theorem dX10_isBetter_85 : decode cX10_isBetter 85 = .ok (.aload_n 0, 1) := by decide +kernel
theorem dX10_isBetter_86 : decode cX10_isBetter 86 = .ok (.getfield 13, 3) := by decide +kernel
theorem dX10_isBetter_89 : decode cX10_isBetter 89 = .ok (.iload_n 2, 1) := by decide +kernel
theorem dX10_isBetter_90 : decode cX10_isBetter 90 = .ok (.iaload, 1) := by decide +kernel
theorem dX10_isBetter_91 : decode cX10_isBetter 91 = .ok (.if_icmp .le 7, 3) := by decide +kernel
theorem dX10_isBetter_94 : decode cX10_isBetter 94 = .ok (.iconst 1, 1) := by decide +kernel
theorem dX10_isBetter_95 : decode cX10_isBetter 95 = .ok (.goto 4, 3) := by decide +kernel
theorem dX10_isBetter_98 : decode cX10_isBetter 98 = .ok (.iconst 0, 1) := by decide +kernel
theorem dX10_isBetter_99 : decode cX10_isBetter 99 = .ok (.ireturn, 1) := by decide +kernel
set_option maxRecDepth 20000 in
theorem ggX10_correction_X10_isSearch : GoodIn wsX10_correction wsX10_isSearch := goodIn_r _ [6, 7, 8, 5, 9, 10, 11, 12, 13, 14] (by decide +kernel) (by decide +kernel)
set_option maxRecDepth 20000 in
theorem gX10_correction_X10_isSearch : GoodIn wsX10_correction (va_wsS RX10 127 yX10_isSearch wsX10_isSearch) := goodIn_app (goodIn_of _ (by decide +kernel)) ggX10_correction_X10_isSearch
set_option maxRecDepth 20000 in
theorem ggX10_correction_X10_correctionMany : GoodIn wsX10_correction wsX10_correctionMany := goodIn_r _ [18, 1, 19, 20, 21, 5, 22, 23, 2, 24, 25, 26, 27, 28, 29, 30, 31, 32, 33, 34, 35, 36, 37, 38, 39, 40, 10, 12, 13, 14, 41, 42, 43, 44, 45, 46, 47, 73, 74, 75, 76, 77, 78, 79, 80, 81, 82, 83, 84, 85, 86, 87] (by decide +kernel) (by decide +kernel)
set_option maxRecDepth 20000 in
theorem gX10_correction_X10_correctionMany : GoodIn wsX10_correction (wsV RX10 131 RX10 yX10_correctionMany wsX10_correctionMany) := goodIn_app (goodIn_of _ (by decide +kernel)) ggX10_correction_X10_correctionMany
set_option maxRecDepth 20000 in
theorem ggX10_correction_X10_goesWell : GoodIn wsX10_correction wsX10_goesWell := goodIn_r _ [51, 52, 73, 74, 75, 76, 77, 78, 79, 80, 81, 82, 83, 84, 85, 86, 87] (by decide +kernel) (by decide +kernel)
set_option maxRecDepth 20000 in
theorem gX10_correction_X10_goesWell : GoodIn wsX10_correction (wsV RX10 92 RX10 yX10_goesWell wsX10_goesWell) := goodIn_app (goodIn_of _ (by decide +kernel)) ggX10_correction_X10_goesWell
set_option maxRecDepth 20000 in
theorem ggX10_correction_X10_corrects : GoodIn wsX10_correction wsX10_corrects := goodIn_r _ [22, 23, 2, 24, 25, 26, 5, 27, 28, 29, 30, 31, 32, 33, 34, 35, 36, 37, 38, 39, 40, 10, 12, 13, 14, 41, 42, 43, 44, 45, 46, 47, 73, 74, 75, 76, 77, 78, 79, 80, 81, 82, 83, 84, 85, 86, 87] (by decide +kernel) (by decide +kernel)
set_option maxRecDepth 20000 in
theorem gX10_correction_X10_corrects : GoodIn wsX10_correction (wsV RX10 123 RX10 yX10_corrects wsX10_corrects) := goodIn_app (goodIn_of _ (by decide +kernel)) ggX10_correction_X10_corrects
set_option maxRecDepth 20000 in
theorem ggX10_correction_X10_isBetter : GoodIn wsX10_correction wsX10_isBetter := goodIn_r _ [56, 2, 23, 57, 58, 59, 5, 60, 29, 30, 28, 37, 38, 39, 40, 35, 10, 12, 13, 14, 41, 42, 43, 44, 36, 61, 62, 63, 64, 45, 46, 47, 65, 66, 67, 68, 69, 70, 71, 72, 73, 74, 75, 76, 77, 78, 79, 80, 81, 82, 83, 84, 85, 86, 87] (by decide +kernel) (by decide +kernel)
set_option maxRecDepth 20000 in
theorem gX10_correction_X10_isBetter : GoodIn wsX10_correction (wsV RX10 135 RX10 yX10_isBetter wsX10_isBetter) := goodIn_app (goodIn_of _ (by decide +kernel)) ggX10_correction_X10_isBetter
theorem dX10_correction_0 : decode cX10_correction 0 = .ok (.lload_n 1, 1) := by decide +kernel
theorem dX10_correction_1 : decode cX10_correction 1 = .ok (.iload_n 3, 1) := by decide +kernel
theorem dX10_correction_2 : decode cX10_correction 2 = .ok (.iconst 3, 1) := by decide +kernel
theorem dX10_correction_3 : decode cX10_correction 3 = .ok (.invokestatic 127, 3) := by decide +kernel
theorem dX10_correction_6 : decode cX10_correction 6 = .ok (.istore 5, 2) := by decide +kernel
theorem dX10_correction_8 : decode cX10_correction 8 = .ok (.aload_n 0, 1) := by decide +kernel
theorem dX10_correction_9 : decode cX10_correction 9 = .ok (.iload 5, 2) := by decide +kernel
theorem dX10_correction_11 : decode cX10_correction 11 = .ok (.ifCond .ne 7, 3) := by decide +kernel
theorem dX10_correction_14 : decode cX10_correction 14 = .ok (.iconst 1, 1) := by decide +kernel
theorem dX10_correction_15 : decode cX10_correction 15 = .ok (.goto 24, 3) := by decide +kernel
theorem dX10_correction_18 : decode cX10_correction 18 = .ok (.iload 4, 2) := by decide +kernel
theorem dX10_correction_20 : decode cX10_correction 20 = .ok (.ifCond .lt 18, 3) := by decide +kernel
theorem dX10_correction_23 : decode cX10_correction 23 = .ok (.iload 4, 2) := by decide +kernel
theorem dX10_correction_25 : decode cX10_correction 25 = .ok (.aload_n 0, 1) := by decide +kernel
theorem dX10_correction_26 : decode cX10_correction 26 = .ok (.lload_n 1, 1) := by decide +kernel
theorem dX10_correction_27 : decode cX10_correction 27 = .ok (.iload_n 3, 1) := by decide +kernel
theorem dX10_correction_28 : decode cX10_correction 28 = .ok (.invokevirtual 131, 3) := by decide +kernel
theorem dX10_correction_31 : decode cX10_correction 31 = .ok (.if_icmp .ge 7, 3) := by decide +kernel
theorem dX10_correction_34 : decode cX10_correction 34 = .ok (.iconst 0, 1) := by decide +kernel
theorem dX10_correction_35 : decode cX10_correction 35 = .ok (.goto 4, 3) := by decide +kernel
theorem dX10_correction_38 : decode cX10_correction 38 = .ok (.iconst 2, 1) := by decide +kernel
theorem dX10_correction_39 : decode cX10_correction 39 = .ok (.invokevirtual 92, 3) := by decide +kernel
theorem dX10_correction_42 : decode cX10_correction 42 = .ok (.ifCond .ne 5, 3) := by decide +kernel
theorem dX10_correction_45 : decode cX10_correction 45 = .ok (.lconst 0, 1) := by decide +kernel
theorem dX10_correction_46 : decode cX10_correction 46 = .ok (.lreturn, 1) := by decide +kernel
theorem dX10_correction_47 : decode cX10_correction 47 = .ok (.lconst 0, 1) := by decide +kernel
theorem dX10_correction_48 : decode cX10_correction 48 = .ok (.lstore 6, 2) := by decide +kernel
theorem dX10_correction_50 : decode cX10_correction 50 = .ok (.iconst 0, 1) := by decide +kernel
theorem dX10_correction_51 : decode cX10_correction 51 = .ok (.istore 8, 2) := by decide +kernel
theorem dX10_correction_53 : decode cX10_correction 53 = .ok (.iload 8, 2) := by decide +kernel
theorem dX10_correction_55 : decode cX10_correction 55 = .ok (.aload_n 0, 1) := by decide +kernel
theorem dX10_correction_56 : decode cX10_correction 56 = .ok (.getfield 77, 3) := by decide +kernel
theorem dX10_correction_59 : decode cX10_correction 59 = .ok (.if_icmp .ge 95, 3) := by decide +kernel
theorem dX10_correction_62 : decode cX10_correction 62 = .ok (.iconst 0, 1) := by decide +kernel
theorem dX10_correction_63 : decode cX10_correction 63 = .ok (.istore 9, 2) := by decide +kernel
theorem dX10_correction_65 : decode cX10_correction 65 = .ok (.iconst 0, 1) := by decide +kernel
theorem dX10_correction_66 : decode cX10_correction 66 = .ok (.istore 10, 2) := by decide +kernel
theorem dX10_correction_68 : decode cX10_correction 68 = .ok (.iload 10, 2) := by decide +kernel
theorem dX10_correction_70 : decode cX10_correction 70 = .ok (.aload_n 0, 1) := by decide +kernel
theorem dX10_correction_71 : decode cX10_correction 71 = .ok (.getfield 77, 3) := by decide +kernel
theorem dX10_correction_74 : decode cX10_correction 74 = .ok (.if_icmp .ge 42, 3) := by decide +kernel
theorem dX10_correction_77 : decode cX10_correction 77 = .ok (.iload 9, 2) := by decide +kernel
theorem dX10_correction_79 : decode cX10_correction 79 = .ok (.aload_n 0, 1) := by decide +kernel
theorem dX10_correction_80 : decode cX10_correction 80 = .ok (.iload 10, 2) := by decide +kernel
theorem dX10_correction_82 : decode cX10_correction 82 = .ok (.lload_n 1, 1) := by decide +kernel
theorem dX10_correction_83 : decode cX10_correction 83 = .ok (.iload_n 3, 1) := by decide +kernel
theorem dX10_correction_84 : decode cX10_correction 84 = .ok (.invokevirtual 123, 3) := by decide +kernel
theorem dX10_correction_87 : decode cX10_correction 87 = .ok (.ifCond .eq 19, 3) := by decide +kernel
theorem dX10_correction_90 : decode cX10_correction 90 = .ok (.aload_n 0, 1) := by decide +kernel
theorem dX10_correction_91 : decode cX10_correction 91 = .ok (.iload 10, 2) := by decide +kernel
theorem dX10_correction_93 : decode cX10_correction 93 = .ok (.iload 8, 2) := by decide +kernel
theorem dX10_correction_95 : decode cX10_correction 95 = .ok (.lload_n 1, 1) := by decide +kernel
theorem dX10_correction_96 : decode cX10_correction 96 = .ok (.invokevirtual 135, 3) := by decide +kernel
theorem dX10_correction_99 : decode cX10_correction 99 = .ok (.ifCond .eq 7, 3) := by decide +kernel
theorem dX10_correction_102 : decode cX10_correction 102 = .ok (.iconst 1, 1) := by decide +kernel
theorem dX10_correction_103 : decode cX10_correction 103 = .ok (.goto 4, 3) := by decide +kernel
theorem dX10_correction_106 : decode cX10_correction 106 = .ok (.iconst 0, 1) := by decide +kernel
theorem dX10_correction_107 : decode cX10_correction 107 = .ok (.iadd, 1) := by decide +kernel
theorem dX10_correction_108 : decode cX10_correction 108 = .ok (.istore 9, 2) := by decide +kernel
theorem dX10_correction_110 : decode cX10_correction 110 = .ok (.iinc 10 1, 3) := by decide +kernel
theorem dX10_correction_113 : decode cX10_correction 113 = .ok (.goto (-45), 3) := by decide +kernel
theorem dX10_correction_116 : decode cX10_correction 116 = .ok (.aload_n 0, 1) := by decide +kernel
theorem dX10_correction_117 : decode cX10_correction 117 = .ok (.iload 8, 2) := by decide +kernel
theorem dX10_correction_119 : decode cX10_correction 119 = .ok (.lload_n 1, 1) := by decide +kernel
theorem dX10_correction_120 : decode cX10_correction 120 = .ok (.iload_n 3, 1) := by decide +kernel
theorem dX10_correction_121 : decode cX10_correction 121 = .ok (.invokevirtual 123, 3) := by decide +kernel
theorem dX10_correction_124 : decode cX10_correction 124 = .ok (.ifCond .eq 20, 3) := by decide +kernel
theorem dX10_correction_127 : decode cX10_correction 127 = .ok (.iload 9, 2) := by decide +kernel
theorem dX10_correction_129 : decode cX10_correction 129 = .ok (.iload 4, 2) := by decide +kernel
theorem dX10_correction_131 : decode cX10_correction 131 = .ok (.if_icmp .ne 13, 3) := by decide +kernel
theorem dX10_correction_134 : decode cX10_correction 134 = .ok (.aload_n 0, 1) := by decide +kernel
theorem dX10_correction_135 : decode cX10_correction 135 = .ok (.getfield 7, 3) := by decide +kernel
theorem dX10_correction_138 : decode cX10_correction 138 = .ok (.iload 8, 2) := by decide +kernel
theorem dX10_correction_140 : decode cX10_correction 140 = .ok (.laload, 1) := by decide +kernel
theorem dX10_correction_141 : decode cX10_correction 141 = .ok (.goto 5, 3) := by decide +kernel
theorem dX10_correction_144 : decode cX10_correction 144 = .ok (.lload 6, 2) := by decide +kernel
theorem dX10_correction_146 : decode cX10_correction 146 = .ok (.lstore 6, 2) := by decide +kernel
theorem dX10_correction_148 : decode cX10_correction 148 = .ok (.iinc 8 1, 3) := by decide +kernel
theorem dX10_correction_151 : decode cX10_correction 151 = .ok (.goto (-98), 3) := by decide +kernel
theorem dX10_correction_154 : decode cX10_correction 154 = .ok (.lload 6, 2) := by decide +kernel
theorem dX10_correction_156 : decode cX10_correction 156 = .ok (.lreturn, 1) := by decide +kernel
set_option maxRecDepth 20000 in
theorem ggX10_nearest_X10_isWord : GoodIn wsX10_nearest wsX10_isWord := goodIn_r _ [7, 8, 9, 10, 11, 6, 12] (by decide +kernel) (by decide +kernel)
set_option maxRecDepth 20000 in
theorem gX10_nearest_X10_isWord : GoodIn wsX10_nearest (va_wsS RX10 84 yX10_isWord wsX10_isWord) := goodIn_app (goodIn_of _ (by decide +kernel)) ggX10_nearest_X10_isWord
set_option maxRecDepth 20000 in
theorem ggX10_nearest_X10_goesWell : GoodIn wsX10_nearest wsX10_goesWell := goodIn_r _ [16, 17, 42, 43, 44, 45, 46, 47, 48, 49, 50, 51, 52, 53, 54, 55, 56] (by decide +kernel) (by decide +kernel)
set_option maxRecDepth 20000 in
theorem gX10_nearest_X10_goesWell : GoodIn wsX10_nearest (wsV RX10 92 RX10 yX10_goesWell wsX10_goesWell) := goodIn_app (goodIn_of _ (by decide +kernel)) ggX10_nearest_X10_goesWell
set_option maxRecDepth 20000 in
theorem ggX10_nearest_X10_apart : GoodIn wsX10_nearest wsX10_apart := goodIn_r _ [21, 22, 23, 24, 25, 26, 27, 6, 28, 29, 30, 31, 32, 33, 34, 8, 10, 11, 12, 35, 36, 37, 38, 39, 40, 41, 42, 43, 44, 45, 46, 47, 48, 49, 50, 51, 52, 53, 54, 55, 56] (by decide +kernel) (by decide +kernel)
set_option maxRecDepth 20000 in
theorem gX10_nearest_X10_apart : GoodIn wsX10_nearest (wsV RX10 80 RX10 yX10_apart wsX10_apart) := goodIn_app (goodIn_of _ (by decide +kernel)) ggX10_nearest_X10_apart
theorem dX10_nearest_0 : decode cX10_nearest 0 = .ok (.aload_n 0, 1) := by decide +kernel
theorem dX10_nearest_1 : decode cX10_nearest 1 = .ok (.lload_n 1, 1) := by decide +kernel
theorem dX10_nearest_2 : decode cX10_nearest 2 = .ok (.invokestatic 84, 3) := by decide +kernel
theorem dX10_nearest_5 : decode cX10_nearest 5 = .ok (.ifCond .eq 7, 3) := by decide +kernel
theorem dX10_nearest_8 : decode cX10_nearest 8 = .ok (.iconst 0, 1) := by decide +kernel
theorem dX10_nearest_9 : decode cX10_nearest 9 = .ok (.goto 4, 3) := by decide +kernel
theorem dX10_nearest_12 : decode cX10_nearest 12 = .ok (.iconst 1, 1) := by decide +kernel
theorem dX10_nearest_13 : decode cX10_nearest 13 = .ok (.invokevirtual 92, 3) := by decide +kernel
theorem dX10_nearest_16 : decode cX10_nearest 16 = .ok (.ifCond .ne 5, 3) := by decide +kernel
theorem dX10_nearest_19 : decode cX10_nearest 19 = .ok (.iconst 0, 1) := by decide +kernel
theorem dX10_nearest_20 : decode cX10_nearest 20 = .ok (.ireturn, 1) := by decide +kernel
theorem dX10_nearest_21 : decode cX10_nearest 21 = .ok (.iconst (-1), 1) := by decide +kernel
theorem dX10_nearest_22 : decode cX10_nearest 22 = .ok (.istore_n 3, 1) := by decide +kernel
theorem dX10_nearest_23 : decode cX10_nearest 23 = .ok (.iconst 0, 1) := by decide +kernel
theorem dX10_nearest_24 : decode cX10_nearest 24 = .ok (.istore 4, 2) := by decide +kernel
theorem dX10_nearest_26 : decode cX10_nearest 26 = .ok (.iload 4, 2) := by decide +kernel
theorem dX10_nearest_28 : decode cX10_nearest 28 = .ok (.aload_n 0, 1) := by decide +kernel
theorem dX10_nearest_29 : decode cX10_nearest 29 = .ok (.getfield 77, 3) := by decide +kernel
theorem dX10_nearest_32 : decode cX10_nearest 32 = .ok (.if_icmp .ge 51, 3) := by decide +kernel
theorem dX10_nearest_35 : decode cX10_nearest 35 = .ok (.aload_n 0, 1) := by decide +kernel
theorem dX10_nearest_36 : decode cX10_nearest 36 = .ok (.lload_n 1, 1) := by decide +kernel
theorem dX10_nearest_37 : decode cX10_nearest 37 = .ok (.aload_n 0, 1) := by decide +kernel
theorem dX10_nearest_38 : decode cX10_nearest 38 = .ok (.getfield 7, 3) := by decide +kernel
theorem dX10_nearest_41 : decode cX10_nearest 41 = .ok (.iload 4, 2) := by decide +kernel
theorem dX10_nearest_43 : decode cX10_nearest 43 = .ok (.laload, 1) := by decide +kernel
theorem dX10_nearest_44 : decode cX10_nearest 44 = .ok (.invokevirtual 80, 3) := by decide +kernel
theorem dX10_nearest_47 : decode cX10_nearest 47 = .ok (.istore 5, 2) := by decide +kernel
theorem dX10_nearest_49 : decode cX10_nearest 49 = .ok (.aload_n 0, 1) := by decide +kernel
theorem dX10_nearest_50 : decode cX10_nearest 50 = .ok (.getfield 13, 3) := by decide +kernel
theorem dX10_nearest_53 : decode cX10_nearest 53 = .ok (.iload 4, 2) := by decide +kernel
theorem dX10_nearest_55 : decode cX10_nearest 55 = .ok (.iaload, 1) := by decide +kernel
theorem dX10_nearest_56 : decode cX10_nearest 56 = .ok (.ifCond .le 19, 3) := by decide +kernel
theorem dX10_nearest_59 : decode cX10_nearest 59 = .ok (.iload_n 3, 1) := by decide +kernel
theorem dX10_nearest_60 : decode cX10_nearest 60 = .ok (.iconst (-1), 1) := by decide +kernel
theorem dX10_nearest_61 : decode cX10_nearest 61 = .ok (.if_icmp .eq 9, 3) := by decide +kernel
theorem dX10_nearest_64 : decode cX10_nearest 64 = .ok (.iload 5, 2) := by decide +kernel
theorem dX10_nearest_66 : decode cX10_nearest 66 = .ok (.iload_n 3, 1) := by decide +kernel
theorem dX10_nearest_67 : decode cX10_nearest 67 = .ok (.if_icmp .ge 8, 3) := by decide +kernel
theorem dX10_nearest_70 : decode cX10_nearest 70 = .ok (.iload 5, 2) := by decide +kernel
theorem dX10_nearest_72 : decode cX10_nearest 72 = .ok (.goto 4, 3) := by decide +kernel
theorem dX10_nearest_75 : decode cX10_nearest 75 = .ok (.iload_n 3, 1) := by decide +kernel
theorem dX10_nearest_76 : decode cX10_nearest 76 = .ok (.istore_n 3, 1) := by decide +kernel
theorem dX10_nearest_77 : decode cX10_nearest 77 = .ok (.iinc 4 1, 3) := by decide +kernel
theorem dX10_nearest_80 : decode cX10_nearest 80 = .ok (.goto (-54), 3) := by decide +kernel
theorem dX10_nearest_83 : decode cX10_nearest 83 = .ok (.iload_n 3, 1) := by decide +kernel
theorem dX10_nearest_84 : decode cX10_nearest 84 = .ok (.ireturn, 1) := by decide +kernel
set_option maxRecDepth 20000 in
theorem ggX10_isFirstWith_X10_lengthOf : GoodIn wsX10_isFirstWith wsX10_lengthOf := goodIn_r _ [6, 7] (by decide +kernel) (by decide +kernel)
set_option maxRecDepth 20000 in
theorem gX10_isFirstWith_X10_lengthOf : GoodIn wsX10_isFirstWith (va_wsS RX10 50 yX10_lengthOf wsX10_lengthOf) := goodIn_app (goodIn_of _ (by decide +kernel)) ggX10_isFirstWith_X10_lengthOf
set_option maxRecDepth 20000 in
theorem ggX10_isFirstWith_X10_beginning : GoodIn wsX10_isFirstWith wsX10_beginning := goodIn_r _ [10, 7, 3, 4, 5, 6] (by decide +kernel) (by decide +kernel)
set_option maxRecDepth 20000 in
theorem gX10_isFirstWith_X10_beginning : GoodIn wsX10_isFirstWith (va_wsS RX10 139 yX10_beginning wsX10_beginning) := goodIn_app (goodIn_of _ (by decide +kernel)) ggX10_isFirstWith_X10_beginning
theorem dX10_isFirstWith_0 : decode cX10_isFirstWith 0 = .ok (.aload_n 0, 1) := by decide +kernel
theorem dX10_isFirstWith_1 : decode cX10_isFirstWith 1 = .ok (.getfield 13, 3) := by decide +kernel
theorem dX10_isFirstWith_4 : decode cX10_isFirstWith 4 = .ok (.iload_n 1, 1) := by decide +kernel
theorem dX10_isFirstWith_5 : decode cX10_isFirstWith 5 = .ok (.iaload, 1) := by decide +kernel
theorem dX10_isFirstWith_6 : decode cX10_isFirstWith 6 = .ok (.ifCond .le 20, 3) := by decide +kernel
theorem dX10_isFirstWith_9 : decode cX10_isFirstWith 9 = .ok (.aload_n 0, 1) := by decide +kernel
theorem dX10_isFirstWith_10 : decode cX10_isFirstWith 10 = .ok (.getfield 7, 3) := by decide +kernel
theorem dX10_isFirstWith_13 : decode cX10_isFirstWith 13 = .ok (.iload_n 1, 1) := by decide +kernel
theorem dX10_isFirstWith_14 : decode cX10_isFirstWith 14 = .ok (.laload, 1) := by decide +kernel
theorem dX10_isFirstWith_15 : decode cX10_isFirstWith 15 = .ok (.invokestatic 50, 3) := by decide +kernel
theorem dX10_isFirstWith_18 : decode cX10_isFirstWith 18 = .ok (.iload_n 2, 1) := by decide +kernel
theorem dX10_isFirstWith_19 : decode cX10_isFirstWith 19 = .ok (.if_icmp .lt 7, 3) := by decide +kernel
theorem dX10_isFirstWith_22 : decode cX10_isFirstWith 22 = .ok (.iconst 1, 1) := by decide +kernel
theorem dX10_isFirstWith_23 : decode cX10_isFirstWith 23 = .ok (.goto 4, 3) := by decide +kernel
theorem dX10_isFirstWith_26 : decode cX10_isFirstWith 26 = .ok (.iconst 0, 1) := by decide +kernel
theorem dX10_isFirstWith_27 : decode cX10_isFirstWith 27 = .ok (.istore_n 3, 1) := by decide +kernel
theorem dX10_isFirstWith_28 : decode cX10_isFirstWith 28 = .ok (.iconst 0, 1) := by decide +kernel
theorem dX10_isFirstWith_29 : decode cX10_isFirstWith 29 = .ok (.istore 4, 2) := by decide +kernel
theorem dX10_isFirstWith_31 : decode cX10_isFirstWith 31 = .ok (.iload 4, 2) := by decide +kernel
theorem dX10_isFirstWith_33 : decode cX10_isFirstWith 33 = .ok (.iload_n 1, 1) := by decide +kernel
theorem dX10_isFirstWith_34 : decode cX10_isFirstWith 34 = .ok (.if_icmp .ge 80, 3) := by decide +kernel
theorem dX10_isFirstWith_37 : decode cX10_isFirstWith 37 = .ok (.aload_n 0, 1) := by decide +kernel
theorem dX10_isFirstWith_38 : decode cX10_isFirstWith 38 = .ok (.getfield 13, 3) := by decide +kernel
theorem dX10_isFirstWith_41 : decode cX10_isFirstWith 41 = .ok (.iload 4, 2) := by decide +kernel
theorem dX10_isFirstWith_43 : decode cX10_isFirstWith 43 = .ok (.iaload, 1) := by decide +kernel
theorem dX10_isFirstWith_44 : decode cX10_isFirstWith 44 = .ok (.ifCond .le 21, 3) := by decide +kernel
theorem dX10_isFirstWith_47 : decode cX10_isFirstWith 47 = .ok (.aload_n 0, 1) := by decide +kernel
theorem dX10_isFirstWith_48 : decode cX10_isFirstWith 48 = .ok (.getfield 7, 3) := by decide +kernel
theorem dX10_isFirstWith_51 : decode cX10_isFirstWith 51 = .ok (.iload 4, 2) := by decide +kernel
theorem dX10_isFirstWith_53 : decode cX10_isFirstWith 53 = .ok (.laload, 1) := by decide +kernel
theorem dX10_isFirstWith_54 : decode cX10_isFirstWith 54 = .ok (.invokestatic 50, 3) := by decide +kernel
theorem dX10_isFirstWith_57 : decode cX10_isFirstWith 57 = .ok (.iload_n 2, 1) := by decide +kernel
theorem dX10_isFirstWith_58 : decode cX10_isFirstWith 58 = .ok (.if_icmp .lt 7, 3) := by decide +kernel
theorem dX10_isFirstWith_61 : decode cX10_isFirstWith 61 = .ok (.iconst 1, 1) := by decide +kernel
theorem dX10_isFirstWith_62 : decode cX10_isFirstWith 62 = .ok (.goto 4, 3) := by decide +kernel
theorem dX10_isFirstWith_65 : decode cX10_isFirstWith 65 = .ok (.iconst 0, 1) := by decide +kernel
theorem dX10_isFirstWith_66 : decode cX10_isFirstWith 66 = .ok (.istore 5, 2) := by decide +kernel
theorem dX10_isFirstWith_68 : decode cX10_isFirstWith 68 = .ok (.iload_n 3, 1) := by decide +kernel
theorem dX10_isFirstWith_69 : decode cX10_isFirstWith 69 = .ok (.ifCond .eq 37, 3) := by decide +kernel
theorem dX10_isFirstWith_72 : decode cX10_isFirstWith 72 = .ok (.iload 5, 2) := by decide +kernel
theorem dX10_isFirstWith_74 : decode cX10_isFirstWith 74 = .ok (.ifCond .eq 28, 3) := by decide +kernel
theorem dX10_isFirstWith_77 : decode cX10_isFirstWith 77 = .ok (.aload_n 0, 1) := by decide +kernel
theorem dX10_isFirstWith_78 : decode cX10_isFirstWith 78 = .ok (.getfield 7, 3) := by decide +kernel
theorem dX10_isFirstWith_81 : decode cX10_isFirstWith 81 = .ok (.iload 4, 2) := by decide +kernel
theorem dX10_isFirstWith_83 : decode cX10_isFirstWith 83 = .ok (.laload, 1) := by decide +kernel
theorem dX10_isFirstWith_84 : decode cX10_isFirstWith 84 = .ok (.iload_n 2, 1) := by decide +kernel
theorem dX10_isFirstWith_85 : decode cX10_isFirstWith 85 = .ok (.invokestatic 139, 3) := by decide +kernel
theorem dX10_isFirstWith_88 : decode cX10_isFirstWith 88 = .ok (.aload_n 0, 1) := by decide +kernel
theorem dX10_isFirstWith_89 : decode cX10_isFirstWith 89 = .ok (.getfield 7, 3) := by decide +kernel
theorem dX10_isFirstWith_92 : decode cX10_isFirstWith 92 = .ok (.iload_n 1, 1) := by decide +kernel
theorem dX10_isFirstWith_93 : decode cX10_isFirstWith 93 = .ok (.laload, 1) := by decide +kernel
theorem dX10_isFirstWith_94 : decode cX10_isFirstWith 94 = .ok (.iload_n 2, 1) := by decide +kernel
theorem dX10_isFirstWith_95 : decode cX10_isFirstWith 95 = .ok (.invokestatic 139, 3) := by decide +kernel
theorem dX10_isFirstWith_98 : decode cX10_isFirstWith 98 = .ok (.lcmp, 1) := by decide +kernel
theorem dX10_isFirstWith_99 : decode cX10_isFirstWith 99 = .ok (.ifCond .eq 7, 3) := by decide +kernel
theorem dX10_isFirstWith_102 : decode cX10_isFirstWith 102 = .ok (.iconst 1, 1) := by decide +kernel
theorem dX10_isFirstWith_103 : decode cX10_isFirstWith 103 = .ok (.goto 4, 3) := by decide +kernel
theorem dX10_isFirstWith_106 : decode cX10_isFirstWith 106 = .ok (.iconst 0, 1) := by decide +kernel
theorem dX10_isFirstWith_107 : decode cX10_isFirstWith 107 = .ok (.istore_n 3, 1) := by decide +kernel
theorem dX10_isFirstWith_108 : decode cX10_isFirstWith 108 = .ok (.iinc 4 1, 3) := by decide +kernel
theorem dX10_isFirstWith_111 : decode cX10_isFirstWith 111 = .ok (.goto (-80), 3) := by decide +kernel
theorem dX10_isFirstWith_114 : decode cX10_isFirstWith 114 = .ok (.iload_n 3, 1) := by decide +kernel
theorem dX10_isFirstWith_115 : decode cX10_isFirstWith 115 = .ok (.ireturn, 1) := by decide +kernel
set_option maxRecDepth 20000 in
theorem ggX10_trieNodes_X10_isFirstWith : GoodIn wsX10_trieNodes wsX10_isFirstWith := goodIn_r _ [7, 8, 9, 10, 11, 6, 12, 13, 14, 15, 16, 17, 18, 19, 20, 21, 22, 23, 24, 25, 26, 27, 28, 29, 30, 31] (by decide +kernel) (by decide +kernel)
set_option maxRecDepth 20000 in
theorem gX10_trieNodes_X10_isFirstWith : GoodIn wsX10_trieNodes (wsV RX10 143 RX10 yX10_isFirstWith wsX10_isFirstWith) := goodIn_app (goodIn_of _ (by decide +kernel)) ggX10_trieNodes_X10_isFirstWith
theorem dX10_trieNodes_0 : decode cX10_trieNodes 0 = .ok (.aload_n 0, 1) := by decide +kernel
theorem dX10_trieNodes_1 : decode cX10_trieNodes 1 = .ok (.iconst 0, 1) := by decide +kernel
theorem dX10_trieNodes_2 : decode cX10_trieNodes 2 = .ok (.putfield 44, 3) := by decide +kernel
theorem dX10_trieNodes_5 : decode cX10_trieNodes 5 = .ok (.iconst 1, 1) := by decide +kernel
theorem dX10_trieNodes_6 : decode cX10_trieNodes 6 = .ok (.istore_n 1, 1) := by decide +kernel
theorem dX10_trieNodes_7 : decode cX10_trieNodes 7 = .ok (.iconst 0, 1) := by decide +kernel
theorem dX10_trieNodes_8 : decode cX10_trieNodes 8 = .ok (.istore_n 2, 1) := by decide +kernel
theorem dX10_trieNodes_9 : decode cX10_trieNodes 9 = .ok (.iload_n 2, 1) := by decide +kernel
theorem dX10_trieNodes_10 : decode cX10_trieNodes 10 = .ok (.aload_n 0, 1) := by decide +kernel
theorem dX10_trieNodes_11 : decode cX10_trieNodes 11 = .ok (.getfield 77, 3) := by decide +kernel
theorem dX10_trieNodes_14 : decode cX10_trieNodes 14 = .ok (.if_icmp .ge 40, 3) := by decide +kernel
theorem dX10_trieNodes_17 : decode cX10_trieNodes 17 = .ok (.iconst 1, 1) := by decide +kernel
theorem dX10_trieNodes_18 : decode cX10_trieNodes 18 = .ok (.istore_n 3, 1) := by decide +kernel
theorem dX10_trieNodes_19 : decode cX10_trieNodes 19 = .ok (.iload_n 3, 1) := by decide +kernel
theorem dX10_trieNodes_20 : decode cX10_trieNodes 20 = .ok (.bipush 10, 2) := by decide +kernel
theorem dX10_trieNodes_22 : decode cX10_trieNodes 22 = .ok (.if_icmp .gt 26, 3) := by decide +kernel
theorem dX10_trieNodes_25 : decode cX10_trieNodes 25 = .ok (.iload_n 1, 1) := by decide +kernel
theorem dX10_trieNodes_26 : decode cX10_trieNodes 26 = .ok (.aload_n 0, 1) := by decide +kernel
theorem dX10_trieNodes_27 : decode cX10_trieNodes 27 = .ok (.iload_n 2, 1) := by decide +kernel
theorem dX10_trieNodes_28 : decode cX10_trieNodes 28 = .ok (.iload_n 3, 1) := by decide +kernel
theorem dX10_trieNodes_29 : decode cX10_trieNodes 29 = .ok (.invokevirtual 143, 3) := by decide +kernel
theorem dX10_trieNodes_32 : decode cX10_trieNodes 32 = .ok (.ifCond .eq 7, 3) := by decide +kernel
theorem dX10_trieNodes_35 : decode cX10_trieNodes 35 = .ok (.iconst 1, 1) := by decide +kernel
theorem dX10_trieNodes_36 : decode cX10_trieNodes 36 = .ok (.goto 4, 3) := by decide +kernel
theorem dX10_trieNodes_39 : decode cX10_trieNodes 39 = .ok (.iconst 0, 1) := by decide +kernel
theorem dX10_trieNodes_40 : decode cX10_trieNodes 40 = .ok (.iadd, 1) := by decide +kernel
theorem dX10_trieNodes_41 : decode cX10_trieNodes 41 = .ok (.istore_n 1, 1) := by decide +kernel
theorem dX10_trieNodes_42 : decode cX10_trieNodes 42 = .ok (.iinc 3 1, 3) := by decide +kernel
theorem dX10_trieNodes_45 : decode cX10_trieNodes 45 = .ok (.goto (-26), 3) := by decide +kernel
theorem dX10_trieNodes_48 : decode cX10_trieNodes 48 = .ok (.iinc 2 1, 3) := by decide +kernel
theorem dX10_trieNodes_51 : decode cX10_trieNodes 51 = .ok (.goto (-42), 3) := by decide +kernel
theorem dX10_trieNodes_54 : decode cX10_trieNodes 54 = .ok (.iload_n 1, 1) := by decide +kernel
theorem dX10_trieNodes_55 : decode cX10_trieNodes 55 = .ok (.ireturn, 1) := by decide +kernel
set_option maxRecDepth 20000 in
theorem ggX10_rowOf_X10_layDistances : GoodIn wsX10_rowOf wsX10_layDistances := goodIn_r _ [10, 3, 1, 2, 11, 12, 13, 14, 15, 9, 16, 17, 18, 19, 20, 21, 22, 23, 24, 25, 26, 27, 28, 29, 30, 31, 32, 33, 34, 35, 36, 37, 38, 39, 40, 41, 42] (by decide +kernel) (by decide +kernel)
set_option maxRecDepth 20000 in
theorem gX10_rowOf_X10_layDistances : GoodIn wsX10_rowOf (wsV RX10 73 RX10 yX10_layDistances wsX10_layDistances) := goodIn_app (goodIn_of _ (by decide +kernel)) ggX10_rowOf_X10_layDistances
set_option maxRecDepth 20000 in
theorem ggX10_rowOf_X10_lesser : GoodIn wsX10_rowOf wsX10_lesser := goodIn_r _ [27] (by decide +kernel) (by decide +kernel)
set_option maxRecDepth 20000 in
theorem gX10_rowOf_X10_lesser : GoodIn wsX10_rowOf (va_wsS RX10 69 yX10_lesser wsX10_lesser) := goodIn_app (goodIn_of _ (by decide +kernel)) ggX10_rowOf_X10_lesser
theorem dX10_rowOf_0 : decode cX10_rowOf 0 = .ok (.aload_n 0, 1) := by decide +kernel
theorem dX10_rowOf_1 : decode cX10_rowOf 1 = .ok (.lload_n 1, 1) := by decide +kernel
theorem dX10_rowOf_2 : decode cX10_rowOf 2 = .ok (.lload_n 3, 1) := by decide +kernel
theorem dX10_rowOf_3 : decode cX10_rowOf 3 = .ok (.invokevirtual 73, 3) := by decide +kernel
theorem dX10_rowOf_6 : decode cX10_rowOf 6 = .ok (.lconst 0, 1) := by decide +kernel
theorem dX10_rowOf_7 : decode cX10_rowOf 7 = .ok (.lstore 6, 2) := by decide +kernel
theorem dX10_rowOf_9 : decode cX10_rowOf 9 = .ok (.iconst 0, 1) := by decide +kernel
theorem dX10_rowOf_10 : decode cX10_rowOf 10 = .ok (.istore 8, 2) := by decide +kernel
theorem dX10_rowOf_12 : decode cX10_rowOf 12 = .ok (.aload_n 0, 1) := by decide +kernel
theorem dX10_rowOf_13 : decode cX10_rowOf 13 = .ok (.getfield 59, 3) := by decide +kernel
theorem dX10_rowOf_16 : decode cX10_rowOf 16 = .ok (.istore 9, 2) := by decide +kernel
theorem dX10_rowOf_18 : decode cX10_rowOf 18 = .ok (.iload 9, 2) := by decide +kernel
theorem dX10_rowOf_20 : decode cX10_rowOf 20 = .ok (.ifCond .lt 64, 3) := by decide +kernel
theorem dX10_rowOf_23 : decode cX10_rowOf 23 = .ok (.aload_n 0, 1) := by decide +kernel
theorem dX10_rowOf_24 : decode cX10_rowOf 24 = .ok (.getfield 29, 3) := by decide +kernel
theorem dX10_rowOf_27 : decode cX10_rowOf 27 = .ok (.bipush 11, 2) := by decide +kernel
theorem dX10_rowOf_29 : decode cX10_rowOf 29 = .ok (.aload_n 0, 1) := by decide +kernel
theorem dX10_rowOf_30 : decode cX10_rowOf 30 = .ok (.getfield 56, 3) := by decide +kernel
theorem dX10_rowOf_33 : decode cX10_rowOf 33 = .ok (.imul, 1) := by decide +kernel
theorem dX10_rowOf_34 : decode cX10_rowOf 34 = .ok (.iload 9, 2) := by decide +kernel
theorem dX10_rowOf_36 : decode cX10_rowOf 36 = .ok (.iadd, 1) := by decide +kernel
theorem dX10_rowOf_37 : decode cX10_rowOf 37 = .ok (.iaload, 1) := by decide +kernel
theorem dX10_rowOf_38 : decode cX10_rowOf 38 = .ok (.istore 10, 2) := by decide +kernel
theorem dX10_rowOf_40 : decode cX10_rowOf 40 = .ok (.iload 8, 2) := by decide +kernel
theorem dX10_rowOf_42 : decode cX10_rowOf 42 = .ok (.ifCond .ne 10, 3) := by decide +kernel
theorem dX10_rowOf_45 : decode cX10_rowOf 45 = .ok (.iload 10, 2) := by decide +kernel
theorem dX10_rowOf_47 : decode cX10_rowOf 47 = .ok (.iload 5, 2) := by decide +kernel
theorem dX10_rowOf_49 : decode cX10_rowOf 49 = .ok (.if_icmp .gt 7, 3) := by decide +kernel
theorem dX10_rowOf_52 : decode cX10_rowOf 52 = .ok (.iconst 1, 1) := by decide +kernel
theorem dX10_rowOf_53 : decode cX10_rowOf 53 = .ok (.goto 4, 3) := by decide +kernel
theorem dX10_rowOf_56 : decode cX10_rowOf 56 = .ok (.iconst 0, 1) := by decide +kernel
theorem dX10_rowOf_57 : decode cX10_rowOf 57 = .ok (.istore 8, 2) := by decide +kernel
theorem dX10_rowOf_59 : decode cX10_rowOf 59 = .ok (.ldc2_w 146, 3) := by decide +kernel
theorem dX10_rowOf_62 : decode cX10_rowOf 62 = .ok (.lload 6, 2) := by decide +kernel
theorem dX10_rowOf_64 : decode cX10_rowOf 64 = .ok (.lmul, 1) := by decide +kernel
theorem dX10_rowOf_65 : decode cX10_rowOf 65 = .ok (.iload 10, 2) := by decide +kernel
theorem dX10_rowOf_67 : decode cX10_rowOf 67 = .ok (.iload 5, 2) := by decide +kernel
theorem dX10_rowOf_69 : decode cX10_rowOf 69 = .ok (.iconst 1, 1) := by decide +kernel
theorem dX10_rowOf_70 : decode cX10_rowOf 70 = .ok (.iadd, 1) := by decide +kernel
theorem dX10_rowOf_71 : decode cX10_rowOf 71 = .ok (.invokestatic 69, 3) := by decide +kernel
theorem dX10_rowOf_74 : decode cX10_rowOf 74 = .ok (.i2l, 1) := by decide +kernel
theorem dX10_rowOf_75 : decode cX10_rowOf 75 = .ok (.ladd, 1) := by decide +kernel
theorem dX10_rowOf_76 : decode cX10_rowOf 76 = .ok (.lstore 6, 2) := by decide +kernel
theorem dX10_rowOf_78 : decode cX10_rowOf 78 = .ok (.iinc 9 (-1), 3) := by decide +kernel
theorem dX10_rowOf_81 : decode cX10_rowOf 81 = .ok (.goto (-63), 3) := by decide +kernel
theorem dX10_rowOf_84 : decode cX10_rowOf 84 = .ok (.iload 8, 2) := by decide +kernel
theorem dX10_rowOf_86 : decode cX10_rowOf 86 = .ok (.ifCond .eq 8, 3) := by decide +kernel
theorem dX10_rowOf_89 : decode cX10_rowOf 89 = .ok (.lload 6, 2) := by decide +kernel
theorem dX10_rowOf_91 : decode cX10_rowOf 91 = .ok (.goto 6, 3) := by decide +kernel
theorem dX10_rowOf_94 : decode cX10_rowOf 94 = .ok (.ldc2_w 148, 3) := by decide +kernel
theorem dX10_rowOf_97 : decode cX10_rowOf 97 = .ok (.lreturn, 1) := by decide +kernel
set_option maxRecDepth 20000 in
theorem ggX10_layRows_X10_rowOf : GoodIn wsX10_layRows wsX10_rowOf := goodIn_r _ [9, 10, 11, 12, 13, 4, 14, 15, 16, 8, 17, 18, 19, 20, 21, 22, 23, 24, 25, 26, 27, 28, 29, 30, 31, 32, 33, 34, 43, 44, 45, 46, 47, 48, 49, 50, 51, 52, 53, 54, 55, 56, 57] (by decide +kernel) (by decide +kernel)
set_option maxRecDepth 20000 in
theorem gX10_layRows_X10_rowOf : GoodIn wsX10_layRows (wsV RX10 150 RX10 yX10_rowOf wsX10_rowOf) := goodIn_app (goodIn_of _ (by decide +kernel)) ggX10_layRows_X10_rowOf
set_option maxRecDepth 20000 in
theorem ggX10_layRows_X10_isFirstWith : GoodIn wsX10_layRows wsX10_isFirstWith := goodIn_r _ [38, 39, 3, 25, 26, 8, 27, 24, 40, 41, 42, 43, 44, 45, 46, 47, 48, 49, 50, 51, 52, 53, 54, 55, 56, 57] (by decide +kernel) (by decide +kernel)
set_option maxRecDepth 20000 in
theorem gX10_layRows_X10_isFirstWith : GoodIn wsX10_layRows (wsV RX10 143 RX10 yX10_isFirstWith wsX10_isFirstWith) := goodIn_app (goodIn_of _ (by decide +kernel)) ggX10_layRows_X10_isFirstWith
set_option maxRecDepth 20000 in
theorem ggX10_layRows_X10_beginning : GoodIn wsX10_layRows wsX10_beginning := goodIn_r _ [42, 24, 25, 26, 8, 27] (by decide +kernel) (by decide +kernel)
set_option maxRecDepth 20000 in
theorem gX10_layRows_X10_beginning : GoodIn wsX10_layRows (va_wsS RX10 139 yX10_beginning wsX10_beginning) := goodIn_app (goodIn_of _ (by decide +kernel)) ggX10_layRows_X10_beginning
theorem dX10_layRows_0 : decode cX10_layRows 0 = .ok (.iconst 0, 1) := by decide +kernel
theorem dX10_layRows_1 : decode cX10_layRows 1 = .ok (.istore 4, 2) := by decide +kernel
theorem dX10_layRows_3 : decode cX10_layRows 3 = .ok (.aload_n 0, 1) := by decide +kernel
theorem dX10_layRows_4 : decode cX10_layRows 4 = .ok (.lconst 0, 1) := by decide +kernel
theorem dX10_layRows_5 : decode cX10_layRows 5 = .ok (.lload_n 1, 1) := by decide +kernel
theorem dX10_layRows_6 : decode cX10_layRows 6 = .ok (.iload_n 3, 1) := by decide +kernel
theorem dX10_layRows_7 : decode cX10_layRows 7 = .ok (.invokevirtual 150, 3) := by decide +kernel
theorem dX10_layRows_10 : decode cX10_layRows 10 = .ok (.lstore 5, 2) := by decide +kernel
theorem dX10_layRows_12 : decode cX10_layRows 12 = .ok (.lload 5, 2) := by decide +kernel
theorem dX10_layRows_14 : decode cX10_layRows 14 = .ok (.lconst 0, 1) := by decide +kernel
theorem dX10_layRows_15 : decode cX10_layRows 15 = .ok (.lcmp, 1) := by decide +kernel
theorem dX10_layRows_16 : decode cX10_layRows 16 = .ok (.ifCond .lt 15, 3) := by decide +kernel
theorem dX10_layRows_19 : decode cX10_layRows 19 = .ok (.aload_n 0, 1) := by decide +kernel
theorem dX10_layRows_20 : decode cX10_layRows 20 = .ok (.getfield 35, 3) := by decide +kernel
theorem dX10_layRows_23 : decode cX10_layRows 23 = .ok (.iload 4, 2) := by decide +kernel
theorem dX10_layRows_25 : decode cX10_layRows 25 = .ok (.lload 5, 2) := by decide +kernel
theorem dX10_layRows_27 : decode cX10_layRows 27 = .ok (.lastore, 1) := by decide +kernel
theorem dX10_layRows_28 : decode cX10_layRows 28 = .ok (.iinc 4 1, 3) := by decide +kernel
theorem dX10_layRows_31 : decode cX10_layRows 31 = .ok (.iconst 0, 1) := by decide +kernel
theorem dX10_layRows_32 : decode cX10_layRows 32 = .ok (.istore 7, 2) := by decide +kernel
theorem dX10_layRows_34 : decode cX10_layRows 34 = .ok (.iload 7, 2) := by decide +kernel
theorem dX10_layRows_36 : decode cX10_layRows 36 = .ok (.aload_n 0, 1) := by decide +kernel
theorem dX10_layRows_37 : decode cX10_layRows 37 = .ok (.getfield 77, 3) := by decide +kernel
theorem dX10_layRows_40 : decode cX10_layRows 40 = .ok (.if_icmp .ge 81, 3) := by decide +kernel
theorem dX10_layRows_43 : decode cX10_layRows 43 = .ok (.iconst 1, 1) := by decide +kernel
theorem dX10_layRows_44 : decode cX10_layRows 44 = .ok (.istore 8, 2) := by decide +kernel
theorem dX10_layRows_46 : decode cX10_layRows 46 = .ok (.iload 8, 2) := by decide +kernel
theorem dX10_layRows_48 : decode cX10_layRows 48 = .ok (.bipush 10, 2) := by decide +kernel
theorem dX10_layRows_50 : decode cX10_layRows 50 = .ok (.if_icmp .gt 65, 3) := by decide +kernel
theorem dX10_layRows_53 : decode cX10_layRows 53 = .ok (.aload_n 0, 1) := by decide +kernel
theorem dX10_layRows_54 : decode cX10_layRows 54 = .ok (.iload 7, 2) := by decide +kernel
theorem dX10_layRows_56 : decode cX10_layRows 56 = .ok (.iload 8, 2) := by decide +kernel
theorem dX10_layRows_58 : decode cX10_layRows 58 = .ok (.invokevirtual 143, 3) := by decide +kernel
theorem dX10_layRows_61 : decode cX10_layRows 61 = .ok (.ifCond .eq 24, 3) := by decide +kernel
theorem dX10_layRows_64 : decode cX10_layRows 64 = .ok (.aload_n 0, 1) := by decide +kernel
theorem dX10_layRows_65 : decode cX10_layRows 65 = .ok (.aload_n 0, 1) := by decide +kernel
theorem dX10_layRows_66 : decode cX10_layRows 66 = .ok (.getfield 7, 3) := by decide +kernel
theorem dX10_layRows_69 : decode cX10_layRows 69 = .ok (.iload 7, 2) := by decide +kernel
theorem dX10_layRows_71 : decode cX10_layRows 71 = .ok (.laload, 1) := by decide +kernel
theorem dX10_layRows_72 : decode cX10_layRows 72 = .ok (.iload 8, 2) := by decide +kernel
theorem dX10_layRows_74 : decode cX10_layRows 74 = .ok (.invokestatic 139, 3) := by decide +kernel
theorem dX10_layRows_77 : decode cX10_layRows 77 = .ok (.lload_n 1, 1) := by decide +kernel
theorem dX10_layRows_78 : decode cX10_layRows 78 = .ok (.iload_n 3, 1) := by decide +kernel
theorem dX10_layRows_79 : decode cX10_layRows 79 = .ok (.invokevirtual 150, 3) := by decide +kernel
theorem dX10_layRows_82 : decode cX10_layRows 82 = .ok (.goto 6, 3) := by decide +kernel
theorem dX10_layRows_85 : decode cX10_layRows 85 = .ok (.ldc2_w 148, 3) := by decide +kernel
theorem dX10_layRows_88 : decode cX10_layRows 88 = .ok (.lstore 9, 2) := by decide +kernel
theorem dX10_layRows_90 : decode cX10_layRows 90 = .ok (.lload 9, 2) := by decide +kernel
theorem dX10_layRows_92 : decode cX10_layRows 92 = .ok (.lconst 0, 1) := by decide +kernel
theorem dX10_layRows_93 : decode cX10_layRows 93 = .ok (.lcmp, 1) := by decide +kernel
theorem dX10_layRows_94 : decode cX10_layRows 94 = .ok (.ifCond .lt 15, 3) := by decide +kernel
theorem dX10_layRows_97 : decode cX10_layRows 97 = .ok (.aload_n 0, 1) := by decide +kernel
theorem dX10_layRows_98 : decode cX10_layRows 98 = .ok (.getfield 35, 3) := by decide +kernel
theorem dX10_layRows_101 : decode cX10_layRows 101 = .ok (.iload 4, 2) := by decide +kernel
theorem dX10_layRows_103 : decode cX10_layRows 103 = .ok (.lload 9, 2) := by decide +kernel
theorem dX10_layRows_105 : decode cX10_layRows 105 = .ok (.lastore, 1) := by decide +kernel
theorem dX10_layRows_106 : decode cX10_layRows 106 = .ok (.iinc 4 1, 3) := by decide +kernel
theorem dX10_layRows_109 : decode cX10_layRows 109 = .ok (.iinc 8 1, 3) := by decide +kernel
theorem dX10_layRows_112 : decode cX10_layRows 112 = .ok (.goto (-66), 3) := by decide +kernel
theorem dX10_layRows_115 : decode cX10_layRows 115 = .ok (.iinc 7 1, 3) := by decide +kernel
theorem dX10_layRows_118 : decode cX10_layRows 118 = .ok (.goto (-84), 3) := by decide +kernel
theorem dX10_layRows_121 : decode cX10_layRows 121 = .ok (.iload 4, 2) := by decide +kernel
theorem dX10_layRows_123 : decode cX10_layRows 123 = .ok (.ireturn, 1) := by decide +kernel
set_option maxRecDepth 20000 in
theorem ggX10_trieReached_X10_isSearch : GoodIn wsX10_trieReached wsX10_isSearch := goodIn_r _ [4, 5, 6, 3, 7, 8, 9, 10, 11, 12] (by decide +kernel) (by decide +kernel)
set_option maxRecDepth 20000 in
theorem gX10_trieReached_X10_isSearch : GoodIn wsX10_trieReached (va_wsS RX10 127 yX10_isSearch wsX10_isSearch) := goodIn_app (goodIn_of _ (by decide +kernel)) ggX10_trieReached_X10_isSearch
set_option maxRecDepth 20000 in
theorem ggX10_trieReached_X10_goesWell : GoodIn wsX10_trieReached wsX10_goesWell := goodIn_r _ [16, 17, 59, 60, 61, 62, 63, 64, 65, 66, 67, 68, 69, 70, 71, 72, 73] (by decide +kernel) (by decide +kernel)
set_option maxRecDepth 20000 in
theorem gX10_trieReached_X10_goesWell : GoodIn wsX10_trieReached (wsV RX10 92 RX10 yX10_goesWell wsX10_goesWell) := goodIn_app (goodIn_of _ (by decide +kernel)) ggX10_trieReached_X10_goesWell
set_option maxRecDepth 20000 in
theorem ggX10_trieReached_X10_layRows : GoodIn wsX10_trieReached wsX10_layRows := goodIn_r _ [21, 22, 23, 24, 25, 26, 27, 28, 3, 29, 30, 31, 32, 33, 34, 35, 36, 37, 38, 39, 40, 41, 42, 43, 8, 10, 11, 12, 44, 45, 46, 47, 48, 49, 50, 51, 52, 53, 54, 55, 56, 57, 58, 59, 60, 61, 62, 63, 64, 65, 66, 67, 68, 69, 70, 71, 72, 73] (by decide +kernel) (by decide +kernel)
set_option maxRecDepth 20000 in
theorem gX10_trieReached_X10_layRows : GoodIn wsX10_trieReached (wsV RX10 154 RX10 yX10_layRows wsX10_layRows) := goodIn_app (goodIn_of _ (by decide +kernel)) ggX10_trieReached_X10_layRows
theorem dX10_trieReached_0 : decode cX10_trieReached 0 = .ok (.aload_n 0, 1) := by decide +kernel
theorem dX10_trieReached_1 : decode cX10_trieReached 1 = .ok (.lload_n 1, 1) := by decide +kernel
theorem dX10_trieReached_2 : decode cX10_trieReached 2 = .ok (.iload_n 3, 1) := by decide +kernel
theorem dX10_trieReached_3 : decode cX10_trieReached 3 = .ok (.iconst 3, 1) := by decide +kernel
theorem dX10_trieReached_4 : decode cX10_trieReached 4 = .ok (.invokestatic 127, 3) := by decide +kernel
theorem dX10_trieReached_7 : decode cX10_trieReached 7 = .ok (.ifCond .eq 7, 3) := by decide +kernel
theorem dX10_trieReached_10 : decode cX10_trieReached 10 = .ok (.iconst 0, 1) := by decide +kernel
theorem dX10_trieReached_11 : decode cX10_trieReached 11 = .ok (.goto 4, 3) := by decide +kernel
theorem dX10_trieReached_14 : decode cX10_trieReached 14 = .ok (.iconst 1, 1) := by decide +kernel
theorem dX10_trieReached_15 : decode cX10_trieReached 15 = .ok (.invokevirtual 92, 3) := by decide +kernel
theorem dX10_trieReached_18 : decode cX10_trieReached 18 = .ok (.ifCond .eq 12, 3) := by decide +kernel
theorem dX10_trieReached_21 : decode cX10_trieReached 21 = .ok (.aload_n 0, 1) := by decide +kernel
theorem dX10_trieReached_22 : decode cX10_trieReached 22 = .ok (.lload_n 1, 1) := by decide +kernel
theorem dX10_trieReached_23 : decode cX10_trieReached 23 = .ok (.iload_n 3, 1) := by decide +kernel
theorem dX10_trieReached_24 : decode cX10_trieReached 24 = .ok (.invokevirtual 154, 3) := by decide +kernel
theorem dX10_trieReached_27 : decode cX10_trieReached 27 = .ok (.goto 4, 3) := by decide +kernel
theorem dX10_trieReached_30 : decode cX10_trieReached 30 = .ok (.iconst 0, 1) := by decide +kernel
theorem dX10_trieReached_31 : decode cX10_trieReached 31 = .ok (.ireturn, 1) := by decide +kernel
set_option maxRecDepth 20000 in
theorem ggX10_rows_X10_isSearch : GoodIn wsX10_rows wsX10_isSearch := goodIn_r _ [5, 6, 7, 4, 8, 9, 10, 11, 12, 13] (by decide +kernel) (by decide +kernel)
set_option maxRecDepth 20000 in
theorem gX10_rows_X10_isSearch : GoodIn wsX10_rows (va_wsS RX10 127 yX10_isSearch wsX10_isSearch) := goodIn_app (goodIn_of _ (by decide +kernel)) ggX10_rows_X10_isSearch
set_option maxRecDepth 20000 in
theorem ggX10_rows_X10_goesWell : GoodIn wsX10_rows wsX10_goesWell := goodIn_r _ [17, 18, 59, 60, 61, 62, 63, 64, 65, 66, 67, 68, 69, 70, 71, 72, 73] (by decide +kernel) (by decide +kernel)
set_option maxRecDepth 20000 in
theorem gX10_rows_X10_goesWell : GoodIn wsX10_rows (wsV RX10 92 RX10 yX10_goesWell wsX10_goesWell) := goodIn_app (goodIn_of _ (by decide +kernel)) ggX10_rows_X10_goesWell
set_option maxRecDepth 20000 in
theorem ggX10_rows_X10_layRows : GoodIn wsX10_rows wsX10_layRows := goodIn_r _ [22, 1, 23, 24, 25, 26, 27, 28, 4, 29, 30, 31, 32, 33, 34, 35, 36, 37, 38, 39, 40, 41, 42, 43, 9, 11, 12, 13, 44, 45, 46, 47, 48, 49, 50, 51, 52, 53, 54, 55, 56, 57, 58, 59, 60, 61, 62, 63, 64, 65, 66, 67, 68, 69, 70, 71, 72, 73] (by decide +kernel) (by decide +kernel)
set_option maxRecDepth 20000 in
theorem gX10_rows_X10_layRows : GoodIn wsX10_rows (wsV RX10 154 RX10 yX10_layRows wsX10_layRows) := goodIn_app (goodIn_of _ (by decide +kernel)) ggX10_rows_X10_layRows
theorem dX10_rows_0 : decode cX10_rows 0 = .ok (.aload_n 0, 1) := by decide +kernel
theorem dX10_rows_1 : decode cX10_rows 1 = .ok (.lload_n 1, 1) := by decide +kernel
theorem dX10_rows_2 : decode cX10_rows 2 = .ok (.iload_n 3, 1) := by decide +kernel
theorem dX10_rows_3 : decode cX10_rows 3 = .ok (.iconst 3, 1) := by decide +kernel
theorem dX10_rows_4 : decode cX10_rows 4 = .ok (.invokestatic 127, 3) := by decide +kernel
theorem dX10_rows_7 : decode cX10_rows 7 = .ok (.ifCond .eq 7, 3) := by decide +kernel
theorem dX10_rows_10 : decode cX10_rows 10 = .ok (.iconst 0, 1) := by decide +kernel
theorem dX10_rows_11 : decode cX10_rows 11 = .ok (.goto 4, 3) := by decide +kernel
theorem dX10_rows_14 : decode cX10_rows 14 = .ok (.iconst 1, 1) := by decide +kernel
theorem dX10_rows_15 : decode cX10_rows 15 = .ok (.invokevirtual 92, 3) := by decide +kernel
theorem dX10_rows_18 : decode cX10_rows 18 = .ok (.ifCond .ne 5, 3) := by decide +kernel
theorem dX10_rows_21 : decode cX10_rows 21 = .ok (.iconst 0, 1) := by decide +kernel
theorem dX10_rows_22 : decode cX10_rows 22 = .ok (.ireturn, 1) := by decide +kernel
theorem dX10_rows_23 : decode cX10_rows 23 = .ok (.aload_n 0, 1) := by decide +kernel
theorem dX10_rows_24 : decode cX10_rows 24 = .ok (.lload_n 1, 1) := by decide +kernel
theorem dX10_rows_25 : decode cX10_rows 25 = .ok (.iload_n 3, 1) := by decide +kernel
theorem dX10_rows_26 : decode cX10_rows 26 = .ok (.invokevirtual 154, 3) := by decide +kernel
theorem dX10_rows_29 : decode cX10_rows 29 = .ok (.istore 4, 2) := by decide +kernel
theorem dX10_rows_31 : decode cX10_rows 31 = .ok (.iconst 0, 1) := by decide +kernel
theorem dX10_rows_32 : decode cX10_rows 32 = .ok (.istore 5, 2) := by decide +kernel
theorem dX10_rows_34 : decode cX10_rows 34 = .ok (.iconst 0, 1) := by decide +kernel
theorem dX10_rows_35 : decode cX10_rows 35 = .ok (.istore 6, 2) := by decide +kernel
theorem dX10_rows_37 : decode cX10_rows 37 = .ok (.iload 6, 2) := by decide +kernel
theorem dX10_rows_39 : decode cX10_rows 39 = .ok (.iload 4, 2) := by decide +kernel
theorem dX10_rows_41 : decode cX10_rows 41 = .ok (.if_icmp .ge 73, 3) := by decide +kernel
theorem dX10_rows_44 : decode cX10_rows 44 = .ok (.iconst 1, 1) := by decide +kernel
theorem dX10_rows_45 : decode cX10_rows 45 = .ok (.istore 7, 2) := by decide +kernel
theorem dX10_rows_47 : decode cX10_rows 47 = .ok (.iconst 0, 1) := by decide +kernel
theorem dX10_rows_48 : decode cX10_rows 48 = .ok (.istore 8, 2) := by decide +kernel
theorem dX10_rows_50 : decode cX10_rows 50 = .ok (.iload 8, 2) := by decide +kernel
theorem dX10_rows_52 : decode cX10_rows 52 = .ok (.iload 6, 2) := by decide +kernel
theorem dX10_rows_54 : decode cX10_rows 54 = .ok (.if_icmp .ge 39, 3) := by decide +kernel
theorem dX10_rows_57 : decode cX10_rows 57 = .ok (.iload 7, 2) := by decide +kernel
theorem dX10_rows_59 : decode cX10_rows 59 = .ok (.ifCond .eq 25, 3) := by decide +kernel
theorem dX10_rows_62 : decode cX10_rows 62 = .ok (.aload_n 0, 1) := by decide +kernel
theorem dX10_rows_63 : decode cX10_rows 63 = .ok (.getfield 35, 3) := by decide +kernel
theorem dX10_rows_66 : decode cX10_rows 66 = .ok (.iload 8, 2) := by decide +kernel
theorem dX10_rows_68 : decode cX10_rows 68 = .ok (.laload, 1) := by decide +kernel
theorem dX10_rows_69 : decode cX10_rows 69 = .ok (.aload_n 0, 1) := by decide +kernel
theorem dX10_rows_70 : decode cX10_rows 70 = .ok (.getfield 35, 3) := by decide +kernel
theorem dX10_rows_73 : decode cX10_rows 73 = .ok (.iload 6, 2) := by decide +kernel
theorem dX10_rows_75 : decode cX10_rows 75 = .ok (.laload, 1) := by decide +kernel
theorem dX10_rows_76 : decode cX10_rows 76 = .ok (.lcmp, 1) := by decide +kernel
theorem dX10_rows_77 : decode cX10_rows 77 = .ok (.ifCond .eq 7, 3) := by decide +kernel
theorem dX10_rows_80 : decode cX10_rows 80 = .ok (.iconst 1, 1) := by decide +kernel
theorem dX10_rows_81 : decode cX10_rows 81 = .ok (.goto 4, 3) := by decide +kernel
theorem dX10_rows_84 : decode cX10_rows 84 = .ok (.iconst 0, 1) := by decide +kernel
theorem dX10_rows_85 : decode cX10_rows 85 = .ok (.istore 7, 2) := by decide +kernel
theorem dX10_rows_87 : decode cX10_rows 87 = .ok (.iinc 8 1, 3) := by decide +kernel
theorem dX10_rows_90 : decode cX10_rows 90 = .ok (.goto (-40), 3) := by decide +kernel
theorem dX10_rows_93 : decode cX10_rows 93 = .ok (.iload 5, 2) := by decide +kernel
theorem dX10_rows_95 : decode cX10_rows 95 = .ok (.iload 7, 2) := by decide +kernel
theorem dX10_rows_97 : decode cX10_rows 97 = .ok (.ifCond .eq 7, 3) := by decide +kernel
theorem dX10_rows_100 : decode cX10_rows 100 = .ok (.iconst 1, 1) := by decide +kernel
theorem dX10_rows_101 : decode cX10_rows 101 = .ok (.goto 4, 3) := by decide +kernel
theorem dX10_rows_104 : decode cX10_rows 104 = .ok (.iconst 0, 1) := by decide +kernel
theorem dX10_rows_105 : decode cX10_rows 105 = .ok (.iadd, 1) := by decide +kernel
theorem dX10_rows_106 : decode cX10_rows 106 = .ok (.istore 5, 2) := by decide +kernel
theorem dX10_rows_108 : decode cX10_rows 108 = .ok (.iinc 6 1, 3) := by decide +kernel
theorem dX10_rows_111 : decode cX10_rows 111 = .ok (.goto (-74), 3) := by decide +kernel
theorem dX10_rows_114 : decode cX10_rows 114 = .ok (.iload 5, 2) := by decide +kernel
theorem dX10_rows_116 : decode cX10_rows 116 = .ok (.ireturn, 1) := by decide +kernel
theorem dX10_treeNodes_0 : decode cX10_treeNodes 0 = .ok (.aload_n 0, 1) := by decide +kernel
theorem dX10_treeNodes_1 : decode cX10_treeNodes 1 = .ok (.iconst 0, 1) := by decide +kernel
theorem dX10_treeNodes_2 : decode cX10_treeNodes 2 = .ok (.putfield 44, 3) := by decide +kernel
theorem dX10_treeNodes_5 : decode cX10_treeNodes 5 = .ok (.aload_n 0, 1) := by decide +kernel
theorem dX10_treeNodes_6 : decode cX10_treeNodes 6 = .ok (.getfield 77, 3) := by decide +kernel
theorem dX10_treeNodes_9 : decode cX10_treeNodes 9 = .ok (.ireturn, 1) := by decide +kernel
set_option maxRecDepth 20000 in
theorem ggX10_treeDepth_X10_isWord : GoodIn wsX10_treeDepth wsX10_isWord := goodIn_r _ [5, 6, 7, 8, 9, 4, 10] (by decide +kernel) (by decide +kernel)
set_option maxRecDepth 20000 in
theorem gX10_treeDepth_X10_isWord : GoodIn wsX10_treeDepth (va_wsS RX10 84 yX10_isWord wsX10_isWord) := goodIn_app (goodIn_of _ (by decide +kernel)) ggX10_treeDepth_X10_isWord
set_option maxRecDepth 20000 in
theorem ggX10_treeDepth_X10_goesWell : GoodIn wsX10_treeDepth wsX10_goesWell := goodIn_r _ [14, 15, 22, 23, 24, 25, 26, 27, 28, 29, 30, 31, 32, 33, 34, 35, 36] (by decide +kernel) (by decide +kernel)
set_option maxRecDepth 20000 in
theorem gX10_treeDepth_X10_goesWell : GoodIn wsX10_treeDepth (wsV RX10 92 RX10 yX10_goesWell wsX10_goesWell) := goodIn_app (goodIn_of _ (by decide +kernel)) ggX10_treeDepth_X10_goesWell
set_option maxRecDepth 20000 in
theorem ggX10_treeDepth_X10_find : GoodIn wsX10_treeDepth wsX10_find := goodIn_r _ [19, 20, 21, 22, 23, 24, 25, 26, 27, 28, 29, 30, 31, 32, 33, 34, 35, 36] (by decide +kernel) (by decide +kernel)
set_option maxRecDepth 20000 in
theorem gX10_treeDepth_X10_find : GoodIn wsX10_treeDepth (wsV RX10 88 RX10 yX10_find wsX10_find) := goodIn_app (goodIn_of _ (by decide +kernel)) ggX10_treeDepth_X10_find
theorem dX10_treeDepth_0 : decode cX10_treeDepth 0 = .ok (.aload_n 0, 1) := by decide +kernel
theorem dX10_treeDepth_1 : decode cX10_treeDepth 1 = .ok (.lload_n 1, 1) := by decide +kernel
theorem dX10_treeDepth_2 : decode cX10_treeDepth 2 = .ok (.invokestatic 84, 3) := by decide +kernel
theorem dX10_treeDepth_5 : decode cX10_treeDepth 5 = .ok (.ifCond .eq 7, 3) := by decide +kernel
theorem dX10_treeDepth_8 : decode cX10_treeDepth 8 = .ok (.iconst 0, 1) := by decide +kernel
theorem dX10_treeDepth_9 : decode cX10_treeDepth 9 = .ok (.goto 4, 3) := by decide +kernel
theorem dX10_treeDepth_12 : decode cX10_treeDepth 12 = .ok (.iconst 1, 1) := by decide +kernel
theorem dX10_treeDepth_13 : decode cX10_treeDepth 13 = .ok (.invokevirtual 92, 3) := by decide +kernel
theorem dX10_treeDepth_16 : decode cX10_treeDepth 16 = .ok (.ifCond .ne 5, 3) := by decide +kernel
theorem dX10_treeDepth_19 : decode cX10_treeDepth 19 = .ok (.iconst 0, 1) := by decide +kernel
theorem dX10_treeDepth_20 : decode cX10_treeDepth 20 = .ok (.ireturn, 1) := by decide +kernel
theorem dX10_treeDepth_21 : decode cX10_treeDepth 21 = .ok (.iconst (-1), 1) := by decide +kernel
theorem dX10_treeDepth_22 : decode cX10_treeDepth 22 = .ok (.istore_n 3, 1) := by decide +kernel
theorem dX10_treeDepth_23 : decode cX10_treeDepth 23 = .ok (.aload_n 0, 1) := by decide +kernel
theorem dX10_treeDepth_24 : decode cX10_treeDepth 24 = .ok (.lload_n 1, 1) := by decide +kernel
theorem dX10_treeDepth_25 : decode cX10_treeDepth 25 = .ok (.invokevirtual 88, 3) := by decide +kernel
theorem dX10_treeDepth_28 : decode cX10_treeDepth 28 = .ok (.istore 4, 2) := by decide +kernel
theorem dX10_treeDepth_30 : decode cX10_treeDepth 30 = .ok (.iload 4, 2) := by decide +kernel
theorem dX10_treeDepth_32 : decode cX10_treeDepth 32 = .ok (.iconst (-1), 1) := by decide +kernel
theorem dX10_treeDepth_33 : decode cX10_treeDepth 33 = .ok (.if_icmp .eq 18, 3) := by decide +kernel
theorem dX10_treeDepth_36 : decode cX10_treeDepth 36 = .ok (.iinc 3 1, 3) := by decide +kernel
theorem dX10_treeDepth_39 : decode cX10_treeDepth 39 = .ok (.aload_n 0, 1) := by decide +kernel
theorem dX10_treeDepth_40 : decode cX10_treeDepth 40 = .ok (.getfield 17, 3) := by decide +kernel
theorem dX10_treeDepth_43 : decode cX10_treeDepth 43 = .ok (.iload 4, 2) := by decide +kernel
theorem dX10_treeDepth_45 : decode cX10_treeDepth 45 = .ok (.iaload, 1) := by decide +kernel
theorem dX10_treeDepth_46 : decode cX10_treeDepth 46 = .ok (.istore 4, 2) := by decide +kernel
theorem dX10_treeDepth_48 : decode cX10_treeDepth 48 = .ok (.goto (-18), 3) := by decide +kernel
theorem dX10_treeDepth_51 : decode cX10_treeDepth 51 = .ok (.iload_n 3, 1) := by decide +kernel
theorem dX10_treeDepth_52 : decode cX10_treeDepth 52 = .ok (.ireturn, 1) := by decide +kernel
set_option maxRecDepth 20000 in
theorem ggX10_treeParent_X10_isWord : GoodIn wsX10_treeParent wsX10_isWord := goodIn_r _ [7, 8, 9, 10, 11, 6, 12] (by decide +kernel) (by decide +kernel)
set_option maxRecDepth 20000 in
theorem gX10_treeParent_X10_isWord : GoodIn wsX10_treeParent (va_wsS RX10 84 yX10_isWord wsX10_isWord) := goodIn_app (goodIn_of _ (by decide +kernel)) ggX10_treeParent_X10_isWord
set_option maxRecDepth 20000 in
theorem ggX10_treeParent_X10_goesWell : GoodIn wsX10_treeParent wsX10_goesWell := goodIn_r _ [16, 17, 23, 24, 25, 26, 27, 28, 29, 30, 31, 32, 33, 34, 35, 36, 37] (by decide +kernel) (by decide +kernel)
set_option maxRecDepth 20000 in
theorem gX10_treeParent_X10_goesWell : GoodIn wsX10_treeParent (wsV RX10 92 RX10 yX10_goesWell wsX10_goesWell) := goodIn_app (goodIn_of _ (by decide +kernel)) ggX10_treeParent_X10_goesWell
set_option maxRecDepth 20000 in
theorem ggX10_treeParent_X10_find : GoodIn wsX10_treeParent wsX10_find := goodIn_r _ [21, 22, 3, 23, 24, 25, 26, 27, 28, 29, 30, 31, 32, 33, 34, 35, 36, 37] (by decide +kernel) (by decide +kernel)
set_option maxRecDepth 20000 in
theorem gX10_treeParent_X10_find : GoodIn wsX10_treeParent (wsV RX10 88 RX10 yX10_find wsX10_find) := goodIn_app (goodIn_of _ (by decide +kernel)) ggX10_treeParent_X10_find
theorem dX10_treeParent_0 : decode cX10_treeParent 0 = .ok (.aload_n 0, 1) := by decide +kernel
theorem dX10_treeParent_1 : decode cX10_treeParent 1 = .ok (.lload_n 1, 1) := by decide +kernel
theorem dX10_treeParent_2 : decode cX10_treeParent 2 = .ok (.invokestatic 84, 3) := by decide +kernel
theorem dX10_treeParent_5 : decode cX10_treeParent 5 = .ok (.ifCond .eq 7, 3) := by decide +kernel
theorem dX10_treeParent_8 : decode cX10_treeParent 8 = .ok (.iconst 0, 1) := by decide +kernel
theorem dX10_treeParent_9 : decode cX10_treeParent 9 = .ok (.goto 4, 3) := by decide +kernel
theorem dX10_treeParent_12 : decode cX10_treeParent 12 = .ok (.iconst 1, 1) := by decide +kernel
theorem dX10_treeParent_13 : decode cX10_treeParent 13 = .ok (.invokevirtual 92, 3) := by decide +kernel
theorem dX10_treeParent_16 : decode cX10_treeParent 16 = .ok (.ifCond .ne 5, 3) := by decide +kernel
theorem dX10_treeParent_19 : decode cX10_treeParent 19 = .ok (.lconst 0, 1) := by decide +kernel
theorem dX10_treeParent_20 : decode cX10_treeParent 20 = .ok (.lreturn, 1) := by decide +kernel
theorem dX10_treeParent_21 : decode cX10_treeParent 21 = .ok (.aload_n 0, 1) := by decide +kernel
theorem dX10_treeParent_22 : decode cX10_treeParent 22 = .ok (.lload_n 1, 1) := by decide +kernel
theorem dX10_treeParent_23 : decode cX10_treeParent 23 = .ok (.invokevirtual 88, 3) := by decide +kernel
theorem dX10_treeParent_26 : decode cX10_treeParent 26 = .ok (.istore_n 3, 1) := by decide +kernel
theorem dX10_treeParent_27 : decode cX10_treeParent 27 = .ok (.iload_n 3, 1) := by decide +kernel
theorem dX10_treeParent_28 : decode cX10_treeParent 28 = .ok (.iconst (-1), 1) := by decide +kernel
theorem dX10_treeParent_29 : decode cX10_treeParent 29 = .ok (.if_icmp .eq 13, 3) := by decide +kernel
theorem dX10_treeParent_32 : decode cX10_treeParent 32 = .ok (.aload_n 0, 1) := by decide +kernel
theorem dX10_treeParent_33 : decode cX10_treeParent 33 = .ok (.getfield 17, 3) := by decide +kernel
theorem dX10_treeParent_36 : decode cX10_treeParent 36 = .ok (.iload_n 3, 1) := by decide +kernel
theorem dX10_treeParent_37 : decode cX10_treeParent 37 = .ok (.iaload, 1) := by decide +kernel
theorem dX10_treeParent_38 : decode cX10_treeParent 38 = .ok (.iconst (-1), 1) := by decide +kernel
theorem dX10_treeParent_39 : decode cX10_treeParent 39 = .ok (.if_icmp .ne 9, 3) := by decide +kernel
theorem dX10_treeParent_42 : decode cX10_treeParent 42 = .ok (.ldc2_w 148, 3) := by decide +kernel
theorem dX10_treeParent_45 : decode cX10_treeParent 45 = .ok (.goto 14, 3) := by decide +kernel
theorem dX10_treeParent_48 : decode cX10_treeParent 48 = .ok (.aload_n 0, 1) := by decide +kernel
theorem dX10_treeParent_49 : decode cX10_treeParent 49 = .ok (.getfield 7, 3) := by decide +kernel
theorem dX10_treeParent_52 : decode cX10_treeParent 52 = .ok (.aload_n 0, 1) := by decide +kernel
theorem dX10_treeParent_53 : decode cX10_treeParent 53 = .ok (.getfield 17, 3) := by decide +kernel
theorem dX10_treeParent_56 : decode cX10_treeParent 56 = .ok (.iload_n 3, 1) := by decide +kernel
theorem dX10_treeParent_57 : decode cX10_treeParent 57 = .ok (.iaload, 1) := by decide +kernel
theorem dX10_treeParent_58 : decode cX10_treeParent 58 = .ok (.laload, 1) := by decide +kernel
theorem dX10_treeParent_59 : decode cX10_treeParent 59 = .ok (.lreturn, 1) := by decide +kernel
set_option maxRecDepth 20000 in
theorem ggX10_isCompared_X10_apart : GoodIn wsX10_isCompared wsX10_apart := goodIn_r _ [8, 9, 10, 11, 12, 13, 14, 7, 15, 16, 17, 18, 19, 20, 21, 22, 23, 24, 25, 26, 27, 28, 29, 30, 31, 32, 33, 34, 35, 36, 37, 38, 39, 40, 41, 42, 43, 44, 45, 46, 47] (by decide +kernel) (by decide +kernel)
set_option maxRecDepth 20000 in
theorem gX10_isCompared_X10_apart : GoodIn wsX10_isCompared (wsV RX10 80 RX10 yX10_apart wsX10_apart) := goodIn_app (goodIn_of _ (by decide +kernel)) ggX10_isCompared_X10_apart
theorem dX10_isCompared_0 : decode cX10_isCompared 0 = .ok (.iconst 1, 1) := by decide +kernel
theorem dX10_isCompared_1 : decode cX10_isCompared 1 = .ok (.istore 5, 2) := by decide +kernel
theorem dX10_isCompared_3 : decode cX10_isCompared 3 = .ok (.iload_n 1, 1) := by decide +kernel
theorem dX10_isCompared_4 : decode cX10_isCompared 4 = .ok (.istore 6, 2) := by decide +kernel
theorem dX10_isCompared_6 : decode cX10_isCompared 6 = .ok (.aload_n 0, 1) := by decide +kernel
theorem dX10_isCompared_7 : decode cX10_isCompared 7 = .ok (.getfield 17, 3) := by decide +kernel
theorem dX10_isCompared_10 : decode cX10_isCompared 10 = .ok (.iload 6, 2) := by decide +kernel
theorem dX10_isCompared_12 : decode cX10_isCompared 12 = .ok (.iaload, 1) := by decide +kernel
theorem dX10_isCompared_13 : decode cX10_isCompared 13 = .ok (.iconst (-1), 1) := by decide +kernel
theorem dX10_isCompared_14 : decode cX10_isCompared 14 = .ok (.if_icmp .eq 69, 3) := by decide +kernel
theorem dX10_isCompared_17 : decode cX10_isCompared 17 = .ok (.aload_n 0, 1) := by decide +kernel
theorem dX10_isCompared_18 : decode cX10_isCompared 18 = .ok (.getfield 20, 3) := by decide +kernel
theorem dX10_isCompared_21 : decode cX10_isCompared 21 = .ok (.iload 6, 2) := by decide +kernel
theorem dX10_isCompared_23 : decode cX10_isCompared 23 = .ok (.iaload, 1) := by decide +kernel
theorem dX10_isCompared_24 : decode cX10_isCompared 24 = .ok (.aload_n 0, 1) := by decide +kernel
theorem dX10_isCompared_25 : decode cX10_isCompared 25 = .ok (.lload_n 2, 1) := by decide +kernel
theorem dX10_isCompared_26 : decode cX10_isCompared 26 = .ok (.aload_n 0, 1) := by decide +kernel
theorem dX10_isCompared_27 : decode cX10_isCompared 27 = .ok (.getfield 7, 3) := by decide +kernel
theorem dX10_isCompared_30 : decode cX10_isCompared 30 = .ok (.aload_n 0, 1) := by decide +kernel
theorem dX10_isCompared_31 : decode cX10_isCompared 31 = .ok (.getfield 17, 3) := by decide +kernel
theorem dX10_isCompared_34 : decode cX10_isCompared 34 = .ok (.iload 6, 2) := by decide +kernel
theorem dX10_isCompared_36 : decode cX10_isCompared 36 = .ok (.iaload, 1) := by decide +kernel
theorem dX10_isCompared_37 : decode cX10_isCompared 37 = .ok (.laload, 1) := by decide +kernel
theorem dX10_isCompared_38 : decode cX10_isCompared 38 = .ok (.invokevirtual 80, 3) := by decide +kernel
theorem dX10_isCompared_41 : decode cX10_isCompared 41 = .ok (.isub, 1) := by decide +kernel
theorem dX10_isCompared_42 : decode cX10_isCompared 42 = .ok (.istore 7, 2) := by decide +kernel
theorem dX10_isCompared_44 : decode cX10_isCompared 44 = .ok (.iload 5, 2) := by decide +kernel
theorem dX10_isCompared_46 : decode cX10_isCompared 46 = .ok (.ifCond .eq 22, 3) := by decide +kernel
theorem dX10_isCompared_49 : decode cX10_isCompared 49 = .ok (.iload 7, 2) := by decide +kernel
theorem dX10_isCompared_51 : decode cX10_isCompared 51 = .ok (.iload 4, 2) := by decide +kernel
theorem dX10_isCompared_53 : decode cX10_isCompared 53 = .ok (.if_icmp .gt 15, 3) := by decide +kernel
theorem dX10_isCompared_56 : decode cX10_isCompared 56 = .ok (.iload 7, 2) := by decide +kernel
theorem dX10_isCompared_58 : decode cX10_isCompared 58 = .ok (.iload 4, 2) := by decide +kernel
theorem dX10_isCompared_60 : decode cX10_isCompared 60 = .ok (.ineg, 1) := by decide +kernel
theorem dX10_isCompared_61 : decode cX10_isCompared 61 = .ok (.if_icmp .lt 7, 3) := by decide +kernel
theorem dX10_isCompared_64 : decode cX10_isCompared 64 = .ok (.iconst 1, 1) := by decide +kernel
theorem dX10_isCompared_65 : decode cX10_isCompared 65 = .ok (.goto 4, 3) := by decide +kernel
theorem dX10_isCompared_68 : decode cX10_isCompared 68 = .ok (.iconst 0, 1) := by decide +kernel
theorem dX10_isCompared_69 : decode cX10_isCompared 69 = .ok (.istore 5, 2) := by decide +kernel
theorem dX10_isCompared_71 : decode cX10_isCompared 71 = .ok (.aload_n 0, 1) := by decide +kernel
theorem dX10_isCompared_72 : decode cX10_isCompared 72 = .ok (.getfield 17, 3) := by decide +kernel
theorem dX10_isCompared_75 : decode cX10_isCompared 75 = .ok (.iload 6, 2) := by decide +kernel
theorem dX10_isCompared_77 : decode cX10_isCompared 77 = .ok (.iaload, 1) := by decide +kernel
theorem dX10_isCompared_78 : decode cX10_isCompared 78 = .ok (.istore 6, 2) := by decide +kernel
theorem dX10_isCompared_80 : decode cX10_isCompared 80 = .ok (.goto (-74), 3) := by decide +kernel
theorem dX10_isCompared_83 : decode cX10_isCompared 83 = .ok (.iload 5, 2) := by decide +kernel
theorem dX10_isCompared_85 : decode cX10_isCompared 85 = .ok (.ireturn, 1) := by decide +kernel
set_option maxRecDepth 20000 in
theorem ggX10_treeCompared_X10_isSearch : GoodIn wsX10_treeCompared wsX10_isSearch := goodIn_r _ [5, 6, 7, 4, 8, 9, 10, 11, 12, 13] (by decide +kernel) (by decide +kernel)
set_option maxRecDepth 20000 in
theorem gX10_treeCompared_X10_isSearch : GoodIn wsX10_treeCompared (va_wsS RX10 127 yX10_isSearch wsX10_isSearch) := goodIn_app (goodIn_of _ (by decide +kernel)) ggX10_treeCompared_X10_isSearch
set_option maxRecDepth 20000 in
theorem ggX10_treeCompared_X10_goesWell : GoodIn wsX10_treeCompared wsX10_goesWell := goodIn_r _ [17, 18, 50, 51, 52, 53, 54, 55, 56, 57, 58, 59, 60, 61, 62, 63, 64] (by decide +kernel) (by decide +kernel)
set_option maxRecDepth 20000 in
theorem gX10_treeCompared_X10_goesWell : GoodIn wsX10_treeCompared (wsV RX10 92 RX10 yX10_goesWell wsX10_goesWell) := goodIn_app (goodIn_of _ (by decide +kernel)) ggX10_treeCompared_X10_goesWell
set_option maxRecDepth 20000 in
theorem ggX10_treeCompared_X10_isCompared : GoodIn wsX10_treeCompared wsX10_isCompared := goodIn_r _ [22, 23, 24, 25, 26, 27, 28, 4, 29, 30, 31, 32, 33, 34, 35, 36, 37, 38, 39, 40, 41, 42, 9, 11, 12, 13, 43, 44, 45, 46, 47, 48, 49, 50, 51, 52, 53, 54, 55, 56, 57, 58, 59, 60, 61, 62, 63, 64] (by decide +kernel) (by decide +kernel)
set_option maxRecDepth 20000 in
theorem gX10_treeCompared_X10_isCompared : GoodIn wsX10_treeCompared (wsV RX10 157 RX10 yX10_isCompared wsX10_isCompared) := goodIn_app (goodIn_of _ (by decide +kernel)) ggX10_treeCompared_X10_isCompared
theorem dX10_treeCompared_0 : decode cX10_treeCompared 0 = .ok (.aload_n 0, 1) := by decide +kernel
theorem dX10_treeCompared_1 : decode cX10_treeCompared 1 = .ok (.lload_n 1, 1) := by decide +kernel
theorem dX10_treeCompared_2 : decode cX10_treeCompared 2 = .ok (.iload_n 3, 1) := by decide +kernel
theorem dX10_treeCompared_3 : decode cX10_treeCompared 3 = .ok (.iconst 3, 1) := by decide +kernel
theorem dX10_treeCompared_4 : decode cX10_treeCompared 4 = .ok (.invokestatic 127, 3) := by decide +kernel
theorem dX10_treeCompared_7 : decode cX10_treeCompared 7 = .ok (.ifCond .eq 7, 3) := by decide +kernel
theorem dX10_treeCompared_10 : decode cX10_treeCompared 10 = .ok (.iconst 0, 1) := by decide +kernel
theorem dX10_treeCompared_11 : decode cX10_treeCompared 11 = .ok (.goto 4, 3) := by decide +kernel
theorem dX10_treeCompared_14 : decode cX10_treeCompared 14 = .ok (.iconst 1, 1) := by decide +kernel
theorem dX10_treeCompared_15 : decode cX10_treeCompared 15 = .ok (.invokevirtual 92, 3) := by decide +kernel
theorem dX10_treeCompared_18 : decode cX10_treeCompared 18 = .ok (.ifCond .ne 5, 3) := by decide +kernel
theorem dX10_treeCompared_21 : decode cX10_treeCompared 21 = .ok (.iconst 0, 1) := by decide +kernel
theorem dX10_treeCompared_22 : decode cX10_treeCompared 22 = .ok (.ireturn, 1) := by decide +kernel
theorem dX10_treeCompared_23 : decode cX10_treeCompared 23 = .ok (.iconst 0, 1) := by decide +kernel
theorem dX10_treeCompared_24 : decode cX10_treeCompared 24 = .ok (.istore 4, 2) := by decide +kernel
theorem dX10_treeCompared_26 : decode cX10_treeCompared 26 = .ok (.iconst 0, 1) := by decide +kernel
theorem dX10_treeCompared_27 : decode cX10_treeCompared 27 = .ok (.istore 5, 2) := by decide +kernel
theorem dX10_treeCompared_29 : decode cX10_treeCompared 29 = .ok (.iload 5, 2) := by decide +kernel
theorem dX10_treeCompared_31 : decode cX10_treeCompared 31 = .ok (.aload_n 0, 1) := by decide +kernel
theorem dX10_treeCompared_32 : decode cX10_treeCompared 32 = .ok (.getfield 77, 3) := by decide +kernel
theorem dX10_treeCompared_35 : decode cX10_treeCompared 35 = .ok (.if_icmp .ge 30, 3) := by decide +kernel
theorem dX10_treeCompared_38 : decode cX10_treeCompared 38 = .ok (.iload 4, 2) := by decide +kernel
theorem dX10_treeCompared_40 : decode cX10_treeCompared 40 = .ok (.aload_n 0, 1) := by decide +kernel
theorem dX10_treeCompared_41 : decode cX10_treeCompared 41 = .ok (.iload 5, 2) := by decide +kernel
theorem dX10_treeCompared_43 : decode cX10_treeCompared 43 = .ok (.lload_n 1, 1) := by decide +kernel
theorem dX10_treeCompared_44 : decode cX10_treeCompared 44 = .ok (.iload_n 3, 1) := by decide +kernel
theorem dX10_treeCompared_45 : decode cX10_treeCompared 45 = .ok (.invokevirtual 157, 3) := by decide +kernel
theorem dX10_treeCompared_48 : decode cX10_treeCompared 48 = .ok (.ifCond .eq 7, 3) := by decide +kernel
theorem dX10_treeCompared_51 : decode cX10_treeCompared 51 = .ok (.iconst 1, 1) := by decide +kernel
theorem dX10_treeCompared_52 : decode cX10_treeCompared 52 = .ok (.goto 4, 3) := by decide +kernel
theorem dX10_treeCompared_55 : decode cX10_treeCompared 55 = .ok (.iconst 0, 1) := by decide +kernel
theorem dX10_treeCompared_56 : decode cX10_treeCompared 56 = .ok (.iadd, 1) := by decide +kernel
theorem dX10_treeCompared_57 : decode cX10_treeCompared 57 = .ok (.istore 4, 2) := by decide +kernel
theorem dX10_treeCompared_59 : decode cX10_treeCompared 59 = .ok (.iinc 5 1, 3) := by decide +kernel
theorem dX10_treeCompared_62 : decode cX10_treeCompared 62 = .ok (.goto (-33), 3) := by decide +kernel
theorem dX10_treeCompared_65 : decode cX10_treeCompared 65 = .ok (.iload 4, 2) := by decide +kernel
theorem dX10_treeCompared_67 : decode cX10_treeCompared 67 = .ok (.ireturn, 1) := by decide +kernel
set_option maxRecDepth 20000 in
theorem ggX10_without_X10_lengthOf : GoodIn wsX10_without wsX10_lengthOf := goodIn_r _ [5, 1] (by decide +kernel) (by decide +kernel)
set_option maxRecDepth 20000 in
theorem gX10_without_X10_lengthOf : GoodIn wsX10_without (va_wsS RX10 50 yX10_lengthOf wsX10_lengthOf) := goodIn_app (goodIn_of _ (by decide +kernel)) ggX10_without_X10_lengthOf
set_option maxRecDepth 20000 in
theorem ggX10_without_X10_beginning : GoodIn wsX10_without wsX10_beginning := goodIn_r _ [8, 1, 2, 3, 4, 5] (by decide +kernel) (by decide +kernel)
set_option maxRecDepth 20000 in
theorem gX10_without_X10_beginning : GoodIn wsX10_without (va_wsS RX10 139 yX10_beginning wsX10_beginning) := goodIn_app (goodIn_of _ (by decide +kernel)) ggX10_without_X10_beginning
theorem dX10_without_0 : decode cX10_without 0 = .ok (.lload_n 0, 1) := by decide +kernel
theorem dX10_without_1 : decode cX10_without 1 = .ok (.invokestatic 50, 3) := by decide +kernel
theorem dX10_without_4 : decode cX10_without 4 = .ok (.istore 4, 2) := by decide +kernel
theorem dX10_without_6 : decode cX10_without 6 = .ok (.lconst 0, 1) := by decide +kernel
theorem dX10_without_7 : decode cX10_without 7 = .ok (.lstore 5, 2) := by decide +kernel
theorem dX10_without_9 : decode cX10_without 9 = .ok (.iconst 1, 1) := by decide +kernel
theorem dX10_without_10 : decode cX10_without 10 = .ok (.istore 7, 2) := by decide +kernel
theorem dX10_without_12 : decode cX10_without 12 = .ok (.iload 7, 2) := by decide +kernel
theorem dX10_without_14 : decode cX10_without 14 = .ok (.iload 4, 2) := by decide +kernel
theorem dX10_without_16 : decode cX10_without 16 = .ok (.if_icmp .gt 49, 3) := by decide +kernel
theorem dX10_without_19 : decode cX10_without 19 = .ok (.lload_n 0, 1) := by decide +kernel
theorem dX10_without_20 : decode cX10_without 20 = .ok (.iload 7, 2) := by decide +kernel
theorem dX10_without_22 : decode cX10_without 22 = .ok (.invokestatic 139, 3) := by decide +kernel
theorem dX10_without_25 : decode cX10_without 25 = .ok (.ldc2_w 48, 3) := by decide +kernel
theorem dX10_without_28 : decode cX10_without 28 = .ok (.lrem, 1) := by decide +kernel
theorem dX10_without_29 : decode cX10_without 29 = .ok (.lstore 8, 2) := by decide +kernel
theorem dX10_without_31 : decode cX10_without 31 = .ok (.iload 7, 2) := by decide +kernel
theorem dX10_without_33 : decode cX10_without 33 = .ok (.iload_n 2, 1) := by decide +kernel
theorem dX10_without_34 : decode cX10_without 34 = .ok (.if_icmp .eq 9, 3) := by decide +kernel
theorem dX10_without_37 : decode cX10_without 37 = .ok (.iload 7, 2) := by decide +kernel
theorem dX10_without_39 : decode cX10_without 39 = .ok (.iload_n 3, 1) := by decide +kernel
theorem dX10_without_40 : decode cX10_without 40 = .ok (.if_icmp .ne 8, 3) := by decide +kernel
theorem dX10_without_43 : decode cX10_without 43 = .ok (.lload 5, 2) := by decide +kernel
theorem dX10_without_45 : decode cX10_without 45 = .ok (.goto 12, 3) := by decide +kernel
theorem dX10_without_48 : decode cX10_without 48 = .ok (.ldc2_w 48, 3) := by decide +kernel
theorem dX10_without_51 : decode cX10_without 51 = .ok (.lload 5, 2) := by decide +kernel
theorem dX10_without_53 : decode cX10_without 53 = .ok (.lmul, 1) := by decide +kernel
theorem dX10_without_54 : decode cX10_without 54 = .ok (.lload 8, 2) := by decide +kernel
theorem dX10_without_56 : decode cX10_without 56 = .ok (.ladd, 1) := by decide +kernel
theorem dX10_without_57 : decode cX10_without 57 = .ok (.lstore 5, 2) := by decide +kernel
theorem dX10_without_59 : decode cX10_without 59 = .ok (.iinc 7 1, 3) := by decide +kernel
theorem dX10_without_62 : decode cX10_without 62 = .ok (.goto (-50), 3) := by decide +kernel
theorem dX10_without_65 : decode cX10_without 65 = .ok (.lload 5, 2) := by decide +kernel
theorem dX10_without_67 : decode cX10_without 67 = .ok (.lreturn, 1) := by decide +kernel
theorem dX10_isOnLeft_0 : decode cX10_isOnLeft 0 = .ok (.iconst 0, 1) := by decide +kernel
theorem dX10_isOnLeft_1 : decode cX10_isOnLeft 1 = .ok (.istore 4, 2) := by decide +kernel
theorem dX10_isOnLeft_3 : decode cX10_isOnLeft 3 = .ok (.iconst 0, 1) := by decide +kernel
theorem dX10_isOnLeft_4 : decode cX10_isOnLeft 4 = .ok (.istore 5, 2) := by decide +kernel
theorem dX10_isOnLeft_6 : decode cX10_isOnLeft 6 = .ok (.iload 5, 2) := by decide +kernel
theorem dX10_isOnLeft_8 : decode cX10_isOnLeft 8 = .ok (.iload_n 3, 1) := by decide +kernel
theorem dX10_isOnLeft_9 : decode cX10_isOnLeft 9 = .ok (.if_icmp .ge 33, 3) := by decide +kernel
theorem dX10_isOnLeft_12 : decode cX10_isOnLeft 12 = .ok (.iload 4, 2) := by decide +kernel
theorem dX10_isOnLeft_14 : decode cX10_isOnLeft 14 = .ok (.ifCond .ne 15, 3) := by decide +kernel
theorem dX10_isOnLeft_17 : decode cX10_isOnLeft 17 = .ok (.aload_n 0, 1) := by decide +kernel
theorem dX10_isOnLeft_18 : decode cX10_isOnLeft 18 = .ok (.getfield 38, 3) := by decide +kernel
theorem dX10_isOnLeft_21 : decode cX10_isOnLeft 21 = .ok (.iload 5, 2) := by decide +kernel
theorem dX10_isOnLeft_23 : decode cX10_isOnLeft 23 = .ok (.laload, 1) := by decide +kernel
theorem dX10_isOnLeft_24 : decode cX10_isOnLeft 24 = .ok (.lload_n 1, 1) := by decide +kernel
theorem dX10_isOnLeft_25 : decode cX10_isOnLeft 25 = .ok (.lcmp, 1) := by decide +kernel
theorem dX10_isOnLeft_26 : decode cX10_isOnLeft 26 = .ok (.ifCond .ne 7, 3) := by decide +kernel
theorem dX10_isOnLeft_29 : decode cX10_isOnLeft 29 = .ok (.iconst 1, 1) := by decide +kernel
theorem dX10_isOnLeft_30 : decode cX10_isOnLeft 30 = .ok (.goto 4, 3) := by decide +kernel
theorem dX10_isOnLeft_33 : decode cX10_isOnLeft 33 = .ok (.iconst 0, 1) := by decide +kernel
theorem dX10_isOnLeft_34 : decode cX10_isOnLeft 34 = .ok (.istore 4, 2) := by decide +kernel
theorem dX10_isOnLeft_36 : decode cX10_isOnLeft 36 = .ok (.iinc 5 1, 3) := by decide +kernel
theorem dX10_isOnLeft_39 : decode cX10_isOnLeft 39 = .ok (.goto (-33), 3) := by decide +kernel
theorem dX10_isOnLeft_42 : decode cX10_isOnLeft 42 = .ok (.iload 4, 2) := by decide +kernel
theorem dX10_isOnLeft_44 : decode cX10_isOnLeft 44 = .ok (.ireturn, 1) := by decide +kernel
set_option maxRecDepth 20000 in
theorem ggX10_layLeft_X10_lengthOf : GoodIn wsX10_layLeft wsX10_lengthOf := goodIn_r _ [5, 6] (by decide +kernel) (by decide +kernel)
set_option maxRecDepth 20000 in
theorem gX10_layLeft_X10_lengthOf : GoodIn wsX10_layLeft (va_wsS RX10 50 yX10_lengthOf wsX10_lengthOf) := goodIn_app (goodIn_of _ (by decide +kernel)) ggX10_layLeft_X10_lengthOf
set_option maxRecDepth 20000 in
theorem ggX10_layLeft_X10_without : GoodIn wsX10_layLeft wsX10_without := goodIn_r _ [9, 6, 2, 3, 4, 5, 10, 11, 12] (by decide +kernel) (by decide +kernel)
set_option maxRecDepth 20000 in
theorem gX10_layLeft_X10_without : GoodIn wsX10_layLeft (va_wsS RX10 160 yX10_without wsX10_without) := goodIn_app (goodIn_of _ (by decide +kernel)) ggX10_layLeft_X10_without
set_option maxRecDepth 20000 in
theorem ggX10_layLeft_X10_isOnLeft : GoodIn wsX10_layLeft wsX10_isOnLeft := goodIn_r _ [16, 1, 17, 18, 19, 20, 21, 22, 23, 24, 25, 26, 27, 28, 29, 30, 31] (by decide +kernel) (by decide +kernel)
set_option maxRecDepth 20000 in
theorem gX10_layLeft_X10_isOnLeft : GoodIn wsX10_layLeft (wsV RX10 164 RX10 yX10_isOnLeft wsX10_isOnLeft) := goodIn_app (goodIn_of _ (by decide +kernel)) ggX10_layLeft_X10_isOnLeft
theorem dX10_layLeft_0 : decode cX10_layLeft 0 = .ok (.iconst 0, 1) := by decide +kernel
theorem dX10_layLeft_1 : decode cX10_layLeft 1 = .ok (.istore 4, 2) := by decide +kernel
theorem dX10_layLeft_3 : decode cX10_layLeft 3 = .ok (.lload_n 1, 1) := by decide +kernel
theorem dX10_layLeft_4 : decode cX10_layLeft 4 = .ok (.invokestatic 50, 3) := by decide +kernel
theorem dX10_layLeft_7 : decode cX10_layLeft 7 = .ok (.istore 5, 2) := by decide +kernel
theorem dX10_layLeft_9 : decode cX10_layLeft 9 = .ok (.iconst 0, 1) := by decide +kernel
theorem dX10_layLeft_10 : decode cX10_layLeft 10 = .ok (.istore 6, 2) := by decide +kernel
theorem dX10_layLeft_12 : decode cX10_layLeft 12 = .ok (.iload 6, 2) := by decide +kernel
theorem dX10_layLeft_14 : decode cX10_layLeft 14 = .ok (.iload 5, 2) := by decide +kernel
theorem dX10_layLeft_16 : decode cX10_layLeft 16 = .ok (.if_icmp .gt 80, 3) := by decide +kernel
theorem dX10_layLeft_19 : decode cX10_layLeft 19 = .ok (.iload 6, 2) := by decide +kernel
theorem dX10_layLeft_21 : decode cX10_layLeft 21 = .ok (.ifCond .eq 7, 3) := by decide +kernel
theorem dX10_layLeft_24 : decode cX10_layLeft 24 = .ok (.iload_n 3, 1) := by decide +kernel
theorem dX10_layLeft_25 : decode cX10_layLeft 25 = .ok (.ifCond .le 71, 3) := by decide +kernel
theorem dX10_layLeft_28 : decode cX10_layLeft 28 = .ok (.iload 6, 2) := by decide +kernel
theorem dX10_layLeft_30 : decode cX10_layLeft 30 = .ok (.istore 7, 2) := by decide +kernel
theorem dX10_layLeft_32 : decode cX10_layLeft 32 = .ok (.iload 7, 2) := by decide +kernel
theorem dX10_layLeft_34 : decode cX10_layLeft 34 = .ok (.iload 5, 2) := by decide +kernel
theorem dX10_layLeft_36 : decode cX10_layLeft 36 = .ok (.if_icmp .gt 54, 3) := by decide +kernel
theorem dX10_layLeft_39 : decode cX10_layLeft 39 = .ok (.iload 7, 2) := by decide +kernel
theorem dX10_layLeft_41 : decode cX10_layLeft 41 = .ok (.iload 6, 2) := by decide +kernel
theorem dX10_layLeft_43 : decode cX10_layLeft 43 = .ok (.if_icmp .eq 8, 3) := by decide +kernel
theorem dX10_layLeft_46 : decode cX10_layLeft 46 = .ok (.iload_n 3, 1) := by decide +kernel
theorem dX10_layLeft_47 : decode cX10_layLeft 47 = .ok (.iconst 1, 1) := by decide +kernel
theorem dX10_layLeft_48 : decode cX10_layLeft 48 = .ok (.if_icmp .le 42, 3) := by decide +kernel
theorem dX10_layLeft_51 : decode cX10_layLeft 51 = .ok (.lload_n 1, 1) := by decide +kernel
theorem dX10_layLeft_52 : decode cX10_layLeft 52 = .ok (.iload 6, 2) := by decide +kernel
theorem dX10_layLeft_54 : decode cX10_layLeft 54 = .ok (.iload 7, 2) := by decide +kernel
theorem dX10_layLeft_56 : decode cX10_layLeft 56 = .ok (.invokestatic 160, 3) := by decide +kernel
theorem dX10_layLeft_59 : decode cX10_layLeft 59 = .ok (.lstore 8, 2) := by decide +kernel
theorem dX10_layLeft_61 : decode cX10_layLeft 61 = .ok (.aload_n 0, 1) := by decide +kernel
theorem dX10_layLeft_62 : decode cX10_layLeft 62 = .ok (.lload 8, 2) := by decide +kernel
theorem dX10_layLeft_64 : decode cX10_layLeft 64 = .ok (.iload 4, 2) := by decide +kernel
theorem dX10_layLeft_66 : decode cX10_layLeft 66 = .ok (.invokevirtual 164, 3) := by decide +kernel
theorem dX10_layLeft_69 : decode cX10_layLeft 69 = .ok (.ifCond .ne 15, 3) := by decide +kernel
theorem dX10_layLeft_72 : decode cX10_layLeft 72 = .ok (.aload_n 0, 1) := by decide +kernel
theorem dX10_layLeft_73 : decode cX10_layLeft 73 = .ok (.getfield 38, 3) := by decide +kernel
theorem dX10_layLeft_76 : decode cX10_layLeft 76 = .ok (.iload 4, 2) := by decide +kernel
theorem dX10_layLeft_78 : decode cX10_layLeft 78 = .ok (.lload 8, 2) := by decide +kernel
theorem dX10_layLeft_80 : decode cX10_layLeft 80 = .ok (.lastore, 1) := by decide +kernel
theorem dX10_layLeft_81 : decode cX10_layLeft 81 = .ok (.iinc 4 1, 3) := by decide +kernel
theorem dX10_layLeft_84 : decode cX10_layLeft 84 = .ok (.iinc 7 1, 3) := by decide +kernel
theorem dX10_layLeft_87 : decode cX10_layLeft 87 = .ok (.goto (-55), 3) := by decide +kernel
theorem dX10_layLeft_90 : decode cX10_layLeft 90 = .ok (.iinc 6 1, 3) := by decide +kernel
theorem dX10_layLeft_93 : decode cX10_layLeft 93 = .ok (.goto (-81), 3) := by decide +kernel
theorem dX10_layLeft_96 : decode cX10_layLeft 96 = .ok (.iload 4, 2) := by decide +kernel
theorem dX10_layLeft_98 : decode cX10_layLeft 98 = .ok (.ireturn, 1) := by decide +kernel
set_option maxRecDepth 20000 in
theorem ggX10_neighbourhood_X10_isSearch : GoodIn wsX10_neighbourhood wsX10_isSearch := goodIn_r _ [4, 5, 6, 3, 7, 8, 9, 10, 11, 12] (by decide +kernel) (by decide +kernel)
set_option maxRecDepth 20000 in
theorem gX10_neighbourhood_X10_isSearch : GoodIn wsX10_neighbourhood (va_wsS RX10 127 yX10_isSearch wsX10_isSearch) := goodIn_app (goodIn_of _ (by decide +kernel)) ggX10_neighbourhood_X10_isSearch
set_option maxRecDepth 20000 in
theorem ggX10_neighbourhood_X10_goesWell : GoodIn wsX10_neighbourhood wsX10_goesWell := goodIn_r _ [16, 17, 33, 34, 35, 36, 37, 38, 39, 40, 41, 42, 43, 44, 45, 46, 47] (by decide +kernel) (by decide +kernel)
set_option maxRecDepth 20000 in
theorem gX10_neighbourhood_X10_goesWell : GoodIn wsX10_neighbourhood (wsV RX10 92 RX10 yX10_goesWell wsX10_goesWell) := goodIn_app (goodIn_of _ (by decide +kernel)) ggX10_neighbourhood_X10_goesWell
set_option maxRecDepth 20000 in
theorem ggX10_neighbourhood_X10_layLeft : GoodIn wsX10_neighbourhood wsX10_layLeft := goodIn_r _ [21, 22, 10, 11, 3, 12, 8, 23, 24, 25, 26, 27, 28, 29, 30, 31, 32, 33, 34, 35, 36, 37, 38, 39, 40, 41, 42, 43, 44, 45, 46, 47] (by decide +kernel) (by decide +kernel)
set_option maxRecDepth 20000 in
theorem gX10_neighbourhood_X10_layLeft : GoodIn wsX10_neighbourhood (wsV RX10 168 RX10 yX10_layLeft wsX10_layLeft) := goodIn_app (goodIn_of _ (by decide +kernel)) ggX10_neighbourhood_X10_layLeft
theorem dX10_neighbourhood_0 : decode cX10_neighbourhood 0 = .ok (.aload_n 0, 1) := by decide +kernel
theorem dX10_neighbourhood_1 : decode cX10_neighbourhood 1 = .ok (.lload_n 1, 1) := by decide +kernel
theorem dX10_neighbourhood_2 : decode cX10_neighbourhood 2 = .ok (.iload_n 3, 1) := by decide +kernel
theorem dX10_neighbourhood_3 : decode cX10_neighbourhood 3 = .ok (.iconst 2, 1) := by decide +kernel
theorem dX10_neighbourhood_4 : decode cX10_neighbourhood 4 = .ok (.invokestatic 127, 3) := by decide +kernel
theorem dX10_neighbourhood_7 : decode cX10_neighbourhood 7 = .ok (.ifCond .eq 7, 3) := by decide +kernel
theorem dX10_neighbourhood_10 : decode cX10_neighbourhood 10 = .ok (.iconst 0, 1) := by decide +kernel
theorem dX10_neighbourhood_11 : decode cX10_neighbourhood 11 = .ok (.goto 4, 3) := by decide +kernel
theorem dX10_neighbourhood_14 : decode cX10_neighbourhood 14 = .ok (.iconst 1, 1) := by decide +kernel
theorem dX10_neighbourhood_15 : decode cX10_neighbourhood 15 = .ok (.invokevirtual 92, 3) := by decide +kernel
theorem dX10_neighbourhood_18 : decode cX10_neighbourhood 18 = .ok (.ifCond .eq 12, 3) := by decide +kernel
theorem dX10_neighbourhood_21 : decode cX10_neighbourhood 21 = .ok (.aload_n 0, 1) := by decide +kernel
theorem dX10_neighbourhood_22 : decode cX10_neighbourhood 22 = .ok (.lload_n 1, 1) := by decide +kernel
theorem dX10_neighbourhood_23 : decode cX10_neighbourhood 23 = .ok (.iload_n 3, 1) := by decide +kernel
theorem dX10_neighbourhood_24 : decode cX10_neighbourhood 24 = .ok (.invokevirtual 168, 3) := by decide +kernel
theorem dX10_neighbourhood_27 : decode cX10_neighbourhood 27 = .ok (.goto 4, 3) := by decide +kernel
theorem dX10_neighbourhood_30 : decode cX10_neighbourhood 30 = .ok (.iconst 0, 1) := by decide +kernel
theorem dX10_neighbourhood_31 : decode cX10_neighbourhood 31 = .ok (.ireturn, 1) := by decide +kernel
set_option maxRecDepth 20000 in
theorem ggX10_meets_X10_layLeft : GoodIn wsX10_meets wsX10_layLeft := goodIn_r _ [7, 8, 9, 10, 6, 11, 12, 13, 14, 15, 16, 17, 18, 19, 20, 21, 22, 23, 24, 25, 26, 27, 28, 29, 30, 31, 32, 33, 34, 35, 36, 37] (by decide +kernel) (by decide +kernel)
set_option maxRecDepth 20000 in
theorem gX10_meets_X10_layLeft : GoodIn wsX10_meets (wsV RX10 168 RX10 yX10_layLeft wsX10_layLeft) := goodIn_app (goodIn_of _ (by decide +kernel)) ggX10_meets_X10_layLeft
set_option maxRecDepth 20000 in
theorem ggX10_meets_X10_isOnLeft : GoodIn wsX10_meets wsX10_isOnLeft := goodIn_r _ [22, 8, 23, 24, 25, 26, 27, 28, 29, 30, 31, 32, 33, 34, 35, 36, 37] (by decide +kernel) (by decide +kernel)
set_option maxRecDepth 20000 in
theorem gX10_meets_X10_isOnLeft : GoodIn wsX10_meets (wsV RX10 164 RX10 yX10_isOnLeft wsX10_isOnLeft) := goodIn_app (goodIn_of _ (by decide +kernel)) ggX10_meets_X10_isOnLeft
theorem dX10_meets_0 : decode cX10_meets 0 = .ok (.aload_n 0, 1) := by decide +kernel
theorem dX10_meets_1 : decode cX10_meets 1 = .ok (.aload_n 0, 1) := by decide +kernel
theorem dX10_meets_2 : decode cX10_meets 2 = .ok (.getfield 7, 3) := by decide +kernel
theorem dX10_meets_5 : decode cX10_meets 5 = .ok (.iload_n 1, 1) := by decide +kernel
theorem dX10_meets_6 : decode cX10_meets 6 = .ok (.laload, 1) := by decide +kernel
theorem dX10_meets_7 : decode cX10_meets 7 = .ok (.iload_n 2, 1) := by decide +kernel
theorem dX10_meets_8 : decode cX10_meets 8 = .ok (.invokevirtual 168, 3) := by decide +kernel
theorem dX10_meets_11 : decode cX10_meets 11 = .ok (.istore 4, 2) := by decide +kernel
theorem dX10_meets_13 : decode cX10_meets 13 = .ok (.iconst 0, 1) := by decide +kernel
theorem dX10_meets_14 : decode cX10_meets 14 = .ok (.istore 5, 2) := by decide +kernel
theorem dX10_meets_16 : decode cX10_meets 16 = .ok (.iconst 0, 1) := by decide +kernel
theorem dX10_meets_17 : decode cX10_meets 17 = .ok (.istore 6, 2) := by decide +kernel
theorem dX10_meets_19 : decode cX10_meets 19 = .ok (.iload 6, 2) := by decide +kernel
theorem dX10_meets_21 : decode cX10_meets 21 = .ok (.iload_n 3, 1) := by decide +kernel
theorem dX10_meets_22 : decode cX10_meets 22 = .ok (.if_icmp .ge 37, 3) := by decide +kernel
theorem dX10_meets_25 : decode cX10_meets 25 = .ok (.iload 5, 2) := by decide +kernel
theorem dX10_meets_27 : decode cX10_meets 27 = .ok (.ifCond .ne 19, 3) := by decide +kernel
theorem dX10_meets_30 : decode cX10_meets 30 = .ok (.aload_n 0, 1) := by decide +kernel
theorem dX10_meets_31 : decode cX10_meets 31 = .ok (.aload_n 0, 1) := by decide +kernel
theorem dX10_meets_32 : decode cX10_meets 32 = .ok (.getfield 41, 3) := by decide +kernel
theorem dX10_meets_35 : decode cX10_meets 35 = .ok (.iload 6, 2) := by decide +kernel
theorem dX10_meets_37 : decode cX10_meets 37 = .ok (.laload, 1) := by decide +kernel
theorem dX10_meets_38 : decode cX10_meets 38 = .ok (.iload 4, 2) := by decide +kernel
theorem dX10_meets_40 : decode cX10_meets 40 = .ok (.invokevirtual 164, 3) := by decide +kernel
theorem dX10_meets_43 : decode cX10_meets 43 = .ok (.ifCond .eq 7, 3) := by decide +kernel
theorem dX10_meets_46 : decode cX10_meets 46 = .ok (.iconst 1, 1) := by decide +kernel
theorem dX10_meets_47 : decode cX10_meets 47 = .ok (.goto 4, 3) := by decide +kernel
theorem dX10_meets_50 : decode cX10_meets 50 = .ok (.iconst 0, 1) := by decide +kernel
theorem dX10_meets_51 : decode cX10_meets 51 = .ok (.istore 5, 2) := by decide +kernel
theorem dX10_meets_53 : decode cX10_meets 53 = .ok (.iinc 6 1, 3) := by decide +kernel
theorem dX10_meets_56 : decode cX10_meets 56 = .ok (.goto (-37), 3) := by decide +kernel
theorem dX10_meets_59 : decode cX10_meets 59 = .ok (.iload 5, 2) := by decide +kernel
theorem dX10_meets_61 : decode cX10_meets 61 = .ok (.ireturn, 1) := by decide +kernel
set_option maxRecDepth 20000 in
theorem ggX10_candidateMany_X10_layLeft : GoodIn wsX10_candidateMany wsX10_layLeft := goodIn_r _ [9, 2, 10, 11, 8, 12, 13, 14, 15, 16, 17, 18, 19, 20, 21, 22, 23, 57, 58, 59, 60, 61, 62, 63, 64, 65, 66, 67, 68, 69, 70, 71] (by decide +kernel) (by decide +kernel)
set_option maxRecDepth 20000 in
theorem gX10_candidateMany_X10_layLeft : GoodIn wsX10_candidateMany (wsV RX10 168 RX10 yX10_layLeft wsX10_layLeft) := goodIn_app (goodIn_of _ (by decide +kernel)) ggX10_candidateMany_X10_layLeft
set_option maxRecDepth 20000 in
theorem ggX10_candidateMany_X10_meets : GoodIn wsX10_candidateMany wsX10_meets := goodIn_r _ [27, 28, 1, 5, 6, 7, 8, 9, 2, 10, 11, 12, 13, 14, 15, 16, 17, 18, 19, 20, 21, 22, 23, 57, 58, 59, 60, 61, 62, 63, 64, 65, 66, 67, 68, 69, 70, 71] (by decide +kernel) (by decide +kernel)
set_option maxRecDepth 20000 in
theorem gX10_candidateMany_X10_meets : GoodIn wsX10_candidateMany (wsV RX10 171 RX10 yX10_meets wsX10_meets) := goodIn_app (goodIn_of _ (by decide +kernel)) ggX10_candidateMany_X10_meets
set_option maxRecDepth 20000 in
theorem ggX10_candidateMany_X10_corrects : GoodIn wsX10_candidateMany wsX10_corrects := goodIn_r _ [32, 4, 28, 33, 34, 35, 8, 36, 37, 38, 39, 40, 41, 42, 43, 44, 45, 46, 47, 48, 49, 13, 10, 11, 12, 50, 51, 52, 53, 54, 55, 56, 57, 58, 59, 60, 61, 62, 63, 64, 65, 66, 67, 68, 69, 70, 71] (by decide +kernel) (by decide +kernel)
set_option maxRecDepth 20000 in
theorem gX10_candidateMany_X10_corrects : GoodIn wsX10_candidateMany (wsV RX10 123 RX10 yX10_corrects wsX10_corrects) := goodIn_app (goodIn_of _ (by decide +kernel)) ggX10_candidateMany_X10_corrects
theorem dX10_candidateMany_0 : decode cX10_candidateMany 0 = .ok (.aload_n 0, 1) := by decide +kernel
theorem dX10_candidateMany_1 : decode cX10_candidateMany 1 = .ok (.lload_n 1, 1) := by decide +kernel
theorem dX10_candidateMany_2 : decode cX10_candidateMany 2 = .ok (.iload_n 3, 1) := by decide +kernel
theorem dX10_candidateMany_3 : decode cX10_candidateMany 3 = .ok (.invokevirtual 168, 3) := by decide +kernel
theorem dX10_candidateMany_6 : decode cX10_candidateMany 6 = .ok (.istore 5, 2) := by decide +kernel
theorem dX10_candidateMany_8 : decode cX10_candidateMany 8 = .ok (.iconst 0, 1) := by decide +kernel
theorem dX10_candidateMany_9 : decode cX10_candidateMany 9 = .ok (.istore 6, 2) := by decide +kernel
theorem dX10_candidateMany_11 : decode cX10_candidateMany 11 = .ok (.iload 6, 2) := by decide +kernel
theorem dX10_candidateMany_13 : decode cX10_candidateMany 13 = .ok (.iload 5, 2) := by decide +kernel
theorem dX10_candidateMany_15 : decode cX10_candidateMany 15 = .ok (.if_icmp .ge 23, 3) := by decide +kernel
theorem dX10_candidateMany_18 : decode cX10_candidateMany 18 = .ok (.aload_n 0, 1) := by decide +kernel
theorem dX10_candidateMany_19 : decode cX10_candidateMany 19 = .ok (.getfield 41, 3) := by decide +kernel
theorem dX10_candidateMany_22 : decode cX10_candidateMany 22 = .ok (.iload 6, 2) := by decide +kernel
theorem dX10_candidateMany_24 : decode cX10_candidateMany 24 = .ok (.aload_n 0, 1) := by decide +kernel
theorem dX10_candidateMany_25 : decode cX10_candidateMany 25 = .ok (.getfield 38, 3) := by decide +kernel
theorem dX10_candidateMany_28 : decode cX10_candidateMany 28 = .ok (.iload 6, 2) := by decide +kernel
theorem dX10_candidateMany_30 : decode cX10_candidateMany 30 = .ok (.laload, 1) := by decide +kernel
theorem dX10_candidateMany_31 : decode cX10_candidateMany 31 = .ok (.lastore, 1) := by decide +kernel
theorem dX10_candidateMany_32 : decode cX10_candidateMany 32 = .ok (.iinc 6 1, 3) := by decide +kernel
theorem dX10_candidateMany_35 : decode cX10_candidateMany 35 = .ok (.goto (-24), 3) := by decide +kernel
theorem dX10_candidateMany_38 : decode cX10_candidateMany 38 = .ok (.iconst 0, 1) := by decide +kernel
theorem dX10_candidateMany_39 : decode cX10_candidateMany 39 = .ok (.istore 6, 2) := by decide +kernel
theorem dX10_candidateMany_41 : decode cX10_candidateMany 41 = .ok (.iconst 0, 1) := by decide +kernel
theorem dX10_candidateMany_42 : decode cX10_candidateMany 42 = .ok (.istore 7, 2) := by decide +kernel
theorem dX10_candidateMany_44 : decode cX10_candidateMany 44 = .ok (.iload 7, 2) := by decide +kernel
theorem dX10_candidateMany_46 : decode cX10_candidateMany 46 = .ok (.aload_n 0, 1) := by decide +kernel
theorem dX10_candidateMany_47 : decode cX10_candidateMany 47 = .ok (.getfield 77, 3) := by decide +kernel
theorem dX10_candidateMany_50 : decode cX10_candidateMany 50 = .ok (.if_icmp .ge 69, 3) := by decide +kernel
theorem dX10_candidateMany_53 : decode cX10_candidateMany 53 = .ok (.aload_n 0, 1) := by decide +kernel
theorem dX10_candidateMany_54 : decode cX10_candidateMany 54 = .ok (.getfield 13, 3) := by decide +kernel
theorem dX10_candidateMany_57 : decode cX10_candidateMany 57 = .ok (.iload 7, 2) := by decide +kernel
theorem dX10_candidateMany_59 : decode cX10_candidateMany 59 = .ok (.iaload, 1) := by decide +kernel
theorem dX10_candidateMany_60 : decode cX10_candidateMany 60 = .ok (.ifCond .le 19, 3) := by decide +kernel
theorem dX10_candidateMany_63 : decode cX10_candidateMany 63 = .ok (.aload_n 0, 1) := by decide +kernel
theorem dX10_candidateMany_64 : decode cX10_candidateMany 64 = .ok (.iload 7, 2) := by decide +kernel
theorem dX10_candidateMany_66 : decode cX10_candidateMany 66 = .ok (.iload_n 3, 1) := by decide +kernel
theorem dX10_candidateMany_67 : decode cX10_candidateMany 67 = .ok (.iload 5, 2) := by decide +kernel
theorem dX10_candidateMany_69 : decode cX10_candidateMany 69 = .ok (.invokevirtual 171, 3) := by decide +kernel
theorem dX10_candidateMany_72 : decode cX10_candidateMany 72 = .ok (.ifCond .eq 7, 3) := by decide +kernel
theorem dX10_candidateMany_75 : decode cX10_candidateMany 75 = .ok (.iconst 1, 1) := by decide +kernel
theorem dX10_candidateMany_76 : decode cX10_candidateMany 76 = .ok (.goto 4, 3) := by decide +kernel
theorem dX10_candidateMany_79 : decode cX10_candidateMany 79 = .ok (.iconst 0, 1) := by decide +kernel
theorem dX10_candidateMany_80 : decode cX10_candidateMany 80 = .ok (.istore 8, 2) := by decide +kernel
theorem dX10_candidateMany_82 : decode cX10_candidateMany 82 = .ok (.iload 6, 2) := by decide +kernel
theorem dX10_candidateMany_84 : decode cX10_candidateMany 84 = .ok (.iload 8, 2) := by decide +kernel
theorem dX10_candidateMany_86 : decode cX10_candidateMany 86 = .ok (.ifCond .eq 23, 3) := by decide +kernel
theorem dX10_candidateMany_89 : decode cX10_candidateMany 89 = .ok (.iload 4, 2) := by decide +kernel
theorem dX10_candidateMany_91 : decode cX10_candidateMany 91 = .ok (.ifCond .eq 14, 3) := by decide +kernel
theorem dX10_candidateMany_94 : decode cX10_candidateMany 94 = .ok (.aload_n 0, 1) := by decide +kernel
theorem dX10_candidateMany_95 : decode cX10_candidateMany 95 = .ok (.iload 7, 2) := by decide +kernel
theorem dX10_candidateMany_97 : decode cX10_candidateMany 97 = .ok (.lload_n 1, 1) := by decide +kernel
theorem dX10_candidateMany_98 : decode cX10_candidateMany 98 = .ok (.iload_n 3, 1) := by decide +kernel
theorem dX10_candidateMany_99 : decode cX10_candidateMany 99 = .ok (.invokevirtual 123, 3) := by decide +kernel
theorem dX10_candidateMany_102 : decode cX10_candidateMany 102 = .ok (.ifCond .ne 7, 3) := by decide +kernel
theorem dX10_candidateMany_105 : decode cX10_candidateMany 105 = .ok (.iconst 1, 1) := by decide +kernel
theorem dX10_candidateMany_106 : decode cX10_candidateMany 106 = .ok (.goto 4, 3) := by decide +kernel
theorem dX10_candidateMany_109 : decode cX10_candidateMany 109 = .ok (.iconst 0, 1) := by decide +kernel
theorem dX10_candidateMany_110 : decode cX10_candidateMany 110 = .ok (.iadd, 1) := by decide +kernel
theorem dX10_candidateMany_111 : decode cX10_candidateMany 111 = .ok (.istore 6, 2) := by decide +kernel
theorem dX10_candidateMany_113 : decode cX10_candidateMany 113 = .ok (.iinc 7 1, 3) := by decide +kernel
theorem dX10_candidateMany_116 : decode cX10_candidateMany 116 = .ok (.goto (-72), 3) := by decide +kernel
theorem dX10_candidateMany_119 : decode cX10_candidateMany 119 = .ok (.iload 6, 2) := by decide +kernel
theorem dX10_candidateMany_121 : decode cX10_candidateMany 121 = .ok (.ireturn, 1) := by decide +kernel
set_option maxRecDepth 20000 in
theorem ggX10_candidates_X10_isSearch : GoodIn wsX10_candidates wsX10_isSearch := goodIn_r _ [4, 5, 6, 3, 7, 8, 9, 10, 11, 12] (by decide +kernel) (by decide +kernel)
set_option maxRecDepth 20000 in
theorem gX10_candidates_X10_isSearch : GoodIn wsX10_candidates (va_wsS RX10 127 yX10_isSearch wsX10_isSearch) := goodIn_app (goodIn_of _ (by decide +kernel)) ggX10_candidates_X10_isSearch
set_option maxRecDepth 20000 in
theorem ggX10_candidates_X10_goesWell : GoodIn wsX10_candidates wsX10_goesWell := goodIn_r _ [16, 17, 73, 74, 75, 76, 77, 78, 79, 80, 81, 82, 83, 84, 85, 86, 87] (by decide +kernel) (by decide +kernel)
set_option maxRecDepth 20000 in
theorem gX10_candidates_X10_goesWell : GoodIn wsX10_candidates (wsV RX10 92 RX10 yX10_goesWell wsX10_goesWell) := goodIn_app (goodIn_of _ (by decide +kernel)) ggX10_candidates_X10_goesWell
set_option maxRecDepth 20000 in
theorem ggX10_candidates_X10_candidateMany : GoodIn wsX10_candidates wsX10_candidateMany := goodIn_r _ [21, 22, 23, 24, 25, 26, 27, 28, 3, 29, 10, 11, 12, 8, 30, 31, 32, 33, 34, 35, 36, 37, 38, 39, 40, 41, 42, 43, 44, 45, 46, 47, 48, 49, 50, 51, 52, 53, 54, 55, 56, 57, 58, 59, 60, 61, 62, 63, 64, 65, 66, 67, 68, 69, 70, 71, 72, 73, 74, 75, 76, 77, 78, 79, 80, 81, 82, 83, 84, 85, 86, 87] (by decide +kernel) (by decide +kernel)
set_option maxRecDepth 20000 in
theorem gX10_candidates_X10_candidateMany : GoodIn wsX10_candidates (wsV RX10 175 RX10 yX10_candidateMany wsX10_candidateMany) := goodIn_app (goodIn_of _ (by decide +kernel)) ggX10_candidates_X10_candidateMany
theorem dX10_candidates_0 : decode cX10_candidates 0 = .ok (.aload_n 0, 1) := by decide +kernel
theorem dX10_candidates_1 : decode cX10_candidates 1 = .ok (.lload_n 1, 1) := by decide +kernel
theorem dX10_candidates_2 : decode cX10_candidates 2 = .ok (.iload_n 3, 1) := by decide +kernel
theorem dX10_candidates_3 : decode cX10_candidates 3 = .ok (.iconst 2, 1) := by decide +kernel
theorem dX10_candidates_4 : decode cX10_candidates 4 = .ok (.invokestatic 127, 3) := by decide +kernel
theorem dX10_candidates_7 : decode cX10_candidates 7 = .ok (.ifCond .eq 7, 3) := by decide +kernel
theorem dX10_candidates_10 : decode cX10_candidates 10 = .ok (.iconst 0, 1) := by decide +kernel
theorem dX10_candidates_11 : decode cX10_candidates 11 = .ok (.goto 4, 3) := by decide +kernel
theorem dX10_candidates_14 : decode cX10_candidates 14 = .ok (.iconst 1, 1) := by decide +kernel
theorem dX10_candidates_15 : decode cX10_candidates 15 = .ok (.invokevirtual 92, 3) := by decide +kernel
theorem dX10_candidates_18 : decode cX10_candidates 18 = .ok (.ifCond .eq 13, 3) := by decide +kernel
theorem dX10_candidates_21 : decode cX10_candidates 21 = .ok (.aload_n 0, 1) := by decide +kernel
theorem dX10_candidates_22 : decode cX10_candidates 22 = .ok (.lload_n 1, 1) := by decide +kernel
theorem dX10_candidates_23 : decode cX10_candidates 23 = .ok (.iload_n 3, 1) := by decide +kernel
theorem dX10_candidates_24 : decode cX10_candidates 24 = .ok (.iconst 0, 1) := by decide +kernel
theorem dX10_candidates_25 : decode cX10_candidates 25 = .ok (.invokevirtual 175, 3) := by decide +kernel
theorem dX10_candidates_28 : decode cX10_candidates 28 = .ok (.goto 4, 3) := by decide +kernel
theorem dX10_candidates_31 : decode cX10_candidates 31 = .ok (.iconst 0, 1) := by decide +kernel
theorem dX10_candidates_32 : decode cX10_candidates 32 = .ok (.ireturn, 1) := by decide +kernel
set_option maxRecDepth 20000 in
theorem ggX10_falseCandidates_X10_isSearch : GoodIn wsX10_falseCandidates wsX10_isSearch := goodIn_r _ [4, 5, 6, 3, 7, 8, 9, 10, 11, 12] (by decide +kernel) (by decide +kernel)
set_option maxRecDepth 20000 in
theorem gX10_falseCandidates_X10_isSearch : GoodIn wsX10_falseCandidates (va_wsS RX10 127 yX10_isSearch wsX10_isSearch) := goodIn_app (goodIn_of _ (by decide +kernel)) ggX10_falseCandidates_X10_isSearch
set_option maxRecDepth 20000 in
theorem ggX10_falseCandidates_X10_goesWell : GoodIn wsX10_falseCandidates wsX10_goesWell := goodIn_r _ [16, 17, 73, 74, 75, 76, 77, 78, 79, 80, 81, 82, 83, 84, 85, 86, 87] (by decide +kernel) (by decide +kernel)
set_option maxRecDepth 20000 in
theorem gX10_falseCandidates_X10_goesWell : GoodIn wsX10_falseCandidates (wsV RX10 92 RX10 yX10_goesWell wsX10_goesWell) := goodIn_app (goodIn_of _ (by decide +kernel)) ggX10_falseCandidates_X10_goesWell
set_option maxRecDepth 20000 in
theorem ggX10_falseCandidates_X10_candidateMany : GoodIn wsX10_falseCandidates wsX10_candidateMany := goodIn_r _ [21, 22, 23, 24, 25, 26, 27, 28, 3, 29, 10, 11, 12, 8, 30, 31, 32, 33, 34, 35, 36, 37, 38, 39, 40, 41, 42, 43, 44, 45, 46, 47, 48, 49, 50, 51, 52, 53, 54, 55, 56, 57, 58, 59, 60, 61, 62, 63, 64, 65, 66, 67, 68, 69, 70, 71, 72, 73, 74, 75, 76, 77, 78, 79, 80, 81, 82, 83, 84, 85, 86, 87] (by decide +kernel) (by decide +kernel)
set_option maxRecDepth 20000 in
theorem gX10_falseCandidates_X10_candidateMany : GoodIn wsX10_falseCandidates (wsV RX10 175 RX10 yX10_candidateMany wsX10_candidateMany) := goodIn_app (goodIn_of _ (by decide +kernel)) ggX10_falseCandidates_X10_candidateMany
theorem dX10_falseCandidates_0 : decode cX10_falseCandidates 0 = .ok (.aload_n 0, 1) := by decide +kernel
theorem dX10_falseCandidates_1 : decode cX10_falseCandidates 1 = .ok (.lload_n 1, 1) := by decide +kernel
theorem dX10_falseCandidates_2 : decode cX10_falseCandidates 2 = .ok (.iload_n 3, 1) := by decide +kernel
theorem dX10_falseCandidates_3 : decode cX10_falseCandidates 3 = .ok (.iconst 2, 1) := by decide +kernel
theorem dX10_falseCandidates_4 : decode cX10_falseCandidates 4 = .ok (.invokestatic 127, 3) := by decide +kernel
theorem dX10_falseCandidates_7 : decode cX10_falseCandidates 7 = .ok (.ifCond .eq 7, 3) := by decide +kernel
theorem dX10_falseCandidates_10 : decode cX10_falseCandidates 10 = .ok (.iconst 0, 1) := by decide +kernel
theorem dX10_falseCandidates_11 : decode cX10_falseCandidates 11 = .ok (.goto 4, 3) := by decide +kernel
theorem dX10_falseCandidates_14 : decode cX10_falseCandidates 14 = .ok (.iconst 1, 1) := by decide +kernel
theorem dX10_falseCandidates_15 : decode cX10_falseCandidates 15 = .ok (.invokevirtual 92, 3) := by decide +kernel
theorem dX10_falseCandidates_18 : decode cX10_falseCandidates 18 = .ok (.ifCond .eq 13, 3) := by decide +kernel
theorem dX10_falseCandidates_21 : decode cX10_falseCandidates 21 = .ok (.aload_n 0, 1) := by decide +kernel
theorem dX10_falseCandidates_22 : decode cX10_falseCandidates 22 = .ok (.lload_n 1, 1) := by decide +kernel
theorem dX10_falseCandidates_23 : decode cX10_falseCandidates 23 = .ok (.iload_n 3, 1) := by decide +kernel
theorem dX10_falseCandidates_24 : decode cX10_falseCandidates 24 = .ok (.iconst 1, 1) := by decide +kernel
theorem dX10_falseCandidates_25 : decode cX10_falseCandidates 25 = .ok (.invokevirtual 175, 3) := by decide +kernel
theorem dX10_falseCandidates_28 : decode cX10_falseCandidates 28 = .ok (.goto 4, 3) := by decide +kernel
theorem dX10_falseCandidates_31 : decode cX10_falseCandidates 31 = .ok (.iconst 0, 1) := by decide +kernel
theorem dX10_falseCandidates_32 : decode cX10_falseCandidates 32 = .ok (.ireturn, 1) := by decide +kernel
theorem dJ9_abs_0f7a4_0 : decode cJ9_abs_0f7a4 0 = .ok (.iload_n 0, 1) := by decide +kernel
theorem dJ9_abs_0f7a4_1 : decode cJ9_abs_0f7a4 1 = .ok (.ifCond .ge 8, 3) := by decide +kernel
theorem dJ9_abs_0f7a4_4 : decode cJ9_abs_0f7a4 4 = .ok (.iload_n 0, 1) := by decide +kernel
theorem dJ9_abs_0f7a4_5 : decode cJ9_abs_0f7a4 5 = .ok (.ineg, 1) := by decide +kernel
theorem dJ9_abs_0f7a4_6 : decode cJ9_abs_0f7a4 6 = .ok (.goto 4, 3) := by decide +kernel
theorem dJ9_abs_0f7a4_9 : decode cJ9_abs_0f7a4 9 = .ok (.iload_n 0, 1) := by decide +kernel
theorem dJ9_abs_0f7a4_10 : decode cJ9_abs_0f7a4 10 = .ok (.ireturn, 1) := by decide +kernel
theorem dJ9_max_7cf53_0 : decode cJ9_max_7cf53 0 = .ok (.iload_n 0, 1) := by decide +kernel
theorem dJ9_max_7cf53_1 : decode cJ9_max_7cf53 1 = .ok (.iload_n 1, 1) := by decide +kernel
theorem dJ9_max_7cf53_2 : decode cJ9_max_7cf53 2 = .ok (.if_icmp .lt 7, 3) := by decide +kernel
theorem dJ9_max_7cf53_5 : decode cJ9_max_7cf53 5 = .ok (.iload_n 0, 1) := by decide +kernel
theorem dJ9_max_7cf53_6 : decode cJ9_max_7cf53 6 = .ok (.goto 4, 3) := by decide +kernel
theorem dJ9_max_7cf53_9 : decode cJ9_max_7cf53 9 = .ok (.iload_n 1, 1) := by decide +kernel
theorem dJ9_max_7cf53_10 : decode cJ9_max_7cf53 10 = .ok (.ireturn, 1) := by decide +kernel
theorem dJ9_min_7cf53_0 : decode cJ9_min_7cf53 0 = .ok (.iload_n 0, 1) := by decide +kernel
theorem dJ9_min_7cf53_1 : decode cJ9_min_7cf53 1 = .ok (.iload_n 1, 1) := by decide +kernel
theorem dJ9_min_7cf53_2 : decode cJ9_min_7cf53 2 = .ok (.if_icmp .gt 7, 3) := by decide +kernel
theorem dJ9_min_7cf53_5 : decode cJ9_min_7cf53 5 = .ok (.iload_n 0, 1) := by decide +kernel
theorem dJ9_min_7cf53_6 : decode cJ9_min_7cf53 6 = .ok (.goto 4, 3) := by decide +kernel
theorem dJ9_min_7cf53_9 : decode cJ9_min_7cf53 9 = .ok (.iload_n 1, 1) := by decide +kernel
theorem dJ9_min_7cf53_10 : decode cJ9_min_7cf53 10 = .ok (.ireturn, 1) := by decide +kernel
set_option maxRecDepth 20000 in
theorem ggL_add_X9_add : GoodIn wsL_add wsX9_add := goodIn_ca (goodIn_ca (goodIn_r _ [7, 8, 9, 10, 11, 12, 13, 14, 15, 6, 16, 17, 18, 19, 20, 21, 22, 23, 24, 25, 26, 27, 28, 29, 30, 31, 32, 33, 34, 35, 36, 37, 38, 39, 40, 41, 42, 43, 44, 45, 46, 47, 48, 49, 50, 51, 52, 53, 54, 55, 56, 57, 58, 59, 60, 61, 62, 63, 64, 65, 66, 67, 68, 69, 70, 71, 72, 73, 74, 75, 76, 77, 78, 79, 80, 81, 82, 83, 84, 85, 86, 87, 88, 89, 90, 91, 92, 93, 94, 95, 96, 97, 98, 99, 100, 101, 102, 103, 104, 105, 106, 107, 108, 109, 110, 111, 112, 113, 114, 115, 116, 117, 118, 119, 120, 121, 122, 123, 124, 125, 126, 127, 128, 129, 130, 131, 132, 133, 134, 135, 136, 137, 138, 139, 140, 141, 142, 143, 144, 145, 146, 147, 148, 149, 150, 151, 152, 153, 154, 155] (by decide +kernel) (by decide +kernel)) (goodIn_sub (fun _ h => List.mem_cons_of_mem _ (List.mem_append_left _ (List.mem_append_right _ h))) (by decide +kernel))) (goodIn_sub (fun _ h => List.mem_cons_of_mem _ (List.mem_append_right _ h)) (by decide +kernel))
set_option maxRecDepth 20000 in
theorem gL_add_X9_add : GoodIn wsL_add (wsV RL 7 RX9 yX9_add wsX9_add) := goodIn_app (goodIn_of _ (by decide +kernel)) ggL_add_X9_add
