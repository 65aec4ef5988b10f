theorem dX12_isSo_48 : decode cX12_isSo 48 = .ok (.aload_n 0, 1) := by decide +kernel
theorem dX12_isSo_49 : decode cX12_isSo 49 = .ok (.getfield 429, 3) := by decide +kernel
theorem dX12_isSo_52 : decode cX12_isSo 52 = .ok (.lconst 0, 1) := by decide +kernel
theorem dX12_isSo_53 : decode cX12_isSo 53 = .ok (.lcmp, 1) := by decide +kernel
theorem dX12_isSo_54 : decode cX12_isSo 54 = .ok (.ifCond .ne 5, 3) := by decide +kernel
theorem dX12_isSo_57 : decode cX12_isSo 57 = .ok (.iconst 0, 1) := by decide +kernel
theorem dX12_isSo_58 : decode cX12_isSo 58 = .ok (.ireturn, 1) := by decide +kernel
theorem dX12_isSo_59 : decode cX12_isSo 59 = .ok (.aload_n 0, 1) := by decide +kernel
theorem dX12_isSo_60 : decode cX12_isSo 60 = .ok (.getfield 13, 3) := by decide +kernel
theorem dX12_isSo_63 : decode cX12_isSo 63 = .ok (.iload_n 1, 1) := by decide +kernel
theorem dX12_isSo_64 : decode cX12_isSo 64 = .ok (.iaload, 1) := by decide +kernel
theorem dX12_isSo_65 : decode cX12_isSo 65 = .ok (.iconst 4, 1) := by decide +kernel
theorem dX12_isSo_66 : decode cX12_isSo 66 = .ok (.if_icmp .eq 44, 3) := by decide +kernel
theorem dX12_isSo_69 : decode cX12_isSo 69 = .ok (.aload_n 0, 1) := by decide +kernel
theorem dX12_isSo_70 : decode cX12_isSo 70 = .ok (.aload_n 0, 1) := by decide +kernel
theorem dX12_isSo_71 : decode cX12_isSo 71 = .ok (.getfield 13, 3) := by decide +kernel
theorem dX12_isSo_74 : decode cX12_isSo 74 = .ok (.iload_n 1, 1) := by decide +kernel
theorem dX12_isSo_75 : decode cX12_isSo 75 = .ok (.iconst 3, 1) := by decide +kernel
theorem dX12_isSo_76 : decode cX12_isSo 76 = .ok (.iadd, 1) := by decide +kernel
theorem dX12_isSo_77 : decode cX12_isSo 77 = .ok (.iaload, 1) := by decide +kernel
theorem dX12_isSo_78 : decode cX12_isSo 78 = .ok (.aload_n 0, 1) := by decide +kernel
theorem dX12_isSo_79 : decode cX12_isSo 79 = .ok (.getfield 13, 3) := by decide +kernel
theorem dX12_isSo_82 : decode cX12_isSo 82 = .ok (.iload_n 1, 1) := by decide +kernel
theorem dX12_isSo_83 : decode cX12_isSo 83 = .ok (.iconst 4, 1) := by decide +kernel
theorem dX12_isSo_84 : decode cX12_isSo 84 = .ok (.iadd, 1) := by decide +kernel
theorem dX12_isSo_85 : decode cX12_isSo 85 = .ok (.iaload, 1) := by decide +kernel
theorem dX12_isSo_86 : decode cX12_isSo 86 = .ok (.invokevirtual 432, 3) := by decide +kernel
theorem dX12_isSo_89 : decode cX12_isSo 89 = .ok (.aload_n 0, 1) := by decide +kernel
theorem dX12_isSo_90 : decode cX12_isSo 90 = .ok (.aload_n 0, 1) := by decide +kernel
theorem dX12_isSo_91 : decode cX12_isSo 91 = .ok (.getfield 429, 3) := by decide +kernel
theorem dX12_isSo_94 : decode cX12_isSo 94 = .ok (.putfield 435, 3) := by decide +kernel
theorem dX12_isSo_97 : decode cX12_isSo 97 = .ok (.aload_n 0, 1) := by decide +kernel
theorem dX12_isSo_98 : decode cX12_isSo 98 = .ok (.getfield 415, 3) := by decide +kernel
theorem dX12_isSo_101 : decode cX12_isSo 101 = .ok (.ifCond .ne 7, 3) := by decide +kernel
theorem dX12_isSo_104 : decode cX12_isSo 104 = .ok (.iconst 1, 1) := by decide +kernel
theorem dX12_isSo_105 : decode cX12_isSo 105 = .ok (.goto 4, 3) := by decide +kernel
theorem dX12_isSo_108 : decode cX12_isSo 108 = .ok (.iconst 0, 1) := by decide +kernel
theorem dX12_isSo_109 : decode cX12_isSo 109 = .ok (.ireturn, 1) := by decide +kernel
theorem dX12_isSo_110 : decode cX12_isSo 110 = .ok (.iconst 1, 1) := by decide +kernel
theorem dX12_isSo_111 : decode cX12_isSo 111 = .ok (.ireturn, 1) := by decide +kernel
theorem dX12_tells_0 : decode cX12_tells 0 = .ok (.aload_n 0, 1) := by decide +kernel
theorem dX12_tells_1 : decode cX12_tells 1 = .ok (.getfield 13, 3) := by decide +kernel
theorem dX12_tells_4 : decode cX12_tells 4 = .ok (.iconst 5, 1) := by decide +kernel
theorem dX12_tells_5 : decode cX12_tells 5 = .ok (.iaload, 1) := by decide +kernel
theorem dX12_tells_6 : decode cX12_tells 6 = .ok (.iconst (-1), 1) := by decide +kernel
theorem dX12_tells_7 : decode cX12_tells 7 = .ok (.if_icmp .ne 6, 3) := by decide +kernel
theorem dX12_tells_10 : decode cX12_tells 10 = .ok (.lload 5, 2) := by decide +kernel
theorem dX12_tells_12 : decode cX12_tells 12 = .ok (.lreturn, 1) := by decide +kernel
theorem dX12_tells_13 : decode cX12_tells 13 = .ok (.aload_n 0, 1) := by decide +kernel
theorem dX12_tells_14 : decode cX12_tells 14 = .ok (.sipush 150, 3) := by decide +kernel
theorem dX12_tells_17 : decode cX12_tells 17 = .ok (.sipush 900, 3) := by decide +kernel
theorem dX12_tells_20 : decode cX12_tells 20 = .ok (.aload_n 0, 1) := by decide +kernel
theorem dX12_tells_21 : decode cX12_tells 21 = .ok (.getfield 13, 3) := by decide +kernel
theorem dX12_tells_24 : decode cX12_tells 24 = .ok (.iconst 5, 1) := by decide +kernel
theorem dX12_tells_25 : decode cX12_tells 25 = .ok (.iaload, 1) := by decide +kernel
theorem dX12_tells_26 : decode cX12_tells 26 = .ok (.imul, 1) := by decide +kernel
theorem dX12_tells_27 : decode cX12_tells 27 = .ok (.iadd, 1) := by decide +kernel
theorem dX12_tells_28 : decode cX12_tells 28 = .ok (.putfield 418, 3) := by decide +kernel
theorem dX12_tells_31 : decode cX12_tells 31 = .ok (.aload_n 0, 1) := by decide +kernel
theorem dX12_tells_32 : decode cX12_tells 32 = .ok (.getfield 107, 3) := by decide +kernel
theorem dX12_tells_35 : decode cX12_tells 35 = .ok (.iconst 1, 1) := by decide +kernel
theorem dX12_tells_36 : decode cX12_tells 36 = .ok (.iload_n 2, 1) := by decide +kernel
theorem dX12_tells_37 : decode cX12_tells 37 = .ok (.i2l, 1) := by decide +kernel
theorem dX12_tells_38 : decode cX12_tells 38 = .ok (.lastore, 1) := by decide +kernel
theorem dX12_tells_39 : decode cX12_tells 39 = .ok (.aload_n 0, 1) := by decide +kernel
theorem dX12_tells_40 : decode cX12_tells 40 = .ok (.getfield 107, 3) := by decide +kernel
theorem dX12_tells_43 : decode cX12_tells 43 = .ok (.iconst 2, 1) := by decide +kernel
theorem dX12_tells_44 : decode cX12_tells 44 = .ok (.iload_n 2, 1) := by decide +kernel
theorem dX12_tells_45 : decode cX12_tells 45 = .ok (.iconst (-1), 1) := by decide +kernel
theorem dX12_tells_46 : decode cX12_tells 46 = .ok (.if_icmp .ne 9, 3) := by decide +kernel
theorem dX12_tells_49 : decode cX12_tells 49 = .ok (.ldc2_w 297, 3) := by decide +kernel
theorem dX12_tells_52 : decode cX12_tells 52 = .ok (.goto 10, 3) := by decide +kernel
theorem dX12_tells_55 : decode cX12_tells 55 = .ok (.aload_n 0, 1) := by decide +kernel
theorem dX12_tells_56 : decode cX12_tells 56 = .ok (.iload_n 2, 1) := by decide +kernel
theorem dX12_tells_57 : decode cX12_tells 57 = .ok (.iconst 0, 1) := by decide +kernel
theorem dX12_tells_58 : decode cX12_tells 58 = .ok (.invokevirtual 226, 3) := by decide +kernel
theorem dX12_tells_61 : decode cX12_tells 61 = .ok (.i2l, 1) := by decide +kernel
theorem dX12_tells_62 : decode cX12_tells 62 = .ok (.lastore, 1) := by decide +kernel
theorem dX12_tells_63 : decode cX12_tells 63 = .ok (.aload_n 0, 1) := by decide +kernel
theorem dX12_tells_64 : decode cX12_tells 64 = .ok (.getfield 107, 3) := by decide +kernel
theorem dX12_tells_67 : decode cX12_tells 67 = .ok (.iconst 3, 1) := by decide +kernel
theorem dX12_tells_68 : decode cX12_tells 68 = .ok (.iload_n 3, 1) := by decide +kernel
theorem dX12_tells_69 : decode cX12_tells 69 = .ok (.i2l, 1) := by decide +kernel
theorem dX12_tells_70 : decode cX12_tells 70 = .ok (.lastore, 1) := by decide +kernel
theorem dX12_tells_71 : decode cX12_tells 71 = .ok (.aload_n 0, 1) := by decide +kernel
theorem dX12_tells_72 : decode cX12_tells 72 = .ok (.getfield 107, 3) := by decide +kernel
theorem dX12_tells_75 : decode cX12_tells 75 = .ok (.iconst 4, 1) := by decide +kernel
theorem dX12_tells_76 : decode cX12_tells 76 = .ok (.aload_n 0, 1) := by decide +kernel
theorem dX12_tells_77 : decode cX12_tells 77 = .ok (.iload_n 3, 1) := by decide +kernel
theorem dX12_tells_78 : decode cX12_tells 78 = .ok (.iconst 0, 1) := by decide +kernel
theorem dX12_tells_79 : decode cX12_tells 79 = .ok (.invokevirtual 221, 3) := by decide +kernel
theorem dX12_tells_82 : decode cX12_tells 82 = .ok (.i2l, 1) := by decide +kernel
theorem dX12_tells_83 : decode cX12_tells 83 = .ok (.lastore, 1) := by decide +kernel
theorem dX12_tells_84 : decode cX12_tells 84 = .ok (.aload_n 0, 1) := by decide +kernel
theorem dX12_tells_85 : decode cX12_tells 85 = .ok (.getfield 107, 3) := by decide +kernel
theorem dX12_tells_88 : decode cX12_tells 88 = .ok (.iconst 5, 1) := by decide +kernel
theorem dX12_tells_89 : decode cX12_tells 89 = .ok (.aload_n 0, 1) := by decide +kernel
theorem dX12_tells_90 : decode cX12_tells 90 = .ok (.iload_n 3, 1) := by decide +kernel
theorem dX12_tells_91 : decode cX12_tells 91 = .ok (.iconst 1, 1) := by decide +kernel
theorem dX12_tells_92 : decode cX12_tells 92 = .ok (.invokevirtual 221, 3) := by decide +kernel
theorem dX12_tells_95 : decode cX12_tells 95 = .ok (.i2l, 1) := by decide +kernel
theorem dX12_tells_96 : decode cX12_tells 96 = .ok (.lastore, 1) := by decide +kernel
theorem dX12_tells_97 : decode cX12_tells 97 = .ok (.aload_n 0, 1) := by decide +kernel
theorem dX12_tells_98 : decode cX12_tells 98 = .ok (.getfield 107, 3) := by decide +kernel
theorem dX12_tells_101 : decode cX12_tells 101 = .ok (.bipush 6, 2) := by decide +kernel
theorem dX12_tells_103 : decode cX12_tells 103 = .ok (.aload_n 0, 1) := by decide +kernel
theorem dX12_tells_104 : decode cX12_tells 104 = .ok (.iload_n 3, 1) := by decide +kernel
theorem dX12_tells_105 : decode cX12_tells 105 = .ok (.iconst 3, 1) := by decide +kernel
theorem dX12_tells_106 : decode cX12_tells 106 = .ok (.invokevirtual 221, 3) := by decide +kernel
theorem dX12_tells_109 : decode cX12_tells 109 = .ok (.i2l, 1) := by decide +kernel
theorem dX12_tells_110 : decode cX12_tells 110 = .ok (.lastore, 1) := by decide +kernel
theorem dX12_tells_111 : decode cX12_tells 111 = .ok (.aload_n 0, 1) := by decide +kernel
theorem dX12_tells_112 : decode cX12_tells 112 = .ok (.getfield 107, 3) := by decide +kernel
theorem dX12_tells_115 : decode cX12_tells 115 = .ok (.bipush 7, 2) := by decide +kernel
theorem dX12_tells_117 : decode cX12_tells 117 = .ok (.iload 4, 2) := by decide +kernel
theorem dX12_tells_119 : decode cX12_tells 119 = .ok (.i2l, 1) := by decide +kernel
theorem dX12_tells_120 : decode cX12_tells 120 = .ok (.lastore, 1) := by decide +kernel
theorem dX12_tells_121 : decode cX12_tells 121 = .ok (.aload_n 0, 1) := by decide +kernel
theorem dX12_tells_122 : decode cX12_tells 122 = .ok (.getfield 107, 3) := by decide +kernel
theorem dX12_tells_125 : decode cX12_tells 125 = .ok (.bipush 8, 2) := by decide +kernel
theorem dX12_tells_127 : decode cX12_tells 127 = .ok (.aload_n 0, 1) := by decide +kernel
theorem dX12_tells_128 : decode cX12_tells 128 = .ok (.iconst 1, 1) := by decide +kernel
theorem dX12_tells_129 : decode cX12_tells 129 = .ok (.invokevirtual 186, 3) := by decide +kernel
theorem dX12_tells_132 : decode cX12_tells 132 = .ok (.i2l, 1) := by decide +kernel
theorem dX12_tells_133 : decode cX12_tells 133 = .ok (.lastore, 1) := by decide +kernel
theorem dX12_tells_134 : decode cX12_tells 134 = .ok (.aload_n 0, 1) := by decide +kernel
theorem dX12_tells_135 : decode cX12_tells 135 = .ok (.getfield 107, 3) := by decide +kernel
theorem dX12_tells_138 : decode cX12_tells 138 = .ok (.bipush 9, 2) := by decide +kernel
theorem dX12_tells_140 : decode cX12_tells 140 = .ok (.aload_n 0, 1) := by decide +kernel
theorem dX12_tells_141 : decode cX12_tells 141 = .ok (.iconst 2, 1) := by decide +kernel
theorem dX12_tells_142 : decode cX12_tells 142 = .ok (.invokevirtual 186, 3) := by decide +kernel
theorem dX12_tells_145 : decode cX12_tells 145 = .ok (.i2l, 1) := by decide +kernel
theorem dX12_tells_146 : decode cX12_tells 146 = .ok (.lastore, 1) := by decide +kernel
theorem dX12_tells_147 : decode cX12_tells 147 = .ok (.aload_n 0, 1) := by decide +kernel
theorem dX12_tells_148 : decode cX12_tells 148 = .ok (.getfield 107, 3) := by decide +kernel
theorem dX12_tells_151 : decode cX12_tells 151 = .ok (.bipush 10, 2) := by decide +kernel
theorem dX12_tells_153 : decode cX12_tells 153 = .ok (.aload_n 0, 1) := by decide +kernel
theorem dX12_tells_154 : decode cX12_tells 154 = .ok (.iconst 0, 1) := by decide +kernel
theorem dX12_tells_155 : decode cX12_tells 155 = .ok (.invokevirtual 189, 3) := by decide +kernel
theorem dX12_tells_158 : decode cX12_tells 158 = .ok (.i2l, 1) := by decide +kernel
theorem dX12_tells_159 : decode cX12_tells 159 = .ok (.lastore, 1) := by decide +kernel
theorem dX12_tells_160 : decode cX12_tells 160 = .ok (.aload_n 0, 1) := by decide +kernel
theorem dX12_tells_161 : decode cX12_tells 161 = .ok (.getfield 107, 3) := by decide +kernel
theorem dX12_tells_164 : decode cX12_tells 164 = .ok (.bipush 11, 2) := by decide +kernel
theorem dX12_tells_166 : decode cX12_tells 166 = .ok (.aload_n 0, 1) := by decide +kernel
theorem dX12_tells_167 : decode cX12_tells 167 = .ok (.iconst 4, 1) := by decide +kernel
theorem dX12_tells_168 : decode cX12_tells 168 = .ok (.invokevirtual 189, 3) := by decide +kernel
theorem dX12_tells_171 : decode cX12_tells 171 = .ok (.i2l, 1) := by decide +kernel
theorem dX12_tells_172 : decode cX12_tells 172 = .ok (.lastore, 1) := by decide +kernel
theorem dX12_tells_173 : decode cX12_tells 173 = .ok (.lload 5, 2) := by decide +kernel
theorem dX12_tells_175 : decode cX12_tells 175 = .ok (.lstore 7, 2) := by decide +kernel
theorem dX12_tells_177 : decode cX12_tells 177 = .ok (.iconst 0, 1) := by decide +kernel
theorem dX12_tells_178 : decode cX12_tells 178 = .ok (.istore 9, 2) := by decide +kernel
theorem dX12_tells_180 : decode cX12_tells 180 = .ok (.iload 9, 2) := by decide +kernel
theorem dX12_tells_182 : decode cX12_tells 182 = .ok (.aload_n 0, 1) := by decide +kernel
theorem dX12_tells_183 : decode cX12_tells 183 = .ok (.getfield 13, 3) := by decide +kernel
theorem dX12_tells_186 : decode cX12_tells 186 = .ok (.aload_n 0, 1) := by decide +kernel
theorem dX12_tells_187 : decode cX12_tells 187 = .ok (.getfield 418, 3) := by decide +kernel
theorem dX12_tells_190 : decode cX12_tells 190 = .ok (.iconst 1, 1) := by decide +kernel
theorem dX12_tells_191 : decode cX12_tells 191 = .ok (.iadd, 1) := by decide +kernel
theorem dX12_tells_192 : decode cX12_tells 192 = .ok (.iaload, 1) := by decide +kernel
theorem dX12_tells_193 : decode cX12_tells 193 = .ok (.if_icmp .ge 58, 3) := by decide +kernel
theorem dX12_tells_196 : decode cX12_tells 196 = .ok (.aload_n 0, 1) := by decide +kernel
theorem dX12_tells_197 : decode cX12_tells 197 = .ok (.getfield 418, 3) := by decide +kernel
theorem dX12_tells_200 : decode cX12_tells 200 = .ok (.iconst 2, 1) := by decide +kernel
theorem dX12_tells_201 : decode cX12_tells 201 = .ok (.iadd, 1) := by decide +kernel
theorem dX12_tells_202 : decode cX12_tells 202 = .ok (.bipush 8, 2) := by decide +kernel
theorem dX12_tells_204 : decode cX12_tells 204 = .ok (.iload 9, 2) := by decide +kernel
theorem dX12_tells_206 : decode cX12_tells 206 = .ok (.imul, 1) := by decide +kernel
theorem dX12_tells_207 : decode cX12_tells 207 = .ok (.iadd, 1) := by decide +kernel
theorem dX12_tells_208 : decode cX12_tells 208 = .ok (.istore 10, 2) := by decide +kernel
theorem dX12_tells_210 : decode cX12_tells 210 = .ok (.aload_n 0, 1) := by decide +kernel
theorem dX12_tells_211 : decode cX12_tells 211 = .ok (.getfield 13, 3) := by decide +kernel
theorem dX12_tells_214 : decode cX12_tells 214 = .ok (.iload 10, 2) := by decide +kernel
theorem dX12_tells_216 : decode cX12_tells 216 = .ok (.iaload, 1) := by decide +kernel
theorem dX12_tells_217 : decode cX12_tells 217 = .ok (.iload_n 1, 1) := by decide +kernel
theorem dX12_tells_218 : decode cX12_tells 218 = .ok (.if_icmp .ne 27, 3) := by decide +kernel
theorem dX12_tells_221 : decode cX12_tells 221 = .ok (.aload_n 0, 1) := by decide +kernel
theorem dX12_tells_222 : decode cX12_tells 222 = .ok (.iload 10, 2) := by decide +kernel
theorem dX12_tells_224 : decode cX12_tells 224 = .ok (.invokevirtual 438, 3) := by decide +kernel
theorem dX12_tells_227 : decode cX12_tells 227 = .ok (.ifCond .eq 18, 3) := by decide +kernel
theorem dX12_tells_230 : decode cX12_tells 230 = .ok (.iload_n 1, 1) := by decide +kernel
theorem dX12_tells_231 : decode cX12_tells 231 = .ok (.iconst 4, 1) := by decide +kernel
theorem dX12_tells_232 : decode cX12_tells 232 = .ok (.if_icmp .ne 7, 3) := by decide +kernel
theorem dX12_tells_235 : decode cX12_tells 235 = .ok (.lconst 1, 1) := by decide +kernel
theorem dX12_tells_236 : decode cX12_tells 236 = .ok (.goto 7, 3) := by decide +kernel
theorem dX12_tells_239 : decode cX12_tells 239 = .ok (.aload_n 0, 1) := by decide +kernel
theorem dX12_tells_240 : decode cX12_tells 240 = .ok (.getfield 435, 3) := by decide +kernel
theorem dX12_tells_243 : decode cX12_tells 243 = .ok (.lstore 7, 2) := by decide +kernel
theorem dX12_tells_245 : decode cX12_tells 245 = .ok (.iinc 9 1, 3) := by decide +kernel
theorem dX12_tells_248 : decode cX12_tells 248 = .ok (.goto (-68), 3) := by decide +kernel
theorem dX12_tells_251 : decode cX12_tells 251 = .ok (.lload 7, 2) := by decide +kernel
theorem dX12_tells_253 : decode cX12_tells 253 = .ok (.lreturn, 1) := by decide +kernel
theorem dX12_aimsOf_0 : decode cX12_aimsOf 0 = .ok (.aload_n 0, 1) := by decide +kernel
theorem dX12_aimsOf_1 : decode cX12_aimsOf 1 = .ok (.iconst 0, 1) := by decide +kernel
theorem dX12_aimsOf_2 : decode cX12_aimsOf 2 = .ok (.iload_n 1, 1) := by decide +kernel
theorem dX12_aimsOf_3 : decode cX12_aimsOf 3 = .ok (.iload_n 2, 1) := by decide +kernel
theorem dX12_aimsOf_4 : decode cX12_aimsOf 4 = .ok (.aload_n 0, 1) := by decide +kernel
theorem dX12_aimsOf_5 : decode cX12_aimsOf 5 = .ok (.iconst 0, 1) := by decide +kernel
theorem dX12_aimsOf_6 : decode cX12_aimsOf 6 = .ok (.invokevirtual 186, 3) := by decide +kernel
theorem dX12_aimsOf_9 : decode cX12_aimsOf 9 = .ok (.aload_n 0, 1) := by decide +kernel
theorem dX12_aimsOf_10 : decode cX12_aimsOf 10 = .ok (.iload_n 1, 1) := by decide +kernel
theorem dX12_aimsOf_11 : decode cX12_aimsOf 11 = .ok (.iconst 0, 1) := by decide +kernel
theorem dX12_aimsOf_12 : decode cX12_aimsOf 12 = .ok (.invokevirtual 226, 3) := by decide +kernel
theorem dX12_aimsOf_15 : decode cX12_aimsOf 15 = .ok (.i2l, 1) := by decide +kernel
theorem dX12_aimsOf_16 : decode cX12_aimsOf 16 = .ok (.invokevirtual 441, 3) := by decide +kernel
theorem dX12_aimsOf_19 : decode cX12_aimsOf 19 = .ok (.iconst 0, 1) := by decide +kernel
theorem dX12_aimsOf_20 : decode cX12_aimsOf 20 = .ok (.bipush 10, 2) := by decide +kernel
theorem dX12_aimsOf_22 : decode cX12_aimsOf 22 = .ok (.invokestatic 445, 3) := by decide +kernel
theorem dX12_aimsOf_25 : decode cX12_aimsOf 25 = .ok (.ireturn, 1) := by decide +kernel
theorem dX12_wearsOf_0 : decode cX12_wearsOf 0 = .ok (.aload_n 0, 1) := by decide +kernel
theorem dX12_wearsOf_1 : decode cX12_wearsOf 1 = .ok (.iconst 1, 1) := by decide +kernel
theorem dX12_wearsOf_2 : decode cX12_wearsOf 2 = .ok (.iconst (-1), 1) := by decide +kernel
theorem dX12_wearsOf_3 : decode cX12_wearsOf 3 = .ok (.iload_n 1, 1) := by decide +kernel
theorem dX12_wearsOf_4 : decode cX12_wearsOf 4 = .ok (.iload_n 2, 1) := by decide +kernel
theorem dX12_wearsOf_5 : decode cX12_wearsOf 5 = .ok (.aload_n 0, 1) := by decide +kernel
theorem dX12_wearsOf_6 : decode cX12_wearsOf 6 = .ok (.iload_n 1, 1) := by decide +kernel
theorem dX12_wearsOf_7 : decode cX12_wearsOf 7 = .ok (.iconst 1, 1) := by decide +kernel
theorem dX12_wearsOf_8 : decode cX12_wearsOf 8 = .ok (.invokevirtual 221, 3) := by decide +kernel
theorem dX12_wearsOf_11 : decode cX12_wearsOf 11 = .ok (.bipush 10, 2) := by decide +kernel
theorem dX12_wearsOf_13 : decode cX12_wearsOf 13 = .ok (.idiv, 1) := by decide +kernel
theorem dX12_wearsOf_14 : decode cX12_wearsOf 14 = .ok (.i2l, 1) := by decide +kernel
theorem dX12_wearsOf_15 : decode cX12_wearsOf 15 = .ok (.invokevirtual 441, 3) := by decide +kernel
theorem dX12_wearsOf_18 : decode cX12_wearsOf 18 = .ok (.iconst 0, 1) := by decide +kernel
theorem dX12_wearsOf_19 : decode cX12_wearsOf 19 = .ok (.bipush 99, 2) := by decide +kernel
theorem dX12_wearsOf_21 : decode cX12_wearsOf 21 = .ok (.invokestatic 445, 3) := by decide +kernel
theorem dX12_wearsOf_24 : decode cX12_wearsOf 24 = .ok (.ireturn, 1) := by decide +kernel
theorem dX12_flattensOf_0 : decode cX12_flattensOf 0 = .ok (.aload_n 0, 1) := by decide +kernel
theorem dX12_flattensOf_1 : decode cX12_flattensOf 1 = .ok (.iconst 2, 1) := by decide +kernel
theorem dX12_flattensOf_2 : decode cX12_flattensOf 2 = .ok (.iconst (-1), 1) := by decide +kernel
theorem dX12_flattensOf_3 : decode cX12_flattensOf 3 = .ok (.iload_n 1, 1) := by decide +kernel
theorem dX12_flattensOf_4 : decode cX12_flattensOf 4 = .ok (.aload_n 0, 1) := by decide +kernel
theorem dX12_flattensOf_5 : decode cX12_flattensOf 5 = .ok (.iconst 0, 1) := by decide +kernel
theorem dX12_flattensOf_6 : decode cX12_flattensOf 6 = .ok (.invokevirtual 186, 3) := by decide +kernel
theorem dX12_flattensOf_9 : decode cX12_flattensOf 9 = .ok (.aload_n 0, 1) := by decide +kernel
theorem dX12_flattensOf_10 : decode cX12_flattensOf 10 = .ok (.iload_n 1, 1) := by decide +kernel
theorem dX12_flattensOf_11 : decode cX12_flattensOf 11 = .ok (.iconst 1, 1) := by decide +kernel
theorem dX12_flattensOf_12 : decode cX12_flattensOf 12 = .ok (.invokevirtual 221, 3) := by decide +kernel
theorem dX12_flattensOf_15 : decode cX12_flattensOf 15 = .ok (.bipush 20, 2) := by decide +kernel
theorem dX12_flattensOf_17 : decode cX12_flattensOf 17 = .ok (.idiv, 1) := by decide +kernel
theorem dX12_flattensOf_18 : decode cX12_flattensOf 18 = .ok (.i2l, 1) := by decide +kernel
theorem dX12_flattensOf_19 : decode cX12_flattensOf 19 = .ok (.invokevirtual 441, 3) := by decide +kernel
theorem dX12_flattensOf_22 : decode cX12_flattensOf 22 = .ok (.iconst 0, 1) := by decide +kernel
theorem dX12_flattensOf_23 : decode cX12_flattensOf 23 = .ok (.bipush 99, 2) := by decide +kernel
theorem dX12_flattensOf_25 : decode cX12_flattensOf 25 = .ok (.invokestatic 445, 3) := by decide +kernel
theorem dX12_flattensOf_28 : decode cX12_flattensOf 28 = .ok (.ireturn, 1) := by decide +kernel
theorem dX12_pricesOf_0 : decode cX12_pricesOf 0 = .ok (.aload_n 0, 1) := by decide +kernel
theorem dX12_pricesOf_1 : decode cX12_pricesOf 1 = .ok (.iconst 3, 1) := by decide +kernel
theorem dX12_pricesOf_2 : decode cX12_pricesOf 2 = .ok (.iconst (-1), 1) := by decide +kernel
theorem dX12_pricesOf_3 : decode cX12_pricesOf 3 = .ok (.iload_n 1, 1) := by decide +kernel
theorem dX12_pricesOf_4 : decode cX12_pricesOf 4 = .ok (.aload_n 0, 1) := by decide +kernel
theorem dX12_pricesOf_5 : decode cX12_pricesOf 5 = .ok (.iconst 0, 1) := by decide +kernel
theorem dX12_pricesOf_6 : decode cX12_pricesOf 6 = .ok (.invokevirtual 186, 3) := by decide +kernel
theorem dX12_pricesOf_9 : decode cX12_pricesOf 9 = .ok (.ldc2_w 449, 3) := by decide +kernel
theorem dX12_pricesOf_12 : decode cX12_pricesOf 12 = .ok (.invokevirtual 441, 3) := by decide +kernel
theorem dX12_pricesOf_15 : decode cX12_pricesOf 15 = .ok (.lstore_n 2, 1) := by decide +kernel
theorem dX12_pricesOf_16 : decode cX12_pricesOf 16 = .ok (.lload_n 2, 1) := by decide +kernel
theorem dX12_pricesOf_17 : decode cX12_pricesOf 17 = .ok (.ldc2_w 449, 3) := by decide +kernel
theorem dX12_pricesOf_20 : decode cX12_pricesOf 20 = .ok (.lcmp, 1) := by decide +kernel
theorem dX12_pricesOf_21 : decode cX12_pricesOf 21 = .ok (.ifCond .ne 15, 3) := by decide +kernel
theorem dX12_pricesOf_24 : decode cX12_pricesOf 24 = .ok (.bipush 10, 2) := by decide +kernel
theorem dX12_pricesOf_26 : decode cX12_pricesOf 26 = .ok (.aload_n 0, 1) := by decide +kernel
theorem dX12_pricesOf_27 : decode cX12_pricesOf 27 = .ok (.iload_n 1, 1) := by decide +kernel
theorem dX12_pricesOf_28 : decode cX12_pricesOf 28 = .ok (.iconst 3, 1) := by decide +kernel
theorem dX12_pricesOf_29 : decode cX12_pricesOf 29 = .ok (.invokevirtual 221, 3) := by decide +kernel
theorem dX12_pricesOf_32 : decode cX12_pricesOf 32 = .ok (.imul, 1) := by decide +kernel
theorem dX12_pricesOf_33 : decode cX12_pricesOf 33 = .ok (.goto 11, 3) := by decide +kernel
theorem dX12_pricesOf_36 : decode cX12_pricesOf 36 = .ok (.lload_n 2, 1) := by decide +kernel
theorem dX12_pricesOf_37 : decode cX12_pricesOf 37 = .ok (.iconst 0, 1) := by decide +kernel
theorem dX12_pricesOf_38 : decode cX12_pricesOf 38 = .ok (.sipush 9999, 3) := by decide +kernel
theorem dX12_pricesOf_41 : decode cX12_pricesOf 41 = .ok (.invokestatic 445, 3) := by decide +kernel
theorem dX12_pricesOf_44 : decode cX12_pricesOf 44 = .ok (.ireturn, 1) := by decide +kernel
theorem dX12_isBarred_0 : decode cX12_isBarred 0 = .ok (.aload_n 0, 1) := by decide +kernel
theorem dX12_isBarred_1 : decode cX12_isBarred 1 = .ok (.iconst 4, 1) := by decide +kernel
theorem dX12_isBarred_2 : decode cX12_isBarred 2 = .ok (.iload_n 1, 1) := by decide +kernel
theorem dX12_isBarred_3 : decode cX12_isBarred 3 = .ok (.iload_n 2, 1) := by decide +kernel
theorem dX12_isBarred_4 : decode cX12_isBarred 4 = .ok (.aload_n 0, 1) := by decide +kernel
theorem dX12_isBarred_5 : decode cX12_isBarred 5 = .ok (.iconst 0, 1) := by decide +kernel
theorem dX12_isBarred_6 : decode cX12_isBarred 6 = .ok (.invokevirtual 186, 3) := by decide +kernel
theorem dX12_isBarred_9 : decode cX12_isBarred 9 = .ok (.lconst 0, 1) := by decide +kernel
theorem dX12_isBarred_10 : decode cX12_isBarred 10 = .ok (.invokevirtual 441, 3) := by decide +kernel
theorem dX12_isBarred_13 : decode cX12_isBarred 13 = .ok (.lconst 1, 1) := by decide +kernel
theorem dX12_isBarred_14 : decode cX12_isBarred 14 = .ok (.lcmp, 1) := by decide +kernel
theorem dX12_isBarred_15 : decode cX12_isBarred 15 = .ok (.ifCond .ne 7, 3) := by decide +kernel
theorem dX12_isBarred_18 : decode cX12_isBarred 18 = .ok (.iconst 1, 1) := by decide +kernel
theorem dX12_isBarred_19 : decode cX12_isBarred 19 = .ok (.goto 4, 3) := by decide +kernel
theorem dX12_isBarred_22 : decode cX12_isBarred 22 = .ok (.iconst 0, 1) := by decide +kernel
theorem dX12_isBarred_23 : decode cX12_isBarred 23 = .ok (.ireturn, 1) := by decide +kernel
theorem dX12_barred_0 : decode cX12_barred 0 = .ok (.aload_n 0, 1) := by decide +kernel
theorem dX12_barred_1 : decode cX12_barred 1 = .ok (.iconst 0, 1) := by decide +kernel
theorem dX12_barred_2 : decode cX12_barred 2 = .ok (.putfield 149, 3) := by decide +kernel
theorem dX12_barred_5 : decode cX12_barred 5 = .ok (.aload_n 0, 1) := by decide +kernel
theorem dX12_barred_6 : decode cX12_barred 6 = .ok (.iload_n 1, 1) := by decide +kernel
theorem dX12_barred_7 : decode cX12_barred 7 = .ok (.invokevirtual 229, 3) := by decide +kernel
theorem dX12_barred_10 : decode cX12_barred 10 = .ok (.ifCond .eq 11, 3) := by decide +kernel
theorem dX12_barred_13 : decode cX12_barred 13 = .ok (.aload_n 0, 1) := by decide +kernel
theorem dX12_barred_14 : decode cX12_barred 14 = .ok (.iload_n 2, 1) := by decide +kernel
theorem dX12_barred_15 : decode cX12_barred 15 = .ok (.invokevirtual 206, 3) := by decide +kernel
theorem dX12_barred_18 : decode cX12_barred 18 = .ok (.ifCond .ne 7, 3) := by decide +kernel
theorem dX12_barred_21 : decode cX12_barred 21 = .ok (.iconst (-1), 1) := by decide +kernel
theorem dX12_barred_22 : decode cX12_barred 22 = .ok (.goto 17, 3) := by decide +kernel
theorem dX12_barred_25 : decode cX12_barred 25 = .ok (.aload_n 0, 1) := by decide +kernel
theorem dX12_barred_26 : decode cX12_barred 26 = .ok (.iload_n 1, 1) := by decide +kernel
theorem dX12_barred_27 : decode cX12_barred 27 = .ok (.iload_n 2, 1) := by decide +kernel
theorem dX12_barred_28 : decode cX12_barred 28 = .ok (.invokevirtual 241, 3) := by decide +kernel
theorem dX12_barred_31 : decode cX12_barred 31 = .ok (.ifCond .eq 7, 3) := by decide +kernel
theorem dX12_barred_34 : decode cX12_barred 34 = .ok (.iconst 1, 1) := by decide +kernel
theorem dX12_barred_35 : decode cX12_barred 35 = .ok (.goto 4, 3) := by decide +kernel
theorem dX12_barred_38 : decode cX12_barred 38 = .ok (.iconst 0, 1) := by decide +kernel
theorem dX12_barred_39 : decode cX12_barred 39 = .ok (.ireturn, 1) := by decide +kernel
theorem dX12_note_0 : decode cX12_note 0 = .ok (.aload_n 0, 1) := by decide +kernel
theorem dX12_note_1 : decode cX12_note 1 = .ok (.getfield 13, 3) := by decide +kernel
theorem dX12_note_4 : decode cX12_note 4 = .ok (.iconst 3, 1) := by decide +kernel
theorem dX12_note_5 : decode cX12_note 5 = .ok (.iaload, 1) := by decide +kernel
theorem dX12_note_6 : decode cX12_note 6 = .ok (.bipush 24, 2) := by decide +kernel
theorem dX12_note_8 : decode cX12_note 8 = .ok (.if_icmp .ne 47, 3) := by decide +kernel
theorem dX12_note_11 : decode cX12_note 11 = .ok (.iconst 0, 1) := by decide +kernel
theorem dX12_note_12 : decode cX12_note 12 = .ok (.istore_n 2, 1) := by decide +kernel
theorem dX12_note_13 : decode cX12_note 13 = .ok (.iload_n 2, 1) := by decide +kernel
theorem dX12_note_14 : decode cX12_note 14 = .ok (.bipush 23, 2) := by decide +kernel
theorem dX12_note_16 : decode cX12_note 16 = .ok (.if_icmp .ge 29, 3) := by decide +kernel
theorem dX12_note_19 : decode cX12_note 19 = .ok (.aload_n 0, 1) := by decide +kernel
theorem dX12_note_20 : decode cX12_note 20 = .ok (.getfield 13, 3) := by decide +kernel
theorem dX12_note_23 : decode cX12_note 23 = .ok (.bipush 123, 2) := by decide +kernel
theorem dX12_note_25 : decode cX12_note 25 = .ok (.iload_n 2, 1) := by decide +kernel
theorem dX12_note_26 : decode cX12_note 26 = .ok (.iadd, 1) := by decide +kernel
theorem dX12_note_27 : decode cX12_note 27 = .ok (.aload_n 0, 1) := by decide +kernel
theorem dX12_note_28 : decode cX12_note 28 = .ok (.getfield 13, 3) := by decide +kernel
theorem dX12_note_31 : decode cX12_note 31 = .ok (.bipush 123, 2) := by decide +kernel
theorem dX12_note_33 : decode cX12_note 33 = .ok (.iload_n 2, 1) := by decide +kernel
theorem dX12_note_34 : decode cX12_note 34 = .ok (.iadd, 1) := by decide +kernel
theorem dX12_note_35 : decode cX12_note 35 = .ok (.iconst 1, 1) := by decide +kernel
theorem dX12_note_36 : decode cX12_note 36 = .ok (.iadd, 1) := by decide +kernel
theorem dX12_note_37 : decode cX12_note 37 = .ok (.iaload, 1) := by decide +kernel
theorem dX12_note_38 : decode cX12_note 38 = .ok (.iastore, 1) := by decide +kernel
theorem dX12_note_39 : decode cX12_note 39 = .ok (.iinc 2 1, 3) := by decide +kernel
theorem dX12_note_42 : decode cX12_note 42 = .ok (.goto (-29), 3) := by decide +kernel
theorem dX12_note_45 : decode cX12_note 45 = .ok (.aload_n 0, 1) := by decide +kernel
theorem dX12_note_46 : decode cX12_note 46 = .ok (.getfield 13, 3) := by decide +kernel
theorem dX12_note_49 : decode cX12_note 49 = .ok (.iconst 3, 1) := by decide +kernel
theorem dX12_note_50 : decode cX12_note 50 = .ok (.dup2, 1) := by decide +kernel
theorem dX12_note_51 : decode cX12_note 51 = .ok (.iaload, 1) := by decide +kernel
theorem dX12_note_52 : decode cX12_note 52 = .ok (.iconst 1, 1) := by decide +kernel
theorem dX12_note_53 : decode cX12_note 53 = .ok (.isub, 1) := by decide +kernel
theorem dX12_note_54 : decode cX12_note 54 = .ok (.iastore, 1) := by decide +kernel
theorem dX12_note_55 : decode cX12_note 55 = .ok (.aload_n 0, 1) := by decide +kernel
theorem dX12_note_56 : decode cX12_note 56 = .ok (.getfield 13, 3) := by decide +kernel
theorem dX12_note_59 : decode cX12_note 59 = .ok (.bipush 123, 2) := by decide +kernel
theorem dX12_note_61 : decode cX12_note 61 = .ok (.aload_n 0, 1) := by decide +kernel
theorem dX12_note_62 : decode cX12_note 62 = .ok (.getfield 13, 3) := by decide +kernel
theorem dX12_note_65 : decode cX12_note 65 = .ok (.iconst 3, 1) := by decide +kernel
theorem dX12_note_66 : decode cX12_note 66 = .ok (.iaload, 1) := by decide +kernel
theorem dX12_note_67 : decode cX12_note 67 = .ok (.iadd, 1) := by decide +kernel
theorem dX12_note_68 : decode cX12_note 68 = .ok (.iload_n 1, 1) := by decide +kernel
theorem dX12_note_69 : decode cX12_note 69 = .ok (.iastore, 1) := by decide +kernel
theorem dX12_note_70 : decode cX12_note 70 = .ok (.aload_n 0, 1) := by decide +kernel
theorem dX12_note_71 : decode cX12_note 71 = .ok (.getfield 13, 3) := by decide +kernel
theorem dX12_note_74 : decode cX12_note 74 = .ok (.iconst 3, 1) := by decide +kernel
theorem dX12_note_75 : decode cX12_note 75 = .ok (.dup2, 1) := by decide +kernel
theorem dX12_note_76 : decode cX12_note 76 = .ok (.iaload, 1) := by decide +kernel
theorem dX12_note_77 : decode cX12_note 77 = .ok (.iconst 1, 1) := by decide +kernel
theorem dX12_note_78 : decode cX12_note 78 = .ok (.iadd, 1) := by decide +kernel
theorem dX12_note_79 : decode cX12_note 79 = .ok (.iastore, 1) := by decide +kernel
theorem dX12_note_80 : decode cX12_note 80 = .ok (.return_, 1) := by decide +kernel
theorem dX12_goDays_0 : decode cX12_goDays 0 = .ok (.aload_n 0, 1) := by decide +kernel
theorem dX12_goDays_1 : decode cX12_goDays 1 = .ok (.iconst 0, 1) := by decide +kernel
theorem dX12_goDays_2 : decode cX12_goDays 2 = .ok (.invokevirtual 189, 3) := by decide +kernel
theorem dX12_goDays_5 : decode cX12_goDays 5 = .ok (.iload_n 1, 1) := by decide +kernel
theorem dX12_goDays_6 : decode cX12_goDays 6 = .ok (.iadd, 1) := by decide +kernel
theorem dX12_goDays_7 : decode cX12_goDays 7 = .ok (.i2l, 1) := by decide +kernel
theorem dX12_goDays_8 : decode cX12_goDays 8 = .ok (.iconst 0, 1) := by decide +kernel
theorem dX12_goDays_9 : decode cX12_goDays 9 = .ok (.sipush 999, 3) := by decide +kernel
theorem dX12_goDays_12 : decode cX12_goDays 12 = .ok (.invokestatic 445, 3) := by decide +kernel
theorem dX12_goDays_15 : decode cX12_goDays 15 = .ok (.istore_n 2, 1) := by decide +kernel
theorem dX12_goDays_16 : decode cX12_goDays 16 = .ok (.aload_n 0, 1) := by decide +kernel
theorem dX12_goDays_17 : decode cX12_goDays 17 = .ok (.getfield 13, 3) := by decide +kernel
theorem dX12_goDays_20 : decode cX12_goDays 20 = .ok (.bipush 13, 2) := by decide +kernel
theorem dX12_goDays_22 : decode cX12_goDays 22 = .ok (.aload_n 0, 1) := by decide +kernel
theorem dX12_goDays_23 : decode cX12_goDays 23 = .ok (.iconst 2, 1) := by decide +kernel
theorem dX12_goDays_24 : decode cX12_goDays 24 = .ok (.invokevirtual 186, 3) := by decide +kernel
theorem dX12_goDays_27 : decode cX12_goDays 27 = .ok (.iload_n 2, 1) := by decide +kernel
theorem dX12_goDays_28 : decode cX12_goDays 28 = .ok (.iadd, 1) := by decide +kernel
theorem dX12_goDays_29 : decode cX12_goDays 29 = .ok (.aload_n 0, 1) := by decide +kernel
theorem dX12_goDays_30 : decode cX12_goDays 30 = .ok (.iconst 0, 1) := by decide +kernel
theorem dX12_goDays_31 : decode cX12_goDays 31 = .ok (.invokevirtual 189, 3) := by decide +kernel
theorem dX12_goDays_34 : decode cX12_goDays 34 = .ok (.isub, 1) := by decide +kernel
theorem dX12_goDays_35 : decode cX12_goDays 35 = .ok (.i2l, 1) := by decide +kernel
theorem dX12_goDays_36 : decode cX12_goDays 36 = .ok (.iconst 0, 1) := by decide +kernel
theorem dX12_goDays_37 : decode cX12_goDays 37 = .ok (.bipush 99, 2) := by decide +kernel
theorem dX12_goDays_39 : decode cX12_goDays 39 = .ok (.invokestatic 445, 3) := by decide +kernel
theorem dX12_goDays_42 : decode cX12_goDays 42 = .ok (.iastore, 1) := by decide +kernel
theorem dX12_goDays_43 : decode cX12_goDays 43 = .ok (.aload_n 0, 1) := by decide +kernel
theorem dX12_goDays_44 : decode cX12_goDays 44 = .ok (.getfield 13, 3) := by decide +kernel
theorem dX12_goDays_47 : decode cX12_goDays 47 = .ok (.bipush 6, 2) := by decide +kernel
theorem dX12_goDays_49 : decode cX12_goDays 49 = .ok (.iload_n 2, 1) := by decide +kernel
theorem dX12_goDays_50 : decode cX12_goDays 50 = .ok (.iastore, 1) := by decide +kernel
theorem dX12_goDays_51 : decode cX12_goDays 51 = .ok (.return_, 1) := by decide +kernel
theorem dX12_shoot_0 : decode cX12_shoot 0 = .ok (.aload_n 0, 1) := by decide +kernel
theorem dX12_shoot_1 : decode cX12_shoot 1 = .ok (.iload_n 2, 1) := by decide +kernel
theorem dX12_shoot_2 : decode cX12_shoot 2 = .ok (.aload_n 0, 1) := by decide +kernel
theorem dX12_shoot_3 : decode cX12_shoot 3 = .ok (.iconst 0, 1) := by decide +kernel
theorem dX12_shoot_4 : decode cX12_shoot 4 = .ok (.invokevirtual 186, 3) := by decide +kernel
theorem dX12_shoot_7 : decode cX12_shoot 7 = .ok (.invokevirtual 212, 3) := by decide +kernel
theorem dX12_shoot_10 : decode cX12_shoot 10 = .ok (.istore_n 3, 1) := by decide +kernel
theorem dX12_shoot_11 : decode cX12_shoot 11 = .ok (.aload_n 0, 1) := by decide +kernel
theorem dX12_shoot_12 : decode cX12_shoot 12 = .ok (.iload_n 2, 1) := by decide +kernel
theorem dX12_shoot_13 : decode cX12_shoot 13 = .ok (.invokevirtual 215, 3) := by decide +kernel
theorem dX12_shoot_16 : decode cX12_shoot 16 = .ok (.istore 4, 2) := by decide +kernel
theorem dX12_shoot_18 : decode cX12_shoot 18 = .ok (.iload_n 3, 1) := by decide +kernel
theorem dX12_shoot_19 : decode cX12_shoot 19 = .ok (.aload_n 0, 1) := by decide +kernel
theorem dX12_shoot_20 : decode cX12_shoot 20 = .ok (.iconst 0, 1) := by decide +kernel
theorem dX12_shoot_21 : decode cX12_shoot 21 = .ok (.invokevirtual 186, 3) := by decide +kernel
theorem dX12_shoot_24 : decode cX12_shoot 24 = .ok (.if_icmp .ge 7, 3) := by decide +kernel
theorem dX12_shoot_27 : decode cX12_shoot 27 = .ok (.iload_n 3, 1) := by decide +kernel
theorem dX12_shoot_28 : decode cX12_shoot 28 = .ok (.goto 8, 3) := by decide +kernel
theorem dX12_shoot_31 : decode cX12_shoot 31 = .ok (.aload_n 0, 1) := by decide +kernel
theorem dX12_shoot_32 : decode cX12_shoot 32 = .ok (.iconst 0, 1) := by decide +kernel
theorem dX12_shoot_33 : decode cX12_shoot 33 = .ok (.invokevirtual 186, 3) := by decide +kernel
theorem dX12_shoot_36 : decode cX12_shoot 36 = .ok (.istore 5, 2) := by decide +kernel
theorem dX12_shoot_38 : decode cX12_shoot 38 = .ok (.aload_n 0, 1) := by decide +kernel
theorem dX12_shoot_39 : decode cX12_shoot 39 = .ok (.getfield 13, 3) := by decide +kernel
theorem dX12_shoot_42 : decode cX12_shoot 42 = .ok (.bipush 11, 2) := by decide +kernel
theorem dX12_shoot_44 : decode cX12_shoot 44 = .ok (.dup2, 1) := by decide +kernel
theorem dX12_shoot_45 : decode cX12_shoot 45 = .ok (.iaload, 1) := by decide +kernel
theorem dX12_shoot_46 : decode cX12_shoot 46 = .ok (.iload 5, 2) := by decide +kernel
theorem dX12_shoot_48 : decode cX12_shoot 48 = .ok (.isub, 1) := by decide +kernel
theorem dX12_shoot_49 : decode cX12_shoot 49 = .ok (.iastore, 1) := by decide +kernel
theorem dX12_shoot_50 : decode cX12_shoot 50 = .ok (.aload_n 0, 1) := by decide +kernel
theorem dX12_shoot_51 : decode cX12_shoot 51 = .ok (.getfield 13, 3) := by decide +kernel
theorem dX12_shoot_54 : decode cX12_shoot 54 = .ok (.bipush 15, 2) := by decide +kernel
theorem dX12_shoot_56 : decode cX12_shoot 56 = .ok (.iload_n 1, 1) := by decide +kernel
theorem dX12_shoot_57 : decode cX12_shoot 57 = .ok (.iadd, 1) := by decide +kernel
theorem dX12_shoot_58 : decode cX12_shoot 58 = .ok (.dup2, 1) := by decide +kernel
theorem dX12_shoot_59 : decode cX12_shoot 59 = .ok (.iaload, 1) := by decide +kernel
theorem dX12_shoot_60 : decode cX12_shoot 60 = .ok (.iload 5, 2) := by decide +kernel
theorem dX12_shoot_62 : decode cX12_shoot 62 = .ok (.iadd, 1) := by decide +kernel
theorem dX12_shoot_63 : decode cX12_shoot 63 = .ok (.iastore, 1) := by decide +kernel
theorem dX12_shoot_64 : decode cX12_shoot 64 = .ok (.aload_n 0, 1) := by decide +kernel
theorem dX12_shoot_65 : decode cX12_shoot 65 = .ok (.getfield 13, 3) := by decide +kernel
theorem dX12_shoot_68 : decode cX12_shoot 68 = .ok (.bipush 12, 2) := by decide +kernel
theorem dX12_shoot_70 : decode cX12_shoot 70 = .ok (.aload_n 0, 1) := by decide +kernel
theorem dX12_shoot_71 : decode cX12_shoot 71 = .ok (.iconst 1, 1) := by decide +kernel
theorem dX12_shoot_72 : decode cX12_shoot 72 = .ok (.invokevirtual 186, 3) := by decide +kernel
theorem dX12_shoot_75 : decode cX12_shoot 75 = .ok (.iload 4, 2) := by decide +kernel
theorem dX12_shoot_77 : decode cX12_shoot 77 = .ok (.iadd, 1) := by decide +kernel
theorem dX12_shoot_78 : decode cX12_shoot 78 = .ok (.i2l, 1) := by decide +kernel
theorem dX12_shoot_79 : decode cX12_shoot 79 = .ok (.iconst 0, 1) := by decide +kernel
theorem dX12_shoot_80 : decode cX12_shoot 80 = .ok (.bipush 99, 2) := by decide +kernel
theorem dX12_shoot_82 : decode cX12_shoot 82 = .ok (.invokestatic 445, 3) := by decide +kernel
theorem dX12_shoot_85 : decode cX12_shoot 85 = .ok (.iastore, 1) := by decide +kernel
theorem dX12_shoot_86 : decode cX12_shoot 86 = .ok (.aload_n 0, 1) := by decide +kernel
theorem dX12_shoot_87 : decode cX12_shoot 87 = .ok (.getfield 13, 3) := by decide +kernel
theorem dX12_shoot_90 : decode cX12_shoot 90 = .ok (.bipush 17, 2) := by decide +kernel
theorem dX12_shoot_92 : decode cX12_shoot 92 = .ok (.iconst 4, 1) := by decide +kernel
theorem dX12_shoot_93 : decode cX12_shoot 93 = .ok (.iload_n 2, 1) := by decide +kernel
theorem dX12_shoot_94 : decode cX12_shoot 94 = .ok (.imul, 1) := by decide +kernel
theorem dX12_shoot_95 : decode cX12_shoot 95 = .ok (.iadd, 1) := by decide +kernel
theorem dX12_shoot_96 : decode cX12_shoot 96 = .ok (.iconst 3, 1) := by decide +kernel
theorem dX12_shoot_97 : decode cX12_shoot 97 = .ok (.iadd, 1) := by decide +kernel
theorem dX12_shoot_98 : decode cX12_shoot 98 = .ok (.dup2, 1) := by decide +kernel
theorem dX12_shoot_99 : decode cX12_shoot 99 = .ok (.iaload, 1) := by decide +kernel
theorem dX12_shoot_100 : decode cX12_shoot 100 = .ok (.iconst 1, 1) := by decide +kernel
theorem dX12_shoot_101 : decode cX12_shoot 101 = .ok (.iadd, 1) := by decide +kernel
theorem dX12_shoot_102 : decode cX12_shoot 102 = .ok (.iastore, 1) := by decide +kernel
theorem dX12_shoot_103 : decode cX12_shoot 103 = .ok (.aload_n 0, 1) := by decide +kernel
theorem dX12_shoot_104 : decode cX12_shoot 104 = .ok (.iload_n 2, 1) := by decide +kernel
theorem dX12_shoot_105 : decode cX12_shoot 105 = .ok (.invokevirtual 451, 3) := by decide +kernel
theorem dX12_shoot_108 : decode cX12_shoot 108 = .ok (.aload_n 0, 1) := by decide +kernel
theorem dX12_shoot_109 : decode cX12_shoot 109 = .ok (.iload_n 2, 1) := by decide +kernel
theorem dX12_shoot_110 : decode cX12_shoot 110 = .ok (.iconst 0, 1) := by decide +kernel
theorem dX12_shoot_111 : decode cX12_shoot 111 = .ok (.invokevirtual 221, 3) := by decide +kernel
theorem dX12_shoot_114 : decode cX12_shoot 114 = .ok (.iconst 2, 1) := by decide +kernel
theorem dX12_shoot_115 : decode cX12_shoot 115 = .ok (.if_icmp .ne 14, 3) := by decide +kernel
theorem dX12_shoot_118 : decode cX12_shoot 118 = .ok (.aload_n 0, 1) := by decide +kernel
theorem dX12_shoot_119 : decode cX12_shoot 119 = .ok (.getfield 13, 3) := by decide +kernel
theorem dX12_shoot_122 : decode cX12_shoot 122 = .ok (.bipush 14, 2) := by decide +kernel
theorem dX12_shoot_124 : decode cX12_shoot 124 = .ok (.iconst 1, 1) := by decide +kernel
theorem dX12_shoot_125 : decode cX12_shoot 125 = .ok (.iastore, 1) := by decide +kernel
theorem dX12_shoot_126 : decode cX12_shoot 126 = .ok (.goto 27, 3) := by decide +kernel
theorem dX12_shoot_129 : decode cX12_shoot 129 = .ok (.aload_n 0, 1) := by decide +kernel
theorem dX12_shoot_130 : decode cX12_shoot 130 = .ok (.aload_n 0, 1) := by decide +kernel
theorem dX12_shoot_131 : decode cX12_shoot 131 = .ok (.iload_n 2, 1) := by decide +kernel
theorem dX12_shoot_132 : decode cX12_shoot 132 = .ok (.iconst 2, 1) := by decide +kernel
theorem dX12_shoot_133 : decode cX12_shoot 133 = .ok (.invokevirtual 221, 3) := by decide +kernel
theorem dX12_shoot_136 : decode cX12_shoot 136 = .ok (.aload_n 0, 1) := by decide +kernel
theorem dX12_shoot_137 : decode cX12_shoot 137 = .ok (.iconst 3, 1) := by decide +kernel
theorem dX12_shoot_138 : decode cX12_shoot 138 = .ok (.invokevirtual 189, 3) := by decide +kernel
theorem dX12_shoot_141 : decode cX12_shoot 141 = .ok (.iadd, 1) := by decide +kernel
theorem dX12_shoot_142 : decode cX12_shoot 142 = .ok (.iconst 1, 1) := by decide +kernel
theorem dX12_shoot_143 : decode cX12_shoot 143 = .ok (.isub, 1) := by decide +kernel
theorem dX12_shoot_144 : decode cX12_shoot 144 = .ok (.aload_n 0, 1) := by decide +kernel
theorem dX12_shoot_145 : decode cX12_shoot 145 = .ok (.iconst 3, 1) := by decide +kernel
theorem dX12_shoot_146 : decode cX12_shoot 146 = .ok (.invokevirtual 189, 3) := by decide +kernel
theorem dX12_shoot_149 : decode cX12_shoot 149 = .ok (.idiv, 1) := by decide +kernel
theorem dX12_shoot_150 : decode cX12_shoot 150 = .ok (.invokevirtual 454, 3) := by decide +kernel
theorem dX12_shoot_153 : decode cX12_shoot 153 = .ok (.return_, 1) := by decide +kernel
theorem dX12_fireNow_0 : decode cX12_fireNow 0 = .ok (.aload_n 0, 1) := by decide +kernel
theorem dX12_fireNow_1 : decode cX12_fireNow 1 = .ok (.iload_n 1, 1) := by decide +kernel
theorem dX12_fireNow_2 : decode cX12_fireNow 2 = .ok (.invokevirtual 229, 3) := by decide +kernel
theorem dX12_fireNow_5 : decode cX12_fireNow 5 = .ok (.ifCond .eq 11, 3) := by decide +kernel
theorem dX12_fireNow_8 : decode cX12_fireNow 8 = .ok (.aload_n 0, 1) := by decide +kernel
theorem dX12_fireNow_9 : decode cX12_fireNow 9 = .ok (.iload_n 2, 1) := by decide +kernel
theorem dX12_fireNow_10 : decode cX12_fireNow 10 = .ok (.invokevirtual 206, 3) := by decide +kernel
theorem dX12_fireNow_13 : decode cX12_fireNow 13 = .ok (.ifCond .ne 6, 3) := by decide +kernel
theorem dX12_fireNow_16 : decode cX12_fireNow 16 = .ok (.bipush (-2), 2) := by decide +kernel
theorem dX12_fireNow_18 : decode cX12_fireNow 18 = .ok (.ireturn, 1) := by decide +kernel
theorem dX12_fireNow_19 : decode cX12_fireNow 19 = .ok (.aload_n 0, 1) := by decide +kernel
theorem dX12_fireNow_20 : decode cX12_fireNow 20 = .ok (.iload_n 1, 1) := by decide +kernel
theorem dX12_fireNow_21 : decode cX12_fireNow 21 = .ok (.invokevirtual 232, 3) := by decide +kernel
theorem dX12_fireNow_24 : decode cX12_fireNow 24 = .ok (.ifCond .ne 19, 3) := by decide +kernel
theorem dX12_fireNow_27 : decode cX12_fireNow 27 = .ok (.aload_n 0, 1) := by decide +kernel
theorem dX12_fireNow_28 : decode cX12_fireNow 28 = .ok (.iload_n 1, 1) := by decide +kernel
theorem dX12_fireNow_29 : decode cX12_fireNow 29 = .ok (.iload_n 2, 1) := by decide +kernel
theorem dX12_fireNow_30 : decode cX12_fireNow 30 = .ok (.invokevirtual 241, 3) := by decide +kernel
theorem dX12_fireNow_33 : decode cX12_fireNow 33 = .ok (.ifCond .ne 10, 3) := by decide +kernel
theorem dX12_fireNow_36 : decode cX12_fireNow 36 = .ok (.aload_n 0, 1) := by decide +kernel
theorem dX12_fireNow_37 : decode cX12_fireNow 37 = .ok (.invokevirtual 194, 3) := by decide +kernel
theorem dX12_fireNow_40 : decode cX12_fireNow 40 = .ok (.ifCond .ne 6, 3) := by decide +kernel
theorem dX12_fireNow_43 : decode cX12_fireNow 43 = .ok (.bipush (-3), 2) := by decide +kernel
theorem dX12_fireNow_45 : decode cX12_fireNow 45 = .ok (.ireturn, 1) := by decide +kernel
theorem dX12_fireNow_46 : decode cX12_fireNow 46 = .ok (.aload_n 0, 1) := by decide +kernel
theorem dX12_fireNow_47 : decode cX12_fireNow 47 = .ok (.iconst 0, 1) := by decide +kernel
theorem dX12_fireNow_48 : decode cX12_fireNow 48 = .ok (.invokevirtual 457, 3) := by decide +kernel
theorem dX12_fireNow_51 : decode cX12_fireNow 51 = .ok (.aload_n 0, 1) := by decide +kernel
theorem dX12_fireNow_52 : decode cX12_fireNow 52 = .ok (.aload_n 0, 1) := by decide +kernel
theorem dX12_fireNow_53 : decode cX12_fireNow 53 = .ok (.iload_n 1, 1) := by decide +kernel
theorem dX12_fireNow_54 : decode cX12_fireNow 54 = .ok (.iconst 1, 1) := by decide +kernel
theorem dX12_fireNow_55 : decode cX12_fireNow 55 = .ok (.invokevirtual 226, 3) := by decide +kernel
theorem dX12_fireNow_58 : decode cX12_fireNow 58 = .ok (.iload_n 2, 1) := by decide +kernel
theorem dX12_fireNow_59 : decode cX12_fireNow 59 = .ok (.invokevirtual 460, 3) := by decide +kernel
theorem dX12_fireNow_62 : decode cX12_fireNow 62 = .ok (.aload_n 0, 1) := by decide +kernel
theorem dX12_fireNow_63 : decode cX12_fireNow 63 = .ok (.iconst 0, 1) := by decide +kernel
theorem dX12_fireNow_64 : decode cX12_fireNow 64 = .ok (.invokevirtual 186, 3) := by decide +kernel
theorem dX12_fireNow_67 : decode cX12_fireNow 67 = .ok (.ireturn, 1) := by decide +kernel
theorem dX12_fire_0 : decode cX12_fire 0 = .ok (.aload_n 0, 1) := by decide +kernel
theorem dX12_fire_1 : decode cX12_fire 1 = .ok (.iconst 0, 1) := by decide +kernel
theorem dX12_fire_2 : decode cX12_fire 2 = .ok (.putfield 149, 3) := by decide +kernel
theorem dX12_fire_5 : decode cX12_fire 5 = .ok (.aload_n 0, 1) := by decide +kernel
theorem dX12_fire_6 : decode cX12_fire 6 = .ok (.aload_n 0, 1) := by decide +kernel
theorem dX12_fire_7 : decode cX12_fire 7 = .ok (.iload_n 1, 1) := by decide +kernel
theorem dX12_fire_8 : decode cX12_fire 8 = .ok (.iload_n 2, 1) := by decide +kernel
theorem dX12_fire_9 : decode cX12_fire 9 = .ok (.invokevirtual 463, 3) := by decide +kernel
theorem dX12_fire_12 : decode cX12_fire 12 = .ok (.invokevirtual 158, 3) := by decide +kernel
theorem dX12_fire_15 : decode cX12_fire 15 = .ok (.ireturn, 1) := by decide +kernel
theorem dX12_draw_0 : decode cX12_draw 0 = .ok (.aload_n 0, 1) := by decide +kernel
theorem dX12_draw_1 : decode cX12_draw 1 = .ok (.aload_n 0, 1) := by decide +kernel
theorem dX12_draw_2 : decode cX12_draw 2 = .ok (.getfield 466, 3) := by decide +kernel
theorem dX12_draw_5 : decode cX12_draw 5 = .ok (.ldc2_w 469, 3) := by decide +kernel
theorem dX12_draw_8 : decode cX12_draw 8 = .ok (.lmul, 1) := by decide +kernel
theorem dX12_draw_9 : decode cX12_draw 9 = .ok (.ldc2_w 471, 3) := by decide +kernel
theorem dX12_draw_12 : decode cX12_draw 12 = .ok (.ladd, 1) := by decide +kernel
theorem dX12_draw_13 : decode cX12_draw 13 = .ok (.ldc2_w 473, 3) := by decide +kernel
theorem dX12_draw_16 : decode cX12_draw 16 = .ok (.lrem, 1) := by decide +kernel
theorem dX12_draw_17 : decode cX12_draw 17 = .ok (.putfield 466, 3) := by decide +kernel
theorem dX12_draw_20 : decode cX12_draw 20 = .ok (.aload_n 0, 1) := by decide +kernel
theorem dX12_draw_21 : decode cX12_draw 21 = .ok (.getfield 466, 3) := by decide +kernel
theorem dX12_draw_24 : decode cX12_draw 24 = .ok (.iload_n 1, 1) := by decide +kernel
theorem dX12_draw_25 : decode cX12_draw 25 = .ok (.i2l, 1) := by decide +kernel
theorem dX12_draw_26 : decode cX12_draw 26 = .ok (.lrem, 1) := by decide +kernel
theorem dX12_draw_27 : decode cX12_draw 27 = .ok (.l2i, 1) := by decide +kernel
theorem dX12_draw_28 : decode cX12_draw 28 = .ok (.ireturn, 1) := by decide +kernel
theorem dX12_dropQuarrel_0 : decode cX12_dropQuarrel 0 = .ok (.bipush 95, 2) := by decide +kernel
theorem dX12_dropQuarrel_2 : decode cX12_dropQuarrel 2 = .ok (.iconst 4, 1) := by decide +kernel
theorem dX12_dropQuarrel_3 : decode cX12_dropQuarrel 3 = .ok (.iload_n 1, 1) := by decide +kernel
theorem dX12_dropQuarrel_4 : decode cX12_dropQuarrel 4 = .ok (.imul, 1) := by decide +kernel
theorem dX12_dropQuarrel_5 : decode cX12_dropQuarrel 5 = .ok (.iadd, 1) := by decide +kernel
theorem dX12_dropQuarrel_6 : decode cX12_dropQuarrel 6 = .ok (.istore_n 2, 1) := by decide +kernel
theorem dX12_dropQuarrel_7 : decode cX12_dropQuarrel 7 = .ok (.iload_n 2, 1) := by decide +kernel
theorem dX12_dropQuarrel_8 : decode cX12_dropQuarrel 8 = .ok (.bipush 119, 2) := by decide +kernel
theorem dX12_dropQuarrel_10 : decode cX12_dropQuarrel 10 = .ok (.if_icmp .ge 23, 3) := by decide +kernel
theorem dX12_dropQuarrel_13 : decode cX12_dropQuarrel 13 = .ok (.aload_n 0, 1) := by decide +kernel
theorem dX12_dropQuarrel_14 : decode cX12_dropQuarrel 14 = .ok (.getfield 13, 3) := by decide +kernel
theorem dX12_dropQuarrel_17 : decode cX12_dropQuarrel 17 = .ok (.iload_n 2, 1) := by decide +kernel
theorem dX12_dropQuarrel_18 : decode cX12_dropQuarrel 18 = .ok (.aload_n 0, 1) := by decide +kernel
theorem dX12_dropQuarrel_19 : decode cX12_dropQuarrel 19 = .ok (.getfield 13, 3) := by decide +kernel
theorem dX12_dropQuarrel_22 : decode cX12_dropQuarrel 22 = .ok (.iload_n 2, 1) := by decide +kernel
theorem dX12_dropQuarrel_23 : decode cX12_dropQuarrel 23 = .ok (.iconst 4, 1) := by decide +kernel
theorem dX12_dropQuarrel_24 : decode cX12_dropQuarrel 24 = .ok (.iadd, 1) := by decide +kernel
theorem dX12_dropQuarrel_25 : decode cX12_dropQuarrel 25 = .ok (.iaload, 1) := by decide +kernel
theorem dX12_dropQuarrel_26 : decode cX12_dropQuarrel 26 = .ok (.iastore, 1) := by decide +kernel
theorem dX12_dropQuarrel_27 : decode cX12_dropQuarrel 27 = .ok (.iinc 2 1, 3) := by decide +kernel
theorem dX12_dropQuarrel_30 : decode cX12_dropQuarrel 30 = .ok (.goto (-23), 3) := by decide +kernel
theorem dX12_dropQuarrel_33 : decode cX12_dropQuarrel 33 = .ok (.aload_n 0, 1) := by decide +kernel
theorem dX12_dropQuarrel_34 : decode cX12_dropQuarrel 34 = .ok (.getfield 13, 3) := by decide +kernel
theorem dX12_dropQuarrel_37 : decode cX12_dropQuarrel 37 = .ok (.iconst 2, 1) := by decide +kernel
theorem dX12_dropQuarrel_38 : decode cX12_dropQuarrel 38 = .ok (.dup2, 1) := by decide +kernel
theorem dX12_dropQuarrel_39 : decode cX12_dropQuarrel 39 = .ok (.iaload, 1) := by decide +kernel
theorem dX12_dropQuarrel_40 : decode cX12_dropQuarrel 40 = .ok (.iconst 1, 1) := by decide +kernel
theorem dX12_dropQuarrel_41 : decode cX12_dropQuarrel 41 = .ok (.isub, 1) := by decide +kernel
theorem dX12_dropQuarrel_42 : decode cX12_dropQuarrel 42 = .ok (.iastore, 1) := by decide +kernel
theorem dX12_dropQuarrel_43 : decode cX12_dropQuarrel 43 = .ok (.return_, 1) := by decide +kernel
theorem dX12_have_0 : decode cX12_have 0 = .ok (.aload_n 0, 1) := by decide +kernel
theorem dX12_have_1 : decode cX12_have 1 = .ok (.iload_n 1, 1) := by decide +kernel
theorem dX12_have_2 : decode cX12_have 2 = .ok (.iconst 2, 1) := by decide +kernel
theorem dX12_have_3 : decode cX12_have 3 = .ok (.invokevirtual 238, 3) := by decide +kernel
theorem dX12_have_6 : decode cX12_have 6 = .ok (.istore_n 2, 1) := by decide +kernel
theorem dX12_have_7 : decode cX12_have 7 = .ok (.iconst 0, 1) := by decide +kernel
theorem dX12_have_8 : decode cX12_have 8 = .ok (.istore_n 3, 1) := by decide +kernel
theorem dX12_have_9 : decode cX12_have 9 = .ok (.iconst 0, 1) := by decide +kernel
theorem dX12_have_10 : decode cX12_have 10 = .ok (.istore 4, 2) := by decide +kernel
theorem dX12_have_12 : decode cX12_have 12 = .ok (.iload 4, 2) := by decide +kernel
theorem dX12_have_14 : decode cX12_have 14 = .ok (.iconst 2, 1) := by decide +kernel
theorem dX12_have_15 : decode cX12_have 15 = .ok (.aload_n 0, 1) := by decide +kernel
theorem dX12_have_16 : decode cX12_have 16 = .ok (.iconst 1, 1) := by decide +kernel
theorem dX12_have_17 : decode cX12_have 17 = .ok (.invokevirtual 189, 3) := by decide +kernel
theorem dX12_have_20 : decode cX12_have 20 = .ok (.imul, 1) := by decide +kernel
theorem dX12_have_21 : decode cX12_have 21 = .ok (.if_icmp .ge 124, 3) := by decide +kernel
theorem dX12_have_24 : decode cX12_have 24 = .ok (.iload_n 3, 1) := by decide +kernel
theorem dX12_have_25 : decode cX12_have 25 = .ok (.ifCond .ne 120, 3) := by decide +kernel
theorem dX12_have_28 : decode cX12_have 28 = .ok (.aload_n 0, 1) := by decide +kernel
theorem dX12_have_29 : decode cX12_have 29 = .ok (.iload_n 1, 1) := by decide +kernel
theorem dX12_have_30 : decode cX12_have 30 = .ok (.iload 4, 2) := by decide +kernel
theorem dX12_have_32 : decode cX12_have 32 = .ok (.iconst 2, 1) := by decide +kernel
theorem dX12_have_33 : decode cX12_have 33 = .ok (.irem, 1) := by decide +kernel
theorem dX12_have_34 : decode cX12_have 34 = .ok (.invokevirtual 238, 3) := by decide +kernel
theorem dX12_have_37 : decode cX12_have 37 = .ok (.istore 5, 2) := by decide +kernel
theorem dX12_have_39 : decode cX12_have 39 = .ok (.aload_n 0, 1) := by decide +kernel
theorem dX12_have_40 : decode cX12_have 40 = .ok (.iload_n 1, 1) := by decide +kernel
theorem dX12_have_41 : decode cX12_have 41 = .ok (.iconst 1, 1) := by decide +kernel
theorem dX12_have_42 : decode cX12_have 42 = .ok (.iload 4, 2) := by decide +kernel
theorem dX12_have_44 : decode cX12_have 44 = .ok (.iconst 2, 1) := by decide +kernel
theorem dX12_have_45 : decode cX12_have 45 = .ok (.irem, 1) := by decide +kernel
theorem dX12_have_46 : decode cX12_have 46 = .ok (.isub, 1) := by decide +kernel
theorem dX12_have_47 : decode cX12_have 47 = .ok (.invokevirtual 238, 3) := by decide +kernel
theorem dX12_have_50 : decode cX12_have 50 = .ok (.istore 6, 2) := by decide +kernel
theorem dX12_have_52 : decode cX12_have 52 = .ok (.aload_n 0, 1) := by decide +kernel
theorem dX12_have_53 : decode cX12_have 53 = .ok (.invokevirtual 194, 3) := by decide +kernel
theorem dX12_have_56 : decode cX12_have 56 = .ok (.ifCond .ne 8, 3) := by decide +kernel
theorem dX12_have_59 : decode cX12_have 59 = .ok (.iconst 3, 1) := by decide +kernel
theorem dX12_have_60 : decode cX12_have 60 = .ok (.istore_n 3, 1) := by decide +kernel
theorem dX12_have_61 : decode cX12_have 61 = .ok (.goto 78, 3) := by decide +kernel
theorem dX12_have_64 : decode cX12_have 64 = .ok (.aload_n 0, 1) := by decide +kernel
theorem dX12_have_65 : decode cX12_have 65 = .ok (.bipush 10, 2) := by decide +kernel
theorem dX12_have_67 : decode cX12_have 67 = .ok (.invokevirtual 475, 3) := by decide +kernel
theorem dX12_have_70 : decode cX12_have 70 = .ok (.aload_n 0, 1) := by decide +kernel
theorem dX12_have_71 : decode cX12_have 71 = .ok (.iload 5, 2) := by decide +kernel
theorem dX12_have_73 : decode cX12_have 73 = .ok (.iload_n 2, 1) := by decide +kernel
theorem dX12_have_74 : decode cX12_have 74 = .ok (.invokevirtual 235, 3) := by decide +kernel
theorem dX12_have_77 : decode cX12_have 77 = .ok (.if_icmp .ge 50, 3) := by decide +kernel
theorem dX12_have_80 : decode cX12_have 80 = .ok (.aload_n 0, 1) := by decide +kernel
theorem dX12_have_81 : decode cX12_have 81 = .ok (.getfield 13, 3) := by decide +kernel
theorem dX12_have_84 : decode cX12_have 84 = .ok (.bipush 65, 2) := by decide +kernel
theorem dX12_have_86 : decode cX12_have 86 = .ok (.iconst 3, 1) := by decide +kernel
theorem dX12_have_87 : decode cX12_have 87 = .ok (.iload 6, 2) := by decide +kernel
theorem dX12_have_89 : decode cX12_have 89 = .ok (.imul, 1) := by decide +kernel
theorem dX12_have_90 : decode cX12_have 90 = .ok (.iadd, 1) := by decide +kernel
theorem dX12_have_91 : decode cX12_have 91 = .ok (.iconst 2, 1) := by decide +kernel
theorem dX12_have_92 : decode cX12_have 92 = .ok (.iadd, 1) := by decide +kernel
theorem dX12_have_93 : decode cX12_have 93 = .ok (.aload_n 0, 1) := by decide +kernel
theorem dX12_have_94 : decode cX12_have 94 = .ok (.iconst 0, 1) := by decide +kernel
theorem dX12_have_95 : decode cX12_have 95 = .ok (.invokevirtual 189, 3) := by decide +kernel
theorem dX12_have_98 : decode cX12_have 98 = .ok (.bipush 7, 2) := by decide +kernel
theorem dX12_have_100 : decode cX12_have 100 = .ok (.iadd, 1) := by decide +kernel
theorem dX12_have_101 : decode cX12_have 101 = .ok (.iastore, 1) := by decide +kernel
theorem dX12_have_102 : decode cX12_have 102 = .ok (.aload_n 0, 1) := by decide +kernel
theorem dX12_have_103 : decode cX12_have 103 = .ok (.bipush 12, 2) := by decide +kernel
theorem dX12_have_105 : decode cX12_have 105 = .ok (.iload 6, 2) := by decide +kernel
theorem dX12_have_107 : decode cX12_have 107 = .ok (.iadd, 1) := by decide +kernel
theorem dX12_have_108 : decode cX12_have 108 = .ok (.invokevirtual 451, 3) := by decide +kernel
theorem dX12_have_111 : decode cX12_have 111 = .ok (.iload 4, 2) := by decide +kernel
theorem dX12_have_113 : decode cX12_have 113 = .ok (.iconst 2, 1) := by decide +kernel
theorem dX12_have_114 : decode cX12_have 114 = .ok (.irem, 1) := by decide +kernel
theorem dX12_have_115 : decode cX12_have 115 = .ok (.ifCond .ne 7, 3) := by decide +kernel
theorem dX12_have_118 : decode cX12_have 118 = .ok (.iconst 1, 1) := by decide +kernel
theorem dX12_have_119 : decode cX12_have 119 = .ok (.goto 4, 3) := by decide +kernel
theorem dX12_have_122 : decode cX12_have 122 = .ok (.iconst 2, 1) := by decide +kernel
theorem dX12_have_123 : decode cX12_have 123 = .ok (.istore_n 3, 1) := by decide +kernel
theorem dX12_have_124 : decode cX12_have 124 = .ok (.goto 15, 3) := by decide +kernel
theorem dX12_have_127 : decode cX12_have 127 = .ok (.aload_n 0, 1) := by decide +kernel
theorem dX12_have_128 : decode cX12_have 128 = .ok (.aload_n 0, 1) := by decide +kernel
theorem dX12_have_129 : decode cX12_have 129 = .ok (.iload 5, 2) := by decide +kernel
theorem dX12_have_131 : decode cX12_have 131 = .ok (.iconst 1, 1) := by decide +kernel
theorem dX12_have_132 : decode cX12_have 132 = .ok (.invokevirtual 226, 3) := by decide +kernel
theorem dX12_have_135 : decode cX12_have 135 = .ok (.iload_n 2, 1) := by decide +kernel
theorem dX12_have_136 : decode cX12_have 136 = .ok (.invokevirtual 460, 3) := by decide +kernel
theorem dX12_have_139 : decode cX12_have 139 = .ok (.iinc 4 1, 3) := by decide +kernel
theorem dX12_have_142 : decode cX12_have 142 = .ok (.goto (-130), 3) := by decide +kernel
theorem dX12_have_145 : decode cX12_have 145 = .ok (.aload_n 0, 1) := by decide +kernel
theorem dX12_have_146 : decode cX12_have 146 = .ok (.iload_n 1, 1) := by decide +kernel
theorem dX12_have_147 : decode cX12_have 147 = .ok (.invokevirtual 478, 3) := by decide +kernel
theorem dX12_have_150 : decode cX12_have 150 = .ok (.iload_n 3, 1) := by decide +kernel
theorem dX12_have_151 : decode cX12_have 151 = .ok (.ireturn, 1) := by decide +kernel
theorem dX12_duelNow_0 : decode cX12_duelNow 0 = .ok (.iload_n 2, 1) := by decide +kernel
theorem dX12_duelNow_1 : decode cX12_duelNow 1 = .ok (.i2l, 1) := by decide +kernel
theorem dX12_duelNow_2 : decode cX12_duelNow 2 = .ok (.lconst 0, 1) := by decide +kernel
theorem dX12_duelNow_3 : decode cX12_duelNow 3 = .ok (.ldc2_w 299, 3) := by decide +kernel
theorem dX12_duelNow_6 : decode cX12_duelNow 6 = .ok (.invokestatic 169, 3) := by decide +kernel
theorem dX12_duelNow_9 : decode cX12_duelNow 9 = .ok (.ifCond .ne 5, 3) := by decide +kernel
theorem dX12_duelNow_12 : decode cX12_duelNow 12 = .ok (.iconst (-1), 1) := by decide +kernel
theorem dX12_duelNow_13 : decode cX12_duelNow 13 = .ok (.ireturn, 1) := by decide +kernel
theorem dX12_duelNow_14 : decode cX12_duelNow 14 = .ok (.aload_n 0, 1) := by decide +kernel
theorem dX12_duelNow_15 : decode cX12_duelNow 15 = .ok (.iload_n 1, 1) := by decide +kernel
theorem dX12_duelNow_16 : decode cX12_duelNow 16 = .ok (.invokevirtual 245, 3) := by decide +kernel
theorem dX12_duelNow_19 : decode cX12_duelNow 19 = .ok (.ifCond .ne 6, 3) := by decide +kernel
theorem dX12_duelNow_22 : decode cX12_duelNow 22 = .ok (.bipush (-2), 2) := by decide +kernel
theorem dX12_duelNow_24 : decode cX12_duelNow 24 = .ok (.ireturn, 1) := by decide +kernel
theorem dX12_duelNow_25 : decode cX12_duelNow 25 = .ok (.aload_n 0, 1) := by decide +kernel
theorem dX12_duelNow_26 : decode cX12_duelNow 26 = .ok (.iload_n 1, 1) := by decide +kernel
theorem dX12_duelNow_27 : decode cX12_duelNow 27 = .ok (.invokevirtual 250, 3) := by decide +kernel
theorem dX12_duelNow_30 : decode cX12_duelNow 30 = .ok (.ifCond .ne 6, 3) := by decide +kernel
theorem dX12_duelNow_33 : decode cX12_duelNow 33 = .ok (.bipush (-3), 2) := by decide +kernel
theorem dX12_duelNow_35 : decode cX12_duelNow 35 = .ok (.ireturn, 1) := by decide +kernel
theorem dX12_duelNow_36 : decode cX12_duelNow 36 = .ok (.aload_n 0, 1) := by decide +kernel
theorem dX12_duelNow_37 : decode cX12_duelNow 37 = .ok (.iconst 1, 1) := by decide +kernel
theorem dX12_duelNow_38 : decode cX12_duelNow 38 = .ok (.invokevirtual 457, 3) := by decide +kernel
theorem dX12_duelNow_41 : decode cX12_duelNow 41 = .ok (.aload_n 0, 1) := by decide +kernel
theorem dX12_duelNow_42 : decode cX12_duelNow 42 = .ok (.iload_n 2, 1) := by decide +kernel
theorem dX12_duelNow_43 : decode cX12_duelNow 43 = .ok (.i2l, 1) := by decide +kernel
theorem dX12_duelNow_44 : decode cX12_duelNow 44 = .ok (.putfield 466, 3) := by decide +kernel
theorem dX12_duelNow_47 : decode cX12_duelNow 47 = .ok (.aload_n 0, 1) := by decide +kernel
theorem dX12_duelNow_48 : decode cX12_duelNow 48 = .ok (.iload_n 1, 1) := by decide +kernel
theorem dX12_duelNow_49 : decode cX12_duelNow 49 = .ok (.invokevirtual 481, 3) := by decide +kernel
theorem dX12_duelNow_52 : decode cX12_duelNow 52 = .ok (.ireturn, 1) := by decide +kernel
theorem dX12_duel_0 : decode cX12_duel 0 = .ok (.aload_n 0, 1) := by decide +kernel
theorem dX12_duel_1 : decode cX12_duel 1 = .ok (.iconst 0, 1) := by decide +kernel
theorem dX12_duel_2 : decode cX12_duel 2 = .ok (.putfield 149, 3) := by decide +kernel
theorem dX12_duel_5 : decode cX12_duel 5 = .ok (.aload_n 0, 1) := by decide +kernel
theorem dX12_duel_6 : decode cX12_duel 6 = .ok (.aload_n 0, 1) := by decide +kernel
theorem dX12_duel_7 : decode cX12_duel 7 = .ok (.iload_n 1, 1) := by decide +kernel
theorem dX12_duel_8 : decode cX12_duel 8 = .ok (.iload_n 2, 1) := by decide +kernel
theorem dX12_duel_9 : decode cX12_duel 9 = .ok (.invokevirtual 484, 3) := by decide +kernel
theorem dX12_duel_12 : decode cX12_duel 12 = .ok (.invokevirtual 158, 3) := by decide +kernel
theorem dX12_duel_15 : decode cX12_duel 15 = .ok (.ireturn, 1) := by decide +kernel
theorem dX12_restNow_0 : decode cX12_restNow 0 = .ok (.iload_n 1, 1) := by decide +kernel
theorem dX12_restNow_1 : decode cX12_restNow 1 = .ok (.i2l, 1) := by decide +kernel
theorem dX12_restNow_2 : decode cX12_restNow 2 = .ok (.lconst 1, 1) := by decide +kernel
theorem dX12_restNow_3 : decode cX12_restNow 3 = .ok (.ldc2_w 180, 3) := by decide +kernel
theorem dX12_restNow_6 : decode cX12_restNow 6 = .ok (.invokestatic 169, 3) := by decide +kernel
theorem dX12_restNow_9 : decode cX12_restNow 9 = .ok (.ifCond .ne 5, 3) := by decide +kernel
theorem dX12_restNow_12 : decode cX12_restNow 12 = .ok (.iconst (-1), 1) := by decide +kernel
theorem dX12_restNow_13 : decode cX12_restNow 13 = .ok (.ireturn, 1) := by decide +kernel
theorem dX12_restNow_14 : decode cX12_restNow 14 = .ok (.aload_n 0, 1) := by decide +kernel
theorem dX12_restNow_15 : decode cX12_restNow 15 = .ok (.iconst 2, 1) := by decide +kernel
theorem dX12_restNow_16 : decode cX12_restNow 16 = .ok (.invokevirtual 457, 3) := by decide +kernel
theorem dX12_restNow_19 : decode cX12_restNow 19 = .ok (.aload_n 0, 1) := by decide +kernel
theorem dX12_restNow_20 : decode cX12_restNow 20 = .ok (.iload_n 1, 1) := by decide +kernel
theorem dX12_restNow_21 : decode cX12_restNow 21 = .ok (.invokevirtual 454, 3) := by decide +kernel
theorem dX12_restNow_24 : decode cX12_restNow 24 = .ok (.aload_n 0, 1) := by decide +kernel
theorem dX12_restNow_25 : decode cX12_restNow 25 = .ok (.iconst 0, 1) := by decide +kernel
theorem dX12_restNow_26 : decode cX12_restNow 26 = .ok (.invokevirtual 189, 3) := by decide +kernel
theorem dX12_restNow_29 : decode cX12_restNow 29 = .ok (.ireturn, 1) := by decide +kernel
theorem dX12_rest_0 : decode cX12_rest 0 = .ok (.aload_n 0, 1) := by decide +kernel
theorem dX12_rest_1 : decode cX12_rest 1 = .ok (.iconst 0, 1) := by decide +kernel
theorem dX12_rest_2 : decode cX12_rest 2 = .ok (.putfield 149, 3) := by decide +kernel
theorem dX12_rest_5 : decode cX12_rest 5 = .ok (.aload_n 0, 1) := by decide +kernel
theorem dX12_rest_6 : decode cX12_rest 6 = .ok (.aload_n 0, 1) := by decide +kernel
theorem dX12_rest_7 : decode cX12_rest 7 = .ok (.iload_n 1, 1) := by decide +kernel
theorem dX12_rest_8 : decode cX12_rest 8 = .ok (.invokevirtual 487, 3) := by decide +kernel
theorem dX12_rest_11 : decode cX12_rest 11 = .ok (.invokevirtual 158, 3) := by decide +kernel
theorem dX12_rest_14 : decode cX12_rest 14 = .ok (.ireturn, 1) := by decide +kernel
theorem dX12_log_0 : decode cX12_log 0 = .ok (.aload_n 0, 1) := by decide +kernel
theorem dX12_log_1 : decode cX12_log 1 = .ok (.iconst 0, 1) := by decide +kernel
theorem dX12_log_2 : decode cX12_log 2 = .ok (.putfield 149, 3) := by decide +kernel
theorem dX12_log_5 : decode cX12_log 5 = .ok (.iload_n 1, 1) := by decide +kernel
theorem dX12_log_6 : decode cX12_log 6 = .ok (.i2l, 1) := by decide +kernel
theorem dX12_log_7 : decode cX12_log 7 = .ok (.lconst 0, 1) := by decide +kernel
theorem dX12_log_8 : decode cX12_log 8 = .ok (.aload_n 0, 1) := by decide +kernel
theorem dX12_log_9 : decode cX12_log 9 = .ok (.getfield 13, 3) := by decide +kernel
theorem dX12_log_12 : decode cX12_log 12 = .ok (.iconst 3, 1) := by decide +kernel
theorem dX12_log_13 : decode cX12_log 13 = .ok (.iaload, 1) := by decide +kernel
theorem dX12_log_14 : decode cX12_log 14 = .ok (.i2l, 1) := by decide +kernel
theorem dX12_log_15 : decode cX12_log 15 = .ok (.lconst 1, 1) := by decide +kernel
theorem dX12_log_16 : decode cX12_log 16 = .ok (.lsub, 1) := by decide +kernel
theorem dX12_log_17 : decode cX12_log 17 = .ok (.invokestatic 169, 3) := by decide +kernel
theorem dX12_log_20 : decode cX12_log 20 = .ok (.ifCond .eq 15, 3) := by decide +kernel
theorem dX12_log_23 : decode cX12_log 23 = .ok (.aload_n 0, 1) := by decide +kernel
theorem dX12_log_24 : decode cX12_log 24 = .ok (.getfield 13, 3) := by decide +kernel
theorem dX12_log_27 : decode cX12_log 27 = .ok (.bipush 123, 2) := by decide +kernel
theorem dX12_log_29 : decode cX12_log 29 = .ok (.iload_n 1, 1) := by decide +kernel
theorem dX12_log_30 : decode cX12_log 30 = .ok (.iadd, 1) := by decide +kernel
theorem dX12_log_31 : decode cX12_log 31 = .ok (.iaload, 1) := by decide +kernel
theorem dX12_log_32 : decode cX12_log 32 = .ok (.goto 4, 3) := by decide +kernel
theorem dX12_log_35 : decode cX12_log 35 = .ok (.iconst (-1), 1) := by decide +kernel
theorem dX12_log_36 : decode cX12_log 36 = .ok (.ireturn, 1) := by decide +kernel
theorem dX12_findEnds_0 : decode cX12_findEnds 0 = .ok (.aload_n 0, 1) := by decide +kernel
theorem dX12_findEnds_1 : decode cX12_findEnds 1 = .ok (.iload_n 1, 1) := by decide +kernel
theorem dX12_findEnds_2 : decode cX12_findEnds 2 = .ok (.iconst 2, 1) := by decide +kernel
theorem dX12_findEnds_3 : decode cX12_findEnds 3 = .ok (.invokevirtual 238, 3) := by decide +kernel
theorem dX12_findEnds_6 : decode cX12_findEnds 6 = .ok (.istore_n 2, 1) := by decide +kernel
theorem dX12_findEnds_7 : decode cX12_findEnds 7 = .ok (.ldc_w 490, 3) := by decide +kernel
theorem dX12_findEnds_10 : decode cX12_findEnds 10 = .ok (.istore_n 3, 1) := by decide +kernel
theorem dX12_findEnds_11 : decode cX12_findEnds 11 = .ok (.iconst 0, 1) := by decide +kernel
theorem dX12_findEnds_12 : decode cX12_findEnds 12 = .ok (.istore 4, 2) := by decide +kernel
theorem dX12_findEnds_14 : decode cX12_findEnds 14 = .ok (.iload 4, 2) := by decide +kernel
theorem dX12_findEnds_16 : decode cX12_findEnds 16 = .ok (.iconst 4, 1) := by decide +kernel
theorem dX12_findEnds_17 : decode cX12_findEnds 17 = .ok (.if_icmp .ge 17, 3) := by decide +kernel
theorem dX12_findEnds_20 : decode cX12_findEnds 20 = .ok (.aload_n 0, 1) := by decide +kernel
theorem dX12_findEnds_21 : decode cX12_findEnds 21 = .ok (.getfield 116, 3) := by decide +kernel
theorem dX12_findEnds_24 : decode cX12_findEnds 24 = .ok (.iload 4, 2) := by decide +kernel
theorem dX12_findEnds_26 : decode cX12_findEnds 26 = .ok (.iconst 0, 1) := by decide +kernel
theorem dX12_findEnds_27 : decode cX12_findEnds 27 = .ok (.iastore, 1) := by decide +kernel
theorem dX12_findEnds_28 : decode cX12_findEnds 28 = .ok (.iinc 4 1, 3) := by decide +kernel
theorem dX12_findEnds_31 : decode cX12_findEnds 31 = .ok (.goto (-17), 3) := by decide +kernel
theorem dX12_findEnds_34 : decode cX12_findEnds 34 = .ok (.iconst 0, 1) := by decide +kernel
theorem dX12_findEnds_35 : decode cX12_findEnds 35 = .ok (.istore 4, 2) := by decide +kernel
theorem dX12_findEnds_37 : decode cX12_findEnds 37 = .ok (.iload 4, 2) := by decide +kernel
theorem dX12_findEnds_39 : decode cX12_findEnds 39 = .ok (.iconst 2, 1) := by decide +kernel
theorem dX12_findEnds_40 : decode cX12_findEnds 40 = .ok (.aload_n 0, 1) := by decide +kernel
theorem dX12_findEnds_41 : decode cX12_findEnds 41 = .ok (.iconst 1, 1) := by decide +kernel
theorem dX12_findEnds_42 : decode cX12_findEnds 42 = .ok (.invokevirtual 189, 3) := by decide +kernel
