theorem dX2_winsInto_44 : decode cX2_winsInto 44 = .ok (.istore_n 3, 1) := by decide +kernel
theorem dX2_winsInto_45 : decode cX2_winsInto 45 = .ok (.iload_n 2, 1) := by decide +kernel
theorem dX2_winsInto_46 : decode cX2_winsInto 46 = .ok (.ifCond .le 30, 3) := by decide +kernel
theorem dX2_winsInto_49 : decode cX2_winsInto 49 = .ok (.iload_n 3, 1) := by decide +kernel
theorem dX2_winsInto_50 : decode cX2_winsInto 50 = .ok (.aload_n 0, 1) := by decide +kernel
theorem dX2_winsInto_51 : decode cX2_winsInto 51 = .ok (.getfield 22, 3) := by decide +kernel
theorem dX2_winsInto_54 : decode cX2_winsInto 54 = .ok (.getfield 44, 3) := by decide +kernel
theorem dX2_winsInto_57 : decode cX2_winsInto 57 = .ok (.bipush 18, 2) := by decide +kernel
theorem dX2_winsInto_59 : decode cX2_winsInto 59 = .ok (.iaload, 1) := by decide +kernel
theorem dX2_winsInto_60 : decode cX2_winsInto 60 = .ok (.if_icmp .lt 16, 3) := by decide +kernel
theorem dX2_winsInto_63 : decode cX2_winsInto 63 = .ok (.aload_n 0, 1) := by decide +kernel
theorem dX2_winsInto_64 : decode cX2_winsInto 64 = .ok (.getfield 29, 3) := by decide +kernel
theorem dX2_winsInto_67 : decode cX2_winsInto 67 = .ok (.iload_n 3, 1) := by decide +kernel
theorem dX2_winsInto_68 : decode cX2_winsInto 68 = .ok (.baload, 1) := by decide +kernel
theorem dX2_winsInto_69 : decode cX2_winsInto 69 = .ok (.ifCond .ne 7, 3) := by decide +kernel
theorem dX2_winsInto_72 : decode cX2_winsInto 72 = .ok (.iconst 1, 1) := by decide +kernel
theorem dX2_winsInto_73 : decode cX2_winsInto 73 = .ok (.goto 4, 3) := by decide +kernel
theorem dX2_winsInto_76 : decode cX2_winsInto 76 = .ok (.iconst 0, 1) := by decide +kernel
theorem dX2_winsInto_77 : decode cX2_winsInto 77 = .ok (.ireturn, 1) := by decide +kernel
theorem dX2_drawSeason_0 : decode cX2_drawSeason 0 = .ok (.aload_n 0, 1) := by decide +kernel
theorem dX2_drawSeason_1 : decode cX2_drawSeason 1 = .ok (.getfield 22, 3) := by decide +kernel
theorem dX2_drawSeason_4 : decode cX2_drawSeason 4 = .ok (.aload_n 0, 1) := by decide +kernel
theorem dX2_drawSeason_5 : decode cX2_drawSeason 5 = .ok (.getfield 33, 3) := by decide +kernel
theorem dX2_drawSeason_8 : decode cX2_drawSeason 8 = .ok (.invokevirtual 40, 3) := by decide +kernel
theorem dX2_drawSeason_11 : decode cX2_drawSeason 11 = .ok (.aload_n 0, 1) := by decide +kernel
theorem dX2_drawSeason_12 : decode cX2_drawSeason 12 = .ok (.getfield 36, 3) := by decide +kernel
theorem dX2_drawSeason_15 : decode cX2_drawSeason 15 = .ok (.iload_n 1, 1) := by decide +kernel
theorem dX2_drawSeason_16 : decode cX2_drawSeason 16 = .ok (.putfield 82, 3) := by decide +kernel
theorem dX2_drawSeason_19 : decode cX2_drawSeason 19 = .ok (.iconst 0, 1) := by decide +kernel
theorem dX2_drawSeason_20 : decode cX2_drawSeason 20 = .ok (.istore_n 3, 1) := by decide +kernel
theorem dX2_drawSeason_21 : decode cX2_drawSeason 21 = .ok (.iconst 0, 1) := by decide +kernel
theorem dX2_drawSeason_22 : decode cX2_drawSeason 22 = .ok (.istore 4, 2) := by decide +kernel
theorem dX2_drawSeason_24 : decode cX2_drawSeason 24 = .ok (.iload 4, 2) := by decide +kernel
theorem dX2_drawSeason_26 : decode cX2_drawSeason 26 = .ok (.iload_n 2, 1) := by decide +kernel
theorem dX2_drawSeason_27 : decode cX2_drawSeason 27 = .ok (.if_icmp .ge 109, 3) := by decide +kernel
theorem dX2_drawSeason_30 : decode cX2_drawSeason 30 = .ok (.aload_n 0, 1) := by decide +kernel
theorem dX2_drawSeason_31 : decode cX2_drawSeason 31 = .ok (.getfield 22, 3) := by decide +kernel
theorem dX2_drawSeason_34 : decode cX2_drawSeason 34 = .ok (.getfield 44, 3) := by decide +kernel
theorem dX2_drawSeason_37 : decode cX2_drawSeason 37 = .ok (.bipush 25, 2) := by decide +kernel
theorem dX2_drawSeason_39 : decode cX2_drawSeason 39 = .ok (.iaload, 1) := by decide +kernel
theorem dX2_drawSeason_40 : decode cX2_drawSeason 40 = .ok (.istore 5, 2) := by decide +kernel
theorem dX2_drawSeason_42 : decode cX2_drawSeason 42 = .ok (.iload 5, 2) := by decide +kernel
theorem dX2_drawSeason_44 : decode cX2_drawSeason 44 = .ok (.ifCond .le 15, 3) := by decide +kernel
theorem dX2_drawSeason_47 : decode cX2_drawSeason 47 = .ok (.aload_n 0, 1) := by decide +kernel
theorem dX2_drawSeason_48 : decode cX2_drawSeason 48 = .ok (.getfield 36, 3) := by decide +kernel
theorem dX2_drawSeason_51 : decode cX2_drawSeason 51 = .ok (.iload 5, 2) := by decide +kernel
theorem dX2_drawSeason_53 : decode cX2_drawSeason 53 = .ok (.invokevirtual 85, 3) := by decide +kernel
theorem dX2_drawSeason_56 : decode cX2_drawSeason 56 = .ok (.goto 4, 3) := by decide +kernel
theorem dX2_drawSeason_59 : decode cX2_drawSeason 59 = .ok (.iconst (-1), 1) := by decide +kernel
theorem dX2_drawSeason_60 : decode cX2_drawSeason 60 = .ok (.istore 6, 2) := by decide +kernel
theorem dX2_drawSeason_62 : decode cX2_drawSeason 62 = .ok (.iload 6, 2) := by decide +kernel
theorem dX2_drawSeason_64 : decode cX2_drawSeason 64 = .ok (.iconst (-1), 1) := by decide +kernel
theorem dX2_drawSeason_65 : decode cX2_drawSeason 65 = .ok (.if_icmp .eq 57, 3) := by decide +kernel
theorem dX2_drawSeason_68 : decode cX2_drawSeason 68 = .ok (.aload_n 0, 1) := by decide +kernel
theorem dX2_drawSeason_69 : decode cX2_drawSeason 69 = .ok (.getfield 36, 3) := by decide +kernel
theorem dX2_drawSeason_72 : decode cX2_drawSeason 72 = .ok (.aload_n 0, 1) := by decide +kernel
theorem dX2_drawSeason_73 : decode cX2_drawSeason 73 = .ok (.getfield 22, 3) := by decide +kernel
theorem dX2_drawSeason_76 : decode cX2_drawSeason 76 = .ok (.iload 6, 2) := by decide +kernel
theorem dX2_drawSeason_78 : decode cX2_drawSeason 78 = .ok (.invokevirtual 88, 3) := by decide +kernel
theorem dX2_drawSeason_81 : decode cX2_drawSeason 81 = .ok (.ifCond .eq 41, 3) := by decide +kernel
theorem dX2_drawSeason_84 : decode cX2_drawSeason 84 = .ok (.aload_n 0, 1) := by decide +kernel
theorem dX2_drawSeason_85 : decode cX2_drawSeason 85 = .ok (.getfield 36, 3) := by decide +kernel
theorem dX2_drawSeason_88 : decode cX2_drawSeason 88 = .ok (.aload_n 0, 1) := by decide +kernel
theorem dX2_drawSeason_89 : decode cX2_drawSeason 89 = .ok (.getfield 22, 3) := by decide +kernel
theorem dX2_drawSeason_92 : decode cX2_drawSeason 92 = .ok (.iload 6, 2) := by decide +kernel
theorem dX2_drawSeason_94 : decode cX2_drawSeason 94 = .ok (.invokevirtual 92, 3) := by decide +kernel
theorem dX2_drawSeason_97 : decode cX2_drawSeason 97 = .ok (.istore 7, 2) := by decide +kernel
theorem dX2_drawSeason_99 : decode cX2_drawSeason 99 = .ok (.iload_n 3, 1) := by decide +kernel
theorem dX2_drawSeason_100 : decode cX2_drawSeason 100 = .ok (.iload 7, 2) := by decide +kernel
theorem dX2_drawSeason_102 : decode cX2_drawSeason 102 = .ok (.iconst 1, 1) := by decide +kernel
theorem dX2_drawSeason_103 : decode cX2_drawSeason 103 = .ok (.if_icmp .eq 9, 3) := by decide +kernel
theorem dX2_drawSeason_106 : decode cX2_drawSeason 106 = .ok (.iload 7, 2) := by decide +kernel
theorem dX2_drawSeason_108 : decode cX2_drawSeason 108 = .ok (.iconst 2, 1) := by decide +kernel
theorem dX2_drawSeason_109 : decode cX2_drawSeason 109 = .ok (.if_icmp .ne 7, 3) := by decide +kernel
theorem dX2_drawSeason_112 : decode cX2_drawSeason 112 = .ok (.iconst 1, 1) := by decide +kernel
theorem dX2_drawSeason_113 : decode cX2_drawSeason 113 = .ok (.goto 4, 3) := by decide +kernel
theorem dX2_drawSeason_116 : decode cX2_drawSeason 116 = .ok (.iconst 0, 1) := by decide +kernel
theorem dX2_drawSeason_117 : decode cX2_drawSeason 117 = .ok (.iadd, 1) := by decide +kernel
theorem dX2_drawSeason_118 : decode cX2_drawSeason 118 = .ok (.istore_n 3, 1) := by decide +kernel
theorem dX2_drawSeason_119 : decode cX2_drawSeason 119 = .ok (.goto 11, 3) := by decide +kernel
theorem dX2_drawSeason_122 : decode cX2_drawSeason 122 = .ok (.aload_n 0, 1) := by decide +kernel
theorem dX2_drawSeason_123 : decode cX2_drawSeason 123 = .ok (.getfield 22, 3) := by decide +kernel
theorem dX2_drawSeason_126 : decode cX2_drawSeason 126 = .ok (.iconst 3, 1) := by decide +kernel
theorem dX2_drawSeason_127 : decode cX2_drawSeason 127 = .ok (.invokevirtual 96, 3) := by decide +kernel
theorem dX2_drawSeason_130 : decode cX2_drawSeason 130 = .ok (.iinc 4 1, 3) := by decide +kernel
theorem dX2_drawSeason_133 : decode cX2_drawSeason 133 = .ok (.goto (-109), 3) := by decide +kernel
theorem dX2_drawSeason_136 : decode cX2_drawSeason 136 = .ok (.aload_n 0, 1) := by decide +kernel
theorem dX2_drawSeason_137 : decode cX2_drawSeason 137 = .ok (.getfield 22, 3) := by decide +kernel
theorem dX2_drawSeason_140 : decode cX2_drawSeason 140 = .ok (.getfield 44, 3) := by decide +kernel
theorem dX2_drawSeason_143 : decode cX2_drawSeason 143 = .ok (.iconst 0, 1) := by decide +kernel
theorem dX2_drawSeason_144 : decode cX2_drawSeason 144 = .ok (.aload_n 0, 1) := by decide +kernel
theorem dX2_drawSeason_145 : decode cX2_drawSeason 145 = .ok (.getfield 9, 3) := by decide +kernel
theorem dX2_drawSeason_148 : decode cX2_drawSeason 148 = .ok (.iconst 0, 1) := by decide +kernel
theorem dX2_drawSeason_149 : decode cX2_drawSeason 149 = .ok (.iconst 4, 1) := by decide +kernel
theorem dX2_drawSeason_150 : decode cX2_drawSeason 150 = .ok (.invokestatic 100, 3) := by decide +kernel
theorem dX2_drawSeason_153 : decode cX2_drawSeason 153 = .ok (.aload_n 0, 1) := by decide +kernel
theorem dX2_drawSeason_154 : decode cX2_drawSeason 154 = .ok (.getfield 9, 3) := by decide +kernel
theorem dX2_drawSeason_157 : decode cX2_drawSeason 157 = .ok (.iconst 4, 1) := by decide +kernel
theorem dX2_drawSeason_158 : decode cX2_drawSeason 158 = .ok (.aload_n 0, 1) := by decide +kernel
theorem dX2_drawSeason_159 : decode cX2_drawSeason 159 = .ok (.getfield 22, 3) := by decide +kernel
theorem dX2_drawSeason_162 : decode cX2_drawSeason 162 = .ok (.getfield 44, 3) := by decide +kernel
theorem dX2_drawSeason_165 : decode cX2_drawSeason 165 = .ok (.bipush 16, 2) := by decide +kernel
theorem dX2_drawSeason_167 : decode cX2_drawSeason 167 = .ok (.iaload, 1) := by decide +kernel
theorem dX2_drawSeason_168 : decode cX2_drawSeason 168 = .ok (.iastore, 1) := by decide +kernel
theorem dX2_drawSeason_169 : decode cX2_drawSeason 169 = .ok (.aload_n 0, 1) := by decide +kernel
theorem dX2_drawSeason_170 : decode cX2_drawSeason 170 = .ok (.getfield 9, 3) := by decide +kernel
theorem dX2_drawSeason_173 : decode cX2_drawSeason 173 = .ok (.iconst 5, 1) := by decide +kernel
theorem dX2_drawSeason_174 : decode cX2_drawSeason 174 = .ok (.aload_n 0, 1) := by decide +kernel
theorem dX2_drawSeason_175 : decode cX2_drawSeason 175 = .ok (.getfield 22, 3) := by decide +kernel
theorem dX2_drawSeason_178 : decode cX2_drawSeason 178 = .ok (.getfield 44, 3) := by decide +kernel
theorem dX2_drawSeason_181 : decode cX2_drawSeason 181 = .ok (.bipush 25, 2) := by decide +kernel
theorem dX2_drawSeason_183 : decode cX2_drawSeason 183 = .ok (.iaload, 1) := by decide +kernel
theorem dX2_drawSeason_184 : decode cX2_drawSeason 184 = .ok (.iastore, 1) := by decide +kernel
theorem dX2_drawSeason_185 : decode cX2_drawSeason 185 = .ok (.aload_n 0, 1) := by decide +kernel
theorem dX2_drawSeason_186 : decode cX2_drawSeason 186 = .ok (.iconst 1, 1) := by decide +kernel
theorem dX2_drawSeason_187 : decode cX2_drawSeason 187 = .ok (.putfield 15, 3) := by decide +kernel
theorem dX2_drawSeason_190 : decode cX2_drawSeason 190 = .ok (.iload_n 3, 1) := by decide +kernel
theorem dX2_drawSeason_191 : decode cX2_drawSeason 191 = .ok (.ireturn, 1) := by decide +kernel
theorem dX3_init_0 : decode cX3_init 0 = .ok (.aload_n 0, 1) := by decide +kernel
theorem dX3_init_1 : decode cX3_init 1 = .ok (.invokespecial 3, 3) := by decide +kernel
theorem dX3_init_4 : decode cX3_init 4 = .ok (.aload_n 0, 1) := by decide +kernel
theorem dX3_init_5 : decode cX3_init 5 = .ok (.bipush 16, 2) := by decide +kernel
theorem dX3_init_7 : decode cX3_init 7 = .ok (.newarray .int, 2) := by decide +kernel
theorem dX3_init_9 : decode cX3_init 9 = .ok (.putfield 9, 3) := by decide +kernel
theorem dX3_init_12 : decode cX3_init 12 = .ok (.aload_n 0, 1) := by decide +kernel
theorem dX3_init_13 : decode cX3_init 13 = .ok (.sipush 2320, 3) := by decide +kernel
theorem dX3_init_16 : decode cX3_init 16 = .ok (.newarray .int, 2) := by decide +kernel
theorem dX3_init_18 : decode cX3_init 18 = .ok (.putfield 15, 3) := by decide +kernel
theorem dX3_init_21 : decode cX3_init 21 = .ok (.aload_n 0, 1) := by decide +kernel
theorem dX3_init_22 : decode cX3_init 22 = .ok (.iconst 0, 1) := by decide +kernel
theorem dX3_init_23 : decode cX3_init 23 = .ok (.putfield 18, 3) := by decide +kernel
theorem dX3_init_26 : decode cX3_init 26 = .ok (.aload_n 0, 1) := by decide +kernel
theorem dX3_init_27 : decode cX3_init 27 = .ok (.iconst 0, 1) := by decide +kernel
theorem dX3_init_28 : decode cX3_init 28 = .ok (.putfield 22, 3) := by decide +kernel
theorem dX3_init_31 : decode cX3_init 31 = .ok (.return_, 1) := by decide +kernel
theorem dX3_clear_0 : decode cX3_clear 0 = .ok (.aload_n 0, 1) := by decide +kernel
theorem dX3_clear_1 : decode cX3_clear 1 = .ok (.iconst 0, 1) := by decide +kernel
theorem dX3_clear_2 : decode cX3_clear 2 = .ok (.putfield 22, 3) := by decide +kernel
theorem dX3_clear_5 : decode cX3_clear 5 = .ok (.return_, 1) := by decide +kernel
theorem dX3_keep_0 : decode cX3_keep 0 = .ok (.aload_n 0, 1) := by decide +kernel
theorem dX3_keep_1 : decode cX3_keep 1 = .ok (.getfield 22, 3) := by decide +kernel
theorem dX3_keep_4 : decode cX3_keep 4 = .ok (.bipush 16, 2) := by decide +kernel
theorem dX3_keep_6 : decode cX3_keep 6 = .ok (.if_icmp .lt 22, 3) := by decide +kernel
theorem dX3_keep_9 : decode cX3_keep 9 = .ok (.aload_n 0, 1) := by decide +kernel
theorem dX3_keep_10 : decode cX3_keep 10 = .ok (.aload_n 0, 1) := by decide +kernel
theorem dX3_keep_11 : decode cX3_keep 11 = .ok (.getfield 18, 3) := by decide +kernel
theorem dX3_keep_14 : decode cX3_keep 14 = .ok (.iconst 1, 1) := by decide +kernel
theorem dX3_keep_15 : decode cX3_keep 15 = .ok (.iadd, 1) := by decide +kernel
theorem dX3_keep_16 : decode cX3_keep 16 = .ok (.bipush 16, 2) := by decide +kernel
theorem dX3_keep_18 : decode cX3_keep 18 = .ok (.irem, 1) := by decide +kernel
theorem dX3_keep_19 : decode cX3_keep 19 = .ok (.putfield 18, 3) := by decide +kernel
theorem dX3_keep_22 : decode cX3_keep 22 = .ok (.aload_n 0, 1) := by decide +kernel
theorem dX3_keep_23 : decode cX3_keep 23 = .ok (.bipush 15, 2) := by decide +kernel
theorem dX3_keep_25 : decode cX3_keep 25 = .ok (.putfield 22, 3) := by decide +kernel
theorem dX3_keep_28 : decode cX3_keep 28 = .ok (.aload_n 0, 1) := by decide +kernel
theorem dX3_keep_29 : decode cX3_keep 29 = .ok (.getfield 18, 3) := by decide +kernel
theorem dX3_keep_32 : decode cX3_keep 32 = .ok (.aload_n 0, 1) := by decide +kernel
theorem dX3_keep_33 : decode cX3_keep 33 = .ok (.getfield 22, 3) := by decide +kernel
theorem dX3_keep_36 : decode cX3_keep 36 = .ok (.iadd, 1) := by decide +kernel
theorem dX3_keep_37 : decode cX3_keep 37 = .ok (.bipush 16, 2) := by decide +kernel
theorem dX3_keep_39 : decode cX3_keep 39 = .ok (.irem, 1) := by decide +kernel
theorem dX3_keep_40 : decode cX3_keep 40 = .ok (.istore_n 3, 1) := by decide +kernel
theorem dX3_keep_41 : decode cX3_keep 41 = .ok (.aload_n 0, 1) := by decide +kernel
theorem dX3_keep_42 : decode cX3_keep 42 = .ok (.getfield 9, 3) := by decide +kernel
theorem dX3_keep_45 : decode cX3_keep 45 = .ok (.iload_n 3, 1) := by decide +kernel
theorem dX3_keep_46 : decode cX3_keep 46 = .ok (.iload_n 1, 1) := by decide +kernel
theorem dX3_keep_47 : decode cX3_keep 47 = .ok (.iastore, 1) := by decide +kernel
theorem dX3_keep_48 : decode cX3_keep 48 = .ok (.aload_n 2, 1) := by decide +kernel
theorem dX3_keep_49 : decode cX3_keep 49 = .ok (.getfield 25, 3) := by decide +kernel
theorem dX3_keep_52 : decode cX3_keep 52 = .ok (.iconst 0, 1) := by decide +kernel
theorem dX3_keep_53 : decode cX3_keep 53 = .ok (.aload_n 0, 1) := by decide +kernel
theorem dX3_keep_54 : decode cX3_keep 54 = .ok (.getfield 15, 3) := by decide +kernel
theorem dX3_keep_57 : decode cX3_keep 57 = .ok (.iload_n 3, 1) := by decide +kernel
theorem dX3_keep_58 : decode cX3_keep 58 = .ok (.sipush 145, 3) := by decide +kernel
theorem dX3_keep_61 : decode cX3_keep 61 = .ok (.imul, 1) := by decide +kernel
theorem dX3_keep_62 : decode cX3_keep 62 = .ok (.sipush 145, 3) := by decide +kernel
theorem dX3_keep_65 : decode cX3_keep 65 = .ok (.invokestatic 30, 3) := by decide +kernel
theorem dX3_keep_68 : decode cX3_keep 68 = .ok (.aload_n 0, 1) := by decide +kernel
theorem dX3_keep_69 : decode cX3_keep 69 = .ok (.dup, 1) := by decide +kernel
theorem dX3_keep_70 : decode cX3_keep 70 = .ok (.getfield 22, 3) := by decide +kernel
theorem dX3_keep_73 : decode cX3_keep 73 = .ok (.iconst 1, 1) := by decide +kernel
theorem dX3_keep_74 : decode cX3_keep 74 = .ok (.iadd, 1) := by decide +kernel
theorem dX3_keep_75 : decode cX3_keep 75 = .ok (.putfield 22, 3) := by decide +kernel
theorem dX3_keep_78 : decode cX3_keep 78 = .ok (.return_, 1) := by decide +kernel
theorem dX3_takeBack_0 : decode cX3_takeBack 0 = .ok (.aload_n 0, 1) := by decide +kernel
theorem dX3_takeBack_1 : decode cX3_takeBack 1 = .ok (.getfield 22, 3) := by decide +kernel
theorem dX3_takeBack_4 : decode cX3_takeBack 4 = .ok (.iconst 1, 1) := by decide +kernel
theorem dX3_takeBack_5 : decode cX3_takeBack 5 = .ok (.if_icmp .ge 5, 3) := by decide +kernel
theorem dX3_takeBack_8 : decode cX3_takeBack 8 = .ok (.iconst (-1), 1) := by decide +kernel
theorem dX3_takeBack_9 : decode cX3_takeBack 9 = .ok (.ireturn, 1) := by decide +kernel
theorem dX3_takeBack_10 : decode cX3_takeBack 10 = .ok (.aload_n 0, 1) := by decide +kernel
theorem dX3_takeBack_11 : decode cX3_takeBack 11 = .ok (.dup, 1) := by decide +kernel
theorem dX3_takeBack_12 : decode cX3_takeBack 12 = .ok (.getfield 22, 3) := by decide +kernel
theorem dX3_takeBack_15 : decode cX3_takeBack 15 = .ok (.iconst 1, 1) := by decide +kernel
theorem dX3_takeBack_16 : decode cX3_takeBack 16 = .ok (.isub, 1) := by decide +kernel
theorem dX3_takeBack_17 : decode cX3_takeBack 17 = .ok (.putfield 22, 3) := by decide +kernel
theorem dX3_takeBack_20 : decode cX3_takeBack 20 = .ok (.aload_n 0, 1) := by decide +kernel
theorem dX3_takeBack_21 : decode cX3_takeBack 21 = .ok (.getfield 18, 3) := by decide +kernel
theorem dX3_takeBack_24 : decode cX3_takeBack 24 = .ok (.aload_n 0, 1) := by decide +kernel
theorem dX3_takeBack_25 : decode cX3_takeBack 25 = .ok (.getfield 22, 3) := by decide +kernel
theorem dX3_takeBack_28 : decode cX3_takeBack 28 = .ok (.iadd, 1) := by decide +kernel
theorem dX3_takeBack_29 : decode cX3_takeBack 29 = .ok (.bipush 16, 2) := by decide +kernel
theorem dX3_takeBack_31 : decode cX3_takeBack 31 = .ok (.irem, 1) := by decide +kernel
theorem dX3_takeBack_32 : decode cX3_takeBack 32 = .ok (.istore_n 2, 1) := by decide +kernel
theorem dX3_takeBack_33 : decode cX3_takeBack 33 = .ok (.aload_n 0, 1) := by decide +kernel
theorem dX3_takeBack_34 : decode cX3_takeBack 34 = .ok (.getfield 15, 3) := by decide +kernel
theorem dX3_takeBack_37 : decode cX3_takeBack 37 = .ok (.iload_n 2, 1) := by decide +kernel
theorem dX3_takeBack_38 : decode cX3_takeBack 38 = .ok (.sipush 145, 3) := by decide +kernel
theorem dX3_takeBack_41 : decode cX3_takeBack 41 = .ok (.imul, 1) := by decide +kernel
theorem dX3_takeBack_42 : decode cX3_takeBack 42 = .ok (.aload_n 1, 1) := by decide +kernel
theorem dX3_takeBack_43 : decode cX3_takeBack 43 = .ok (.getfield 25, 3) := by decide +kernel
theorem dX3_takeBack_46 : decode cX3_takeBack 46 = .ok (.iconst 0, 1) := by decide +kernel
theorem dX3_takeBack_47 : decode cX3_takeBack 47 = .ok (.sipush 145, 3) := by decide +kernel
theorem dX3_takeBack_50 : decode cX3_takeBack 50 = .ok (.invokestatic 30, 3) := by decide +kernel
theorem dX3_takeBack_53 : decode cX3_takeBack 53 = .ok (.aload_n 0, 1) := by decide +kernel
theorem dX3_takeBack_54 : decode cX3_takeBack 54 = .ok (.getfield 9, 3) := by decide +kernel
theorem dX3_takeBack_57 : decode cX3_takeBack 57 = .ok (.iload_n 2, 1) := by decide +kernel
theorem dX3_takeBack_58 : decode cX3_takeBack 58 = .ok (.iaload, 1) := by decide +kernel
theorem dX3_takeBack_59 : decode cX3_takeBack 59 = .ok (.ireturn, 1) := by decide +kernel
theorem dX3_copy_0 : decode cX3_copy 0 = .ok (.aload_n 1, 1) := by decide +kernel
theorem dX3_copy_1 : decode cX3_copy 1 = .ok (.getfield 9, 3) := by decide +kernel
theorem dX3_copy_4 : decode cX3_copy 4 = .ok (.iconst 0, 1) := by decide +kernel
theorem dX3_copy_5 : decode cX3_copy 5 = .ok (.aload_n 0, 1) := by decide +kernel
theorem dX3_copy_6 : decode cX3_copy 6 = .ok (.getfield 9, 3) := by decide +kernel
theorem dX3_copy_9 : decode cX3_copy 9 = .ok (.iconst 0, 1) := by decide +kernel
theorem dX3_copy_10 : decode cX3_copy 10 = .ok (.bipush 16, 2) := by decide +kernel
theorem dX3_copy_12 : decode cX3_copy 12 = .ok (.invokestatic 30, 3) := by decide +kernel
theorem dX3_copy_15 : decode cX3_copy 15 = .ok (.aload_n 1, 1) := by decide +kernel
theorem dX3_copy_16 : decode cX3_copy 16 = .ok (.getfield 15, 3) := by decide +kernel
theorem dX3_copy_19 : decode cX3_copy 19 = .ok (.iconst 0, 1) := by decide +kernel
theorem dX3_copy_20 : decode cX3_copy 20 = .ok (.aload_n 0, 1) := by decide +kernel
theorem dX3_copy_21 : decode cX3_copy 21 = .ok (.getfield 15, 3) := by decide +kernel
theorem dX3_copy_24 : decode cX3_copy 24 = .ok (.iconst 0, 1) := by decide +kernel
theorem dX3_copy_25 : decode cX3_copy 25 = .ok (.aload_n 0, 1) := by decide +kernel
theorem dX3_copy_26 : decode cX3_copy 26 = .ok (.getfield 15, 3) := by decide +kernel
theorem dX3_copy_29 : decode cX3_copy 29 = .ok (.arraylength, 1) := by decide +kernel
theorem dX3_copy_30 : decode cX3_copy 30 = .ok (.invokestatic 30, 3) := by decide +kernel
theorem dX3_copy_33 : decode cX3_copy 33 = .ok (.aload_n 0, 1) := by decide +kernel
theorem dX3_copy_34 : decode cX3_copy 34 = .ok (.aload_n 1, 1) := by decide +kernel
theorem dX3_copy_35 : decode cX3_copy 35 = .ok (.getfield 18, 3) := by decide +kernel
theorem dX3_copy_38 : decode cX3_copy 38 = .ok (.putfield 18, 3) := by decide +kernel
theorem dX3_copy_41 : decode cX3_copy 41 = .ok (.aload_n 0, 1) := by decide +kernel
theorem dX3_copy_42 : decode cX3_copy 42 = .ok (.aload_n 1, 1) := by decide +kernel
theorem dX3_copy_43 : decode cX3_copy 43 = .ok (.getfield 22, 3) := by decide +kernel
theorem dX3_copy_46 : decode cX3_copy 46 = .ok (.putfield 22, 3) := by decide +kernel
theorem dX3_copy_49 : decode cX3_copy 49 = .ok (.return_, 1) := by decide +kernel
theorem dX4_init_0 : decode cX4_init 0 = .ok (.aload_n 0, 1) := by decide +kernel
theorem dX4_init_1 : decode cX4_init 1 = .ok (.invokespecial 3, 3) := by decide +kernel
theorem dX4_init_4 : decode cX4_init 4 = .ok (.aload_n 0, 1) := by decide +kernel
theorem dX4_init_5 : decode cX4_init 5 = .ok (.sipush 145, 3) := by decide +kernel
theorem dX4_init_8 : decode cX4_init 8 = .ok (.newarray .int, 2) := by decide +kernel
theorem dX4_init_10 : decode cX4_init 10 = .ok (.putfield 9, 3) := by decide +kernel
theorem dX4_init_13 : decode cX4_init 13 = .ok (.return_, 1) := by decide +kernel
theorem dX4_found_0 : decode cX4_found 0 = .ok (.aload_n 0, 1) := by decide +kernel
theorem dX4_found_1 : decode cX4_found 1 = .ok (.getfield 9, 3) := by decide +kernel
theorem dX4_found_4 : decode cX4_found 4 = .ok (.iconst 0, 1) := by decide +kernel
theorem dX4_found_5 : decode cX4_found 5 = .ok (.bipush 100, 2) := by decide +kernel
theorem dX4_found_7 : decode cX4_found 7 = .ok (.iastore, 1) := by decide +kernel
theorem dX4_found_8 : decode cX4_found 8 = .ok (.aload_n 0, 1) := by decide +kernel
theorem dX4_found_9 : decode cX4_found 9 = .ok (.getfield 9, 3) := by decide +kernel
theorem dX4_found_12 : decode cX4_found 12 = .ok (.bipush 17, 2) := by decide +kernel
theorem dX4_found_14 : decode cX4_found 14 = .ok (.iconst 2, 1) := by decide +kernel
theorem dX4_found_15 : decode cX4_found 15 = .ok (.iastore, 1) := by decide +kernel
theorem dX4_found_16 : decode cX4_found 16 = .ok (.aload_n 0, 1) := by decide +kernel
theorem dX4_found_17 : decode cX4_found 17 = .ok (.getfield 9, 3) := by decide +kernel
theorem dX4_found_20 : decode cX4_found 20 = .ok (.bipush 18, 2) := by decide +kernel
theorem dX4_found_22 : decode cX4_found 22 = .ok (.bipush 20, 2) := by decide +kernel
theorem dX4_found_24 : decode cX4_found 24 = .ok (.iastore, 1) := by decide +kernel
theorem dX4_found_25 : decode cX4_found 25 = .ok (.aload_n 0, 1) := by decide +kernel
theorem dX4_found_26 : decode cX4_found 26 = .ok (.getfield 9, 3) := by decide +kernel
theorem dX4_found_29 : decode cX4_found 29 = .ok (.bipush 19, 2) := by decide +kernel
theorem dX4_found_31 : decode cX4_found 31 = .ok (.iconst 1, 1) := by decide +kernel
theorem dX4_found_32 : decode cX4_found 32 = .ok (.iastore, 1) := by decide +kernel
theorem dX4_found_33 : decode cX4_found 33 = .ok (.return_, 1) := by decide +kernel
theorem dX4_copy_0 : decode cX4_copy 0 = .ok (.aload_n 1, 1) := by decide +kernel
theorem dX4_copy_1 : decode cX4_copy 1 = .ok (.getfield 9, 3) := by decide +kernel
theorem dX4_copy_4 : decode cX4_copy 4 = .ok (.iconst 0, 1) := by decide +kernel
theorem dX4_copy_5 : decode cX4_copy 5 = .ok (.aload_n 0, 1) := by decide +kernel
theorem dX4_copy_6 : decode cX4_copy 6 = .ok (.getfield 9, 3) := by decide +kernel
theorem dX4_copy_9 : decode cX4_copy 9 = .ok (.iconst 0, 1) := by decide +kernel
theorem dX4_copy_10 : decode cX4_copy 10 = .ok (.sipush 145, 3) := by decide +kernel
theorem dX4_copy_13 : decode cX4_copy 13 = .ok (.invokestatic 15, 3) := by decide +kernel
theorem dX4_copy_16 : decode cX4_copy 16 = .ok (.return_, 1) := by decide +kernel
theorem dX4_hasPlace_0 : decode cX4_hasPlace 0 = .ok (.iload_n 1, 1) := by decide +kernel
theorem dX4_hasPlace_1 : decode cX4_hasPlace 1 = .ok (.ifCond .lt 18, 3) := by decide +kernel
theorem dX4_hasPlace_4 : decode cX4_hasPlace 4 = .ok (.iload_n 1, 1) := by decide +kernel
theorem dX4_hasPlace_5 : decode cX4_hasPlace 5 = .ok (.aload_n 0, 1) := by decide +kernel
theorem dX4_hasPlace_6 : decode cX4_hasPlace 6 = .ok (.getfield 9, 3) := by decide +kernel
theorem dX4_hasPlace_9 : decode cX4_hasPlace 9 = .ok (.bipush 23, 2) := by decide +kernel
theorem dX4_hasPlace_11 : decode cX4_hasPlace 11 = .ok (.iaload, 1) := by decide +kernel
theorem dX4_hasPlace_12 : decode cX4_hasPlace 12 = .ok (.if_icmp .ge 7, 3) := by decide +kernel
theorem dX4_hasPlace_15 : decode cX4_hasPlace 15 = .ok (.iconst 1, 1) := by decide +kernel
theorem dX4_hasPlace_16 : decode cX4_hasPlace 16 = .ok (.goto 4, 3) := by decide +kernel
theorem dX4_hasPlace_19 : decode cX4_hasPlace 19 = .ok (.iconst 0, 1) := by decide +kernel
theorem dX4_hasPlace_20 : decode cX4_hasPlace 20 = .ok (.ireturn, 1) := by decide +kernel
theorem dX4_hasPerson_0 : decode cX4_hasPerson 0 = .ok (.iload_n 1, 1) := by decide +kernel
theorem dX4_hasPerson_1 : decode cX4_hasPerson 1 = .ok (.ifCond .lt 18, 3) := by decide +kernel
theorem dX4_hasPerson_4 : decode cX4_hasPerson 4 = .ok (.iload_n 1, 1) := by decide +kernel
theorem dX4_hasPerson_5 : decode cX4_hasPerson 5 = .ok (.aload_n 0, 1) := by decide +kernel
theorem dX4_hasPerson_6 : decode cX4_hasPerson 6 = .ok (.getfield 9, 3) := by decide +kernel
theorem dX4_hasPerson_9 : decode cX4_hasPerson 9 = .ok (.bipush 24, 2) := by decide +kernel
theorem dX4_hasPerson_11 : decode cX4_hasPerson 11 = .ok (.iaload, 1) := by decide +kernel
theorem dX4_hasPerson_12 : decode cX4_hasPerson 12 = .ok (.if_icmp .ge 7, 3) := by decide +kernel
theorem dX4_hasPerson_15 : decode cX4_hasPerson 15 = .ok (.iconst 1, 1) := by decide +kernel
theorem dX4_hasPerson_16 : decode cX4_hasPerson 16 = .ok (.goto 4, 3) := by decide +kernel
theorem dX4_hasPerson_19 : decode cX4_hasPerson 19 = .ok (.iconst 0, 1) := by decide +kernel
theorem dX4_hasPerson_20 : decode cX4_hasPerson 20 = .ok (.ireturn, 1) := by decide +kernel
theorem dX4_hasQuarrel_0 : decode cX4_hasQuarrel 0 = .ok (.iload_n 1, 1) := by decide +kernel
theorem dX4_hasQuarrel_1 : decode cX4_hasQuarrel 1 = .ok (.ifCond .lt 18, 3) := by decide +kernel
theorem dX4_hasQuarrel_4 : decode cX4_hasQuarrel 4 = .ok (.iload_n 1, 1) := by decide +kernel
theorem dX4_hasQuarrel_5 : decode cX4_hasQuarrel 5 = .ok (.aload_n 0, 1) := by decide +kernel
theorem dX4_hasQuarrel_6 : decode cX4_hasQuarrel 6 = .ok (.getfield 9, 3) := by decide +kernel
theorem dX4_hasQuarrel_9 : decode cX4_hasQuarrel 9 = .ok (.bipush 25, 2) := by decide +kernel
theorem dX4_hasQuarrel_11 : decode cX4_hasQuarrel 11 = .ok (.iaload, 1) := by decide +kernel
theorem dX4_hasQuarrel_12 : decode cX4_hasQuarrel 12 = .ok (.if_icmp .ge 7, 3) := by decide +kernel
theorem dX4_hasQuarrel_15 : decode cX4_hasQuarrel 15 = .ok (.iconst 1, 1) := by decide +kernel
theorem dX4_hasQuarrel_16 : decode cX4_hasQuarrel 16 = .ok (.goto 4, 3) := by decide +kernel
theorem dX4_hasQuarrel_19 : decode cX4_hasQuarrel 19 = .ok (.iconst 0, 1) := by decide +kernel
theorem dX4_hasQuarrel_20 : decode cX4_hasQuarrel 20 = .ok (.ireturn, 1) := by decide +kernel
theorem dX4_canBeFired_0 : decode cX4_canBeFired 0 = .ok (.aload_n 0, 1) := by decide +kernel
theorem dX4_canBeFired_1 : decode cX4_canBeFired 1 = .ok (.getfield 9, 3) := by decide +kernel
theorem dX4_canBeFired_4 : decode cX4_canBeFired 4 = .ok (.iconst 3, 1) := by decide +kernel
theorem dX4_canBeFired_5 : decode cX4_canBeFired 5 = .ok (.iaload, 1) := by decide +kernel
theorem dX4_canBeFired_6 : decode cX4_canBeFired 6 = .ok (.ifCond .ne 23, 3) := by decide +kernel
theorem dX4_canBeFired_9 : decode cX4_canBeFired 9 = .ok (.aload_n 0, 1) := by decide +kernel
theorem dX4_canBeFired_10 : decode cX4_canBeFired 10 = .ok (.getfield 9, 3) := by decide +kernel
theorem dX4_canBeFired_13 : decode cX4_canBeFired 13 = .ok (.iconst 0, 1) := by decide +kernel
theorem dX4_canBeFired_14 : decode cX4_canBeFired 14 = .ok (.iaload, 1) := by decide +kernel
theorem dX4_canBeFired_15 : decode cX4_canBeFired 15 = .ok (.aload_n 0, 1) := by decide +kernel
theorem dX4_canBeFired_16 : decode cX4_canBeFired 16 = .ok (.getfield 9, 3) := by decide +kernel
theorem dX4_canBeFired_19 : decode cX4_canBeFired 19 = .ok (.bipush 18, 2) := by decide +kernel
theorem dX4_canBeFired_21 : decode cX4_canBeFired 21 = .ok (.iaload, 1) := by decide +kernel
theorem dX4_canBeFired_22 : decode cX4_canBeFired 22 = .ok (.if_icmp .lt 7, 3) := by decide +kernel
theorem dX4_canBeFired_25 : decode cX4_canBeFired 25 = .ok (.iconst 1, 1) := by decide +kernel
theorem dX4_canBeFired_26 : decode cX4_canBeFired 26 = .ok (.goto 4, 3) := by decide +kernel
theorem dX4_canBeFired_29 : decode cX4_canBeFired 29 = .ok (.iconst 0, 1) := by decide +kernel
theorem dX4_canBeFired_30 : decode cX4_canBeFired 30 = .ok (.ireturn, 1) := by decide +kernel
theorem dX4_isHurt_0 : decode cX4_isHurt 0 = .ok (.aload_n 0, 1) := by decide +kernel
theorem dX4_isHurt_1 : decode cX4_isHurt 1 = .ok (.getfield 9, 3) := by decide +kernel
theorem dX4_isHurt_4 : decode cX4_isHurt 4 = .ok (.bipush 16, 2) := by decide +kernel
theorem dX4_isHurt_6 : decode cX4_isHurt 6 = .ok (.iaload, 1) := by decide +kernel
theorem dX4_isHurt_7 : decode cX4_isHurt 7 = .ok (.aload_n 0, 1) := by decide +kernel
theorem dX4_isHurt_8 : decode cX4_isHurt 8 = .ok (.getfield 9, 3) := by decide +kernel
theorem dX4_isHurt_11 : decode cX4_isHurt 11 = .ok (.bipush 83, 2) := by decide +kernel
theorem dX4_isHurt_13 : decode cX4_isHurt 13 = .ok (.iload_n 1, 1) := by decide +kernel
theorem dX4_isHurt_14 : decode cX4_isHurt 14 = .ok (.iadd, 1) := by decide +kernel
theorem dX4_isHurt_15 : decode cX4_isHurt 15 = .ok (.iaload, 1) := by decide +kernel
theorem dX4_isHurt_16 : decode cX4_isHurt 16 = .ok (.if_icmp .ge 7, 3) := by decide +kernel
theorem dX4_isHurt_19 : decode cX4_isHurt 19 = .ok (.iconst 1, 1) := by decide +kernel
theorem dX4_isHurt_20 : decode cX4_isHurt 20 = .ok (.goto 4, 3) := by decide +kernel
theorem dX4_isHurt_23 : decode cX4_isHurt 23 = .ok (.iconst 0, 1) := by decide +kernel
theorem dX4_isHurt_24 : decode cX4_isHurt 24 = .ok (.ireturn, 1) := by decide +kernel
theorem dX4_shotAt_0 : decode cX4_shotAt 0 = .ok (.iload_n 1, 1) := by decide +kernel
theorem dX4_shotAt_1 : decode cX4_shotAt 1 = .ok (.ifCond .lt 26, 3) := by decide +kernel
theorem dX4_shotAt_4 : decode cX4_shotAt 4 = .ok (.iload_n 1, 1) := by decide +kernel
theorem dX4_shotAt_5 : decode cX4_shotAt 5 = .ok (.aload_n 0, 1) := by decide +kernel
theorem dX4_shotAt_6 : decode cX4_shotAt 6 = .ok (.getfield 9, 3) := by decide +kernel
theorem dX4_shotAt_9 : decode cX4_shotAt 9 = .ok (.bipush 26, 2) := by decide +kernel
theorem dX4_shotAt_11 : decode cX4_shotAt 11 = .ok (.iaload, 1) := by decide +kernel
theorem dX4_shotAt_12 : decode cX4_shotAt 12 = .ok (.if_icmp .ge 15, 3) := by decide +kernel
theorem dX4_shotAt_15 : decode cX4_shotAt 15 = .ok (.aload_n 0, 1) := by decide +kernel
theorem dX4_shotAt_16 : decode cX4_shotAt 16 = .ok (.getfield 9, 3) := by decide +kernel
theorem dX4_shotAt_19 : decode cX4_shotAt 19 = .ok (.bipush 121, 2) := by decide +kernel
theorem dX4_shotAt_21 : decode cX4_shotAt 21 = .ok (.iload_n 1, 1) := by decide +kernel
theorem dX4_shotAt_22 : decode cX4_shotAt 22 = .ok (.iadd, 1) := by decide +kernel
theorem dX4_shotAt_23 : decode cX4_shotAt 23 = .ok (.iaload, 1) := by decide +kernel
theorem dX4_shotAt_24 : decode cX4_shotAt 24 = .ok (.goto 4, 3) := by decide +kernel
theorem dX4_shotAt_27 : decode cX4_shotAt 27 = .ok (.iconst (-1), 1) := by decide +kernel
theorem dX4_shotAt_28 : decode cX4_shotAt 28 = .ok (.ireturn, 1) := by decide +kernel
theorem dX4_addPlace_0 : decode cX4_addPlace 0 = .ok (.aload_n 0, 1) := by decide +kernel
theorem dX4_addPlace_1 : decode cX4_addPlace 1 = .ok (.getfield 9, 3) := by decide +kernel
theorem dX4_addPlace_4 : decode cX4_addPlace 4 = .ok (.bipush 23, 2) := by decide +kernel
theorem dX4_addPlace_6 : decode cX4_addPlace 6 = .ok (.iaload, 1) := by decide +kernel
theorem dX4_addPlace_7 : decode cX4_addPlace 7 = .ok (.istore 4, 2) := by decide +kernel
theorem dX4_addPlace_9 : decode cX4_addPlace 9 = .ok (.aload_n 0, 1) := by decide +kernel
theorem dX4_addPlace_10 : decode cX4_addPlace 10 = .ok (.getfield 9, 3) := by decide +kernel
theorem dX4_addPlace_13 : decode cX4_addPlace 13 = .ok (.bipush 27, 2) := by decide +kernel
theorem dX4_addPlace_15 : decode cX4_addPlace 15 = .ok (.iload 4, 2) := by decide +kernel
theorem dX4_addPlace_17 : decode cX4_addPlace 17 = .ok (.iadd, 1) := by decide +kernel
theorem dX4_addPlace_18 : decode cX4_addPlace 18 = .ok (.iload_n 1, 1) := by decide +kernel
theorem dX4_addPlace_19 : decode cX4_addPlace 19 = .ok (.iastore, 1) := by decide +kernel
theorem dX4_addPlace_20 : decode cX4_addPlace 20 = .ok (.aload_n 0, 1) := by decide +kernel
theorem dX4_addPlace_21 : decode cX4_addPlace 21 = .ok (.getfield 9, 3) := by decide +kernel
theorem dX4_addPlace_24 : decode cX4_addPlace 24 = .ok (.bipush 39, 2) := by decide +kernel
theorem dX4_addPlace_26 : decode cX4_addPlace 26 = .ok (.iload 4, 2) := by decide +kernel
theorem dX4_addPlace_28 : decode cX4_addPlace 28 = .ok (.iadd, 1) := by decide +kernel
theorem dX4_addPlace_29 : decode cX4_addPlace 29 = .ok (.iload_n 2, 1) := by decide +kernel
theorem dX4_addPlace_30 : decode cX4_addPlace 30 = .ok (.iastore, 1) := by decide +kernel
theorem dX4_addPlace_31 : decode cX4_addPlace 31 = .ok (.aload_n 0, 1) := by decide +kernel
theorem dX4_addPlace_32 : decode cX4_addPlace 32 = .ok (.getfield 9, 3) := by decide +kernel
theorem dX4_addPlace_35 : decode cX4_addPlace 35 = .ok (.bipush 51, 2) := by decide +kernel
theorem dX4_addPlace_37 : decode cX4_addPlace 37 = .ok (.iload 4, 2) := by decide +kernel
theorem dX4_addPlace_39 : decode cX4_addPlace 39 = .ok (.iadd, 1) := by decide +kernel
theorem dX4_addPlace_40 : decode cX4_addPlace 40 = .ok (.iload_n 3, 1) := by decide +kernel
theorem dX4_addPlace_41 : decode cX4_addPlace 41 = .ok (.iastore, 1) := by decide +kernel
theorem dX4_addPlace_42 : decode cX4_addPlace 42 = .ok (.aload_n 0, 1) := by decide +kernel
theorem dX4_addPlace_43 : decode cX4_addPlace 43 = .ok (.getfield 9, 3) := by decide +kernel
theorem dX4_addPlace_46 : decode cX4_addPlace 46 = .ok (.iconst 4, 1) := by decide +kernel
theorem dX4_addPlace_47 : decode cX4_addPlace 47 = .ok (.iload 4, 2) := by decide +kernel
theorem dX4_addPlace_49 : decode cX4_addPlace 49 = .ok (.iadd, 1) := by decide +kernel
theorem dX4_addPlace_50 : decode cX4_addPlace 50 = .ok (.iconst 0, 1) := by decide +kernel
theorem dX4_addPlace_51 : decode cX4_addPlace 51 = .ok (.iastore, 1) := by decide +kernel
theorem dX4_addPlace_52 : decode cX4_addPlace 52 = .ok (.aload_n 0, 1) := by decide +kernel
theorem dX4_addPlace_53 : decode cX4_addPlace 53 = .ok (.getfield 9, 3) := by decide +kernel
theorem dX4_addPlace_56 : decode cX4_addPlace 56 = .ok (.bipush 23, 2) := by decide +kernel
theorem dX4_addPlace_58 : decode cX4_addPlace 58 = .ok (.iload 4, 2) := by decide +kernel
theorem dX4_addPlace_60 : decode cX4_addPlace 60 = .ok (.iconst 1, 1) := by decide +kernel
theorem dX4_addPlace_61 : decode cX4_addPlace 61 = .ok (.iadd, 1) := by decide +kernel
theorem dX4_addPlace_62 : decode cX4_addPlace 62 = .ok (.iastore, 1) := by decide +kernel
theorem dX4_addPlace_63 : decode cX4_addPlace 63 = .ok (.iload 4, 2) := by decide +kernel
theorem dX4_addPlace_65 : decode cX4_addPlace 65 = .ok (.ireturn, 1) := by decide +kernel
theorem dX4_addPerson_0 : decode cX4_addPerson 0 = .ok (.aload_n 0, 1) := by decide +kernel
theorem dX4_addPerson_1 : decode cX4_addPerson 1 = .ok (.getfield 9, 3) := by decide +kernel
theorem dX4_addPerson_4 : decode cX4_addPerson 4 = .ok (.bipush 24, 2) := by decide +kernel
theorem dX4_addPerson_6 : decode cX4_addPerson 6 = .ok (.iaload, 1) := by decide +kernel
theorem dX4_addPerson_7 : decode cX4_addPerson 7 = .ok (.istore_n 3, 1) := by decide +kernel
theorem dX4_addPerson_8 : decode cX4_addPerson 8 = .ok (.aload_n 0, 1) := by decide +kernel
theorem dX4_addPerson_9 : decode cX4_addPerson 9 = .ok (.getfield 9, 3) := by decide +kernel
theorem dX4_addPerson_12 : decode cX4_addPerson 12 = .ok (.bipush 63, 2) := by decide +kernel
theorem dX4_addPerson_14 : decode cX4_addPerson 14 = .ok (.iload_n 3, 1) := by decide +kernel
theorem dX4_addPerson_15 : decode cX4_addPerson 15 = .ok (.iadd, 1) := by decide +kernel
theorem dX4_addPerson_16 : decode cX4_addPerson 16 = .ok (.iload_n 1, 1) := by decide +kernel
theorem dX4_addPerson_17 : decode cX4_addPerson 17 = .ok (.iastore, 1) := by decide +kernel
theorem dX4_addPerson_18 : decode cX4_addPerson 18 = .ok (.aload_n 0, 1) := by decide +kernel
theorem dX4_addPerson_19 : decode cX4_addPerson 19 = .ok (.getfield 9, 3) := by decide +kernel
theorem dX4_addPerson_22 : decode cX4_addPerson 22 = .ok (.bipush 73, 2) := by decide +kernel
theorem dX4_addPerson_24 : decode cX4_addPerson 24 = .ok (.iload_n 3, 1) := by decide +kernel
theorem dX4_addPerson_25 : decode cX4_addPerson 25 = .ok (.iadd, 1) := by decide +kernel
theorem dX4_addPerson_26 : decode cX4_addPerson 26 = .ok (.iload_n 2, 1) := by decide +kernel
theorem dX4_addPerson_27 : decode cX4_addPerson 27 = .ok (.iastore, 1) := by decide +kernel
theorem dX4_addPerson_28 : decode cX4_addPerson 28 = .ok (.aload_n 0, 1) := by decide +kernel
theorem dX4_addPerson_29 : decode cX4_addPerson 29 = .ok (.getfield 9, 3) := by decide +kernel
theorem dX4_addPerson_32 : decode cX4_addPerson 32 = .ok (.bipush 83, 2) := by decide +kernel
theorem dX4_addPerson_34 : decode cX4_addPerson 34 = .ok (.iload_n 3, 1) := by decide +kernel
theorem dX4_addPerson_35 : decode cX4_addPerson 35 = .ok (.iadd, 1) := by decide +kernel
theorem dX4_addPerson_36 : decode cX4_addPerson 36 = .ok (.iconst 0, 1) := by decide +kernel
theorem dX4_addPerson_37 : decode cX4_addPerson 37 = .ok (.iastore, 1) := by decide +kernel
theorem dX4_addPerson_38 : decode cX4_addPerson 38 = .ok (.aload_n 0, 1) := by decide +kernel
theorem dX4_addPerson_39 : decode cX4_addPerson 39 = .ok (.getfield 9, 3) := by decide +kernel
theorem dX4_addPerson_42 : decode cX4_addPerson 42 = .ok (.bipush 24, 2) := by decide +kernel
theorem dX4_addPerson_44 : decode cX4_addPerson 44 = .ok (.iload_n 3, 1) := by decide +kernel
theorem dX4_addPerson_45 : decode cX4_addPerson 45 = .ok (.iconst 1, 1) := by decide +kernel
theorem dX4_addPerson_46 : decode cX4_addPerson 46 = .ok (.iadd, 1) := by decide +kernel
theorem dX4_addPerson_47 : decode cX4_addPerson 47 = .ok (.iastore, 1) := by decide +kernel
theorem dX4_addPerson_48 : decode cX4_addPerson 48 = .ok (.iload_n 3, 1) := by decide +kernel
theorem dX4_addPerson_49 : decode cX4_addPerson 49 = .ok (.ireturn, 1) := by decide +kernel
theorem dX4_addQuarrel_0 : decode cX4_addQuarrel 0 = .ok (.aload_n 0, 1) := by decide +kernel
theorem dX4_addQuarrel_1 : decode cX4_addQuarrel 1 = .ok (.getfield 9, 3) := by decide +kernel
theorem dX4_addQuarrel_4 : decode cX4_addQuarrel 4 = .ok (.bipush 25, 2) := by decide +kernel
theorem dX4_addQuarrel_6 : decode cX4_addQuarrel 6 = .ok (.iaload, 1) := by decide +kernel
theorem dX4_addQuarrel_7 : decode cX4_addQuarrel 7 = .ok (.istore 5, 2) := by decide +kernel
theorem dX4_addQuarrel_9 : decode cX4_addQuarrel 9 = .ok (.aload_n 0, 1) := by decide +kernel
theorem dX4_addQuarrel_10 : decode cX4_addQuarrel 10 = .ok (.getfield 9, 3) := by decide +kernel
theorem dX4_addQuarrel_13 : decode cX4_addQuarrel 13 = .ok (.bipush 93, 2) := by decide +kernel
theorem dX4_addQuarrel_15 : decode cX4_addQuarrel 15 = .ok (.iload 5, 2) := by decide +kernel
theorem dX4_addQuarrel_17 : decode cX4_addQuarrel 17 = .ok (.iadd, 1) := by decide +kernel
theorem dX4_addQuarrel_18 : decode cX4_addQuarrel 18 = .ok (.iload_n 1, 1) := by decide +kernel
theorem dX4_addQuarrel_19 : decode cX4_addQuarrel 19 = .ok (.iastore, 1) := by decide +kernel
theorem dX4_addQuarrel_20 : decode cX4_addQuarrel 20 = .ok (.aload_n 0, 1) := by decide +kernel
theorem dX4_addQuarrel_21 : decode cX4_addQuarrel 21 = .ok (.getfield 9, 3) := by decide +kernel
theorem dX4_addQuarrel_24 : decode cX4_addQuarrel 24 = .ok (.bipush 100, 2) := by decide +kernel
theorem dX4_addQuarrel_26 : decode cX4_addQuarrel 26 = .ok (.iload 5, 2) := by decide +kernel
theorem dX4_addQuarrel_28 : decode cX4_addQuarrel 28 = .ok (.iadd, 1) := by decide +kernel
theorem dX4_addQuarrel_29 : decode cX4_addQuarrel 29 = .ok (.iload_n 2, 1) := by decide +kernel
theorem dX4_addQuarrel_30 : decode cX4_addQuarrel 30 = .ok (.iastore, 1) := by decide +kernel
theorem dX4_addQuarrel_31 : decode cX4_addQuarrel 31 = .ok (.aload_n 0, 1) := by decide +kernel
theorem dX4_addQuarrel_32 : decode cX4_addQuarrel 32 = .ok (.getfield 9, 3) := by decide +kernel
theorem dX4_addQuarrel_35 : decode cX4_addQuarrel 35 = .ok (.bipush 107, 2) := by decide +kernel
theorem dX4_addQuarrel_37 : decode cX4_addQuarrel 37 = .ok (.iload 5, 2) := by decide +kernel
theorem dX4_addQuarrel_39 : decode cX4_addQuarrel 39 = .ok (.iadd, 1) := by decide +kernel
theorem dX4_addQuarrel_40 : decode cX4_addQuarrel 40 = .ok (.iload_n 3, 1) := by decide +kernel
theorem dX4_addQuarrel_41 : decode cX4_addQuarrel 41 = .ok (.iastore, 1) := by decide +kernel
theorem dX4_addQuarrel_42 : decode cX4_addQuarrel 42 = .ok (.aload_n 0, 1) := by decide +kernel
theorem dX4_addQuarrel_43 : decode cX4_addQuarrel 43 = .ok (.getfield 9, 3) := by decide +kernel
theorem dX4_addQuarrel_46 : decode cX4_addQuarrel 46 = .ok (.bipush 114, 2) := by decide +kernel
theorem dX4_addQuarrel_48 : decode cX4_addQuarrel 48 = .ok (.iload 5, 2) := by decide +kernel
theorem dX4_addQuarrel_50 : decode cX4_addQuarrel 50 = .ok (.iadd, 1) := by decide +kernel
theorem dX4_addQuarrel_51 : decode cX4_addQuarrel 51 = .ok (.iload 4, 2) := by decide +kernel
theorem dX4_addQuarrel_53 : decode cX4_addQuarrel 53 = .ok (.iastore, 1) := by decide +kernel
theorem dX4_addQuarrel_54 : decode cX4_addQuarrel 54 = .ok (.aload_n 0, 1) := by decide +kernel
theorem dX4_addQuarrel_55 : decode cX4_addQuarrel 55 = .ok (.getfield 9, 3) := by decide +kernel
theorem dX4_addQuarrel_58 : decode cX4_addQuarrel 58 = .ok (.bipush 25, 2) := by decide +kernel
theorem dX4_addQuarrel_60 : decode cX4_addQuarrel 60 = .ok (.iload 5, 2) := by decide +kernel
theorem dX4_addQuarrel_62 : decode cX4_addQuarrel 62 = .ok (.iconst 1, 1) := by decide +kernel
theorem dX4_addQuarrel_63 : decode cX4_addQuarrel 63 = .ok (.iadd, 1) := by decide +kernel
theorem dX4_addQuarrel_64 : decode cX4_addQuarrel 64 = .ok (.iastore, 1) := by decide +kernel
theorem dX4_addQuarrel_65 : decode cX4_addQuarrel 65 = .ok (.iload 5, 2) := by decide +kernel
theorem dX4_addQuarrel_67 : decode cX4_addQuarrel 67 = .ok (.ireturn, 1) := by decide +kernel
theorem dX4_dropQuarrel_0 : decode cX4_dropQuarrel 0 = .ok (.aload_n 0, 1) := by decide +kernel
theorem dX4_dropQuarrel_1 : decode cX4_dropQuarrel 1 = .ok (.getfield 9, 3) := by decide +kernel
theorem dX4_dropQuarrel_4 : decode cX4_dropQuarrel 4 = .ok (.bipush 25, 2) := by decide +kernel
theorem dX4_dropQuarrel_6 : decode cX4_dropQuarrel 6 = .ok (.iaload, 1) := by decide +kernel
theorem dX4_dropQuarrel_7 : decode cX4_dropQuarrel 7 = .ok (.iconst 1, 1) := by decide +kernel
theorem dX4_dropQuarrel_8 : decode cX4_dropQuarrel 8 = .ok (.isub, 1) := by decide +kernel
theorem dX4_dropQuarrel_9 : decode cX4_dropQuarrel 9 = .ok (.iload_n 1, 1) := by decide +kernel
theorem dX4_dropQuarrel_10 : decode cX4_dropQuarrel 10 = .ok (.isub, 1) := by decide +kernel
theorem dX4_dropQuarrel_11 : decode cX4_dropQuarrel 11 = .ok (.istore_n 2, 1) := by decide +kernel
theorem dX4_dropQuarrel_12 : decode cX4_dropQuarrel 12 = .ok (.bipush 93, 2) := by decide +kernel
theorem dX4_dropQuarrel_14 : decode cX4_dropQuarrel 14 = .ok (.istore_n 3, 1) := by decide +kernel
theorem dX4_dropQuarrel_15 : decode cX4_dropQuarrel 15 = .ok (.iload_n 3, 1) := by decide +kernel
theorem dX4_dropQuarrel_16 : decode cX4_dropQuarrel 16 = .ok (.bipush 114, 2) := by decide +kernel
theorem dX4_dropQuarrel_18 : decode cX4_dropQuarrel 18 = .ok (.if_icmp .gt 29, 3) := by decide +kernel
theorem dX4_dropQuarrel_21 : decode cX4_dropQuarrel 21 = .ok (.aload_n 0, 1) := by decide +kernel
theorem dX4_dropQuarrel_22 : decode cX4_dropQuarrel 22 = .ok (.getfield 9, 3) := by decide +kernel
theorem dX4_dropQuarrel_25 : decode cX4_dropQuarrel 25 = .ok (.iload_n 3, 1) := by decide +kernel
theorem dX4_dropQuarrel_26 : decode cX4_dropQuarrel 26 = .ok (.iload_n 1, 1) := by decide +kernel
theorem dX4_dropQuarrel_27 : decode cX4_dropQuarrel 27 = .ok (.iadd, 1) := by decide +kernel
theorem dX4_dropQuarrel_28 : decode cX4_dropQuarrel 28 = .ok (.iconst 1, 1) := by decide +kernel
theorem dX4_dropQuarrel_29 : decode cX4_dropQuarrel 29 = .ok (.iadd, 1) := by decide +kernel
theorem dX4_dropQuarrel_30 : decode cX4_dropQuarrel 30 = .ok (.aload_n 0, 1) := by decide +kernel
theorem dX4_dropQuarrel_31 : decode cX4_dropQuarrel 31 = .ok (.getfield 9, 3) := by decide +kernel
theorem dX4_dropQuarrel_34 : decode cX4_dropQuarrel 34 = .ok (.iload_n 3, 1) := by decide +kernel
theorem dX4_dropQuarrel_35 : decode cX4_dropQuarrel 35 = .ok (.iload_n 1, 1) := by decide +kernel
theorem dX4_dropQuarrel_36 : decode cX4_dropQuarrel 36 = .ok (.iadd, 1) := by decide +kernel
theorem dX4_dropQuarrel_37 : decode cX4_dropQuarrel 37 = .ok (.iload_n 2, 1) := by decide +kernel
theorem dX4_dropQuarrel_38 : decode cX4_dropQuarrel 38 = .ok (.invokestatic 15, 3) := by decide +kernel
theorem dX4_dropQuarrel_41 : decode cX4_dropQuarrel 41 = .ok (.iinc 3 7, 3) := by decide +kernel
theorem dX4_dropQuarrel_44 : decode cX4_dropQuarrel 44 = .ok (.goto (-29), 3) := by decide +kernel
theorem dX4_dropQuarrel_47 : decode cX4_dropQuarrel 47 = .ok (.aload_n 0, 1) := by decide +kernel
theorem dX4_dropQuarrel_48 : decode cX4_dropQuarrel 48 = .ok (.getfield 9, 3) := by decide +kernel
theorem dX4_dropQuarrel_51 : decode cX4_dropQuarrel 51 = .ok (.bipush 25, 2) := by decide +kernel
theorem dX4_dropQuarrel_53 : decode cX4_dropQuarrel 53 = .ok (.dup2, 1) := by decide +kernel
theorem dX4_dropQuarrel_54 : decode cX4_dropQuarrel 54 = .ok (.iaload, 1) := by decide +kernel
theorem dX4_dropQuarrel_55 : decode cX4_dropQuarrel 55 = .ok (.iconst 1, 1) := by decide +kernel
theorem dX4_dropQuarrel_56 : decode cX4_dropQuarrel 56 = .ok (.isub, 1) := by decide +kernel
theorem dX4_dropQuarrel_57 : decode cX4_dropQuarrel 57 = .ok (.iastore, 1) := by decide +kernel
theorem dX4_dropQuarrel_58 : decode cX4_dropQuarrel 58 = .ok (.return_, 1) := by decide +kernel
theorem dX4_noteShot_0 : decode cX4_noteShot 0 = .ok (.aload_n 0, 1) := by decide +kernel
theorem dX4_noteShot_1 : decode cX4_noteShot 1 = .ok (.getfield 9, 3) := by decide +kernel
theorem dX4_noteShot_4 : decode cX4_noteShot 4 = .ok (.bipush 26, 2) := by decide +kernel
theorem dX4_noteShot_6 : decode cX4_noteShot 6 = .ok (.iaload, 1) := by decide +kernel
theorem dX4_noteShot_7 : decode cX4_noteShot 7 = .ok (.bipush 24, 2) := by decide +kernel
theorem dX4_noteShot_9 : decode cX4_noteShot 9 = .ok (.if_icmp .lt 29, 3) := by decide +kernel
theorem dX4_noteShot_12 : decode cX4_noteShot 12 = .ok (.aload_n 0, 1) := by decide +kernel
theorem dX4_noteShot_13 : decode cX4_noteShot 13 = .ok (.getfield 9, 3) := by decide +kernel
theorem dX4_noteShot_16 : decode cX4_noteShot 16 = .ok (.bipush 122, 2) := by decide +kernel
theorem dX4_noteShot_18 : decode cX4_noteShot 18 = .ok (.aload_n 0, 1) := by decide +kernel
theorem dX4_noteShot_19 : decode cX4_noteShot 19 = .ok (.getfield 9, 3) := by decide +kernel
theorem dX4_noteShot_22 : decode cX4_noteShot 22 = .ok (.bipush 121, 2) := by decide +kernel
theorem dX4_noteShot_24 : decode cX4_noteShot 24 = .ok (.bipush 23, 2) := by decide +kernel
theorem dX4_noteShot_26 : decode cX4_noteShot 26 = .ok (.invokestatic 15, 3) := by decide +kernel
theorem dX4_noteShot_29 : decode cX4_noteShot 29 = .ok (.aload_n 0, 1) := by decide +kernel
theorem dX4_noteShot_30 : decode cX4_noteShot 30 = .ok (.getfield 9, 3) := by decide +kernel
theorem dX4_noteShot_33 : decode cX4_noteShot 33 = .ok (.bipush 26, 2) := by decide +kernel
theorem dX4_noteShot_35 : decode cX4_noteShot 35 = .ok (.bipush 23, 2) := by decide +kernel
theorem dX4_noteShot_37 : decode cX4_noteShot 37 = .ok (.iastore, 1) := by decide +kernel
theorem dX4_noteShot_38 : decode cX4_noteShot 38 = .ok (.aload_n 0, 1) := by decide +kernel
theorem dX4_noteShot_39 : decode cX4_noteShot 39 = .ok (.getfield 9, 3) := by decide +kernel
theorem dX4_noteShot_42 : decode cX4_noteShot 42 = .ok (.bipush 121, 2) := by decide +kernel
theorem dX4_noteShot_44 : decode cX4_noteShot 44 = .ok (.aload_n 0, 1) := by decide +kernel
theorem dX4_noteShot_45 : decode cX4_noteShot 45 = .ok (.getfield 9, 3) := by decide +kernel
theorem dX4_noteShot_48 : decode cX4_noteShot 48 = .ok (.bipush 26, 2) := by decide +kernel
theorem dX4_noteShot_50 : decode cX4_noteShot 50 = .ok (.iaload, 1) := by decide +kernel
theorem dX4_noteShot_51 : decode cX4_noteShot 51 = .ok (.iadd, 1) := by decide +kernel
theorem dX4_noteShot_52 : decode cX4_noteShot 52 = .ok (.iload_n 1, 1) := by decide +kernel
theorem dX4_noteShot_53 : decode cX4_noteShot 53 = .ok (.iastore, 1) := by decide +kernel
theorem dX4_noteShot_54 : decode cX4_noteShot 54 = .ok (.aload_n 0, 1) := by decide +kernel
theorem dX4_noteShot_55 : decode cX4_noteShot 55 = .ok (.getfield 9, 3) := by decide +kernel
theorem dX4_noteShot_58 : decode cX4_noteShot 58 = .ok (.bipush 26, 2) := by decide +kernel
theorem dX4_noteShot_60 : decode cX4_noteShot 60 = .ok (.dup2, 1) := by decide +kernel
theorem dX4_noteShot_61 : decode cX4_noteShot 61 = .ok (.iaload, 1) := by decide +kernel
theorem dX4_noteShot_62 : decode cX4_noteShot 62 = .ok (.iconst 1, 1) := by decide +kernel
theorem dX4_noteShot_63 : decode cX4_noteShot 63 = .ok (.iadd, 1) := by decide +kernel
theorem dX4_noteShot_64 : decode cX4_noteShot 64 = .ok (.iastore, 1) := by decide +kernel
theorem dX4_noteShot_65 : decode cX4_noteShot 65 = .ok (.return_, 1) := by decide +kernel
theorem dX4_passDays_0 : decode cX4_passDays 0 = .ok (.iload_n 1, 1) := by decide +kernel
theorem dX4_passDays_1 : decode cX4_passDays 1 = .ok (.sipush 999, 3) := by decide +kernel
theorem dX4_passDays_4 : decode cX4_passDays 4 = .ok (.aload_n 0, 1) := by decide +kernel
theorem dX4_passDays_5 : decode cX4_passDays 5 = .ok (.getfield 9, 3) := by decide +kernel
theorem dX4_passDays_8 : decode cX4_passDays 8 = .ok (.bipush 16, 2) := by decide +kernel
theorem dX4_passDays_10 : decode cX4_passDays 10 = .ok (.iaload, 1) := by decide +kernel
theorem dX4_passDays_11 : decode cX4_passDays 11 = .ok (.isub, 1) := by decide +kernel
theorem dX4_passDays_12 : decode cX4_passDays 12 = .ok (.invokestatic 21, 3) := by decide +kernel
theorem dX4_passDays_15 : decode cX4_passDays 15 = .ok (.istore_n 2, 1) := by decide +kernel
theorem dX4_passDays_16 : decode cX4_passDays 16 = .ok (.aload_n 0, 1) := by decide +kernel
theorem dX4_passDays_17 : decode cX4_passDays 17 = .ok (.getfield 9, 3) := by decide +kernel
theorem dX4_passDays_20 : decode cX4_passDays 20 = .ok (.bipush 16, 2) := by decide +kernel
theorem dX4_passDays_22 : decode cX4_passDays 22 = .ok (.dup2, 1) := by decide +kernel
theorem dX4_passDays_23 : decode cX4_passDays 23 = .ok (.iaload, 1) := by decide +kernel
theorem dX4_passDays_24 : decode cX4_passDays 24 = .ok (.iload_n 2, 1) := by decide +kernel
theorem dX4_passDays_25 : decode cX4_passDays 25 = .ok (.iadd, 1) := by decide +kernel
theorem dX4_passDays_26 : decode cX4_passDays 26 = .ok (.iastore, 1) := by decide +kernel
theorem dX4_passDays_27 : decode cX4_passDays 27 = .ok (.aload_n 0, 1) := by decide +kernel
theorem dX4_passDays_28 : decode cX4_passDays 28 = .ok (.getfield 9, 3) := by decide +kernel
theorem dX4_passDays_31 : decode cX4_passDays 31 = .ok (.iconst 2, 1) := by decide +kernel
theorem dX4_passDays_32 : decode cX4_passDays 32 = .ok (.bipush 99, 2) := by decide +kernel
theorem dX4_passDays_34 : decode cX4_passDays 34 = .ok (.aload_n 0, 1) := by decide +kernel
theorem dX4_passDays_35 : decode cX4_passDays 35 = .ok (.getfield 9, 3) := by decide +kernel
theorem dX4_passDays_38 : decode cX4_passDays 38 = .ok (.iconst 2, 1) := by decide +kernel
theorem dX4_passDays_39 : decode cX4_passDays 39 = .ok (.iaload, 1) := by decide +kernel
theorem dX4_passDays_40 : decode cX4_passDays 40 = .ok (.iload_n 2, 1) := by decide +kernel
theorem dX4_passDays_41 : decode cX4_passDays 41 = .ok (.iadd, 1) := by decide +kernel
theorem dX4_passDays_42 : decode cX4_passDays 42 = .ok (.invokestatic 21, 3) := by decide +kernel
theorem dX4_passDays_45 : decode cX4_passDays 45 = .ok (.iastore, 1) := by decide +kernel
theorem dX4_passDays_46 : decode cX4_passDays 46 = .ok (.return_, 1) := by decide +kernel
theorem dX5_init_0 : decode cX5_init 0 = .ok (.aload_n 0, 1) := by decide +kernel
theorem dX5_init_1 : decode cX5_init 1 = .ok (.invokespecial 3, 3) := by decide +kernel
theorem dX5_init_4 : decode cX5_init 4 = .ok (.aload_n 0, 1) := by decide +kernel
theorem dX5_init_5 : decode cX5_init 5 = .ok (.new 9, 3) := by decide +kernel
theorem dX5_init_8 : decode cX5_init 8 = .ok (.dup, 1) := by decide +kernel
theorem dX5_init_9 : decode cX5_init 9 = .ok (.invokespecial 11, 3) := by decide +kernel
theorem dX5_init_12 : decode cX5_init 12 = .ok (.putfield 12, 3) := by decide +kernel
theorem dX5_init_15 : decode cX5_init 15 = .ok (.aload_n 0, 1) := by decide +kernel
theorem dX5_init_16 : decode cX5_init 16 = .ok (.aload_n 1, 1) := by decide +kernel
theorem dX5_init_17 : decode cX5_init 17 = .ok (.putfield 18, 3) := by decide +kernel
theorem dX5_init_20 : decode cX5_init 20 = .ok (.return_, 1) := by decide +kernel
theorem dX5_read_0 : decode cX5_read 0 = .ok (.aload_n 0, 1) := by decide +kernel
theorem dX5_read_1 : decode cX5_read 1 = .ok (.iload_n 1, 1) := by decide +kernel
theorem dX5_read_2 : decode cX5_read 2 = .ok (.putfield 22, 3) := by decide +kernel
theorem dX5_read_5 : decode cX5_read 5 = .ok (.aload_n 0, 1) := by decide +kernel
theorem dX5_read_6 : decode cX5_read 6 = .ok (.getfield 12, 3) := by decide +kernel
theorem dX5_read_9 : decode cX5_read 9 = .ok (.iconst 0, 1) := by decide +kernel
theorem dX5_read_10 : decode cX5_read 10 = .ok (.putfield 26, 3) := by decide +kernel
theorem dX5_read_13 : decode cX5_read 13 = .ok (.aload_n 0, 1) := by decide +kernel
theorem dX5_read_14 : decode cX5_read 14 = .ok (.getfield 12, 3) := by decide +kernel
theorem dX5_read_17 : decode cX5_read 17 = .ok (.iconst 0, 1) := by decide +kernel
theorem dX5_read_18 : decode cX5_read 18 = .ok (.putfield 30, 3) := by decide +kernel
theorem dX5_read_21 : decode cX5_read 21 = .ok (.aload_n 0, 1) := by decide +kernel
theorem dX5_read_22 : decode cX5_read 22 = .ok (.iconst 0, 1) := by decide +kernel
theorem dX5_read_23 : decode cX5_read 23 = .ok (.putfield 33, 3) := by decide +kernel
theorem dX5_read_26 : decode cX5_read 26 = .ok (.aload_n 0, 1) := by decide +kernel
theorem dX5_read_27 : decode cX5_read 27 = .ok (.iconst 0, 1) := by decide +kernel
theorem dX5_read_28 : decode cX5_read 28 = .ok (.putfield 36, 3) := by decide +kernel
theorem dX5_read_31 : decode cX5_read 31 = .ok (.aload_n 0, 1) := by decide +kernel
theorem dX5_read_32 : decode cX5_read 32 = .ok (.iconst 0, 1) := by decide +kernel
theorem dX5_read_33 : decode cX5_read 33 = .ok (.putfield 39, 3) := by decide +kernel
theorem dX5_read_36 : decode cX5_read 36 = .ok (.aload_n 0, 1) := by decide +kernel
theorem dX5_read_37 : decode cX5_read 37 = .ok (.invokevirtual 42, 3) := by decide +kernel
theorem dX5_read_40 : decode cX5_read 40 = .ok (.iconst 0, 1) := by decide +kernel
theorem dX5_read_41 : decode cX5_read 41 = .ok (.istore_n 2, 1) := by decide +kernel
theorem dX5_read_42 : decode cX5_read 42 = .ok (.iload_n 2, 1) := by decide +kernel
theorem dX5_read_43 : decode cX5_read 43 = .ok (.bipush 12, 2) := by decide +kernel
theorem dX5_read_45 : decode cX5_read 45 = .ok (.if_icmp .ge 77, 3) := by decide +kernel
theorem dX5_read_48 : decode cX5_read 48 = .ok (.aload_n 0, 1) := by decide +kernel
theorem dX5_read_49 : decode cX5_read 49 = .ok (.getfield 22, 3) := by decide +kernel
theorem dX5_read_52 : decode cX5_read 52 = .ok (.ifCond .eq 14, 3) := by decide +kernel
theorem dX5_read_55 : decode cX5_read 55 = .ok (.aload_n 0, 1) := by decide +kernel
theorem dX5_read_56 : decode cX5_read 56 = .ok (.iload_n 2, 1) := by decide +kernel
theorem dX5_read_57 : decode cX5_read 57 = .ok (.invokevirtual 45, 3) := by decide +kernel
theorem dX5_read_60 : decode cX5_read 60 = .ok (.ifCond .eq 14, 3) := by decide +kernel
theorem dX5_read_63 : decode cX5_read 63 = .ok (.goto 16, 3) := by decide +kernel
theorem dX5_read_66 : decode cX5_read 66 = .ok (.aload_n 0, 1) := by decide +kernel
theorem dX5_read_67 : decode cX5_read 67 = .ok (.iload_n 2, 1) := by decide +kernel
theorem dX5_read_68 : decode cX5_read 68 = .ok (.invokevirtual 49, 3) := by decide +kernel
theorem dX5_read_71 : decode cX5_read 71 = .ok (.ifCond .ne 8, 3) := by decide +kernel
theorem dX5_read_74 : decode cX5_read 74 = .ok (.aload_n 0, 1) := by decide +kernel
theorem dX5_read_75 : decode cX5_read 75 = .ok (.getfield 52, 3) := by decide +kernel
theorem dX5_read_78 : decode cX5_read 78 = .ok (.ireturn, 1) := by decide +kernel
theorem dX5_read_79 : decode cX5_read 79 = .ok (.aload_n 0, 1) := by decide +kernel
theorem dX5_read_80 : decode cX5_read 80 = .ok (.getfield 12, 3) := by decide +kernel
theorem dX5_read_83 : decode cX5_read 83 = .ok (.iload_n 2, 1) := by decide +kernel
theorem dX5_read_84 : decode cX5_read 84 = .ok (.iconst 1, 1) := by decide +kernel
theorem dX5_read_85 : decode cX5_read 85 = .ok (.iadd, 1) := by decide +kernel
theorem dX5_read_86 : decode cX5_read 86 = .ok (.putfield 30, 3) := by decide +kernel
theorem dX5_read_89 : decode cX5_read 89 = .ok (.aload_n 0, 1) := by decide +kernel
theorem dX5_read_90 : decode cX5_read 90 = .ok (.getfield 55, 3) := by decide +kernel
theorem dX5_read_93 : decode cX5_read 93 = .ok (.ifCond .ne 5, 3) := by decide +kernel
theorem dX5_read_96 : decode cX5_read 96 = .ok (.iconst (-1), 1) := by decide +kernel
theorem dX5_read_97 : decode cX5_read 97 = .ok (.ireturn, 1) := by decide +kernel
theorem dX5_read_98 : decode cX5_read 98 = .ok (.aload_n 0, 1) := by decide +kernel
theorem dX5_read_99 : decode cX5_read 99 = .ok (.bipush 59, 2) := by decide +kernel
theorem dX5_read_101 : decode cX5_read 101 = .ok (.invokevirtual 58, 3) := by decide +kernel
theorem dX5_read_104 : decode cX5_read 104 = .ok (.ifCond .ne 8, 3) := by decide +kernel
theorem dX5_read_107 : decode cX5_read 107 = .ok (.aload_n 0, 1) := by decide +kernel
theorem dX5_read_108 : decode cX5_read 108 = .ok (.getfield 52, 3) := by decide +kernel
theorem dX5_read_111 : decode cX5_read 111 = .ok (.ireturn, 1) := by decide +kernel
theorem dX5_read_112 : decode cX5_read 112 = .ok (.aload_n 0, 1) := by decide +kernel
theorem dX5_read_113 : decode cX5_read 113 = .ok (.invokevirtual 42, 3) := by decide +kernel
theorem dX5_read_116 : decode cX5_read 116 = .ok (.iinc 2 1, 3) := by decide +kernel
theorem dX5_read_119 : decode cX5_read 119 = .ok (.goto (-77), 3) := by decide +kernel
theorem dX5_read_122 : decode cX5_read 122 = .ok (.aload_n 0, 1) := by decide +kernel
theorem dX5_read_123 : decode cX5_read 123 = .ok (.getfield 52, 3) := by decide +kernel
theorem dX5_read_126 : decode cX5_read 126 = .ok (.ireturn, 1) := by decide +kernel
theorem dX5_readLawClause_0 : decode cX5_readLawClause 0 = .ok (.aload_n 0, 1) := by decide +kernel
theorem dX5_readLawClause_1 : decode cX5_readLawClause 1 = .ok (.ldc 62, 2) := by decide +kernel
theorem dX5_readLawClause_3 : decode cX5_readLawClause 3 = .ok (.invokevirtual 64, 3) := by decide +kernel
theorem dX5_readLawClause_6 : decode cX5_readLawClause 6 = .ok (.istore_n 2, 1) := by decide +kernel
theorem dX5_readLawClause_7 : decode cX5_readLawClause 7 = .ok (.iload_n 2, 1) := by decide +kernel
theorem dX5_readLawClause_8 : decode cX5_readLawClause 8 = .ok (.iconst (-1), 1) := by decide +kernel
theorem dX5_readLawClause_9 : decode cX5_readLawClause 9 = .ok (.if_icmp .ne 5, 3) := by decide +kernel
theorem dX5_readLawClause_12 : decode cX5_readLawClause 12 = .ok (.iconst 0, 1) := by decide +kernel
theorem dX5_readLawClause_13 : decode cX5_readLawClause 13 = .ok (.ireturn, 1) := by decide +kernel
theorem dX5_readLawClause_14 : decode cX5_readLawClause 14 = .ok (.aload_n 0, 1) := by decide +kernel
theorem dX5_readLawClause_15 : decode cX5_readLawClause 15 = .ok (.getfield 12, 3) := by decide +kernel
theorem dX5_readLawClause_18 : decode cX5_readLawClause 18 = .ok (.iload_n 1, 1) := by decide +kernel
theorem dX5_readLawClause_19 : decode cX5_readLawClause 19 = .ok (.iconst 0, 1) := by decide +kernel
theorem dX5_readLawClause_20 : decode cX5_readLawClause 20 = .ok (.iload_n 2, 1) := by decide +kernel
theorem dX5_readLawClause_21 : decode cX5_readLawClause 21 = .ok (.invokevirtual 68, 3) := by decide +kernel
theorem dX5_readLawClause_24 : decode cX5_readLawClause 24 = .ok (.aload_n 0, 1) := by decide +kernel
theorem dX5_readLawClause_25 : decode cX5_readLawClause 25 = .ok (.getfield 12, 3) := by decide +kernel
theorem dX5_readLawClause_28 : decode cX5_readLawClause 28 = .ok (.iload_n 1, 1) := by decide +kernel
theorem dX5_readLawClause_29 : decode cX5_readLawClause 29 = .ok (.iconst 1, 1) := by decide +kernel
theorem dX5_readLawClause_30 : decode cX5_readLawClause 30 = .ok (.iconst 1, 1) := by decide +kernel
theorem dX5_readLawClause_31 : decode cX5_readLawClause 31 = .ok (.invokevirtual 68, 3) := by decide +kernel
theorem dX5_readLawClause_34 : decode cX5_readLawClause 34 = .ok (.aload_n 0, 1) := by decide +kernel
theorem dX5_readLawClause_35 : decode cX5_readLawClause 35 = .ok (.getfield 12, 3) := by decide +kernel
theorem dX5_readLawClause_38 : decode cX5_readLawClause 38 = .ok (.iload_n 1, 1) := by decide +kernel
theorem dX5_readLawClause_39 : decode cX5_readLawClause 39 = .ok (.iconst 2, 1) := by decide +kernel
theorem dX5_readLawClause_40 : decode cX5_readLawClause 40 = .ok (.aload_n 0, 1) := by decide +kernel
theorem dX5_readLawClause_41 : decode cX5_readLawClause 41 = .ok (.getfield 12, 3) := by decide +kernel
theorem dX5_readLawClause_44 : decode cX5_readLawClause 44 = .ok (.getfield 26, 3) := by decide +kernel
theorem dX5_readLawClause_47 : decode cX5_readLawClause 47 = .ok (.invokevirtual 68, 3) := by decide +kernel
theorem dX5_readLawClause_50 : decode cX5_readLawClause 50 = .ok (.aload_n 0, 1) := by decide +kernel
theorem dX5_readLawClause_51 : decode cX5_readLawClause 51 = .ok (.invokevirtual 42, 3) := by decide +kernel
theorem dX5_readLawClause_54 : decode cX5_readLawClause 54 = .ok (.iload_n 2, 1) := by decide +kernel
theorem dX5_readLawClause_55 : decode cX5_readLawClause 55 = .ok (.iconst 4, 1) := by decide +kernel
theorem dX5_readLawClause_56 : decode cX5_readLawClause 56 = .ok (.if_icmp .eq 12, 3) := by decide +kernel
theorem dX5_readLawClause_59 : decode cX5_readLawClause 59 = .ok (.aload_n 0, 1) := by decide +kernel
theorem dX5_readLawClause_60 : decode cX5_readLawClause 60 = .ok (.invokevirtual 72, 3) := by decide +kernel
theorem dX5_readLawClause_63 : decode cX5_readLawClause 63 = .ok (.ifCond .ne 5, 3) := by decide +kernel
theorem dX5_readLawClause_66 : decode cX5_readLawClause 66 = .ok (.iconst 0, 1) := by decide +kernel
theorem dX5_readLawClause_67 : decode cX5_readLawClause 67 = .ok (.ireturn, 1) := by decide +kernel
theorem dX5_readLawClause_68 : decode cX5_readLawClause 68 = .ok (.aload_n 0, 1) := by decide +kernel
theorem dX5_readLawClause_69 : decode cX5_readLawClause 69 = .ok (.getfield 12, 3) := by decide +kernel
theorem dX5_readLawClause_72 : decode cX5_readLawClause 72 = .ok (.iload_n 1, 1) := by decide +kernel
theorem dX5_readLawClause_73 : decode cX5_readLawClause 73 = .ok (.iconst 3, 1) := by decide +kernel
theorem dX5_readLawClause_74 : decode cX5_readLawClause 74 = .ok (.aload_n 0, 1) := by decide +kernel
theorem dX5_readLawClause_75 : decode cX5_readLawClause 75 = .ok (.getfield 12, 3) := by decide +kernel
theorem dX5_readLawClause_78 : decode cX5_readLawClause 78 = .ok (.getfield 26, 3) := by decide +kernel
theorem dX5_readLawClause_81 : decode cX5_readLawClause 81 = .ok (.invokevirtual 68, 3) := by decide +kernel
theorem dX5_readLawClause_84 : decode cX5_readLawClause 84 = .ok (.aload_n 0, 1) := by decide +kernel
theorem dX5_readLawClause_85 : decode cX5_readLawClause 85 = .ok (.iload_n 1, 1) := by decide +kernel
theorem dX5_readLawClause_86 : decode cX5_readLawClause 86 = .ok (.invokevirtual 76, 3) := by decide +kernel
theorem dX5_readLawClause_89 : decode cX5_readLawClause 89 = .ok (.ireturn, 1) := by decide +kernel
theorem dX5_readOrder_0 : decode cX5_readOrder 0 = .ok (.aload_n 0, 1) := by decide +kernel
theorem dX5_readOrder_1 : decode cX5_readOrder 1 = .ok (.ldc 79, 2) := by decide +kernel
theorem dX5_readOrder_3 : decode cX5_readOrder 3 = .ok (.invokevirtual 64, 3) := by decide +kernel
theorem dX5_readOrder_6 : decode cX5_readOrder 6 = .ok (.istore_n 2, 1) := by decide +kernel
theorem dX5_readOrder_7 : decode cX5_readOrder 7 = .ok (.iload_n 2, 1) := by decide +kernel
theorem dX5_readOrder_8 : decode cX5_readOrder 8 = .ok (.iconst (-1), 1) := by decide +kernel
theorem dX5_readOrder_9 : decode cX5_readOrder 9 = .ok (.if_icmp .ne 5, 3) := by decide +kernel
theorem dX5_readOrder_12 : decode cX5_readOrder 12 = .ok (.iconst 0, 1) := by decide +kernel
theorem dX5_readOrder_13 : decode cX5_readOrder 13 = .ok (.ireturn, 1) := by decide +kernel
theorem dX5_readOrder_14 : decode cX5_readOrder 14 = .ok (.aload_n 0, 1) := by decide +kernel
theorem dX5_readOrder_15 : decode cX5_readOrder 15 = .ok (.getfield 12, 3) := by decide +kernel
theorem dX5_readOrder_18 : decode cX5_readOrder 18 = .ok (.iload_n 1, 1) := by decide +kernel
theorem dX5_readOrder_19 : decode cX5_readOrder 19 = .ok (.iconst 0, 1) := by decide +kernel
theorem dX5_readOrder_20 : decode cX5_readOrder 20 = .ok (.iload_n 2, 1) := by decide +kernel
theorem dX5_readOrder_21 : decode cX5_readOrder 21 = .ok (.invokevirtual 68, 3) := by decide +kernel
theorem dX5_readOrder_24 : decode cX5_readOrder 24 = .ok (.aload_n 0, 1) := by decide +kernel
theorem dX5_readOrder_25 : decode cX5_readOrder 25 = .ok (.getfield 12, 3) := by decide +kernel
theorem dX5_readOrder_28 : decode cX5_readOrder 28 = .ok (.iload_n 1, 1) := by decide +kernel
theorem dX5_readOrder_29 : decode cX5_readOrder 29 = .ok (.iconst 2, 1) := by decide +kernel
theorem dX5_readOrder_30 : decode cX5_readOrder 30 = .ok (.aload_n 0, 1) := by decide +kernel
theorem dX5_readOrder_31 : decode cX5_readOrder 31 = .ok (.getfield 12, 3) := by decide +kernel
theorem dX5_readOrder_34 : decode cX5_readOrder 34 = .ok (.getfield 26, 3) := by decide +kernel
theorem dX5_readOrder_37 : decode cX5_readOrder 37 = .ok (.invokevirtual 68, 3) := by decide +kernel
theorem dX5_readOrder_40 : decode cX5_readOrder 40 = .ok (.aload_n 0, 1) := by decide +kernel
theorem dX5_readOrder_41 : decode cX5_readOrder 41 = .ok (.invokevirtual 42, 3) := by decide +kernel
theorem dX5_readOrder_44 : decode cX5_readOrder 44 = .ok (.aload_n 0, 1) := by decide +kernel
theorem dX5_readOrder_45 : decode cX5_readOrder 45 = .ok (.invokevirtual 72, 3) := by decide +kernel
theorem dX5_readOrder_48 : decode cX5_readOrder 48 = .ok (.ifCond .ne 5, 3) := by decide +kernel
theorem dX5_readOrder_51 : decode cX5_readOrder 51 = .ok (.iconst 0, 1) := by decide +kernel
theorem dX5_readOrder_52 : decode cX5_readOrder 52 = .ok (.ireturn, 1) := by decide +kernel
theorem dX5_readOrder_53 : decode cX5_readOrder 53 = .ok (.aload_n 0, 1) := by decide +kernel
theorem dX5_readOrder_54 : decode cX5_readOrder 54 = .ok (.getfield 12, 3) := by decide +kernel
theorem dX5_readOrder_57 : decode cX5_readOrder 57 = .ok (.iload_n 1, 1) := by decide +kernel
theorem dX5_readOrder_58 : decode cX5_readOrder 58 = .ok (.iconst 3, 1) := by decide +kernel
theorem dX5_readOrder_59 : decode cX5_readOrder 59 = .ok (.aload_n 0, 1) := by decide +kernel
theorem dX5_readOrder_60 : decode cX5_readOrder 60 = .ok (.getfield 12, 3) := by decide +kernel
theorem dX5_readOrder_63 : decode cX5_readOrder 63 = .ok (.getfield 26, 3) := by decide +kernel
theorem dX5_readOrder_66 : decode cX5_readOrder 66 = .ok (.invokevirtual 68, 3) := by decide +kernel
theorem dX5_readOrder_69 : decode cX5_readOrder 69 = .ok (.iload_n 2, 1) := by decide +kernel
theorem dX5_readOrder_70 : decode cX5_readOrder 70 = .ok (.iconst 2, 1) := by decide +kernel
theorem dX5_readOrder_71 : decode cX5_readOrder 71 = .ok (.if_icmp .eq 37, 3) := by decide +kernel
theorem dX5_readOrder_74 : decode cX5_readOrder 74 = .ok (.aload_n 0, 1) := by decide +kernel
theorem dX5_readOrder_75 : decode cX5_readOrder 75 = .ok (.iload_n 2, 1) := by decide +kernel
theorem dX5_readOrder_76 : decode cX5_readOrder 76 = .ok (.ifCond .ne 8, 3) := by decide +kernel
theorem dX5_readOrder_79 : decode cX5_readOrder 79 = .ok (.ldc 81, 2) := by decide +kernel
theorem dX5_readOrder_81 : decode cX5_readOrder 81 = .ok (.goto 5, 3) := by decide +kernel
theorem dX5_readOrder_84 : decode cX5_readOrder 84 = .ok (.ldc 83, 2) := by decide +kernel
theorem dX5_readOrder_86 : decode cX5_readOrder 86 = .ok (.invokevirtual 64, 3) := by decide +kernel
theorem dX5_readOrder_89 : decode cX5_readOrder 89 = .ok (.iconst (-1), 1) := by decide +kernel
theorem dX5_readOrder_90 : decode cX5_readOrder 90 = .ok (.if_icmp .ne 5, 3) := by decide +kernel
theorem dX5_readOrder_93 : decode cX5_readOrder 93 = .ok (.iconst 0, 1) := by decide +kernel
theorem dX5_readOrder_94 : decode cX5_readOrder 94 = .ok (.ireturn, 1) := by decide +kernel
theorem dX5_readOrder_95 : decode cX5_readOrder 95 = .ok (.aload_n 0, 1) := by decide +kernel
theorem dX5_readOrder_96 : decode cX5_readOrder 96 = .ok (.invokevirtual 42, 3) := by decide +kernel
theorem dX5_readOrder_99 : decode cX5_readOrder 99 = .ok (.aload_n 0, 1) := by decide +kernel
theorem dX5_readOrder_100 : decode cX5_readOrder 100 = .ok (.invokevirtual 72, 3) := by decide +kernel
theorem dX5_readOrder_103 : decode cX5_readOrder 103 = .ok (.ifCond .ne 5, 3) := by decide +kernel
theorem dX5_readOrder_106 : decode cX5_readOrder 106 = .ok (.iconst 0, 1) := by decide +kernel
theorem dX5_readOrder_107 : decode cX5_readOrder 107 = .ok (.ireturn, 1) := by decide +kernel
theorem dX5_readOrder_108 : decode cX5_readOrder 108 = .ok (.aload_n 0, 1) := by decide +kernel
theorem dX5_readOrder_109 : decode cX5_readOrder 109 = .ok (.iload_n 1, 1) := by decide +kernel
theorem dX5_readOrder_110 : decode cX5_readOrder 110 = .ok (.invokevirtual 85, 3) := by decide +kernel
theorem dX5_readOrder_113 : decode cX5_readOrder 113 = .ok (.ifCond .eq 15, 3) := by decide +kernel
theorem dX5_readOrder_116 : decode cX5_readOrder 116 = .ok (.aload_n 0, 1) := by decide +kernel
theorem dX5_readOrder_117 : decode cX5_readOrder 117 = .ok (.iload_n 1, 1) := by decide +kernel
theorem dX5_readOrder_118 : decode cX5_readOrder 118 = .ok (.invokevirtual 76, 3) := by decide +kernel
theorem dX5_readOrder_121 : decode cX5_readOrder 121 = .ok (.ifCond .eq 7, 3) := by decide +kernel
theorem dX5_readOrder_124 : decode cX5_readOrder 124 = .ok (.iconst 1, 1) := by decide +kernel
theorem dX5_readOrder_125 : decode cX5_readOrder 125 = .ok (.goto 4, 3) := by decide +kernel
theorem dX5_readOrder_128 : decode cX5_readOrder 128 = .ok (.iconst 0, 1) := by decide +kernel
theorem dX5_readOrder_129 : decode cX5_readOrder 129 = .ok (.ireturn, 1) := by decide +kernel
theorem dX5_readTimes_0 : decode cX5_readTimes 0 = .ok (.aload_n 0, 1) := by decide +kernel
theorem dX5_readTimes_1 : decode cX5_readTimes 1 = .ok (.getfield 12, 3) := by decide +kernel
theorem dX5_readTimes_4 : decode cX5_readTimes 4 = .ok (.iload_n 1, 1) := by decide +kernel
theorem dX5_readTimes_5 : decode cX5_readTimes 5 = .ok (.iconst 1, 1) := by decide +kernel
theorem dX5_readTimes_6 : decode cX5_readTimes 6 = .ok (.iconst 1, 1) := by decide +kernel
