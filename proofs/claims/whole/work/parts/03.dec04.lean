theorem dX8_setWords_5 : decode cX8_setWords 5 = .ok (.iload_n 2, 1) := by decide +kernel
theorem dX8_setWords_6 : decode cX8_setWords 6 = .ok (.iastore, 1) := by decide +kernel
theorem dX8_setWords_7 : decode cX8_setWords 7 = .ok (.aload_n 0, 1) := by decide +kernel
theorem dX8_setWords_8 : decode cX8_setWords 8 = .ok (.getfield 9, 3) := by decide +kernel
theorem dX8_setWords_11 : decode cX8_setWords 11 = .ok (.iconst 1, 1) := by decide +kernel
theorem dX8_setWords_12 : decode cX8_setWords 12 = .ok (.iload_n 2, 1) := by decide +kernel
theorem dX8_setWords_13 : decode cX8_setWords 13 = .ok (.iconst (-1), 1) := by decide +kernel
theorem dX8_setWords_14 : decode cX8_setWords 14 = .ok (.if_icmp .ne 7, 3) := by decide +kernel
theorem dX8_setWords_17 : decode cX8_setWords 17 = .ok (.iconst (-1), 1) := by decide +kernel
theorem dX8_setWords_18 : decode cX8_setWords 18 = .ok (.goto 12, 3) := by decide +kernel
theorem dX8_setWords_21 : decode cX8_setWords 21 = .ok (.aload_n 1, 1) := by decide +kernel
theorem dX8_setWords_22 : decode cX8_setWords 22 = .ok (.getfield 65, 3) := by decide +kernel
theorem dX8_setWords_25 : decode cX8_setWords 25 = .ok (.bipush 63, 2) := by decide +kernel
theorem dX8_setWords_27 : decode cX8_setWords 27 = .ok (.iload_n 2, 1) := by decide +kernel
theorem dX8_setWords_28 : decode cX8_setWords 28 = .ok (.iadd, 1) := by decide +kernel
theorem dX8_setWords_29 : decode cX8_setWords 29 = .ok (.iaload, 1) := by decide +kernel
theorem dX8_setWords_30 : decode cX8_setWords 30 = .ok (.iastore, 1) := by decide +kernel
theorem dX8_setWords_31 : decode cX8_setWords 31 = .ok (.aload_n 0, 1) := by decide +kernel
theorem dX8_setWords_32 : decode cX8_setWords 32 = .ok (.getfield 9, 3) := by decide +kernel
theorem dX8_setWords_35 : decode cX8_setWords 35 = .ok (.iconst 2, 1) := by decide +kernel
theorem dX8_setWords_36 : decode cX8_setWords 36 = .ok (.iload_n 3, 1) := by decide +kernel
theorem dX8_setWords_37 : decode cX8_setWords 37 = .ok (.iastore, 1) := by decide +kernel
theorem dX8_setWords_38 : decode cX8_setWords 38 = .ok (.aload_n 0, 1) := by decide +kernel
theorem dX8_setWords_39 : decode cX8_setWords 39 = .ok (.getfield 9, 3) := by decide +kernel
theorem dX8_setWords_42 : decode cX8_setWords 42 = .ok (.iconst 3, 1) := by decide +kernel
theorem dX8_setWords_43 : decode cX8_setWords 43 = .ok (.aload_n 1, 1) := by decide +kernel
theorem dX8_setWords_44 : decode cX8_setWords 44 = .ok (.getfield 65, 3) := by decide +kernel
theorem dX8_setWords_47 : decode cX8_setWords 47 = .ok (.bipush 27, 2) := by decide +kernel
theorem dX8_setWords_49 : decode cX8_setWords 49 = .ok (.iload_n 3, 1) := by decide +kernel
theorem dX8_setWords_50 : decode cX8_setWords 50 = .ok (.iadd, 1) := by decide +kernel
theorem dX8_setWords_51 : decode cX8_setWords 51 = .ok (.iaload, 1) := by decide +kernel
theorem dX8_setWords_52 : decode cX8_setWords 52 = .ok (.iastore, 1) := by decide +kernel
theorem dX8_setWords_53 : decode cX8_setWords 53 = .ok (.aload_n 0, 1) := by decide +kernel
theorem dX8_setWords_54 : decode cX8_setWords 54 = .ok (.getfield 9, 3) := by decide +kernel
theorem dX8_setWords_57 : decode cX8_setWords 57 = .ok (.iconst 4, 1) := by decide +kernel
theorem dX8_setWords_58 : decode cX8_setWords 58 = .ok (.aload_n 1, 1) := by decide +kernel
theorem dX8_setWords_59 : decode cX8_setWords 59 = .ok (.getfield 65, 3) := by decide +kernel
theorem dX8_setWords_62 : decode cX8_setWords 62 = .ok (.bipush 39, 2) := by decide +kernel
theorem dX8_setWords_64 : decode cX8_setWords 64 = .ok (.iload_n 3, 1) := by decide +kernel
theorem dX8_setWords_65 : decode cX8_setWords 65 = .ok (.iadd, 1) := by decide +kernel
theorem dX8_setWords_66 : decode cX8_setWords 66 = .ok (.iaload, 1) := by decide +kernel
theorem dX8_setWords_67 : decode cX8_setWords 67 = .ok (.iastore, 1) := by decide +kernel
theorem dX8_setWords_68 : decode cX8_setWords 68 = .ok (.aload_n 0, 1) := by decide +kernel
theorem dX8_setWords_69 : decode cX8_setWords 69 = .ok (.getfield 9, 3) := by decide +kernel
theorem dX8_setWords_72 : decode cX8_setWords 72 = .ok (.iconst 5, 1) := by decide +kernel
theorem dX8_setWords_73 : decode cX8_setWords 73 = .ok (.aload_n 1, 1) := by decide +kernel
theorem dX8_setWords_74 : decode cX8_setWords 74 = .ok (.getfield 65, 3) := by decide +kernel
theorem dX8_setWords_77 : decode cX8_setWords 77 = .ok (.iconst 4, 1) := by decide +kernel
theorem dX8_setWords_78 : decode cX8_setWords 78 = .ok (.iload_n 3, 1) := by decide +kernel
theorem dX8_setWords_79 : decode cX8_setWords 79 = .ok (.iadd, 1) := by decide +kernel
theorem dX8_setWords_80 : decode cX8_setWords 80 = .ok (.iaload, 1) := by decide +kernel
theorem dX8_setWords_81 : decode cX8_setWords 81 = .ok (.iastore, 1) := by decide +kernel
theorem dX8_setWords_82 : decode cX8_setWords 82 = .ok (.aload_n 0, 1) := by decide +kernel
theorem dX8_setWords_83 : decode cX8_setWords 83 = .ok (.getfield 9, 3) := by decide +kernel
theorem dX8_setWords_86 : decode cX8_setWords 86 = .ok (.bipush 6, 2) := by decide +kernel
theorem dX8_setWords_88 : decode cX8_setWords 88 = .ok (.aload_n 1, 1) := by decide +kernel
theorem dX8_setWords_89 : decode cX8_setWords 89 = .ok (.getfield 65, 3) := by decide +kernel
theorem dX8_setWords_92 : decode cX8_setWords 92 = .ok (.iconst 0, 1) := by decide +kernel
theorem dX8_setWords_93 : decode cX8_setWords 93 = .ok (.iaload, 1) := by decide +kernel
theorem dX8_setWords_94 : decode cX8_setWords 94 = .ok (.iastore, 1) := by decide +kernel
theorem dX8_setWords_95 : decode cX8_setWords 95 = .ok (.aload_n 0, 1) := by decide +kernel
theorem dX8_setWords_96 : decode cX8_setWords 96 = .ok (.getfield 9, 3) := by decide +kernel
theorem dX8_setWords_99 : decode cX8_setWords 99 = .ok (.bipush 7, 2) := by decide +kernel
theorem dX8_setWords_101 : decode cX8_setWords 101 = .ok (.aload_n 1, 1) := by decide +kernel
theorem dX8_setWords_102 : decode cX8_setWords 102 = .ok (.getfield 65, 3) := by decide +kernel
theorem dX8_setWords_105 : decode cX8_setWords 105 = .ok (.iconst 1, 1) := by decide +kernel
theorem dX8_setWords_106 : decode cX8_setWords 106 = .ok (.iaload, 1) := by decide +kernel
theorem dX8_setWords_107 : decode cX8_setWords 107 = .ok (.iastore, 1) := by decide +kernel
theorem dX8_setWords_108 : decode cX8_setWords 108 = .ok (.aload_n 0, 1) := by decide +kernel
theorem dX8_setWords_109 : decode cX8_setWords 109 = .ok (.getfield 9, 3) := by decide +kernel
theorem dX8_setWords_112 : decode cX8_setWords 112 = .ok (.bipush 8, 2) := by decide +kernel
theorem dX8_setWords_114 : decode cX8_setWords 114 = .ok (.aload_n 1, 1) := by decide +kernel
theorem dX8_setWords_115 : decode cX8_setWords 115 = .ok (.getfield 65, 3) := by decide +kernel
theorem dX8_setWords_118 : decode cX8_setWords 118 = .ok (.iconst 2, 1) := by decide +kernel
theorem dX8_setWords_119 : decode cX8_setWords 119 = .ok (.iaload, 1) := by decide +kernel
theorem dX8_setWords_120 : decode cX8_setWords 120 = .ok (.iastore, 1) := by decide +kernel
theorem dX8_setWords_121 : decode cX8_setWords 121 = .ok (.aload_n 0, 1) := by decide +kernel
theorem dX8_setWords_122 : decode cX8_setWords 122 = .ok (.getfield 9, 3) := by decide +kernel
theorem dX8_setWords_125 : decode cX8_setWords 125 = .ok (.bipush 9, 2) := by decide +kernel
theorem dX8_setWords_127 : decode cX8_setWords 127 = .ok (.aload_n 1, 1) := by decide +kernel
theorem dX8_setWords_128 : decode cX8_setWords 128 = .ok (.getfield 65, 3) := by decide +kernel
theorem dX8_setWords_131 : decode cX8_setWords 131 = .ok (.bipush 16, 2) := by decide +kernel
theorem dX8_setWords_133 : decode cX8_setWords 133 = .ok (.iaload, 1) := by decide +kernel
theorem dX8_setWords_134 : decode cX8_setWords 134 = .ok (.iastore, 1) := by decide +kernel
theorem dX8_setWords_135 : decode cX8_setWords 135 = .ok (.aload_n 0, 1) := by decide +kernel
theorem dX8_setWords_136 : decode cX8_setWords 136 = .ok (.getfield 9, 3) := by decide +kernel
theorem dX8_setWords_139 : decode cX8_setWords 139 = .ok (.bipush 10, 2) := by decide +kernel
theorem dX8_setWords_141 : decode cX8_setWords 141 = .ok (.aload_n 1, 1) := by decide +kernel
theorem dX8_setWords_142 : decode cX8_setWords 142 = .ok (.getfield 65, 3) := by decide +kernel
theorem dX8_setWords_145 : decode cX8_setWords 145 = .ok (.bipush 20, 2) := by decide +kernel
theorem dX8_setWords_147 : decode cX8_setWords 147 = .ok (.iaload, 1) := by decide +kernel
theorem dX8_setWords_148 : decode cX8_setWords 148 = .ok (.iastore, 1) := by decide +kernel
theorem dX8_setWords_149 : decode cX8_setWords 149 = .ok (.return_, 1) := by decide +kernel
theorem dX8_shoot_0 : decode cX8_shoot 0 = .ok (.aload_n 1, 1) := by decide +kernel
theorem dX8_shoot_1 : decode cX8_shoot 1 = .ok (.getfield 65, 3) := by decide +kernel
theorem dX8_shoot_4 : decode cX8_shoot 4 = .ok (.iconst 0, 1) := by decide +kernel
theorem dX8_shoot_5 : decode cX8_shoot 5 = .ok (.iaload, 1) := by decide +kernel
theorem dX8_shoot_6 : decode cX8_shoot 6 = .ok (.aload_n 0, 1) := by decide +kernel
theorem dX8_shoot_7 : decode cX8_shoot 7 = .ok (.aload_n 1, 1) := by decide +kernel
theorem dX8_shoot_8 : decode cX8_shoot 8 = .ok (.iconst 1, 1) := by decide +kernel
theorem dX8_shoot_9 : decode cX8_shoot 9 = .ok (.iconst (-1), 1) := by decide +kernel
theorem dX8_shoot_10 : decode cX8_shoot 10 = .ok (.iload_n 3, 1) := by decide +kernel
theorem dX8_shoot_11 : decode cX8_shoot 11 = .ok (.invokevirtual 70, 3) := by decide +kernel
theorem dX8_shoot_14 : decode cX8_shoot 14 = .ok (.invokestatic 57, 3) := by decide +kernel
theorem dX8_shoot_17 : decode cX8_shoot 17 = .ok (.istore 4, 2) := by decide +kernel
theorem dX8_shoot_19 : decode cX8_shoot 19 = .ok (.aload_n 0, 1) := by decide +kernel
theorem dX8_shoot_20 : decode cX8_shoot 20 = .ok (.aload_n 1, 1) := by decide +kernel
theorem dX8_shoot_21 : decode cX8_shoot 21 = .ok (.iconst 2, 1) := by decide +kernel
theorem dX8_shoot_22 : decode cX8_shoot 22 = .ok (.iconst (-1), 1) := by decide +kernel
theorem dX8_shoot_23 : decode cX8_shoot 23 = .ok (.iload_n 3, 1) := by decide +kernel
theorem dX8_shoot_24 : decode cX8_shoot 24 = .ok (.invokevirtual 70, 3) := by decide +kernel
theorem dX8_shoot_27 : decode cX8_shoot 27 = .ok (.istore 5, 2) := by decide +kernel
theorem dX8_shoot_29 : decode cX8_shoot 29 = .ok (.aload_n 1, 1) := by decide +kernel
theorem dX8_shoot_30 : decode cX8_shoot 30 = .ok (.getfield 65, 3) := by decide +kernel
theorem dX8_shoot_33 : decode cX8_shoot 33 = .ok (.iconst 0, 1) := by decide +kernel
theorem dX8_shoot_34 : decode cX8_shoot 34 = .ok (.dup2, 1) := by decide +kernel
theorem dX8_shoot_35 : decode cX8_shoot 35 = .ok (.iaload, 1) := by decide +kernel
theorem dX8_shoot_36 : decode cX8_shoot 36 = .ok (.iload 4, 2) := by decide +kernel
theorem dX8_shoot_38 : decode cX8_shoot 38 = .ok (.isub, 1) := by decide +kernel
theorem dX8_shoot_39 : decode cX8_shoot 39 = .ok (.iastore, 1) := by decide +kernel
theorem dX8_shoot_40 : decode cX8_shoot 40 = .ok (.aload_n 1, 1) := by decide +kernel
theorem dX8_shoot_41 : decode cX8_shoot 41 = .ok (.getfield 65, 3) := by decide +kernel
theorem dX8_shoot_44 : decode cX8_shoot 44 = .ok (.iconst 1, 1) := by decide +kernel
theorem dX8_shoot_45 : decode cX8_shoot 45 = .ok (.bipush 99, 2) := by decide +kernel
theorem dX8_shoot_47 : decode cX8_shoot 47 = .ok (.aload_n 1, 1) := by decide +kernel
theorem dX8_shoot_48 : decode cX8_shoot 48 = .ok (.getfield 65, 3) := by decide +kernel
theorem dX8_shoot_51 : decode cX8_shoot 51 = .ok (.iconst 1, 1) := by decide +kernel
theorem dX8_shoot_52 : decode cX8_shoot 52 = .ok (.iaload, 1) := by decide +kernel
theorem dX8_shoot_53 : decode cX8_shoot 53 = .ok (.iload 5, 2) := by decide +kernel
theorem dX8_shoot_55 : decode cX8_shoot 55 = .ok (.iadd, 1) := by decide +kernel
theorem dX8_shoot_56 : decode cX8_shoot 56 = .ok (.invokestatic 57, 3) := by decide +kernel
theorem dX8_shoot_59 : decode cX8_shoot 59 = .ok (.iastore, 1) := by decide +kernel
theorem dX8_shoot_60 : decode cX8_shoot 60 = .ok (.aload_n 1, 1) := by decide +kernel
theorem dX8_shoot_61 : decode cX8_shoot 61 = .ok (.getfield 65, 3) := by decide +kernel
theorem dX8_shoot_64 : decode cX8_shoot 64 = .ok (.iconst 4, 1) := by decide +kernel
theorem dX8_shoot_65 : decode cX8_shoot 65 = .ok (.iload_n 3, 1) := by decide +kernel
theorem dX8_shoot_66 : decode cX8_shoot 66 = .ok (.iadd, 1) := by decide +kernel
theorem dX8_shoot_67 : decode cX8_shoot 67 = .ok (.dup2, 1) := by decide +kernel
theorem dX8_shoot_68 : decode cX8_shoot 68 = .ok (.iaload, 1) := by decide +kernel
theorem dX8_shoot_69 : decode cX8_shoot 69 = .ok (.iconst 1, 1) := by decide +kernel
theorem dX8_shoot_70 : decode cX8_shoot 70 = .ok (.iadd, 1) := by decide +kernel
theorem dX8_shoot_71 : decode cX8_shoot 71 = .ok (.iastore, 1) := by decide +kernel
theorem dX8_shoot_72 : decode cX8_shoot 72 = .ok (.iload_n 2, 1) := by decide +kernel
theorem dX8_shoot_73 : decode cX8_shoot 73 = .ok (.iconst (-1), 1) := by decide +kernel
theorem dX8_shoot_74 : decode cX8_shoot 74 = .ok (.if_icmp .eq 30, 3) := by decide +kernel
theorem dX8_shoot_77 : decode cX8_shoot 77 = .ok (.aload_n 1, 1) := by decide +kernel
theorem dX8_shoot_78 : decode cX8_shoot 78 = .ok (.getfield 65, 3) := by decide +kernel
theorem dX8_shoot_81 : decode cX8_shoot 81 = .ok (.bipush 21, 2) := by decide +kernel
theorem dX8_shoot_83 : decode cX8_shoot 83 = .ok (.aload_n 1, 1) := by decide +kernel
theorem dX8_shoot_84 : decode cX8_shoot 84 = .ok (.getfield 65, 3) := by decide +kernel
theorem dX8_shoot_87 : decode cX8_shoot 87 = .ok (.bipush 73, 2) := by decide +kernel
theorem dX8_shoot_89 : decode cX8_shoot 89 = .ok (.iload_n 2, 1) := by decide +kernel
theorem dX8_shoot_90 : decode cX8_shoot 90 = .ok (.iadd, 1) := by decide +kernel
theorem dX8_shoot_91 : decode cX8_shoot 91 = .ok (.iaload, 1) := by decide +kernel
theorem dX8_shoot_92 : decode cX8_shoot 92 = .ok (.iadd, 1) := by decide +kernel
theorem dX8_shoot_93 : decode cX8_shoot 93 = .ok (.dup2, 1) := by decide +kernel
theorem dX8_shoot_94 : decode cX8_shoot 94 = .ok (.iaload, 1) := by decide +kernel
theorem dX8_shoot_95 : decode cX8_shoot 95 = .ok (.iload 4, 2) := by decide +kernel
theorem dX8_shoot_97 : decode cX8_shoot 97 = .ok (.iadd, 1) := by decide +kernel
theorem dX8_shoot_98 : decode cX8_shoot 98 = .ok (.iastore, 1) := by decide +kernel
theorem dX8_shoot_99 : decode cX8_shoot 99 = .ok (.aload_n 1, 1) := by decide +kernel
theorem dX8_shoot_100 : decode cX8_shoot 100 = .ok (.iload_n 3, 1) := by decide +kernel
theorem dX8_shoot_101 : decode cX8_shoot 101 = .ok (.invokevirtual 73, 3) := by decide +kernel
theorem dX8_shoot_104 : decode cX8_shoot 104 = .ok (.aload_n 1, 1) := by decide +kernel
theorem dX8_shoot_105 : decode cX8_shoot 105 = .ok (.getfield 65, 3) := by decide +kernel
theorem dX8_shoot_108 : decode cX8_shoot 108 = .ok (.bipush 27, 2) := by decide +kernel
theorem dX8_shoot_110 : decode cX8_shoot 110 = .ok (.iload_n 3, 1) := by decide +kernel
theorem dX8_shoot_111 : decode cX8_shoot 111 = .ok (.iadd, 1) := by decide +kernel
theorem dX8_shoot_112 : decode cX8_shoot 112 = .ok (.iaload, 1) := by decide +kernel
theorem dX8_shoot_113 : decode cX8_shoot 113 = .ok (.iconst 2, 1) := by decide +kernel
theorem dX8_shoot_114 : decode cX8_shoot 114 = .ok (.if_icmp .ne 13, 3) := by decide +kernel
theorem dX8_shoot_117 : decode cX8_shoot 117 = .ok (.aload_n 1, 1) := by decide +kernel
theorem dX8_shoot_118 : decode cX8_shoot 118 = .ok (.getfield 65, 3) := by decide +kernel
theorem dX8_shoot_121 : decode cX8_shoot 121 = .ok (.iconst 3, 1) := by decide +kernel
theorem dX8_shoot_122 : decode cX8_shoot 122 = .ok (.iconst 1, 1) := by decide +kernel
theorem dX8_shoot_123 : decode cX8_shoot 123 = .ok (.iastore, 1) := by decide +kernel
theorem dX8_shoot_124 : decode cX8_shoot 124 = .ok (.goto 37, 3) := by decide +kernel
theorem dX8_shoot_127 : decode cX8_shoot 127 = .ok (.iconst 1, 1) := by decide +kernel
theorem dX8_shoot_128 : decode cX8_shoot 128 = .ok (.aload_n 1, 1) := by decide +kernel
theorem dX8_shoot_129 : decode cX8_shoot 129 = .ok (.getfield 65, 3) := by decide +kernel
theorem dX8_shoot_132 : decode cX8_shoot 132 = .ok (.bipush 19, 2) := by decide +kernel
theorem dX8_shoot_134 : decode cX8_shoot 134 = .ok (.iaload, 1) := by decide +kernel
theorem dX8_shoot_135 : decode cX8_shoot 135 = .ok (.invokestatic 62, 3) := by decide +kernel
theorem dX8_shoot_138 : decode cX8_shoot 138 = .ok (.istore 6, 2) := by decide +kernel
theorem dX8_shoot_140 : decode cX8_shoot 140 = .ok (.aload_n 1, 1) := by decide +kernel
theorem dX8_shoot_141 : decode cX8_shoot 141 = .ok (.aload_n 1, 1) := by decide +kernel
theorem dX8_shoot_142 : decode cX8_shoot 142 = .ok (.getfield 65, 3) := by decide +kernel
theorem dX8_shoot_145 : decode cX8_shoot 145 = .ok (.bipush 51, 2) := by decide +kernel
theorem dX8_shoot_147 : decode cX8_shoot 147 = .ok (.iload_n 3, 1) := by decide +kernel
theorem dX8_shoot_148 : decode cX8_shoot 148 = .ok (.iadd, 1) := by decide +kernel
theorem dX8_shoot_149 : decode cX8_shoot 149 = .ok (.iaload, 1) := by decide +kernel
theorem dX8_shoot_150 : decode cX8_shoot 150 = .ok (.iload 6, 2) := by decide +kernel
theorem dX8_shoot_152 : decode cX8_shoot 152 = .ok (.iadd, 1) := by decide +kernel
theorem dX8_shoot_153 : decode cX8_shoot 153 = .ok (.iconst 1, 1) := by decide +kernel
theorem dX8_shoot_154 : decode cX8_shoot 154 = .ok (.isub, 1) := by decide +kernel
theorem dX8_shoot_155 : decode cX8_shoot 155 = .ok (.iload 6, 2) := by decide +kernel
theorem dX8_shoot_157 : decode cX8_shoot 157 = .ok (.idiv, 1) := by decide +kernel
theorem dX8_shoot_158 : decode cX8_shoot 158 = .ok (.invokevirtual 77, 3) := by decide +kernel
theorem dX8_shoot_161 : decode cX8_shoot 161 = .ok (.return_, 1) := by decide +kernel
theorem dX8_canBeHad_0 : decode cX8_canBeHad 0 = .ok (.aload_n 1, 1) := by decide +kernel
theorem dX8_canBeHad_1 : decode cX8_canBeHad 1 = .ok (.getfield 65, 3) := by decide +kernel
theorem dX8_canBeHad_4 : decode cX8_canBeHad 4 = .ok (.bipush 93, 2) := by decide +kernel
theorem dX8_canBeHad_6 : decode cX8_canBeHad 6 = .ok (.iload_n 2, 1) := by decide +kernel
theorem dX8_canBeHad_7 : decode cX8_canBeHad 7 = .ok (.iadd, 1) := by decide +kernel
theorem dX8_canBeHad_8 : decode cX8_canBeHad 8 = .ok (.iaload, 1) := by decide +kernel
theorem dX8_canBeHad_9 : decode cX8_canBeHad 9 = .ok (.istore_n 3, 1) := by decide +kernel
theorem dX8_canBeHad_10 : decode cX8_canBeHad 10 = .ok (.aload_n 1, 1) := by decide +kernel
theorem dX8_canBeHad_11 : decode cX8_canBeHad 11 = .ok (.getfield 65, 3) := by decide +kernel
theorem dX8_canBeHad_14 : decode cX8_canBeHad 14 = .ok (.bipush 100, 2) := by decide +kernel
theorem dX8_canBeHad_16 : decode cX8_canBeHad 16 = .ok (.iload_n 2, 1) := by decide +kernel
theorem dX8_canBeHad_17 : decode cX8_canBeHad 17 = .ok (.iadd, 1) := by decide +kernel
theorem dX8_canBeHad_18 : decode cX8_canBeHad 18 = .ok (.iaload, 1) := by decide +kernel
theorem dX8_canBeHad_19 : decode cX8_canBeHad 19 = .ok (.istore 4, 2) := by decide +kernel
theorem dX8_canBeHad_21 : decode cX8_canBeHad 21 = .ok (.aload_n 1, 1) := by decide +kernel
theorem dX8_canBeHad_22 : decode cX8_canBeHad 22 = .ok (.getfield 65, 3) := by decide +kernel
theorem dX8_canBeHad_25 : decode cX8_canBeHad 25 = .ok (.bipush 107, 2) := by decide +kernel
theorem dX8_canBeHad_27 : decode cX8_canBeHad 27 = .ok (.iload_n 2, 1) := by decide +kernel
theorem dX8_canBeHad_28 : decode cX8_canBeHad 28 = .ok (.iadd, 1) := by decide +kernel
theorem dX8_canBeHad_29 : decode cX8_canBeHad 29 = .ok (.iaload, 1) := by decide +kernel
theorem dX8_canBeHad_30 : decode cX8_canBeHad 30 = .ok (.istore 5, 2) := by decide +kernel
theorem dX8_canBeHad_32 : decode cX8_canBeHad 32 = .ok (.aload_n 1, 1) := by decide +kernel
theorem dX8_canBeHad_33 : decode cX8_canBeHad 33 = .ok (.invokevirtual 80, 3) := by decide +kernel
theorem dX8_canBeHad_36 : decode cX8_canBeHad 36 = .ok (.ifCond .eq 49, 3) := by decide +kernel
theorem dX8_canBeHad_39 : decode cX8_canBeHad 39 = .ok (.aload_n 1, 1) := by decide +kernel
theorem dX8_canBeHad_40 : decode cX8_canBeHad 40 = .ok (.iload_n 3, 1) := by decide +kernel
theorem dX8_canBeHad_41 : decode cX8_canBeHad 41 = .ok (.invokevirtual 84, 3) := by decide +kernel
theorem dX8_canBeHad_44 : decode cX8_canBeHad 44 = .ok (.ifCond .ne 41, 3) := by decide +kernel
theorem dX8_canBeHad_47 : decode cX8_canBeHad 47 = .ok (.aload_n 1, 1) := by decide +kernel
theorem dX8_canBeHad_48 : decode cX8_canBeHad 48 = .ok (.iload 4, 2) := by decide +kernel
theorem dX8_canBeHad_50 : decode cX8_canBeHad 50 = .ok (.invokevirtual 84, 3) := by decide +kernel
theorem dX8_canBeHad_53 : decode cX8_canBeHad 53 = .ok (.ifCond .ne 32, 3) := by decide +kernel
theorem dX8_canBeHad_56 : decode cX8_canBeHad 56 = .ok (.aload_n 0, 1) := by decide +kernel
theorem dX8_canBeHad_57 : decode cX8_canBeHad 57 = .ok (.aload_n 1, 1) := by decide +kernel
theorem dX8_canBeHad_58 : decode cX8_canBeHad 58 = .ok (.iconst 4, 1) := by decide +kernel
theorem dX8_canBeHad_59 : decode cX8_canBeHad 59 = .ok (.iload_n 3, 1) := by decide +kernel
theorem dX8_canBeHad_60 : decode cX8_canBeHad 60 = .ok (.iload 5, 2) := by decide +kernel
theorem dX8_canBeHad_62 : decode cX8_canBeHad 62 = .ok (.invokevirtual 70, 3) := by decide +kernel
theorem dX8_canBeHad_65 : decode cX8_canBeHad 65 = .ok (.ifCond .ne 20, 3) := by decide +kernel
theorem dX8_canBeHad_68 : decode cX8_canBeHad 68 = .ok (.aload_n 0, 1) := by decide +kernel
theorem dX8_canBeHad_69 : decode cX8_canBeHad 69 = .ok (.aload_n 1, 1) := by decide +kernel
theorem dX8_canBeHad_70 : decode cX8_canBeHad 70 = .ok (.iconst 4, 1) := by decide +kernel
theorem dX8_canBeHad_71 : decode cX8_canBeHad 71 = .ok (.iload 4, 2) := by decide +kernel
theorem dX8_canBeHad_73 : decode cX8_canBeHad 73 = .ok (.iload 5, 2) := by decide +kernel
theorem dX8_canBeHad_75 : decode cX8_canBeHad 75 = .ok (.invokevirtual 70, 3) := by decide +kernel
theorem dX8_canBeHad_78 : decode cX8_canBeHad 78 = .ok (.ifCond .ne 7, 3) := by decide +kernel
theorem dX8_canBeHad_81 : decode cX8_canBeHad 81 = .ok (.iconst 1, 1) := by decide +kernel
theorem dX8_canBeHad_82 : decode cX8_canBeHad 82 = .ok (.goto 4, 3) := by decide +kernel
theorem dX8_canBeHad_85 : decode cX8_canBeHad 85 = .ok (.iconst 0, 1) := by decide +kernel
theorem dX8_canBeHad_86 : decode cX8_canBeHad 86 = .ok (.ireturn, 1) := by decide +kernel
theorem dX8_hold_0 : decode cX8_hold 0 = .ok (.aload_n 1, 1) := by decide +kernel
theorem dX8_hold_1 : decode cX8_hold 1 = .ok (.getfield 65, 3) := by decide +kernel
theorem dX8_hold_4 : decode cX8_hold 4 = .ok (.bipush 93, 2) := by decide +kernel
theorem dX8_hold_6 : decode cX8_hold 6 = .ok (.iload_n 2, 1) := by decide +kernel
theorem dX8_hold_7 : decode cX8_hold 7 = .ok (.iadd, 1) := by decide +kernel
theorem dX8_hold_8 : decode cX8_hold 8 = .ok (.iaload, 1) := by decide +kernel
theorem dX8_hold_9 : decode cX8_hold 9 = .ok (.istore_n 3, 1) := by decide +kernel
theorem dX8_hold_10 : decode cX8_hold 10 = .ok (.aload_n 1, 1) := by decide +kernel
theorem dX8_hold_11 : decode cX8_hold 11 = .ok (.getfield 65, 3) := by decide +kernel
theorem dX8_hold_14 : decode cX8_hold 14 = .ok (.bipush 100, 2) := by decide +kernel
theorem dX8_hold_16 : decode cX8_hold 16 = .ok (.iload_n 2, 1) := by decide +kernel
theorem dX8_hold_17 : decode cX8_hold 17 = .ok (.iadd, 1) := by decide +kernel
theorem dX8_hold_18 : decode cX8_hold 18 = .ok (.iaload, 1) := by decide +kernel
theorem dX8_hold_19 : decode cX8_hold 19 = .ok (.istore 4, 2) := by decide +kernel
theorem dX8_hold_21 : decode cX8_hold 21 = .ok (.aload_n 1, 1) := by decide +kernel
theorem dX8_hold_22 : decode cX8_hold 22 = .ok (.getfield 65, 3) := by decide +kernel
theorem dX8_hold_25 : decode cX8_hold 25 = .ok (.bipush 107, 2) := by decide +kernel
theorem dX8_hold_27 : decode cX8_hold 27 = .ok (.iload_n 2, 1) := by decide +kernel
theorem dX8_hold_28 : decode cX8_hold 28 = .ok (.iadd, 1) := by decide +kernel
theorem dX8_hold_29 : decode cX8_hold 29 = .ok (.iaload, 1) := by decide +kernel
theorem dX8_hold_30 : decode cX8_hold 30 = .ok (.istore 5, 2) := by decide +kernel
theorem dX8_hold_32 : decode cX8_hold 32 = .ok (.iconst 0, 1) := by decide +kernel
theorem dX8_hold_33 : decode cX8_hold 33 = .ok (.istore 6, 2) := by decide +kernel
theorem dX8_hold_35 : decode cX8_hold 35 = .ok (.iconst 0, 1) := by decide +kernel
theorem dX8_hold_36 : decode cX8_hold 36 = .ok (.istore 7, 2) := by decide +kernel
theorem dX8_hold_38 : decode cX8_hold 38 = .ok (.iload 7, 2) := by decide +kernel
theorem dX8_hold_40 : decode cX8_hold 40 = .ok (.iconst 2, 1) := by decide +kernel
theorem dX8_hold_41 : decode cX8_hold 41 = .ok (.aload_n 1, 1) := by decide +kernel
theorem dX8_hold_42 : decode cX8_hold 42 = .ok (.getfield 65, 3) := by decide +kernel
theorem dX8_hold_45 : decode cX8_hold 45 = .ok (.bipush 17, 2) := by decide +kernel
theorem dX8_hold_47 : decode cX8_hold 47 = .ok (.iaload, 1) := by decide +kernel
theorem dX8_hold_48 : decode cX8_hold 48 = .ok (.imul, 1) := by decide +kernel
theorem dX8_hold_49 : decode cX8_hold 49 = .ok (.if_icmp .ge 139, 3) := by decide +kernel
theorem dX8_hold_52 : decode cX8_hold 52 = .ok (.iload 6, 2) := by decide +kernel
theorem dX8_hold_54 : decode cX8_hold 54 = .ok (.ifCond .ne 134, 3) := by decide +kernel
theorem dX8_hold_57 : decode cX8_hold 57 = .ok (.iload 7, 2) := by decide +kernel
theorem dX8_hold_59 : decode cX8_hold 59 = .ok (.iconst 2, 1) := by decide +kernel
theorem dX8_hold_60 : decode cX8_hold 60 = .ok (.irem, 1) := by decide +kernel
theorem dX8_hold_61 : decode cX8_hold 61 = .ok (.ifCond .ne 7, 3) := by decide +kernel
theorem dX8_hold_64 : decode cX8_hold 64 = .ok (.iconst 1, 1) := by decide +kernel
theorem dX8_hold_65 : decode cX8_hold 65 = .ok (.goto 4, 3) := by decide +kernel
theorem dX8_hold_68 : decode cX8_hold 68 = .ok (.iconst 0, 1) := by decide +kernel
theorem dX8_hold_69 : decode cX8_hold 69 = .ok (.istore 8, 2) := by decide +kernel
theorem dX8_hold_71 : decode cX8_hold 71 = .ok (.iload 8, 2) := by decide +kernel
theorem dX8_hold_73 : decode cX8_hold 73 = .ok (.ifCond .eq 7, 3) := by decide +kernel
theorem dX8_hold_76 : decode cX8_hold 76 = .ok (.iload_n 3, 1) := by decide +kernel
theorem dX8_hold_77 : decode cX8_hold 77 = .ok (.goto 5, 3) := by decide +kernel
theorem dX8_hold_80 : decode cX8_hold 80 = .ok (.iload 4, 2) := by decide +kernel
theorem dX8_hold_82 : decode cX8_hold 82 = .ok (.istore 9, 2) := by decide +kernel
theorem dX8_hold_84 : decode cX8_hold 84 = .ok (.aload_n 1, 1) := by decide +kernel
theorem dX8_hold_85 : decode cX8_hold 85 = .ok (.invokevirtual 80, 3) := by decide +kernel
theorem dX8_hold_88 : decode cX8_hold 88 = .ok (.ifCond .ne 9, 3) := by decide +kernel
theorem dX8_hold_91 : decode cX8_hold 91 = .ok (.iconst 3, 1) := by decide +kernel
theorem dX8_hold_92 : decode cX8_hold 92 = .ok (.istore 6, 2) := by decide +kernel
theorem dX8_hold_94 : decode cX8_hold 94 = .ok (.goto 88, 3) := by decide +kernel
theorem dX8_hold_97 : decode cX8_hold 97 = .ok (.aload_n 0, 1) := by decide +kernel
theorem dX8_hold_98 : decode cX8_hold 98 = .ok (.bipush 10, 2) := by decide +kernel
theorem dX8_hold_100 : decode cX8_hold 100 = .ok (.invokevirtual 88, 3) := by decide +kernel
theorem dX8_hold_103 : decode cX8_hold 103 = .ok (.aload_n 0, 1) := by decide +kernel
theorem dX8_hold_104 : decode cX8_hold 104 = .ok (.aload_n 1, 1) := by decide +kernel
theorem dX8_hold_105 : decode cX8_hold 105 = .ok (.iconst 0, 1) := by decide +kernel
theorem dX8_hold_106 : decode cX8_hold 106 = .ok (.iload 9, 2) := by decide +kernel
theorem dX8_hold_108 : decode cX8_hold 108 = .ok (.iload 5, 2) := by decide +kernel
theorem dX8_hold_110 : decode cX8_hold 110 = .ok (.invokevirtual 70, 3) := by decide +kernel
theorem dX8_hold_113 : decode cX8_hold 113 = .ok (.if_icmp .ge 60, 3) := by decide +kernel
theorem dX8_hold_116 : decode cX8_hold 116 = .ok (.iload 8, 2) := by decide +kernel
theorem dX8_hold_118 : decode cX8_hold 118 = .ok (.ifCond .eq 8, 3) := by decide +kernel
theorem dX8_hold_121 : decode cX8_hold 121 = .ok (.iload 4, 2) := by decide +kernel
theorem dX8_hold_123 : decode cX8_hold 123 = .ok (.goto 4, 3) := by decide +kernel
theorem dX8_hold_126 : decode cX8_hold 126 = .ok (.iload_n 3, 1) := by decide +kernel
theorem dX8_hold_127 : decode cX8_hold 127 = .ok (.istore 10, 2) := by decide +kernel
theorem dX8_hold_129 : decode cX8_hold 129 = .ok (.aload_n 1, 1) := by decide +kernel
theorem dX8_hold_130 : decode cX8_hold 130 = .ok (.getfield 65, 3) := by decide +kernel
theorem dX8_hold_133 : decode cX8_hold 133 = .ok (.bipush 83, 2) := by decide +kernel
theorem dX8_hold_135 : decode cX8_hold 135 = .ok (.iload 10, 2) := by decide +kernel
theorem dX8_hold_137 : decode cX8_hold 137 = .ok (.iadd, 1) := by decide +kernel
theorem dX8_hold_138 : decode cX8_hold 138 = .ok (.aload_n 1, 1) := by decide +kernel
theorem dX8_hold_139 : decode cX8_hold 139 = .ok (.getfield 65, 3) := by decide +kernel
theorem dX8_hold_142 : decode cX8_hold 142 = .ok (.bipush 16, 2) := by decide +kernel
theorem dX8_hold_144 : decode cX8_hold 144 = .ok (.iaload, 1) := by decide +kernel
theorem dX8_hold_145 : decode cX8_hold 145 = .ok (.bipush 7, 2) := by decide +kernel
theorem dX8_hold_147 : decode cX8_hold 147 = .ok (.iadd, 1) := by decide +kernel
theorem dX8_hold_148 : decode cX8_hold 148 = .ok (.iastore, 1) := by decide +kernel
theorem dX8_hold_149 : decode cX8_hold 149 = .ok (.aload_n 1, 1) := by decide +kernel
theorem dX8_hold_150 : decode cX8_hold 150 = .ok (.bipush 12, 2) := by decide +kernel
theorem dX8_hold_152 : decode cX8_hold 152 = .ok (.iload 10, 2) := by decide +kernel
theorem dX8_hold_154 : decode cX8_hold 154 = .ok (.iadd, 1) := by decide +kernel
theorem dX8_hold_155 : decode cX8_hold 155 = .ok (.invokevirtual 73, 3) := by decide +kernel
theorem dX8_hold_158 : decode cX8_hold 158 = .ok (.iload 8, 2) := by decide +kernel
theorem dX8_hold_160 : decode cX8_hold 160 = .ok (.ifCond .eq 7, 3) := by decide +kernel
theorem dX8_hold_163 : decode cX8_hold 163 = .ok (.iconst 1, 1) := by decide +kernel
theorem dX8_hold_164 : decode cX8_hold 164 = .ok (.goto 4, 3) := by decide +kernel
theorem dX8_hold_167 : decode cX8_hold 167 = .ok (.iconst 2, 1) := by decide +kernel
theorem dX8_hold_168 : decode cX8_hold 168 = .ok (.istore 6, 2) := by decide +kernel
theorem dX8_hold_170 : decode cX8_hold 170 = .ok (.goto 12, 3) := by decide +kernel
theorem dX8_hold_173 : decode cX8_hold 173 = .ok (.aload_n 0, 1) := by decide +kernel
theorem dX8_hold_174 : decode cX8_hold 174 = .ok (.aload_n 1, 1) := by decide +kernel
theorem dX8_hold_175 : decode cX8_hold 175 = .ok (.iload 9, 2) := by decide +kernel
theorem dX8_hold_177 : decode cX8_hold 177 = .ok (.iload 5, 2) := by decide +kernel
theorem dX8_hold_179 : decode cX8_hold 179 = .ok (.invokevirtual 92, 3) := by decide +kernel
theorem dX8_hold_182 : decode cX8_hold 182 = .ok (.iinc 7 1, 3) := by decide +kernel
theorem dX8_hold_185 : decode cX8_hold 185 = .ok (.goto (-147), 3) := by decide +kernel
theorem dX8_hold_188 : decode cX8_hold 188 = .ok (.aload_n 1, 1) := by decide +kernel
theorem dX8_hold_189 : decode cX8_hold 189 = .ok (.iload_n 2, 1) := by decide +kernel
theorem dX8_hold_190 : decode cX8_hold 190 = .ok (.invokevirtual 95, 3) := by decide +kernel
theorem dX8_hold_193 : decode cX8_hold 193 = .ok (.iload 6, 2) := by decide +kernel
theorem dX8_hold_195 : decode cX8_hold 195 = .ok (.ireturn, 1) := by decide +kernel
theorem dX8_draw_0 : decode cX8_draw 0 = .ok (.aload_n 0, 1) := by decide +kernel
theorem dX8_draw_1 : decode cX8_draw 1 = .ok (.aload_n 0, 1) := by decide +kernel
theorem dX8_draw_2 : decode cX8_draw 2 = .ok (.getfield 98, 3) := by decide +kernel
theorem dX8_draw_5 : decode cX8_draw 5 = .ok (.sipush 1103, 3) := by decide +kernel
theorem dX8_draw_8 : decode cX8_draw 8 = .ok (.imul, 1) := by decide +kernel
theorem dX8_draw_9 : decode cX8_draw 9 = .ok (.sipush 12345, 3) := by decide +kernel
theorem dX8_draw_12 : decode cX8_draw 12 = .ok (.iadd, 1) := by decide +kernel
theorem dX8_draw_13 : decode cX8_draw 13 = .ok (.ldc 101, 2) := by decide +kernel
theorem dX8_draw_15 : decode cX8_draw 15 = .ok (.irem, 1) := by decide +kernel
theorem dX8_draw_16 : decode cX8_draw 16 = .ok (.putfield 98, 3) := by decide +kernel
theorem dX8_draw_19 : decode cX8_draw 19 = .ok (.iload_n 1, 1) := by decide +kernel
theorem dX8_draw_20 : decode cX8_draw 20 = .ok (.iconst 1, 1) := by decide +kernel
theorem dX8_draw_21 : decode cX8_draw 21 = .ok (.if_icmp .ge 7, 3) := by decide +kernel
theorem dX8_draw_24 : decode cX8_draw 24 = .ok (.iconst 0, 1) := by decide +kernel
theorem dX8_draw_25 : decode cX8_draw 25 = .ok (.goto 9, 3) := by decide +kernel
theorem dX8_draw_28 : decode cX8_draw 28 = .ok (.aload_n 0, 1) := by decide +kernel
theorem dX8_draw_29 : decode cX8_draw 29 = .ok (.getfield 98, 3) := by decide +kernel
theorem dX8_draw_32 : decode cX8_draw 32 = .ok (.iload_n 1, 1) := by decide +kernel
theorem dX8_draw_33 : decode cX8_draw 33 = .ok (.irem, 1) := by decide +kernel
theorem dX8_draw_34 : decode cX8_draw 34 = .ok (.ireturn, 1) := by decide +kernel
theorem dX9_init_0 : decode cX9_init 0 = .ok (.aload_n 0, 1) := by decide +kernel
theorem dX9_init_1 : decode cX9_init 1 = .ok (.invokespecial 3, 3) := by decide +kernel
theorem dX9_init_4 : decode cX9_init 4 = .ok (.aload_n 0, 1) := by decide +kernel
theorem dX9_init_5 : decode cX9_init 5 = .ok (.sipush 400, 3) := by decide +kernel
theorem dX9_init_8 : decode cX9_init 8 = .ok (.newarray .int, 2) := by decide +kernel
theorem dX9_init_10 : decode cX9_init 10 = .ok (.putfield 9, 3) := by decide +kernel
theorem dX9_init_13 : decode cX9_init 13 = .ok (.aload_n 0, 1) := by decide +kernel
theorem dX9_init_14 : decode cX9_init 14 = .ok (.iconst 0, 1) := by decide +kernel
theorem dX9_init_15 : decode cX9_init 15 = .ok (.putfield 15, 3) := by decide +kernel
theorem dX9_init_18 : decode cX9_init 18 = .ok (.return_, 1) := by decide +kernel
theorem dX9_hasRoomFor_0 : decode cX9_hasRoomFor 0 = .ok (.aload_n 0, 1) := by decide +kernel
theorem dX9_hasRoomFor_1 : decode cX9_hasRoomFor 1 = .ok (.getfield 15, 3) := by decide +kernel
theorem dX9_hasRoomFor_4 : decode cX9_hasRoomFor 4 = .ok (.iload_n 1, 1) := by decide +kernel
theorem dX9_hasRoomFor_5 : decode cX9_hasRoomFor 5 = .ok (.iadd, 1) := by decide +kernel
theorem dX9_hasRoomFor_6 : decode cX9_hasRoomFor 6 = .ok (.sipush 400, 3) := by decide +kernel
theorem dX9_hasRoomFor_9 : decode cX9_hasRoomFor 9 = .ok (.if_icmp .gt 7, 3) := by decide +kernel
theorem dX9_hasRoomFor_12 : decode cX9_hasRoomFor 12 = .ok (.iconst 1, 1) := by decide +kernel
theorem dX9_hasRoomFor_13 : decode cX9_hasRoomFor 13 = .ok (.goto 4, 3) := by decide +kernel
theorem dX9_hasRoomFor_16 : decode cX9_hasRoomFor 16 = .ok (.iconst 0, 1) := by decide +kernel
theorem dX9_hasRoomFor_17 : decode cX9_hasRoomFor 17 = .ok (.ireturn, 1) := by decide +kernel
theorem dX9_take_0 : decode cX9_take 0 = .ok (.bipush 24, 2) := by decide +kernel
theorem dX9_take_2 : decode cX9_take 2 = .ok (.istore_n 2, 1) := by decide +kernel
theorem dX9_take_3 : decode cX9_take 3 = .ok (.iload_n 2, 1) := by decide +kernel
theorem dX9_take_4 : decode cX9_take 4 = .ok (.ifCond .lt 45, 3) := by decide +kernel
theorem dX9_take_7 : decode cX9_take 7 = .ok (.aload_n 0, 1) := by decide +kernel
theorem dX9_take_8 : decode cX9_take 8 = .ok (.getfield 15, 3) := by decide +kernel
theorem dX9_take_11 : decode cX9_take 11 = .ok (.sipush 400, 3) := by decide +kernel
theorem dX9_take_14 : decode cX9_take 14 = .ok (.if_icmp .ge 35, 3) := by decide +kernel
theorem dX9_take_17 : decode cX9_take 17 = .ok (.aload_n 0, 1) := by decide +kernel
theorem dX9_take_18 : decode cX9_take 18 = .ok (.getfield 9, 3) := by decide +kernel
theorem dX9_take_21 : decode cX9_take 21 = .ok (.aload_n 0, 1) := by decide +kernel
theorem dX9_take_22 : decode cX9_take 22 = .ok (.getfield 15, 3) := by decide +kernel
theorem dX9_take_25 : decode cX9_take 25 = .ok (.iload_n 1, 1) := by decide +kernel
theorem dX9_take_26 : decode cX9_take 26 = .ok (.iload_n 2, 1) := by decide +kernel
theorem dX9_take_27 : decode cX9_take 27 = .ok (.ishr, 1) := by decide +kernel
theorem dX9_take_28 : decode cX9_take 28 = .ok (.sipush 255, 3) := by decide +kernel
theorem dX9_take_31 : decode cX9_take 31 = .ok (.iand, 1) := by decide +kernel
theorem dX9_take_32 : decode cX9_take 32 = .ok (.iastore, 1) := by decide +kernel
theorem dX9_take_33 : decode cX9_take 33 = .ok (.aload_n 0, 1) := by decide +kernel
theorem dX9_take_34 : decode cX9_take 34 = .ok (.dup, 1) := by decide +kernel
theorem dX9_take_35 : decode cX9_take 35 = .ok (.getfield 15, 3) := by decide +kernel
theorem dX9_take_38 : decode cX9_take 38 = .ok (.iconst 1, 1) := by decide +kernel
theorem dX9_take_39 : decode cX9_take 39 = .ok (.iadd, 1) := by decide +kernel
theorem dX9_take_40 : decode cX9_take 40 = .ok (.putfield 15, 3) := by decide +kernel
theorem dX9_take_43 : decode cX9_take 43 = .ok (.iinc 2 (-8), 3) := by decide +kernel
theorem dX9_take_46 : decode cX9_take 46 = .ok (.goto (-43), 3) := by decide +kernel
theorem dX9_take_49 : decode cX9_take 49 = .ok (.return_, 1) := by decide +kernel
theorem dX10_init_0 : decode cX10_init 0 = .ok (.aload_n 0, 1) := by decide +kernel
theorem dX10_init_1 : decode cX10_init 1 = .ok (.invokespecial 3, 3) := by decide +kernel
theorem dX10_init_4 : decode cX10_init 4 = .ok (.aload_n 0, 1) := by decide +kernel
theorem dX10_init_5 : decode cX10_init 5 = .ok (.sipush 400, 3) := by decide +kernel
theorem dX10_init_8 : decode cX10_init 8 = .ok (.newarray .int, 2) := by decide +kernel
theorem dX10_init_10 : decode cX10_init 10 = .ok (.putfield 9, 3) := by decide +kernel
theorem dX10_init_13 : decode cX10_init 13 = .ok (.aload_n 0, 1) := by decide +kernel
theorem dX10_init_14 : decode cX10_init 14 = .ok (.bipush 72, 2) := by decide +kernel
theorem dX10_init_16 : decode cX10_init 16 = .ok (.newarray .int, 2) := by decide +kernel
theorem dX10_init_18 : decode cX10_init 18 = .ok (.putfield 15, 3) := by decide +kernel
theorem dX10_init_21 : decode cX10_init 21 = .ok (.return_, 1) := by decide +kernel
theorem dX10_init__0 : decode cX10_init_ 0 = .ok (.aload_n 0, 1) := by decide +kernel
theorem dX10_init__1 : decode cX10_init_ 1 = .ok (.invokespecial 3, 3) := by decide +kernel
theorem dX10_init__4 : decode cX10_init_ 4 = .ok (.aload_n 0, 1) := by decide +kernel
theorem dX10_init__5 : decode cX10_init_ 5 = .ok (.aload_n 1, 1) := by decide +kernel
theorem dX10_init__6 : decode cX10_init_ 6 = .ok (.getfield 18, 3) := by decide +kernel
theorem dX10_init__9 : decode cX10_init_ 9 = .ok (.putfield 18, 3) := by decide +kernel
theorem dX10_init__12 : decode cX10_init_ 12 = .ok (.aload_n 0, 1) := by decide +kernel
theorem dX10_init__13 : decode cX10_init_ 13 = .ok (.aload_n 1, 1) := by decide +kernel
theorem dX10_init__14 : decode cX10_init_ 14 = .ok (.getfield 22, 3) := by decide +kernel
theorem dX10_init__17 : decode cX10_init_ 17 = .ok (.putfield 22, 3) := by decide +kernel
theorem dX10_init__20 : decode cX10_init_ 20 = .ok (.aload_n 0, 1) := by decide +kernel
theorem dX10_init__21 : decode cX10_init_ 21 = .ok (.aload_n 0, 1) := by decide +kernel
theorem dX10_init__22 : decode cX10_init_ 22 = .ok (.getfield 18, 3) := by decide +kernel
theorem dX10_init__25 : decode cX10_init_ 25 = .ok (.newarray .int, 2) := by decide +kernel
theorem dX10_init__27 : decode cX10_init_ 27 = .ok (.putfield 9, 3) := by decide +kernel
theorem dX10_init__30 : decode cX10_init_ 30 = .ok (.aload_n 0, 1) := by decide +kernel
theorem dX10_init__31 : decode cX10_init_ 31 = .ok (.aload_n 0, 1) := by decide +kernel
theorem dX10_init__32 : decode cX10_init_ 32 = .ok (.getfield 22, 3) := by decide +kernel
theorem dX10_init__35 : decode cX10_init_ 35 = .ok (.bipush 6, 2) := by decide +kernel
theorem dX10_init__37 : decode cX10_init_ 37 = .ok (.imul, 1) := by decide +kernel
theorem dX10_init__38 : decode cX10_init_ 38 = .ok (.newarray .int, 2) := by decide +kernel
theorem dX10_init__40 : decode cX10_init_ 40 = .ok (.putfield 15, 3) := by decide +kernel
theorem dX10_init__43 : decode cX10_init_ 43 = .ok (.aload_n 1, 1) := by decide +kernel
theorem dX10_init__44 : decode cX10_init_ 44 = .ok (.getfield 9, 3) := by decide +kernel
theorem dX10_init__47 : decode cX10_init_ 47 = .ok (.iconst 0, 1) := by decide +kernel
theorem dX10_init__48 : decode cX10_init_ 48 = .ok (.aload_n 0, 1) := by decide +kernel
theorem dX10_init__49 : decode cX10_init_ 49 = .ok (.getfield 9, 3) := by decide +kernel
theorem dX10_init__52 : decode cX10_init_ 52 = .ok (.iconst 0, 1) := by decide +kernel
theorem dX10_init__53 : decode cX10_init_ 53 = .ok (.aload_n 0, 1) := by decide +kernel
theorem dX10_init__54 : decode cX10_init_ 54 = .ok (.getfield 18, 3) := by decide +kernel
theorem dX10_init__57 : decode cX10_init_ 57 = .ok (.invokestatic 25, 3) := by decide +kernel
theorem dX10_init__60 : decode cX10_init_ 60 = .ok (.aload_n 1, 1) := by decide +kernel
theorem dX10_init__61 : decode cX10_init_ 61 = .ok (.getfield 15, 3) := by decide +kernel
theorem dX10_init__64 : decode cX10_init_ 64 = .ok (.iconst 0, 1) := by decide +kernel
theorem dX10_init__65 : decode cX10_init_ 65 = .ok (.aload_n 0, 1) := by decide +kernel
theorem dX10_init__66 : decode cX10_init_ 66 = .ok (.getfield 15, 3) := by decide +kernel
theorem dX10_init__69 : decode cX10_init_ 69 = .ok (.iconst 0, 1) := by decide +kernel
theorem dX10_init__70 : decode cX10_init_ 70 = .ok (.aload_n 0, 1) := by decide +kernel
theorem dX10_init__71 : decode cX10_init_ 71 = .ok (.getfield 15, 3) := by decide +kernel
theorem dX10_init__74 : decode cX10_init_ 74 = .ok (.arraylength, 1) := by decide +kernel
theorem dX10_init__75 : decode cX10_init_ 75 = .ok (.invokestatic 25, 3) := by decide +kernel
theorem dX10_init__78 : decode cX10_init_ 78 = .ok (.return_, 1) := by decide +kernel
theorem dX10_get_0 : decode cX10_get 0 = .ok (.aload_n 0, 1) := by decide +kernel
theorem dX10_get_1 : decode cX10_get 1 = .ok (.getfield 15, 3) := by decide +kernel
theorem dX10_get_4 : decode cX10_get 4 = .ok (.iload_n 1, 1) := by decide +kernel
theorem dX10_get_5 : decode cX10_get 5 = .ok (.bipush 6, 2) := by decide +kernel
theorem dX10_get_7 : decode cX10_get 7 = .ok (.imul, 1) := by decide +kernel
theorem dX10_get_8 : decode cX10_get 8 = .ok (.iload_n 2, 1) := by decide +kernel
theorem dX10_get_9 : decode cX10_get 9 = .ok (.iadd, 1) := by decide +kernel
theorem dX10_get_10 : decode cX10_get 10 = .ok (.iaload, 1) := by decide +kernel
theorem dX10_get_11 : decode cX10_get 11 = .ok (.ireturn, 1) := by decide +kernel
theorem dX10_set_0 : decode cX10_set 0 = .ok (.aload_n 0, 1) := by decide +kernel
theorem dX10_set_1 : decode cX10_set 1 = .ok (.getfield 15, 3) := by decide +kernel
theorem dX10_set_4 : decode cX10_set 4 = .ok (.iload_n 1, 1) := by decide +kernel
theorem dX10_set_5 : decode cX10_set 5 = .ok (.bipush 6, 2) := by decide +kernel
theorem dX10_set_7 : decode cX10_set 7 = .ok (.imul, 1) := by decide +kernel
theorem dX10_set_8 : decode cX10_set 8 = .ok (.iload_n 2, 1) := by decide +kernel
theorem dX10_set_9 : decode cX10_set 9 = .ok (.iadd, 1) := by decide +kernel
theorem dX10_set_10 : decode cX10_set 10 = .ok (.iload_n 3, 1) := by decide +kernel
theorem dX10_set_11 : decode cX10_set 11 = .ok (.iastore, 1) := by decide +kernel
theorem dX10_set_12 : decode cX10_set 12 = .ok (.return_, 1) := by decide +kernel
theorem dX10_addStep_0 : decode cX10_addStep 0 = .ok (.aload_n 0, 1) := by decide +kernel
theorem dX10_addStep_1 : decode cX10_addStep 1 = .ok (.getfield 18, 3) := by decide +kernel
theorem dX10_addStep_4 : decode cX10_addStep 4 = .ok (.aload_n 0, 1) := by decide +kernel
theorem dX10_addStep_5 : decode cX10_addStep 5 = .ok (.getfield 9, 3) := by decide +kernel
theorem dX10_addStep_8 : decode cX10_addStep 8 = .ok (.arraylength, 1) := by decide +kernel
theorem dX10_addStep_9 : decode cX10_addStep 9 = .ok (.if_icmp .ge 27, 3) := by decide +kernel
theorem dX10_addStep_12 : decode cX10_addStep 12 = .ok (.aload_n 0, 1) := by decide +kernel
theorem dX10_addStep_13 : decode cX10_addStep 13 = .ok (.getfield 9, 3) := by decide +kernel
theorem dX10_addStep_16 : decode cX10_addStep 16 = .ok (.aload_n 0, 1) := by decide +kernel
theorem dX10_addStep_17 : decode cX10_addStep 17 = .ok (.getfield 18, 3) := by decide +kernel
theorem dX10_addStep_20 : decode cX10_addStep 20 = .ok (.iload_n 2, 1) := by decide +kernel
theorem dX10_addStep_21 : decode cX10_addStep 21 = .ok (.iconst 4, 1) := by decide +kernel
theorem dX10_addStep_22 : decode cX10_addStep 22 = .ok (.ishl, 1) := by decide +kernel
theorem dX10_addStep_23 : decode cX10_addStep 23 = .ok (.iload_n 1, 1) := by decide +kernel
theorem dX10_addStep_24 : decode cX10_addStep 24 = .ok (.ior, 1) := by decide +kernel
theorem dX10_addStep_25 : decode cX10_addStep 25 = .ok (.iastore, 1) := by decide +kernel
theorem dX10_addStep_26 : decode cX10_addStep 26 = .ok (.aload_n 0, 1) := by decide +kernel
theorem dX10_addStep_27 : decode cX10_addStep 27 = .ok (.dup, 1) := by decide +kernel
theorem dX10_addStep_28 : decode cX10_addStep 28 = .ok (.getfield 18, 3) := by decide +kernel
theorem dX10_addStep_31 : decode cX10_addStep 31 = .ok (.iconst 1, 1) := by decide +kernel
theorem dX10_addStep_32 : decode cX10_addStep 32 = .ok (.iadd, 1) := by decide +kernel
theorem dX10_addStep_33 : decode cX10_addStep 33 = .ok (.putfield 18, 3) := by decide +kernel
theorem dX10_addStep_36 : decode cX10_addStep 36 = .ok (.return_, 1) := by decide +kernel
theorem dX11_init_0 : decode cX11_init 0 = .ok (.aload_n 0, 1) := by decide +kernel
theorem dX11_init_1 : decode cX11_init 1 = .ok (.invokespecial 5, 3) := by decide +kernel
theorem dX11_init_4 : decode cX11_init 4 = .ok (.aload_n 0, 1) := by decide +kernel
theorem dX11_init_5 : decode cX11_init 5 = .ok (.new 11, 3) := by decide +kernel
theorem dX11_init_8 : decode cX11_init 8 = .ok (.dup, 1) := by decide +kernel
theorem dX11_init_9 : decode cX11_init 9 = .ok (.invokespecial 13, 3) := by decide +kernel
theorem dX11_init_12 : decode cX11_init 12 = .ok (.putfield 14, 3) := by decide +kernel
theorem dX11_init_15 : decode cX11_init 15 = .ok (.aload_n 0, 1) := by decide +kernel
theorem dX11_init_16 : decode cX11_init 16 = .ok (.new 18, 3) := by decide +kernel
theorem dX11_init_19 : decode cX11_init 19 = .ok (.dup, 1) := by decide +kernel
theorem dX11_init_20 : decode cX11_init 20 = .ok (.invokespecial 20, 3) := by decide +kernel
theorem dX11_init_23 : decode cX11_init 23 = .ok (.putfield 21, 3) := by decide +kernel
theorem dX11_init_26 : decode cX11_init 26 = .ok (.aload_n 0, 1) := by decide +kernel
theorem dX11_init_27 : decode cX11_init 27 = .ok (.new 25, 3) := by decide +kernel
theorem dX11_init_30 : decode cX11_init 30 = .ok (.dup, 1) := by decide +kernel
theorem dX11_init_31 : decode cX11_init 31 = .ok (.invokespecial 27, 3) := by decide +kernel
theorem dX11_init_34 : decode cX11_init 34 = .ok (.putfield 28, 3) := by decide +kernel
theorem dX11_init_37 : decode cX11_init 37 = .ok (.aload_n 0, 1) := by decide +kernel
theorem dX11_init_38 : decode cX11_init 38 = .ok (.new 32, 3) := by decide +kernel
theorem dX11_init_41 : decode cX11_init 41 = .ok (.dup, 1) := by decide +kernel
theorem dX11_init_42 : decode cX11_init 42 = .ok (.invokespecial 34, 3) := by decide +kernel
theorem dX11_init_45 : decode cX11_init 45 = .ok (.putfield 35, 3) := by decide +kernel
theorem dX11_init_48 : decode cX11_init 48 = .ok (.aload_n 0, 1) := by decide +kernel
theorem dX11_init_49 : decode cX11_init 49 = .ok (.iconst 2, 1) := by decide +kernel
theorem dX11_init_50 : decode cX11_init 50 = .ok (.anewarray 11, 3) := by decide +kernel
theorem dX11_init_53 : decode cX11_init 53 = .ok (.putfield 39, 3) := by decide +kernel
theorem dX11_init_56 : decode cX11_init 56 = .ok (.aload_n 0, 1) := by decide +kernel
theorem dX11_init_57 : decode cX11_init 57 = .ok (.iconst 2, 1) := by decide +kernel
theorem dX11_init_58 : decode cX11_init 58 = .ok (.anewarray 18, 3) := by decide +kernel
theorem dX11_init_61 : decode cX11_init 61 = .ok (.putfield 43, 3) := by decide +kernel
theorem dX11_init_64 : decode cX11_init 64 = .ok (.aload_n 0, 1) := by decide +kernel
theorem dX11_init_65 : decode cX11_init 65 = .ok (.iconst 5, 1) := by decide +kernel
theorem dX11_init_66 : decode cX11_init 66 = .ok (.newarray .int, 2) := by decide +kernel
theorem dX11_init_68 : decode cX11_init 68 = .ok (.putfield 47, 3) := by decide +kernel
theorem dX11_init_71 : decode cX11_init 71 = .ok (.aload_n 0, 1) := by decide +kernel
theorem dX11_init_72 : decode cX11_init 72 = .ok (.iconst 0, 1) := by decide +kernel
theorem dX11_init_73 : decode cX11_init 73 = .ok (.putfield 51, 3) := by decide +kernel
theorem dX11_init_76 : decode cX11_init 76 = .ok (.aload_n 0, 1) := by decide +kernel
theorem dX11_init_77 : decode cX11_init 77 = .ok (.iconst (-1), 1) := by decide +kernel
theorem dX11_init_78 : decode cX11_init 78 = .ok (.putfield 55, 3) := by decide +kernel
theorem dX11_init_81 : decode cX11_init 81 = .ok (.aload_n 0, 1) := by decide +kernel
theorem dX11_init_82 : decode cX11_init 82 = .ok (.iconst 0, 1) := by decide +kernel
theorem dX11_init_83 : decode cX11_init 83 = .ok (.putfield 58, 3) := by decide +kernel
theorem dX11_init_86 : decode cX11_init 86 = .ok (.aload_n 0, 1) := by decide +kernel
theorem dX11_init_87 : decode cX11_init 87 = .ok (.iconst (-1), 1) := by decide +kernel
theorem dX11_init_88 : decode cX11_init 88 = .ok (.putfield 61, 3) := by decide +kernel
theorem dX11_init_91 : decode cX11_init 91 = .ok (.new 64, 3) := by decide +kernel
theorem dX11_init_94 : decode cX11_init 94 = .ok (.dup, 1) := by decide +kernel
theorem dX11_init_95 : decode cX11_init 95 = .ok (.invokespecial 66, 3) := by decide +kernel
theorem dX11_init_98 : decode cX11_init 98 = .ok (.astore_n 1, 1) := by decide +kernel
theorem dX11_init_99 : decode cX11_init 99 = .ok (.aload_n 0, 1) := by decide +kernel
theorem dX11_init_100 : decode cX11_init 100 = .ok (.getfield 14, 3) := by decide +kernel
theorem dX11_init_103 : decode cX11_init 103 = .ok (.invokevirtual 67, 3) := by decide +kernel
theorem dX11_init_106 : decode cX11_init 106 = .ok (.aload_n 0, 1) := by decide +kernel
theorem dX11_init_107 : decode cX11_init 107 = .ok (.new 70, 3) := by decide +kernel
theorem dX11_init_110 : decode cX11_init 110 = .ok (.dup, 1) := by decide +kernel
theorem dX11_init_111 : decode cX11_init 111 = .ok (.aload_n 0, 1) := by decide +kernel
theorem dX11_init_112 : decode cX11_init 112 = .ok (.getfield 28, 3) := by decide +kernel
theorem dX11_init_115 : decode cX11_init 115 = .ok (.invokespecial 72, 3) := by decide +kernel
theorem dX11_init_118 : decode cX11_init 118 = .ok (.putfield 75, 3) := by decide +kernel
theorem dX11_init_121 : decode cX11_init 121 = .ok (.aload_n 0, 1) := by decide +kernel
theorem dX11_init_122 : decode cX11_init 122 = .ok (.new 79, 3) := by decide +kernel
theorem dX11_init_125 : decode cX11_init 125 = .ok (.dup, 1) := by decide +kernel
theorem dX11_init_126 : decode cX11_init 126 = .ok (.aload_n 0, 1) := by decide +kernel
theorem dX11_init_127 : decode cX11_init 127 = .ok (.getfield 21, 3) := by decide +kernel
theorem dX11_init_130 : decode cX11_init 130 = .ok (.aload_n 1, 1) := by decide +kernel
theorem dX11_init_131 : decode cX11_init 131 = .ok (.invokespecial 81, 3) := by decide +kernel
theorem dX11_init_134 : decode cX11_init 134 = .ok (.putfield 84, 3) := by decide +kernel
theorem dX11_init_137 : decode cX11_init 137 = .ok (.aload_n 0, 1) := by decide +kernel
theorem dX11_init_138 : decode cX11_init 138 = .ok (.new 88, 3) := by decide +kernel
theorem dX11_init_141 : decode cX11_init 141 = .ok (.dup, 1) := by decide +kernel
theorem dX11_init_142 : decode cX11_init 142 = .ok (.aload_n 0, 1) := by decide +kernel
theorem dX11_init_143 : decode cX11_init 143 = .ok (.getfield 14, 3) := by decide +kernel
theorem dX11_init_146 : decode cX11_init 146 = .ok (.aload_n 0, 1) := by decide +kernel
theorem dX11_init_147 : decode cX11_init 147 = .ok (.getfield 84, 3) := by decide +kernel
theorem dX11_init_150 : decode cX11_init 150 = .ok (.aload_n 0, 1) := by decide +kernel
theorem dX11_init_151 : decode cX11_init 151 = .ok (.getfield 35, 3) := by decide +kernel
theorem dX11_init_154 : decode cX11_init 154 = .ok (.aload_n 1, 1) := by decide +kernel
theorem dX11_init_155 : decode cX11_init 155 = .ok (.invokespecial 90, 3) := by decide +kernel
theorem dX11_init_158 : decode cX11_init 158 = .ok (.putfield 93, 3) := by decide +kernel
theorem dX11_init_161 : decode cX11_init 161 = .ok (.aload_n 0, 1) := by decide +kernel
theorem dX11_init_162 : decode cX11_init 162 = .ok (.new 97, 3) := by decide +kernel
theorem dX11_init_165 : decode cX11_init 165 = .ok (.dup, 1) := by decide +kernel
theorem dX11_init_166 : decode cX11_init 166 = .ok (.aload_n 0, 1) := by decide +kernel
theorem dX11_init_167 : decode cX11_init 167 = .ok (.getfield 14, 3) := by decide +kernel
theorem dX11_init_170 : decode cX11_init 170 = .ok (.aload_n 0, 1) := by decide +kernel
theorem dX11_init_171 : decode cX11_init 171 = .ok (.getfield 84, 3) := by decide +kernel
theorem dX11_init_174 : decode cX11_init 174 = .ok (.invokespecial 99, 3) := by decide +kernel
theorem dX11_init_177 : decode cX11_init 177 = .ok (.putfield 102, 3) := by decide +kernel
theorem dX11_init_180 : decode cX11_init 180 = .ok (.aload_n 0, 1) := by decide +kernel
theorem dX11_init_181 : decode cX11_init 181 = .ok (.new 106, 3) := by decide +kernel
theorem dX11_init_184 : decode cX11_init 184 = .ok (.dup, 1) := by decide +kernel
theorem dX11_init_185 : decode cX11_init 185 = .ok (.aload_n 0, 1) := by decide +kernel
theorem dX11_init_186 : decode cX11_init 186 = .ok (.getfield 14, 3) := by decide +kernel
theorem dX11_init_189 : decode cX11_init 189 = .ok (.aload_n 0, 1) := by decide +kernel
theorem dX11_init_190 : decode cX11_init 190 = .ok (.getfield 84, 3) := by decide +kernel
theorem dX11_init_193 : decode cX11_init 193 = .ok (.invokespecial 108, 3) := by decide +kernel
theorem dX11_init_196 : decode cX11_init 196 = .ok (.putfield 109, 3) := by decide +kernel
theorem dX11_init_199 : decode cX11_init 199 = .ok (.return_, 1) := by decide +kernel
theorem dX11_put_0 : decode cX11_put 0 = .ok (.iload_n 1, 1) := by decide +kernel
theorem dX11_put_1 : decode cX11_put 1 = .ok (.ifCond .lt 24, 3) := by decide +kernel
theorem dX11_put_4 : decode cX11_put 4 = .ok (.iload_n 1, 1) := by decide +kernel
theorem dX11_put_5 : decode cX11_put 5 = .ok (.getstatic 113, 3) := by decide +kernel
theorem dX11_put_8 : decode cX11_put 8 = .ok (.arraylength, 1) := by decide +kernel
theorem dX11_put_9 : decode cX11_put 9 = .ok (.if_icmp .ge 16, 3) := by decide +kernel
theorem dX11_put_12 : decode cX11_put 12 = .ok (.iload_n 2, 1) := by decide +kernel
theorem dX11_put_13 : decode cX11_put 13 = .ok (.ifCond .lt 12, 3) := by decide +kernel
theorem dX11_put_16 : decode cX11_put 16 = .ok (.iload_n 2, 1) := by decide +kernel
theorem dX11_put_17 : decode cX11_put 17 = .ok (.getstatic 113, 3) := by decide +kernel
theorem dX11_put_20 : decode cX11_put 20 = .ok (.iload_n 1, 1) := by decide +kernel
theorem dX11_put_21 : decode cX11_put 21 = .ok (.iaload, 1) := by decide +kernel
theorem dX11_put_22 : decode cX11_put 22 = .ok (.if_icmp .le 9, 3) := by decide +kernel
theorem dX11_put_25 : decode cX11_put 25 = .ok (.aload_n 0, 1) := by decide +kernel
theorem dX11_put_26 : decode cX11_put 26 = .ok (.iconst (-1), 1) := by decide +kernel
theorem dX11_put_27 : decode cX11_put 27 = .ok (.invokevirtual 116, 3) := by decide +kernel
theorem dX11_put_30 : decode cX11_put 30 = .ok (.ireturn, 1) := by decide +kernel
theorem dX11_put_31 : decode cX11_put 31 = .ok (.aload_n 0, 1) := by decide +kernel
theorem dX11_put_32 : decode cX11_put 32 = .ok (.getfield 14, 3) := by decide +kernel
theorem dX11_put_35 : decode cX11_put 35 = .ok (.getfield 120, 3) := by decide +kernel
theorem dX11_put_38 : decode cX11_put 38 = .ok (.iconst 0, 1) := by decide +kernel
theorem dX11_put_39 : decode cX11_put 39 = .ok (.iload_n 1, 1) := by decide +kernel
theorem dX11_put_40 : decode cX11_put 40 = .ok (.iadd, 1) := by decide +kernel
theorem dX11_put_41 : decode cX11_put 41 = .ok (.iaload, 1) := by decide +kernel
theorem dX11_put_42 : decode cX11_put 42 = .ok (.istore_n 3, 1) := by decide +kernel
theorem dX11_put_43 : decode cX11_put 43 = .ok (.aload_n 0, 1) := by decide +kernel
theorem dX11_put_44 : decode cX11_put 44 = .ok (.getfield 14, 3) := by decide +kernel
theorem dX11_put_47 : decode cX11_put 47 = .ok (.getfield 120, 3) := by decide +kernel
theorem dX11_put_50 : decode cX11_put 50 = .ok (.iconst 0, 1) := by decide +kernel
theorem dX11_put_51 : decode cX11_put 51 = .ok (.iload_n 1, 1) := by decide +kernel
theorem dX11_put_52 : decode cX11_put 52 = .ok (.iadd, 1) := by decide +kernel
theorem dX11_put_53 : decode cX11_put 53 = .ok (.iload_n 2, 1) := by decide +kernel
theorem dX11_put_54 : decode cX11_put 54 = .ok (.iastore, 1) := by decide +kernel
theorem dX11_put_55 : decode cX11_put 55 = .ok (.aload_n 0, 1) := by decide +kernel
theorem dX11_put_56 : decode cX11_put 56 = .ok (.iload_n 3, 1) := by decide +kernel
theorem dX11_put_57 : decode cX11_put 57 = .ok (.invokevirtual 123, 3) := by decide +kernel
theorem dX11_put_60 : decode cX11_put 60 = .ok (.ireturn, 1) := by decide +kernel
theorem dX11_bullet_0 : decode cX11_bullet 0 = .ok (.iload_n 1, 1) := by decide +kernel
theorem dX11_bullet_1 : decode cX11_bullet 1 = .ok (.iconst 4, 1) := by decide +kernel
theorem dX11_bullet_2 : decode cX11_bullet 2 = .ok (.if_icmp .ne 19, 3) := by decide +kernel
theorem dX11_bullet_5 : decode cX11_bullet 5 = .ok (.aload_n 0, 1) := by decide +kernel
theorem dX11_bullet_6 : decode cX11_bullet 6 = .ok (.getfield 14, 3) := by decide +kernel
theorem dX11_bullet_9 : decode cX11_bullet 9 = .ok (.invokevirtual 126, 3) := by decide +kernel
theorem dX11_bullet_12 : decode cX11_bullet 12 = .ok (.ifCond .eq 7, 3) := by decide +kernel
theorem dX11_bullet_15 : decode cX11_bullet 15 = .ok (.iconst 1, 1) := by decide +kernel
theorem dX11_bullet_16 : decode cX11_bullet 16 = .ok (.goto 4, 3) := by decide +kernel
theorem dX11_bullet_19 : decode cX11_bullet 19 = .ok (.iconst 0, 1) := by decide +kernel
theorem dX11_bullet_20 : decode cX11_bullet 20 = .ok (.ireturn, 1) := by decide +kernel
theorem dX11_bullet_21 : decode cX11_bullet 21 = .ok (.iload_n 1, 1) := by decide +kernel
theorem dX11_bullet_22 : decode cX11_bullet 22 = .ok (.iconst 5, 1) := by decide +kernel
theorem dX11_bullet_23 : decode cX11_bullet 23 = .ok (.if_icmp .ne 23, 3) := by decide +kernel
theorem dX11_bullet_26 : decode cX11_bullet 26 = .ok (.aload_n 0, 1) := by decide +kernel
theorem dX11_bullet_27 : decode cX11_bullet 27 = .ok (.getfield 14, 3) := by decide +kernel
theorem dX11_bullet_30 : decode cX11_bullet 30 = .ok (.aload_n 0, 1) := by decide +kernel
theorem dX11_bullet_31 : decode cX11_bullet 31 = .ok (.getfield 14, 3) := by decide +kernel
theorem dX11_bullet_34 : decode cX11_bullet 34 = .ok (.getfield 120, 3) := by decide +kernel
theorem dX11_bullet_37 : decode cX11_bullet 37 = .ok (.bipush 26, 2) := by decide +kernel
theorem dX11_bullet_39 : decode cX11_bullet 39 = .ok (.iaload, 1) := by decide +kernel
theorem dX11_bullet_40 : decode cX11_bullet 40 = .ok (.iconst 1, 1) := by decide +kernel
theorem dX11_bullet_41 : decode cX11_bullet 41 = .ok (.isub, 1) := by decide +kernel
theorem dX11_bullet_42 : decode cX11_bullet 42 = .ok (.invokevirtual 130, 3) := by decide +kernel
theorem dX11_bullet_45 : decode cX11_bullet 45 = .ok (.ireturn, 1) := by decide +kernel
theorem dX11_bullet_46 : decode cX11_bullet 46 = .ok (.iload_n 1, 1) := by decide +kernel
theorem dX11_bullet_47 : decode cX11_bullet 47 = .ok (.ifCond .lt 22, 3) := by decide +kernel
theorem dX11_bullet_50 : decode cX11_bullet 50 = .ok (.iload_n 1, 1) := by decide +kernel
theorem dX11_bullet_51 : decode cX11_bullet 51 = .ok (.iconst 3, 1) := by decide +kernel
theorem dX11_bullet_52 : decode cX11_bullet 52 = .ok (.if_icmp .gt 17, 3) := by decide +kernel
theorem dX11_bullet_55 : decode cX11_bullet 55 = .ok (.aload_n 0, 1) := by decide +kernel
theorem dX11_bullet_56 : decode cX11_bullet 56 = .ok (.getfield 14, 3) := by decide +kernel
theorem dX11_bullet_59 : decode cX11_bullet 59 = .ok (.getfield 120, 3) := by decide +kernel
theorem dX11_bullet_62 : decode cX11_bullet 62 = .ok (.iconst 0, 1) := by decide +kernel
theorem dX11_bullet_63 : decode cX11_bullet 63 = .ok (.iload_n 1, 1) := by decide +kernel
theorem dX11_bullet_64 : decode cX11_bullet 64 = .ok (.iadd, 1) := by decide +kernel
theorem dX11_bullet_65 : decode cX11_bullet 65 = .ok (.iaload, 1) := by decide +kernel
theorem dX11_bullet_66 : decode cX11_bullet 66 = .ok (.goto 4, 3) := by decide +kernel
theorem dX11_bullet_69 : decode cX11_bullet 69 = .ok (.iconst (-1), 1) := by decide +kernel
theorem dX11_bullet_70 : decode cX11_bullet 70 = .ok (.ireturn, 1) := by decide +kernel
theorem dX11_place_0 : decode cX11_place 0 = .ok (.iload_n 1, 1) := by decide +kernel
theorem dX11_place_1 : decode cX11_place 1 = .ok (.iload_n 2, 1) := by decide +kernel
theorem dX11_place_2 : decode cX11_place 2 = .ok (.iload_n 3, 1) := by decide +kernel
theorem dX11_place_3 : decode cX11_place 3 = .ok (.invokestatic 133, 3) := by decide +kernel
theorem dX11_place_6 : decode cX11_place 6 = .ok (.ifCond .ne 9, 3) := by decide +kernel
theorem dX11_place_9 : decode cX11_place 9 = .ok (.aload_n 0, 1) := by decide +kernel
theorem dX11_place_10 : decode cX11_place 10 = .ok (.iconst (-1), 1) := by decide +kernel
theorem dX11_place_11 : decode cX11_place 11 = .ok (.invokevirtual 116, 3) := by decide +kernel
theorem dX11_place_14 : decode cX11_place 14 = .ok (.ireturn, 1) := by decide +kernel
theorem dX11_place_15 : decode cX11_place 15 = .ok (.aload_n 0, 1) := by decide +kernel
theorem dX11_place_16 : decode cX11_place 16 = .ok (.getfield 14, 3) := by decide +kernel
theorem dX11_place_19 : decode cX11_place 19 = .ok (.getfield 120, 3) := by decide +kernel
theorem dX11_place_22 : decode cX11_place 22 = .ok (.bipush 23, 2) := by decide +kernel
theorem dX11_place_24 : decode cX11_place 24 = .ok (.iaload, 1) := by decide +kernel
theorem dX11_place_25 : decode cX11_place 25 = .ok (.bipush 12, 2) := by decide +kernel
theorem dX11_place_27 : decode cX11_place 27 = .ok (.if_icmp .lt 10, 3) := by decide +kernel
theorem dX11_place_30 : decode cX11_place 30 = .ok (.aload_n 0, 1) := by decide +kernel
theorem dX11_place_31 : decode cX11_place 31 = .ok (.bipush (-5), 2) := by decide +kernel
theorem dX11_place_33 : decode cX11_place 33 = .ok (.invokevirtual 116, 3) := by decide +kernel
theorem dX11_place_36 : decode cX11_place 36 = .ok (.ireturn, 1) := by decide +kernel
theorem dX11_place_37 : decode cX11_place 37 = .ok (.aload_n 0, 1) := by decide +kernel
theorem dX11_place_38 : decode cX11_place 38 = .ok (.aload_n 0, 1) := by decide +kernel
theorem dX11_place_39 : decode cX11_place 39 = .ok (.getfield 14, 3) := by decide +kernel
theorem dX11_place_42 : decode cX11_place 42 = .ok (.iload_n 1, 1) := by decide +kernel
theorem dX11_place_43 : decode cX11_place 43 = .ok (.iload_n 2, 1) := by decide +kernel
theorem dX11_place_44 : decode cX11_place 44 = .ok (.iload_n 3, 1) := by decide +kernel
theorem dX11_place_45 : decode cX11_place 45 = .ok (.invokevirtual 137, 3) := by decide +kernel
theorem dX11_place_48 : decode cX11_place 48 = .ok (.invokevirtual 123, 3) := by decide +kernel
theorem dX11_place_51 : decode cX11_place 51 = .ok (.ireturn, 1) := by decide +kernel
theorem dX11_at_0 : decode cX11_at 0 = .ok (.aload_n 0, 1) := by decide +kernel
theorem dX11_at_1 : decode cX11_at 1 = .ok (.getfield 14, 3) := by decide +kernel
theorem dX11_at_4 : decode cX11_at 4 = .ok (.iload_n 1, 1) := by decide +kernel
theorem dX11_at_5 : decode cX11_at 5 = .ok (.invokevirtual 141, 3) := by decide +kernel
theorem dX11_at_8 : decode cX11_at 8 = .ok (.ifCond .ne 5, 3) := by decide +kernel
theorem dX11_at_11 : decode cX11_at 11 = .ok (.iconst (-1), 1) := by decide +kernel
theorem dX11_at_12 : decode cX11_at 12 = .ok (.ireturn, 1) := by decide +kernel
theorem dX11_at_13 : decode cX11_at 13 = .ok (.iload_n 2, 1) := by decide +kernel
theorem dX11_at_14 : decode cX11_at 14 = .ok (.tableswitch 138 0 6 #[42, 55, 68, 81, 93, 108, 123], 42) := by decide +kernel
theorem dX11_at_56 : decode cX11_at 56 = .ok (.aload_n 0, 1) := by decide +kernel
theorem dX11_at_57 : decode cX11_at 57 = .ok (.getfield 14, 3) := by decide +kernel
theorem dX11_at_60 : decode cX11_at 60 = .ok (.getfield 120, 3) := by decide +kernel
theorem dX11_at_63 : decode cX11_at 63 = .ok (.bipush 27, 2) := by decide +kernel
theorem dX11_at_65 : decode cX11_at 65 = .ok (.iload_n 1, 1) := by decide +kernel
theorem dX11_at_66 : decode cX11_at 66 = .ok (.iadd, 1) := by decide +kernel
theorem dX11_at_67 : decode cX11_at 67 = .ok (.iaload, 1) := by decide +kernel
theorem dX11_at_68 : decode cX11_at 68 = .ok (.ireturn, 1) := by decide +kernel
theorem dX11_at_69 : decode cX11_at 69 = .ok (.aload_n 0, 1) := by decide +kernel
theorem dX11_at_70 : decode cX11_at 70 = .ok (.getfield 14, 3) := by decide +kernel
theorem dX11_at_73 : decode cX11_at 73 = .ok (.getfield 120, 3) := by decide +kernel
theorem dX11_at_76 : decode cX11_at 76 = .ok (.bipush 39, 2) := by decide +kernel
theorem dX11_at_78 : decode cX11_at 78 = .ok (.iload_n 1, 1) := by decide +kernel
theorem dX11_at_79 : decode cX11_at 79 = .ok (.iadd, 1) := by decide +kernel
theorem dX11_at_80 : decode cX11_at 80 = .ok (.iaload, 1) := by decide +kernel
theorem dX11_at_81 : decode cX11_at 81 = .ok (.ireturn, 1) := by decide +kernel
theorem dX11_at_82 : decode cX11_at 82 = .ok (.aload_n 0, 1) := by decide +kernel
theorem dX11_at_83 : decode cX11_at 83 = .ok (.getfield 14, 3) := by decide +kernel
theorem dX11_at_86 : decode cX11_at 86 = .ok (.getfield 120, 3) := by decide +kernel
theorem dX11_at_89 : decode cX11_at 89 = .ok (.bipush 51, 2) := by decide +kernel
theorem dX11_at_91 : decode cX11_at 91 = .ok (.iload_n 1, 1) := by decide +kernel
theorem dX11_at_92 : decode cX11_at 92 = .ok (.iadd, 1) := by decide +kernel
theorem dX11_at_93 : decode cX11_at 93 = .ok (.iaload, 1) := by decide +kernel
theorem dX11_at_94 : decode cX11_at 94 = .ok (.ireturn, 1) := by decide +kernel
theorem dX11_at_95 : decode cX11_at 95 = .ok (.aload_n 0, 1) := by decide +kernel
theorem dX11_at_96 : decode cX11_at 96 = .ok (.getfield 14, 3) := by decide +kernel
theorem dX11_at_99 : decode cX11_at 99 = .ok (.getfield 120, 3) := by decide +kernel
theorem dX11_at_102 : decode cX11_at 102 = .ok (.iconst 4, 1) := by decide +kernel
theorem dX11_at_103 : decode cX11_at 103 = .ok (.iload_n 1, 1) := by decide +kernel
theorem dX11_at_104 : decode cX11_at 104 = .ok (.iadd, 1) := by decide +kernel
theorem dX11_at_105 : decode cX11_at 105 = .ok (.iaload, 1) := by decide +kernel
theorem dX11_at_106 : decode cX11_at 106 = .ok (.ireturn, 1) := by decide +kernel
theorem dX11_at_107 : decode cX11_at 107 = .ok (.aload_n 0, 1) := by decide +kernel
theorem dX11_at_108 : decode cX11_at 108 = .ok (.getfield 84, 3) := by decide +kernel
theorem dX11_at_111 : decode cX11_at 111 = .ok (.aload_n 0, 1) := by decide +kernel
theorem dX11_at_112 : decode cX11_at 112 = .ok (.getfield 14, 3) := by decide +kernel
theorem dX11_at_115 : decode cX11_at 115 = .ok (.iconst 1, 1) := by decide +kernel
theorem dX11_at_116 : decode cX11_at 116 = .ok (.iconst (-1), 1) := by decide +kernel
theorem dX11_at_117 : decode cX11_at 117 = .ok (.iload_n 1, 1) := by decide +kernel
theorem dX11_at_118 : decode cX11_at 118 = .ok (.invokevirtual 145, 3) := by decide +kernel
theorem dX11_at_121 : decode cX11_at 121 = .ok (.ireturn, 1) := by decide +kernel
theorem dX11_at_122 : decode cX11_at 122 = .ok (.aload_n 0, 1) := by decide +kernel
theorem dX11_at_123 : decode cX11_at 123 = .ok (.getfield 84, 3) := by decide +kernel
theorem dX11_at_126 : decode cX11_at 126 = .ok (.aload_n 0, 1) := by decide +kernel
theorem dX11_at_127 : decode cX11_at 127 = .ok (.getfield 14, 3) := by decide +kernel
theorem dX11_at_130 : decode cX11_at 130 = .ok (.iconst 2, 1) := by decide +kernel
theorem dX11_at_131 : decode cX11_at 131 = .ok (.iconst (-1), 1) := by decide +kernel
theorem dX11_at_132 : decode cX11_at 132 = .ok (.iload_n 1, 1) := by decide +kernel
theorem dX11_at_133 : decode cX11_at 133 = .ok (.invokevirtual 145, 3) := by decide +kernel
theorem dX11_at_136 : decode cX11_at 136 = .ok (.ireturn, 1) := by decide +kernel
theorem dX11_at_137 : decode cX11_at 137 = .ok (.aload_n 0, 1) := by decide +kernel
theorem dX11_at_138 : decode cX11_at 138 = .ok (.getfield 84, 3) := by decide +kernel
theorem dX11_at_141 : decode cX11_at 141 = .ok (.aload_n 0, 1) := by decide +kernel
theorem dX11_at_142 : decode cX11_at 142 = .ok (.getfield 14, 3) := by decide +kernel
theorem dX11_at_145 : decode cX11_at 145 = .ok (.iconst 3, 1) := by decide +kernel
theorem dX11_at_146 : decode cX11_at 146 = .ok (.iconst (-1), 1) := by decide +kernel
theorem dX11_at_147 : decode cX11_at 147 = .ok (.iload_n 1, 1) := by decide +kernel
theorem dX11_at_148 : decode cX11_at 148 = .ok (.invokevirtual 145, 3) := by decide +kernel
theorem dX11_at_151 : decode cX11_at 151 = .ok (.ireturn, 1) := by decide +kernel
theorem dX11_at_152 : decode cX11_at 152 = .ok (.iconst (-1), 1) := by decide +kernel
theorem dX11_at_153 : decode cX11_at 153 = .ok (.ireturn, 1) := by decide +kernel
theorem dX11_person_0 : decode cX11_person 0 = .ok (.iload_n 1, 1) := by decide +kernel
theorem dX11_person_1 : decode cX11_person 1 = .ok (.ifCond .lt 18, 3) := by decide +kernel
theorem dX11_person_4 : decode cX11_person 4 = .ok (.iload_n 1, 1) := by decide +kernel
theorem dX11_person_5 : decode cX11_person 5 = .ok (.bipush 10, 2) := by decide +kernel
theorem dX11_person_7 : decode cX11_person 7 = .ok (.if_icmp .gt 12, 3) := by decide +kernel
theorem dX11_person_10 : decode cX11_person 10 = .ok (.iload_n 2, 1) := by decide +kernel
theorem dX11_person_11 : decode cX11_person 11 = .ok (.ifCond .lt 8, 3) := by decide +kernel
