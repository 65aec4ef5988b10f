theorem dX12_game_24 : decode cX12_game 24 = .ok (.iconst (-1), 1) := by decide +kernel
theorem dX12_game_25 : decode cX12_game 25 = .ok (.ireturn, 1) := by decide +kernel
theorem dX12_game_26 : decode cX12_game 26 = .ok (.aload_n 0, 1) := by decide +kernel
theorem dX12_game_27 : decode cX12_game 27 = .ok (.iconst 0, 1) := by decide +kernel
theorem dX12_game_28 : decode cX12_game 28 = .ok (.invokevirtual 186, 3) := by decide +kernel
theorem dX12_game_31 : decode cX12_game 31 = .ok (.istore_n 2, 1) := by decide +kernel
theorem dX12_game_32 : decode cX12_game 32 = .ok (.aload_n 0, 1) := by decide +kernel
theorem dX12_game_33 : decode cX12_game 33 = .ok (.iconst 2, 1) := by decide +kernel
theorem dX12_game_34 : decode cX12_game 34 = .ok (.invokevirtual 189, 3) := by decide +kernel
theorem dX12_game_37 : decode cX12_game 37 = .ok (.istore_n 3, 1) := by decide +kernel
theorem dX12_game_38 : decode cX12_game 38 = .ok (.iload_n 3, 1) := by decide +kernel
theorem dX12_game_39 : decode cX12_game 39 = .ok (.iload_n 2, 1) := by decide +kernel
theorem dX12_game_40 : decode cX12_game 40 = .ok (.if_icmp .gt 54, 3) := by decide +kernel
theorem dX12_game_43 : decode cX12_game 43 = .ok (.iconst 0, 1) := by decide +kernel
theorem dX12_game_44 : decode cX12_game 44 = .ok (.istore 4, 2) := by decide +kernel
theorem dX12_game_46 : decode cX12_game 46 = .ok (.iconst 0, 1) := by decide +kernel
theorem dX12_game_47 : decode cX12_game 47 = .ok (.istore 5, 2) := by decide +kernel
theorem dX12_game_49 : decode cX12_game 49 = .ok (.iload 5, 2) := by decide +kernel
theorem dX12_game_51 : decode cX12_game 51 = .ok (.aload_n 0, 1) := by decide +kernel
theorem dX12_game_52 : decode cX12_game 52 = .ok (.getfield 13, 3) := by decide +kernel
theorem dX12_game_55 : decode cX12_game 55 = .ok (.iconst 0, 1) := by decide +kernel
theorem dX12_game_56 : decode cX12_game 56 = .ok (.iaload, 1) := by decide +kernel
theorem dX12_game_57 : decode cX12_game 57 = .ok (.if_icmp .ge 23, 3) := by decide +kernel
theorem dX12_game_60 : decode cX12_game 60 = .ok (.iload 4, 2) := by decide +kernel
theorem dX12_game_62 : decode cX12_game 62 = .ok (.ifCond .ne 18, 3) := by decide +kernel
theorem dX12_game_65 : decode cX12_game 65 = .ok (.aload_n 0, 1) := by decide +kernel
theorem dX12_game_66 : decode cX12_game 66 = .ok (.iload_n 3, 1) := by decide +kernel
theorem dX12_game_67 : decode cX12_game 67 = .ok (.iload 5, 2) := by decide +kernel
theorem dX12_game_69 : decode cX12_game 69 = .ok (.invokevirtual 527, 3) := by decide +kernel
theorem dX12_game_72 : decode cX12_game 72 = .ok (.istore 4, 2) := by decide +kernel
theorem dX12_game_74 : decode cX12_game 74 = .ok (.iinc 5 1, 3) := by decide +kernel
theorem dX12_game_77 : decode cX12_game 77 = .ok (.goto (-28), 3) := by decide +kernel
theorem dX12_game_80 : decode cX12_game 80 = .ok (.aload_n 0, 1) := by decide +kernel
theorem dX12_game_81 : decode cX12_game 81 = .ok (.getfield 137, 3) := by decide +kernel
theorem dX12_game_84 : decode cX12_game 84 = .ok (.iload_n 3, 1) := by decide +kernel
theorem dX12_game_85 : decode cX12_game 85 = .ok (.iload 4, 2) := by decide +kernel
theorem dX12_game_87 : decode cX12_game 87 = .ok (.bastore, 1) := by decide +kernel
theorem dX12_game_88 : decode cX12_game 88 = .ok (.iinc 3 1, 3) := by decide +kernel
theorem dX12_game_91 : decode cX12_game 91 = .ok (.goto (-53), 3) := by decide +kernel
theorem dX12_game_94 : decode cX12_game 94 = .ok (.iconst 0, 1) := by decide +kernel
theorem dX12_game_95 : decode cX12_game 95 = .ok (.istore_n 3, 1) := by decide +kernel
theorem dX12_game_96 : decode cX12_game 96 = .ok (.iconst (-1), 1) := by decide +kernel
theorem dX12_game_97 : decode cX12_game 97 = .ok (.istore 4, 2) := by decide +kernel
theorem dX12_game_99 : decode cX12_game 99 = .ok (.aload_n 0, 1) := by decide +kernel
theorem dX12_game_100 : decode cX12_game 100 = .ok (.getfield 13, 3) := by decide +kernel
theorem dX12_game_103 : decode cX12_game 103 = .ok (.iconst 0, 1) := by decide +kernel
theorem dX12_game_104 : decode cX12_game 104 = .ok (.iaload, 1) := by decide +kernel
theorem dX12_game_105 : decode cX12_game 105 = .ok (.iconst 1, 1) := by decide +kernel
theorem dX12_game_106 : decode cX12_game 106 = .ok (.isub, 1) := by decide +kernel
theorem dX12_game_107 : decode cX12_game 107 = .ok (.istore 5, 2) := by decide +kernel
theorem dX12_game_109 : decode cX12_game 109 = .ok (.iload 5, 2) := by decide +kernel
theorem dX12_game_111 : decode cX12_game 111 = .ok (.ifCond .lt 26, 3) := by decide +kernel
theorem dX12_game_114 : decode cX12_game 114 = .ok (.aload_n 0, 1) := by decide +kernel
theorem dX12_game_115 : decode cX12_game 115 = .ok (.iload_n 2, 1) := by decide +kernel
theorem dX12_game_116 : decode cX12_game 116 = .ok (.iload 5, 2) := by decide +kernel
theorem dX12_game_118 : decode cX12_game 118 = .ok (.invokevirtual 527, 3) := by decide +kernel
theorem dX12_game_121 : decode cX12_game 121 = .ok (.ifCond .eq 10, 3) := by decide +kernel
theorem dX12_game_124 : decode cX12_game 124 = .ok (.iinc 3 1, 3) := by decide +kernel
theorem dX12_game_127 : decode cX12_game 127 = .ok (.iload 5, 2) := by decide +kernel
theorem dX12_game_129 : decode cX12_game 129 = .ok (.istore 4, 2) := by decide +kernel
theorem dX12_game_131 : decode cX12_game 131 = .ok (.iinc 5 (-1), 3) := by decide +kernel
theorem dX12_game_134 : decode cX12_game 134 = .ok (.goto (-25), 3) := by decide +kernel
theorem dX12_game_137 : decode cX12_game 137 = .ok (.iload_n 1, 1) := by decide +kernel
theorem dX12_game_138 : decode cX12_game 138 = .ok (.ifCond .ne 15, 3) := by decide +kernel
theorem dX12_game_141 : decode cX12_game 141 = .ok (.iload_n 3, 1) := by decide +kernel
theorem dX12_game_142 : decode cX12_game 142 = .ok (.ifCond .le 7, 3) := by decide +kernel
theorem dX12_game_145 : decode cX12_game 145 = .ok (.iconst 1, 1) := by decide +kernel
theorem dX12_game_146 : decode cX12_game 146 = .ok (.goto 18, 3) := by decide +kernel
theorem dX12_game_149 : decode cX12_game 149 = .ok (.iconst 0, 1) := by decide +kernel
theorem dX12_game_150 : decode cX12_game 150 = .ok (.goto 14, 3) := by decide +kernel
theorem dX12_game_153 : decode cX12_game 153 = .ok (.iload_n 1, 1) := by decide +kernel
theorem dX12_game_154 : decode cX12_game 154 = .ok (.iconst 1, 1) := by decide +kernel
theorem dX12_game_155 : decode cX12_game 155 = .ok (.if_icmp .ne 7, 3) := by decide +kernel
theorem dX12_game_158 : decode cX12_game 158 = .ok (.iload_n 3, 1) := by decide +kernel
theorem dX12_game_159 : decode cX12_game 159 = .ok (.goto 5, 3) := by decide +kernel
theorem dX12_game_162 : decode cX12_game 162 = .ok (.iload 4, 2) := by decide +kernel
theorem dX12_game_164 : decode cX12_game 164 = .ok (.ireturn, 1) := by decide +kernel
theorem dX12_share_0 : decode cX12_share 0 = .ok (.aload_n 0, 1) := by decide +kernel
theorem dX12_share_1 : decode cX12_share 1 = .ok (.iconst 0, 1) := by decide +kernel
theorem dX12_share_2 : decode cX12_share 2 = .ok (.putfield 149, 3) := by decide +kernel
theorem dX12_share_5 : decode cX12_share 5 = .ok (.aload_n 0, 1) := by decide +kernel
theorem dX12_share_6 : decode cX12_share 6 = .ok (.getfield 13, 3) := by decide +kernel
theorem dX12_share_9 : decode cX12_share 9 = .ok (.bipush 15, 2) := by decide +kernel
theorem dX12_share_11 : decode cX12_share 11 = .ok (.iaload, 1) := by decide +kernel
theorem dX12_share_12 : decode cX12_share 12 = .ok (.aload_n 0, 1) := by decide +kernel
theorem dX12_share_13 : decode cX12_share 13 = .ok (.getfield 13, 3) := by decide +kernel
theorem dX12_share_16 : decode cX12_share 16 = .ok (.bipush 16, 2) := by decide +kernel
theorem dX12_share_18 : decode cX12_share 18 = .ok (.iaload, 1) := by decide +kernel
theorem dX12_share_19 : decode cX12_share 19 = .ok (.iadd, 1) := by decide +kernel
theorem dX12_share_20 : decode cX12_share 20 = .ok (.istore_n 3, 1) := by decide +kernel
theorem dX12_share_21 : decode cX12_share 21 = .ok (.iload_n 1, 1) := by decide +kernel
theorem dX12_share_22 : decode cX12_share 22 = .ok (.i2l, 1) := by decide +kernel
theorem dX12_share_23 : decode cX12_share 23 = .ok (.lconst 0, 1) := by decide +kernel
theorem dX12_share_24 : decode cX12_share 24 = .ok (.lconst 1, 1) := by decide +kernel
theorem dX12_share_25 : decode cX12_share 25 = .ok (.invokestatic 169, 3) := by decide +kernel
theorem dX12_share_28 : decode cX12_share 28 = .ok (.ifCond .eq 17, 3) := by decide +kernel
theorem dX12_share_31 : decode cX12_share 31 = .ok (.iload_n 2, 1) := by decide +kernel
theorem dX12_share_32 : decode cX12_share 32 = .ok (.i2l, 1) := by decide +kernel
theorem dX12_share_33 : decode cX12_share 33 = .ok (.lconst 0, 1) := by decide +kernel
theorem dX12_share_34 : decode cX12_share 34 = .ok (.lconst 1, 1) := by decide +kernel
theorem dX12_share_35 : decode cX12_share 35 = .ok (.invokestatic 169, 3) := by decide +kernel
theorem dX12_share_38 : decode cX12_share 38 = .ok (.ifCond .eq 7, 3) := by decide +kernel
theorem dX12_share_41 : decode cX12_share 41 = .ok (.iload_n 3, 1) := by decide +kernel
theorem dX12_share_42 : decode cX12_share 42 = .ok (.ifCond .ne 5, 3) := by decide +kernel
theorem dX12_share_45 : decode cX12_share 45 = .ok (.iconst (-1), 1) := by decide +kernel
theorem dX12_share_46 : decode cX12_share 46 = .ok (.ireturn, 1) := by decide +kernel
theorem dX12_share_47 : decode cX12_share 47 = .ok (.aload_n 0, 1) := by decide +kernel
theorem dX12_share_48 : decode cX12_share 48 = .ok (.getfield 13, 3) := by decide +kernel
theorem dX12_share_51 : decode cX12_share 51 = .ok (.bipush 15, 2) := by decide +kernel
theorem dX12_share_53 : decode cX12_share 53 = .ok (.iload_n 1, 1) := by decide +kernel
theorem dX12_share_54 : decode cX12_share 54 = .ok (.iadd, 1) := by decide +kernel
theorem dX12_share_55 : decode cX12_share 55 = .ok (.iaload, 1) := by decide +kernel
theorem dX12_share_56 : decode cX12_share 56 = .ok (.istore 4, 2) := by decide +kernel
theorem dX12_share_58 : decode cX12_share 58 = .ok (.iload_n 3, 1) := by decide +kernel
theorem dX12_share_59 : decode cX12_share 59 = .ok (.istore 5, 2) := by decide +kernel
theorem dX12_share_61 : decode cX12_share 61 = .ok (.iload 5, 2) := by decide +kernel
theorem dX12_share_63 : decode cX12_share 63 = .ok (.ifCond .eq 21, 3) := by decide +kernel
theorem dX12_share_66 : decode cX12_share 66 = .ok (.iload 4, 2) := by decide +kernel
theorem dX12_share_68 : decode cX12_share 68 = .ok (.iload 5, 2) := by decide +kernel
theorem dX12_share_70 : decode cX12_share 70 = .ok (.irem, 1) := by decide +kernel
theorem dX12_share_71 : decode cX12_share 71 = .ok (.istore 6, 2) := by decide +kernel
theorem dX12_share_73 : decode cX12_share 73 = .ok (.iload 5, 2) := by decide +kernel
theorem dX12_share_75 : decode cX12_share 75 = .ok (.istore 4, 2) := by decide +kernel
theorem dX12_share_77 : decode cX12_share 77 = .ok (.iload 6, 2) := by decide +kernel
theorem dX12_share_79 : decode cX12_share 79 = .ok (.istore 5, 2) := by decide +kernel
theorem dX12_share_81 : decode cX12_share 81 = .ok (.goto (-20), 3) := by decide +kernel
theorem dX12_share_84 : decode cX12_share 84 = .ok (.iload_n 2, 1) := by decide +kernel
theorem dX12_share_85 : decode cX12_share 85 = .ok (.ifCond .ne 18, 3) := by decide +kernel
theorem dX12_share_88 : decode cX12_share 88 = .ok (.aload_n 0, 1) := by decide +kernel
theorem dX12_share_89 : decode cX12_share 89 = .ok (.getfield 13, 3) := by decide +kernel
theorem dX12_share_92 : decode cX12_share 92 = .ok (.bipush 15, 2) := by decide +kernel
theorem dX12_share_94 : decode cX12_share 94 = .ok (.iload_n 1, 1) := by decide +kernel
theorem dX12_share_95 : decode cX12_share 95 = .ok (.iadd, 1) := by decide +kernel
theorem dX12_share_96 : decode cX12_share 96 = .ok (.iaload, 1) := by decide +kernel
theorem dX12_share_97 : decode cX12_share 97 = .ok (.iload 4, 2) := by decide +kernel
theorem dX12_share_99 : decode cX12_share 99 = .ok (.idiv, 1) := by decide +kernel
theorem dX12_share_100 : decode cX12_share 100 = .ok (.goto 7, 3) := by decide +kernel
theorem dX12_share_103 : decode cX12_share 103 = .ok (.iload_n 3, 1) := by decide +kernel
theorem dX12_share_104 : decode cX12_share 104 = .ok (.iload 4, 2) := by decide +kernel
theorem dX12_share_106 : decode cX12_share 106 = .ok (.idiv, 1) := by decide +kernel
theorem dX12_share_107 : decode cX12_share 107 = .ok (.ireturn, 1) := by decide +kernel
theorem dX12_readSum_0 : decode cX12_readSum 0 = .ok (.aload_n 0, 1) := by decide +kernel
theorem dX12_readSum_1 : decode cX12_readSum 1 = .ok (.getfield 140, 3) := by decide +kernel
theorem dX12_readSum_4 : decode cX12_readSum 4 = .ok (.iload_n 1, 1) := by decide +kernel
theorem dX12_readSum_5 : decode cX12_readSum 5 = .ok (.aload_n 0, 1) := by decide +kernel
theorem dX12_readSum_6 : decode cX12_readSum 6 = .ok (.getfield 307, 3) := by decide +kernel
theorem dX12_readSum_9 : decode cX12_readSum 9 = .ok (.iastore, 1) := by decide +kernel
theorem dX12_readSum_10 : decode cX12_readSum 10 = .ok (.aload_n 0, 1) := by decide +kernel
theorem dX12_readSum_11 : decode cX12_readSum 11 = .ok (.getfield 270, 3) := by decide +kernel
theorem dX12_readSum_14 : decode cX12_readSum 14 = .ok (.ifCond .ne 8, 3) := by decide +kernel
theorem dX12_readSum_17 : decode cX12_readSum 17 = .ok (.aload_n 0, 1) := by decide +kernel
theorem dX12_readSum_18 : decode cX12_readSum 18 = .ok (.iconst 0, 1) := by decide +kernel
theorem dX12_readSum_19 : decode cX12_readSum 19 = .ok (.invokevirtual 401, 3) := by decide +kernel
theorem dX12_readSum_22 : decode cX12_readSum 22 = .ok (.aload_n 0, 1) := by decide +kernel
theorem dX12_readSum_23 : decode cX12_readSum 23 = .ok (.getfield 140, 3) := by decide +kernel
theorem dX12_readSum_26 : decode cX12_readSum 26 = .ok (.iload_n 1, 1) := by decide +kernel
theorem dX12_readSum_27 : decode cX12_readSum 27 = .ok (.iconst 1, 1) := by decide +kernel
theorem dX12_readSum_28 : decode cX12_readSum 28 = .ok (.iadd, 1) := by decide +kernel
theorem dX12_readSum_29 : decode cX12_readSum 29 = .ok (.aload_n 0, 1) := by decide +kernel
theorem dX12_readSum_30 : decode cX12_readSum 30 = .ok (.getfield 307, 3) := by decide +kernel
theorem dX12_readSum_33 : decode cX12_readSum 33 = .ok (.iastore, 1) := by decide +kernel
theorem dX12_readSum_34 : decode cX12_readSum 34 = .ok (.return_, 1) := by decide +kernel
theorem dX12_readOrder_0 : decode cX12_readOrder 0 = .ok (.aload_n 0, 1) := by decide +kernel
theorem dX12_readOrder_1 : decode cX12_readOrder 1 = .ok (.ldc2_w 530, 3) := by decide +kernel
theorem dX12_readOrder_4 : decode cX12_readOrder 4 = .ok (.invokevirtual 326, 3) := by decide +kernel
theorem dX12_readOrder_7 : decode cX12_readOrder 7 = .ok (.ifCond .eq 7, 3) := by decide +kernel
theorem dX12_readOrder_10 : decode cX12_readOrder 10 = .ok (.iconst 0, 1) := by decide +kernel
theorem dX12_readOrder_11 : decode cX12_readOrder 11 = .ok (.goto 32, 3) := by decide +kernel
theorem dX12_readOrder_14 : decode cX12_readOrder 14 = .ok (.aload_n 0, 1) := by decide +kernel
theorem dX12_readOrder_15 : decode cX12_readOrder 15 = .ok (.ldc2_w 532, 3) := by decide +kernel
theorem dX12_readOrder_18 : decode cX12_readOrder 18 = .ok (.invokevirtual 326, 3) := by decide +kernel
theorem dX12_readOrder_21 : decode cX12_readOrder 21 = .ok (.ifCond .eq 7, 3) := by decide +kernel
theorem dX12_readOrder_24 : decode cX12_readOrder 24 = .ok (.iconst 1, 1) := by decide +kernel
theorem dX12_readOrder_25 : decode cX12_readOrder 25 = .ok (.goto 18, 3) := by decide +kernel
theorem dX12_readOrder_28 : decode cX12_readOrder 28 = .ok (.aload_n 0, 1) := by decide +kernel
theorem dX12_readOrder_29 : decode cX12_readOrder 29 = .ok (.ldc2_w 534, 3) := by decide +kernel
theorem dX12_readOrder_32 : decode cX12_readOrder 32 = .ok (.invokevirtual 326, 3) := by decide +kernel
theorem dX12_readOrder_35 : decode cX12_readOrder 35 = .ok (.ifCond .eq 7, 3) := by decide +kernel
theorem dX12_readOrder_38 : decode cX12_readOrder 38 = .ok (.iconst 2, 1) := by decide +kernel
theorem dX12_readOrder_39 : decode cX12_readOrder 39 = .ok (.goto 4, 3) := by decide +kernel
theorem dX12_readOrder_42 : decode cX12_readOrder 42 = .ok (.iconst (-1), 1) := by decide +kernel
theorem dX12_readOrder_43 : decode cX12_readOrder 43 = .ok (.istore_n 1, 1) := by decide +kernel
theorem dX12_readOrder_44 : decode cX12_readOrder 44 = .ok (.aload_n 0, 1) := by decide +kernel
theorem dX12_readOrder_45 : decode cX12_readOrder 45 = .ok (.iload_n 1, 1) := by decide +kernel
theorem dX12_readOrder_46 : decode cX12_readOrder 46 = .ok (.iconst (-1), 1) := by decide +kernel
theorem dX12_readOrder_47 : decode cX12_readOrder 47 = .ok (.if_icmp .eq 16, 3) := by decide +kernel
theorem dX12_readOrder_50 : decode cX12_readOrder 50 = .ok (.aload_n 0, 1) := by decide +kernel
theorem dX12_readOrder_51 : decode cX12_readOrder 51 = .ok (.getfield 398, 3) := by decide +kernel
theorem dX12_readOrder_54 : decode cX12_readOrder 54 = .ok (.bipush 12, 2) := by decide +kernel
theorem dX12_readOrder_56 : decode cX12_readOrder 56 = .ok (.if_icmp .ge 7, 3) := by decide +kernel
theorem dX12_readOrder_59 : decode cX12_readOrder 59 = .ok (.iconst 1, 1) := by decide +kernel
theorem dX12_readOrder_60 : decode cX12_readOrder 60 = .ok (.goto 4, 3) := by decide +kernel
theorem dX12_readOrder_63 : decode cX12_readOrder 63 = .ok (.iconst 0, 1) := by decide +kernel
theorem dX12_readOrder_64 : decode cX12_readOrder 64 = .ok (.invokevirtual 303, 3) := by decide +kernel
theorem dX12_readOrder_67 : decode cX12_readOrder 67 = .ok (.aload_n 0, 1) := by decide +kernel
theorem dX12_readOrder_68 : decode cX12_readOrder 68 = .ok (.getfield 270, 3) := by decide +kernel
theorem dX12_readOrder_71 : decode cX12_readOrder 71 = .ok (.ifCond .eq 4, 3) := by decide +kernel
theorem dX12_readOrder_74 : decode cX12_readOrder 74 = .ok (.return_, 1) := by decide +kernel
theorem dX12_readOrder_75 : decode cX12_readOrder 75 = .ok (.bipush 8, 2) := by decide +kernel
theorem dX12_readOrder_77 : decode cX12_readOrder 77 = .ok (.aload_n 0, 1) := by decide +kernel
theorem dX12_readOrder_78 : decode cX12_readOrder 78 = .ok (.getfield 398, 3) := by decide +kernel
theorem dX12_readOrder_81 : decode cX12_readOrder 81 = .ok (.imul, 1) := by decide +kernel
theorem dX12_readOrder_82 : decode cX12_readOrder 82 = .ok (.istore_n 2, 1) := by decide +kernel
theorem dX12_readOrder_83 : decode cX12_readOrder 83 = .ok (.aload_n 0, 1) := by decide +kernel
theorem dX12_readOrder_84 : decode cX12_readOrder 84 = .ok (.dup, 1) := by decide +kernel
theorem dX12_readOrder_85 : decode cX12_readOrder 85 = .ok (.getfield 398, 3) := by decide +kernel
theorem dX12_readOrder_88 : decode cX12_readOrder 88 = .ok (.iconst 1, 1) := by decide +kernel
theorem dX12_readOrder_89 : decode cX12_readOrder 89 = .ok (.iadd, 1) := by decide +kernel
theorem dX12_readOrder_90 : decode cX12_readOrder 90 = .ok (.putfield 398, 3) := by decide +kernel
theorem dX12_readOrder_93 : decode cX12_readOrder 93 = .ok (.aload_n 0, 1) := by decide +kernel
theorem dX12_readOrder_94 : decode cX12_readOrder 94 = .ok (.getfield 140, 3) := by decide +kernel
theorem dX12_readOrder_97 : decode cX12_readOrder 97 = .ok (.iload_n 2, 1) := by decide +kernel
theorem dX12_readOrder_98 : decode cX12_readOrder 98 = .ok (.iload_n 1, 1) := by decide +kernel
theorem dX12_readOrder_99 : decode cX12_readOrder 99 = .ok (.iastore, 1) := by decide +kernel
theorem dX12_readOrder_100 : decode cX12_readOrder 100 = .ok (.aload_n 0, 1) := by decide +kernel
theorem dX12_readOrder_101 : decode cX12_readOrder 101 = .ok (.iload_n 2, 1) := by decide +kernel
theorem dX12_readOrder_102 : decode cX12_readOrder 102 = .ok (.iconst 1, 1) := by decide +kernel
theorem dX12_readOrder_103 : decode cX12_readOrder 103 = .ok (.iadd, 1) := by decide +kernel
theorem dX12_readOrder_104 : decode cX12_readOrder 104 = .ok (.invokevirtual 536, 3) := by decide +kernel
theorem dX12_readOrder_107 : decode cX12_readOrder 107 = .ok (.aload_n 0, 1) := by decide +kernel
theorem dX12_readOrder_108 : decode cX12_readOrder 108 = .ok (.getfield 140, 3) := by decide +kernel
theorem dX12_readOrder_111 : decode cX12_readOrder 111 = .ok (.iload_n 2, 1) := by decide +kernel
theorem dX12_readOrder_112 : decode cX12_readOrder 112 = .ok (.iconst 3, 1) := by decide +kernel
theorem dX12_readOrder_113 : decode cX12_readOrder 113 = .ok (.iadd, 1) := by decide +kernel
theorem dX12_readOrder_114 : decode cX12_readOrder 114 = .ok (.aload_n 0, 1) := by decide +kernel
theorem dX12_readOrder_115 : decode cX12_readOrder 115 = .ok (.getfield 307, 3) := by decide +kernel
theorem dX12_readOrder_118 : decode cX12_readOrder 118 = .ok (.iastore, 1) := by decide +kernel
theorem dX12_readOrder_119 : decode cX12_readOrder 119 = .ok (.aload_n 0, 1) := by decide +kernel
theorem dX12_readOrder_120 : decode cX12_readOrder 120 = .ok (.getfield 140, 3) := by decide +kernel
theorem dX12_readOrder_123 : decode cX12_readOrder 123 = .ok (.iload_n 2, 1) := by decide +kernel
theorem dX12_readOrder_124 : decode cX12_readOrder 124 = .ok (.iconst 4, 1) := by decide +kernel
theorem dX12_readOrder_125 : decode cX12_readOrder 125 = .ok (.iadd, 1) := by decide +kernel
theorem dX12_readOrder_126 : decode cX12_readOrder 126 = .ok (.aload_n 0, 1) := by decide +kernel
theorem dX12_readOrder_127 : decode cX12_readOrder 127 = .ok (.getfield 307, 3) := by decide +kernel
theorem dX12_readOrder_130 : decode cX12_readOrder 130 = .ok (.iastore, 1) := by decide +kernel
theorem dX12_readOrder_131 : decode cX12_readOrder 131 = .ok (.iload_n 1, 1) := by decide +kernel
theorem dX12_readOrder_132 : decode cX12_readOrder 132 = .ok (.iconst 2, 1) := by decide +kernel
theorem dX12_readOrder_133 : decode cX12_readOrder 133 = .ok (.if_icmp .eq 38, 3) := by decide +kernel
theorem dX12_readOrder_136 : decode cX12_readOrder 136 = .ok (.aload_n 0, 1) := by decide +kernel
theorem dX12_readOrder_137 : decode cX12_readOrder 137 = .ok (.getfield 270, 3) := by decide +kernel
theorem dX12_readOrder_140 : decode cX12_readOrder 140 = .ok (.ifCond .ne 24, 3) := by decide +kernel
theorem dX12_readOrder_143 : decode cX12_readOrder 143 = .ok (.aload_n 0, 1) := by decide +kernel
theorem dX12_readOrder_144 : decode cX12_readOrder 144 = .ok (.aload_n 0, 1) := by decide +kernel
theorem dX12_readOrder_145 : decode cX12_readOrder 145 = .ok (.iload_n 1, 1) := by decide +kernel
theorem dX12_readOrder_146 : decode cX12_readOrder 146 = .ok (.ifCond .ne 9, 3) := by decide +kernel
theorem dX12_readOrder_149 : decode cX12_readOrder 149 = .ok (.ldc2_w 539, 3) := by decide +kernel
theorem dX12_readOrder_152 : decode cX12_readOrder 152 = .ok (.goto 6, 3) := by decide +kernel
theorem dX12_readOrder_155 : decode cX12_readOrder 155 = .ok (.ldc2_w 541, 3) := by decide +kernel
theorem dX12_readOrder_158 : decode cX12_readOrder 158 = .ok (.invokevirtual 326, 3) := by decide +kernel
theorem dX12_readOrder_161 : decode cX12_readOrder 161 = .ok (.invokevirtual 303, 3) := by decide +kernel
theorem dX12_readOrder_164 : decode cX12_readOrder 164 = .ok (.aload_n 0, 1) := by decide +kernel
theorem dX12_readOrder_165 : decode cX12_readOrder 165 = .ok (.iload_n 2, 1) := by decide +kernel
theorem dX12_readOrder_166 : decode cX12_readOrder 166 = .ok (.iconst 3, 1) := by decide +kernel
theorem dX12_readOrder_167 : decode cX12_readOrder 167 = .ok (.iadd, 1) := by decide +kernel
theorem dX12_readOrder_168 : decode cX12_readOrder 168 = .ok (.invokevirtual 536, 3) := by decide +kernel
theorem dX12_readOrder_171 : decode cX12_readOrder 171 = .ok (.aload_n 0, 1) := by decide +kernel
theorem dX12_readOrder_172 : decode cX12_readOrder 172 = .ok (.getfield 140, 3) := by decide +kernel
theorem dX12_readOrder_175 : decode cX12_readOrder 175 = .ok (.iload_n 2, 1) := by decide +kernel
theorem dX12_readOrder_176 : decode cX12_readOrder 176 = .ok (.bipush 7, 2) := by decide +kernel
theorem dX12_readOrder_178 : decode cX12_readOrder 178 = .ok (.iadd, 1) := by decide +kernel
theorem dX12_readOrder_179 : decode cX12_readOrder 179 = .ok (.iconst 1, 1) := by decide +kernel
theorem dX12_readOrder_180 : decode cX12_readOrder 180 = .ok (.iastore, 1) := by decide +kernel
theorem dX12_readOrder_181 : decode cX12_readOrder 181 = .ok (.aload_n 0, 1) := by decide +kernel
theorem dX12_readOrder_182 : decode cX12_readOrder 182 = .ok (.getfield 270, 3) := by decide +kernel
theorem dX12_readOrder_185 : decode cX12_readOrder 185 = .ok (.ifCond .ne 34, 3) := by decide +kernel
theorem dX12_readOrder_188 : decode cX12_readOrder 188 = .ok (.aload_n 0, 1) := by decide +kernel
theorem dX12_readOrder_189 : decode cX12_readOrder 189 = .ok (.ldc2_w 543, 3) := by decide +kernel
theorem dX12_readOrder_192 : decode cX12_readOrder 192 = .ok (.invokevirtual 326, 3) := by decide +kernel
theorem dX12_readOrder_195 : decode cX12_readOrder 195 = .ok (.ifCond .eq 24, 3) := by decide +kernel
theorem dX12_readOrder_198 : decode cX12_readOrder 198 = .ok (.aload_n 0, 1) := by decide +kernel
theorem dX12_readOrder_199 : decode cX12_readOrder 199 = .ok (.invokevirtual 274, 3) := by decide +kernel
theorem dX12_readOrder_202 : decode cX12_readOrder 202 = .ok (.aload_n 0, 1) := by decide +kernel
theorem dX12_readOrder_203 : decode cX12_readOrder 203 = .ok (.getfield 140, 3) := by decide +kernel
theorem dX12_readOrder_206 : decode cX12_readOrder 206 = .ok (.iload_n 2, 1) := by decide +kernel
theorem dX12_readOrder_207 : decode cX12_readOrder 207 = .ok (.bipush 7, 2) := by decide +kernel
theorem dX12_readOrder_209 : decode cX12_readOrder 209 = .ok (.iadd, 1) := by decide +kernel
theorem dX12_readOrder_210 : decode cX12_readOrder 210 = .ok (.aload_n 0, 1) := by decide +kernel
theorem dX12_readOrder_211 : decode cX12_readOrder 211 = .ok (.lconst 1, 1) := by decide +kernel
theorem dX12_readOrder_212 : decode cX12_readOrder 212 = .ok (.ldc2_w 200, 3) := by decide +kernel
theorem dX12_readOrder_215 : decode cX12_readOrder 215 = .ok (.invokevirtual 363, 3) := by decide +kernel
theorem dX12_readOrder_218 : decode cX12_readOrder 218 = .ok (.iastore, 1) := by decide +kernel
theorem dX12_readOrder_219 : decode cX12_readOrder 219 = .ok (.aload_n 0, 1) := by decide +kernel
theorem dX12_readOrder_220 : decode cX12_readOrder 220 = .ok (.getfield 140, 3) := by decide +kernel
theorem dX12_readOrder_223 : decode cX12_readOrder 223 = .ok (.iload_n 2, 1) := by decide +kernel
theorem dX12_readOrder_224 : decode cX12_readOrder 224 = .ok (.iconst 5, 1) := by decide +kernel
theorem dX12_readOrder_225 : decode cX12_readOrder 225 = .ok (.iadd, 1) := by decide +kernel
theorem dX12_readOrder_226 : decode cX12_readOrder 226 = .ok (.aload_n 0, 1) := by decide +kernel
theorem dX12_readOrder_227 : decode cX12_readOrder 227 = .ok (.getfield 307, 3) := by decide +kernel
theorem dX12_readOrder_230 : decode cX12_readOrder 230 = .ok (.iastore, 1) := by decide +kernel
theorem dX12_readOrder_231 : decode cX12_readOrder 231 = .ok (.aload_n 0, 1) := by decide +kernel
theorem dX12_readOrder_232 : decode cX12_readOrder 232 = .ok (.getfield 270, 3) := by decide +kernel
theorem dX12_readOrder_235 : decode cX12_readOrder 235 = .ok (.ifCond .ne 22, 3) := by decide +kernel
theorem dX12_readOrder_238 : decode cX12_readOrder 238 = .ok (.aload_n 0, 1) := by decide +kernel
theorem dX12_readOrder_239 : decode cX12_readOrder 239 = .ok (.ldc2_w 404, 3) := by decide +kernel
theorem dX12_readOrder_242 : decode cX12_readOrder 242 = .ok (.invokevirtual 326, 3) := by decide +kernel
theorem dX12_readOrder_245 : decode cX12_readOrder 245 = .ok (.ifCond .eq 12, 3) := by decide +kernel
theorem dX12_readOrder_248 : decode cX12_readOrder 248 = .ok (.aload_n 0, 1) := by decide +kernel
theorem dX12_readOrder_249 : decode cX12_readOrder 249 = .ok (.invokevirtual 274, 3) := by decide +kernel
theorem dX12_readOrder_252 : decode cX12_readOrder 252 = .ok (.aload_n 0, 1) := by decide +kernel
theorem dX12_readOrder_253 : decode cX12_readOrder 253 = .ok (.iconst 1, 1) := by decide +kernel
theorem dX12_readOrder_254 : decode cX12_readOrder 254 = .ok (.invokevirtual 401, 3) := by decide +kernel
theorem dX12_readOrder_257 : decode cX12_readOrder 257 = .ok (.aload_n 0, 1) := by decide +kernel
theorem dX12_readOrder_258 : decode cX12_readOrder 258 = .ok (.getfield 140, 3) := by decide +kernel
theorem dX12_readOrder_261 : decode cX12_readOrder 261 = .ok (.iload_n 2, 1) := by decide +kernel
theorem dX12_readOrder_262 : decode cX12_readOrder 262 = .ok (.bipush 6, 2) := by decide +kernel
theorem dX12_readOrder_264 : decode cX12_readOrder 264 = .ok (.iadd, 1) := by decide +kernel
theorem dX12_readOrder_265 : decode cX12_readOrder 265 = .ok (.aload_n 0, 1) := by decide +kernel
theorem dX12_readOrder_266 : decode cX12_readOrder 266 = .ok (.getfield 307, 3) := by decide +kernel
theorem dX12_readOrder_269 : decode cX12_readOrder 269 = .ok (.iastore, 1) := by decide +kernel
theorem dX12_readOrder_270 : decode cX12_readOrder 270 = .ok (.return_, 1) := by decide +kernel
theorem dX12_sumOf_0 : decode cX12_sumOf 0 = .ok (.aload_n 0, 1) := by decide +kernel
theorem dX12_sumOf_1 : decode cX12_sumOf 1 = .ok (.getfield 545, 3) := by decide +kernel
theorem dX12_sumOf_4 : decode cX12_sumOf 4 = .ok (.ifCond .ne 20, 3) := by decide +kernel
theorem dX12_sumOf_7 : decode cX12_sumOf 7 = .ok (.aload_n 0, 1) := by decide +kernel
theorem dX12_sumOf_8 : decode cX12_sumOf 8 = .ok (.getfield 140, 3) := by decide +kernel
theorem dX12_sumOf_11 : decode cX12_sumOf 11 = .ok (.iload_n 1, 1) := by decide +kernel
theorem dX12_sumOf_12 : decode cX12_sumOf 12 = .ok (.iaload, 1) := by decide +kernel
theorem dX12_sumOf_13 : decode cX12_sumOf 13 = .ok (.aload_n 0, 1) := by decide +kernel
theorem dX12_sumOf_14 : decode cX12_sumOf 14 = .ok (.getfield 140, 3) := by decide +kernel
theorem dX12_sumOf_17 : decode cX12_sumOf 17 = .ok (.iload_n 1, 1) := by decide +kernel
theorem dX12_sumOf_18 : decode cX12_sumOf 18 = .ok (.iconst 1, 1) := by decide +kernel
theorem dX12_sumOf_19 : decode cX12_sumOf 19 = .ok (.iadd, 1) := by decide +kernel
theorem dX12_sumOf_20 : decode cX12_sumOf 20 = .ok (.iaload, 1) := by decide +kernel
theorem dX12_sumOf_21 : decode cX12_sumOf 21 = .ok (.if_icmp .ne 5, 3) := by decide +kernel
theorem dX12_sumOf_24 : decode cX12_sumOf 24 = .ok (.lconst 0, 1) := by decide +kernel
theorem dX12_sumOf_25 : decode cX12_sumOf 25 = .ok (.lreturn, 1) := by decide +kernel
theorem dX12_sumOf_26 : decode cX12_sumOf 26 = .ok (.aload_n 0, 1) := by decide +kernel
theorem dX12_sumOf_27 : decode cX12_sumOf 27 = .ok (.iconst 1, 1) := by decide +kernel
theorem dX12_sumOf_28 : decode cX12_sumOf 28 = .ok (.putfield 345, 3) := by decide +kernel
theorem dX12_sumOf_31 : decode cX12_sumOf 31 = .ok (.aload_n 0, 1) := by decide +kernel
theorem dX12_sumOf_32 : decode cX12_sumOf 32 = .ok (.aload_n 0, 1) := by decide +kernel
theorem dX12_sumOf_33 : decode cX12_sumOf 33 = .ok (.getfield 140, 3) := by decide +kernel
theorem dX12_sumOf_36 : decode cX12_sumOf 36 = .ok (.iload_n 1, 1) := by decide +kernel
theorem dX12_sumOf_37 : decode cX12_sumOf 37 = .ok (.iaload, 1) := by decide +kernel
theorem dX12_sumOf_38 : decode cX12_sumOf 38 = .ok (.aload_n 0, 1) := by decide +kernel
theorem dX12_sumOf_39 : decode cX12_sumOf 39 = .ok (.getfield 140, 3) := by decide +kernel
theorem dX12_sumOf_42 : decode cX12_sumOf 42 = .ok (.iload_n 1, 1) := by decide +kernel
theorem dX12_sumOf_43 : decode cX12_sumOf 43 = .ok (.iconst 1, 1) := by decide +kernel
theorem dX12_sumOf_44 : decode cX12_sumOf 44 = .ok (.iadd, 1) := by decide +kernel
theorem dX12_sumOf_45 : decode cX12_sumOf 45 = .ok (.iaload, 1) := by decide +kernel
theorem dX12_sumOf_46 : decode cX12_sumOf 46 = .ok (.invokevirtual 432, 3) := by decide +kernel
theorem dX12_sumOf_49 : decode cX12_sumOf 49 = .ok (.aload_n 0, 1) := by decide +kernel
theorem dX12_sumOf_50 : decode cX12_sumOf 50 = .ok (.iconst 0, 1) := by decide +kernel
theorem dX12_sumOf_51 : decode cX12_sumOf 51 = .ok (.putfield 345, 3) := by decide +kernel
theorem dX12_sumOf_54 : decode cX12_sumOf 54 = .ok (.aload_n 0, 1) := by decide +kernel
theorem dX12_sumOf_55 : decode cX12_sumOf 55 = .ok (.aload_n 0, 1) := by decide +kernel
theorem dX12_sumOf_56 : decode cX12_sumOf 56 = .ok (.getfield 415, 3) := by decide +kernel
theorem dX12_sumOf_59 : decode cX12_sumOf 59 = .ok (.putfield 545, 3) := by decide +kernel
theorem dX12_sumOf_62 : decode cX12_sumOf 62 = .ok (.aload_n 0, 1) := by decide +kernel
theorem dX12_sumOf_63 : decode cX12_sumOf 63 = .ok (.getfield 429, 3) := by decide +kernel
theorem dX12_sumOf_66 : decode cX12_sumOf 66 = .ok (.lreturn, 1) := by decide +kernel
theorem dX12_run_0 : decode cX12_run 0 = .ok (.aload_n 0, 1) := by decide +kernel
theorem dX12_run_1 : decode cX12_run 1 = .ok (.getfield 110, 3) := by decide +kernel
theorem dX12_run_4 : decode cX12_run 4 = .ok (.iconst 1, 1) := by decide +kernel
theorem dX12_run_5 : decode cX12_run 5 = .ok (.aload_n 0, 1) := by decide +kernel
theorem dX12_run_6 : decode cX12_run 6 = .ok (.iconst 0, 1) := by decide +kernel
theorem dX12_run_7 : decode cX12_run 7 = .ok (.invokevirtual 189, 3) := by decide +kernel
theorem dX12_run_10 : decode cX12_run 10 = .ok (.i2l, 1) := by decide +kernel
theorem dX12_run_11 : decode cX12_run 11 = .ok (.lastore, 1) := by decide +kernel
theorem dX12_run_12 : decode cX12_run 12 = .ok (.aload_n 0, 1) := by decide +kernel
theorem dX12_run_13 : decode cX12_run 13 = .ok (.getfield 110, 3) := by decide +kernel
theorem dX12_run_16 : decode cX12_run 16 = .ok (.iconst 2, 1) := by decide +kernel
theorem dX12_run_17 : decode cX12_run 17 = .ok (.aload_n 0, 1) := by decide +kernel
theorem dX12_run_18 : decode cX12_run 18 = .ok (.iconst 0, 1) := by decide +kernel
theorem dX12_run_19 : decode cX12_run 19 = .ok (.invokevirtual 186, 3) := by decide +kernel
theorem dX12_run_22 : decode cX12_run 22 = .ok (.i2l, 1) := by decide +kernel
theorem dX12_run_23 : decode cX12_run 23 = .ok (.lastore, 1) := by decide +kernel
theorem dX12_run_24 : decode cX12_run 24 = .ok (.aload_n 0, 1) := by decide +kernel
theorem dX12_run_25 : decode cX12_run 25 = .ok (.getfield 110, 3) := by decide +kernel
theorem dX12_run_28 : decode cX12_run 28 = .ok (.iconst 3, 1) := by decide +kernel
theorem dX12_run_29 : decode cX12_run 29 = .ok (.aload_n 0, 1) := by decide +kernel
theorem dX12_run_30 : decode cX12_run 30 = .ok (.iconst 1, 1) := by decide +kernel
theorem dX12_run_31 : decode cX12_run 31 = .ok (.invokevirtual 186, 3) := by decide +kernel
theorem dX12_run_34 : decode cX12_run 34 = .ok (.i2l, 1) := by decide +kernel
theorem dX12_run_35 : decode cX12_run 35 = .ok (.lastore, 1) := by decide +kernel
theorem dX12_run_36 : decode cX12_run 36 = .ok (.aload_n 0, 1) := by decide +kernel
theorem dX12_run_37 : decode cX12_run 37 = .ok (.getfield 110, 3) := by decide +kernel
theorem dX12_run_40 : decode cX12_run 40 = .ok (.iconst 4, 1) := by decide +kernel
theorem dX12_run_41 : decode cX12_run 41 = .ok (.aload_n 0, 1) := by decide +kernel
theorem dX12_run_42 : decode cX12_run 42 = .ok (.iconst 2, 1) := by decide +kernel
theorem dX12_run_43 : decode cX12_run 43 = .ok (.invokevirtual 186, 3) := by decide +kernel
theorem dX12_run_46 : decode cX12_run 46 = .ok (.i2l, 1) := by decide +kernel
theorem dX12_run_47 : decode cX12_run 47 = .ok (.lastore, 1) := by decide +kernel
theorem dX12_run_48 : decode cX12_run 48 = .ok (.aload_n 0, 1) := by decide +kernel
theorem dX12_run_49 : decode cX12_run 49 = .ok (.getfield 110, 3) := by decide +kernel
theorem dX12_run_52 : decode cX12_run 52 = .ok (.iconst 5, 1) := by decide +kernel
theorem dX12_run_53 : decode cX12_run 53 = .ok (.aload_n 0, 1) := by decide +kernel
theorem dX12_run_54 : decode cX12_run 54 = .ok (.getfield 548, 3) := by decide +kernel
theorem dX12_run_57 : decode cX12_run 57 = .ok (.i2l, 1) := by decide +kernel
theorem dX12_run_58 : decode cX12_run 58 = .ok (.lastore, 1) := by decide +kernel
theorem dX12_run_59 : decode cX12_run 59 = .ok (.aload_n 0, 1) := by decide +kernel
theorem dX12_run_60 : decode cX12_run 60 = .ok (.getfield 110, 3) := by decide +kernel
theorem dX12_run_63 : decode cX12_run 63 = .ok (.bipush 6, 2) := by decide +kernel
theorem dX12_run_65 : decode cX12_run 65 = .ok (.aload_n 0, 1) := by decide +kernel
theorem dX12_run_66 : decode cX12_run 66 = .ok (.getfield 551, 3) := by decide +kernel
theorem dX12_run_69 : decode cX12_run 69 = .ok (.i2l, 1) := by decide +kernel
theorem dX12_run_70 : decode cX12_run 70 = .ok (.lastore, 1) := by decide +kernel
theorem dX12_run_71 : decode cX12_run 71 = .ok (.aload_n 0, 1) := by decide +kernel
theorem dX12_run_72 : decode cX12_run 72 = .ok (.iconst 0, 1) := by decide +kernel
theorem dX12_run_73 : decode cX12_run 73 = .ok (.putfield 545, 3) := by decide +kernel
theorem dX12_run_76 : decode cX12_run 76 = .ok (.aload_n 0, 1) := by decide +kernel
theorem dX12_run_77 : decode cX12_run 77 = .ok (.getfield 140, 3) := by decide +kernel
theorem dX12_run_80 : decode cX12_run 80 = .ok (.iload_n 1, 1) := by decide +kernel
theorem dX12_run_81 : decode cX12_run 81 = .ok (.iconst 5, 1) := by decide +kernel
theorem dX12_run_82 : decode cX12_run 82 = .ok (.iadd, 1) := by decide +kernel
theorem dX12_run_83 : decode cX12_run 83 = .ok (.iaload, 1) := by decide +kernel
theorem dX12_run_84 : decode cX12_run 84 = .ok (.aload_n 0, 1) := by decide +kernel
theorem dX12_run_85 : decode cX12_run 85 = .ok (.getfield 140, 3) := by decide +kernel
theorem dX12_run_88 : decode cX12_run 88 = .ok (.iload_n 1, 1) := by decide +kernel
theorem dX12_run_89 : decode cX12_run 89 = .ok (.bipush 6, 2) := by decide +kernel
theorem dX12_run_91 : decode cX12_run 91 = .ok (.iadd, 1) := by decide +kernel
theorem dX12_run_92 : decode cX12_run 92 = .ok (.iaload, 1) := by decide +kernel
theorem dX12_run_93 : decode cX12_run 93 = .ok (.if_icmp .ge 26, 3) := by decide +kernel
theorem dX12_run_96 : decode cX12_run 96 = .ok (.aload_n 0, 1) := by decide +kernel
theorem dX12_run_97 : decode cX12_run 97 = .ok (.iload_n 1, 1) := by decide +kernel
theorem dX12_run_98 : decode cX12_run 98 = .ok (.iconst 5, 1) := by decide +kernel
theorem dX12_run_99 : decode cX12_run 99 = .ok (.iadd, 1) := by decide +kernel
theorem dX12_run_100 : decode cX12_run 100 = .ok (.invokevirtual 554, 3) := by decide +kernel
theorem dX12_run_103 : decode cX12_run 103 = .ok (.lstore_n 2, 1) := by decide +kernel
theorem dX12_run_104 : decode cX12_run 104 = .ok (.aload_n 0, 1) := by decide +kernel
theorem dX12_run_105 : decode cX12_run 105 = .ok (.getfield 545, 3) := by decide +kernel
theorem dX12_run_108 : decode cX12_run 108 = .ok (.ifCond .ne 9, 3) := by decide +kernel
theorem dX12_run_111 : decode cX12_run 111 = .ok (.lload_n 2, 1) := by decide +kernel
theorem dX12_run_112 : decode cX12_run 112 = .ok (.lconst 0, 1) := by decide +kernel
theorem dX12_run_113 : decode cX12_run 113 = .ok (.lcmp, 1) := by decide +kernel
theorem dX12_run_114 : decode cX12_run 114 = .ok (.ifCond .ne 5, 3) := by decide +kernel
theorem dX12_run_117 : decode cX12_run 117 = .ok (.iconst 0, 1) := by decide +kernel
theorem dX12_run_118 : decode cX12_run 118 = .ok (.ireturn, 1) := by decide +kernel
theorem dX12_run_119 : decode cX12_run 119 = .ok (.aload_n 0, 1) := by decide +kernel
theorem dX12_run_120 : decode cX12_run 120 = .ok (.iload_n 1, 1) := by decide +kernel
theorem dX12_run_121 : decode cX12_run 121 = .ok (.iconst 1, 1) := by decide +kernel
theorem dX12_run_122 : decode cX12_run 122 = .ok (.iadd, 1) := by decide +kernel
theorem dX12_run_123 : decode cX12_run 123 = .ok (.invokevirtual 554, 3) := by decide +kernel
theorem dX12_run_126 : decode cX12_run 126 = .ok (.l2i, 1) := by decide +kernel
theorem dX12_run_127 : decode cX12_run 127 = .ok (.istore_n 2, 1) := by decide +kernel
theorem dX12_run_128 : decode cX12_run 128 = .ok (.aload_n 0, 1) := by decide +kernel
theorem dX12_run_129 : decode cX12_run 129 = .ok (.iload_n 1, 1) := by decide +kernel
theorem dX12_run_130 : decode cX12_run 130 = .ok (.iconst 3, 1) := by decide +kernel
theorem dX12_run_131 : decode cX12_run 131 = .ok (.iadd, 1) := by decide +kernel
theorem dX12_run_132 : decode cX12_run 132 = .ok (.invokevirtual 554, 3) := by decide +kernel
theorem dX12_run_135 : decode cX12_run 135 = .ok (.l2i, 1) := by decide +kernel
theorem dX12_run_136 : decode cX12_run 136 = .ok (.istore_n 3, 1) := by decide +kernel
theorem dX12_run_137 : decode cX12_run 137 = .ok (.aload_n 0, 1) := by decide +kernel
theorem dX12_run_138 : decode cX12_run 138 = .ok (.getfield 545, 3) := by decide +kernel
theorem dX12_run_141 : decode cX12_run 141 = .ok (.ifCond .eq 6, 3) := by decide +kernel
theorem dX12_run_144 : decode cX12_run 144 = .ok (.bipush (-3), 2) := by decide +kernel
theorem dX12_run_146 : decode cX12_run 146 = .ok (.ireturn, 1) := by decide +kernel
theorem dX12_run_147 : decode cX12_run 147 = .ok (.aload_n 0, 1) := by decide +kernel
theorem dX12_run_148 : decode cX12_run 148 = .ok (.getfield 140, 3) := by decide +kernel
theorem dX12_run_151 : decode cX12_run 151 = .ok (.iload_n 1, 1) := by decide +kernel
theorem dX12_run_152 : decode cX12_run 152 = .ok (.iaload, 1) := by decide +kernel
theorem dX12_run_153 : decode cX12_run 153 = .ok (.ifCond .ne 12, 3) := by decide +kernel
theorem dX12_run_156 : decode cX12_run 156 = .ok (.aload_n 0, 1) := by decide +kernel
theorem dX12_run_157 : decode cX12_run 157 = .ok (.iload_n 2, 1) := by decide +kernel
theorem dX12_run_158 : decode cX12_run 158 = .ok (.iload_n 3, 1) := by decide +kernel
theorem dX12_run_159 : decode cX12_run 159 = .ok (.invokevirtual 463, 3) := by decide +kernel
theorem dX12_run_162 : decode cX12_run 162 = .ok (.goto 27, 3) := by decide +kernel
theorem dX12_run_165 : decode cX12_run 165 = .ok (.aload_n 0, 1) := by decide +kernel
theorem dX12_run_166 : decode cX12_run 166 = .ok (.getfield 140, 3) := by decide +kernel
theorem dX12_run_169 : decode cX12_run 169 = .ok (.iload_n 1, 1) := by decide +kernel
theorem dX12_run_170 : decode cX12_run 170 = .ok (.iaload, 1) := by decide +kernel
theorem dX12_run_171 : decode cX12_run 171 = .ok (.iconst 1, 1) := by decide +kernel
theorem dX12_run_172 : decode cX12_run 172 = .ok (.if_icmp .ne 12, 3) := by decide +kernel
theorem dX12_run_175 : decode cX12_run 175 = .ok (.aload_n 0, 1) := by decide +kernel
theorem dX12_run_176 : decode cX12_run 176 = .ok (.iload_n 2, 1) := by decide +kernel
theorem dX12_run_177 : decode cX12_run 177 = .ok (.iload_n 3, 1) := by decide +kernel
theorem dX12_run_178 : decode cX12_run 178 = .ok (.invokevirtual 484, 3) := by decide +kernel
theorem dX12_run_181 : decode cX12_run 181 = .ok (.goto 8, 3) := by decide +kernel
theorem dX12_run_184 : decode cX12_run 184 = .ok (.aload_n 0, 1) := by decide +kernel
theorem dX12_run_185 : decode cX12_run 185 = .ok (.iload_n 2, 1) := by decide +kernel
theorem dX12_run_186 : decode cX12_run 186 = .ok (.invokevirtual 487, 3) := by decide +kernel
theorem dX12_run_189 : decode cX12_run 189 = .ok (.istore 4, 2) := by decide +kernel
theorem dX12_run_191 : decode cX12_run 191 = .ok (.iload 4, 2) := by decide +kernel
theorem dX12_run_193 : decode cX12_run 193 = .ok (.ifCond .ge 6, 3) := by decide +kernel
theorem dX12_run_196 : decode cX12_run 196 = .ok (.bipush (-3), 2) := by decide +kernel
theorem dX12_run_198 : decode cX12_run 198 = .ok (.ireturn, 1) := by decide +kernel
theorem dX12_run_199 : decode cX12_run 199 = .ok (.aload_n 0, 1) := by decide +kernel
theorem dX12_run_200 : decode cX12_run 200 = .ok (.aload_n 0, 1) := by decide +kernel
theorem dX12_run_201 : decode cX12_run 201 = .ok (.getfield 140, 3) := by decide +kernel
theorem dX12_run_204 : decode cX12_run 204 = .ok (.iload_n 1, 1) := by decide +kernel
theorem dX12_run_205 : decode cX12_run 205 = .ok (.iaload, 1) := by decide +kernel
theorem dX12_run_206 : decode cX12_run 206 = .ok (.iconst 1, 1) := by decide +kernel
theorem dX12_run_207 : decode cX12_run 207 = .ok (.if_icmp .ne 8, 3) := by decide +kernel
theorem dX12_run_210 : decode cX12_run 210 = .ok (.iload 4, 2) := by decide +kernel
theorem dX12_run_212 : decode cX12_run 212 = .ok (.goto 7, 3) := by decide +kernel
theorem dX12_run_215 : decode cX12_run 215 = .ok (.aload_n 0, 1) := by decide +kernel
theorem dX12_run_216 : decode cX12_run 216 = .ok (.getfield 551, 3) := by decide +kernel
theorem dX12_run_219 : decode cX12_run 219 = .ok (.putfield 551, 3) := by decide +kernel
theorem dX12_run_222 : decode cX12_run 222 = .ok (.aload_n 0, 1) := by decide +kernel
theorem dX12_run_223 : decode cX12_run 223 = .ok (.dup, 1) := by decide +kernel
theorem dX12_run_224 : decode cX12_run 224 = .ok (.getfield 548, 3) := by decide +kernel
theorem dX12_run_227 : decode cX12_run 227 = .ok (.iconst 1, 1) := by decide +kernel
theorem dX12_run_228 : decode cX12_run 228 = .ok (.iadd, 1) := by decide +kernel
theorem dX12_run_229 : decode cX12_run 229 = .ok (.putfield 548, 3) := by decide +kernel
theorem dX12_run_232 : decode cX12_run 232 = .ok (.iconst 0, 1) := by decide +kernel
theorem dX12_run_233 : decode cX12_run 233 = .ok (.ireturn, 1) := by decide +kernel
theorem dX12_orders_0 : decode cX12_orders 0 = .ok (.aload_n 0, 1) := by decide +kernel
theorem dX12_orders_1 : decode cX12_orders 1 = .ok (.iconst 0, 1) := by decide +kernel
theorem dX12_orders_2 : decode cX12_orders 2 = .ok (.putfield 149, 3) := by decide +kernel
theorem dX12_orders_5 : decode cX12_orders 5 = .ok (.aload_n 0, 1) := by decide +kernel
theorem dX12_orders_6 : decode cX12_orders 6 = .ok (.iconst (-1), 1) := by decide +kernel
theorem dX12_orders_7 : decode cX12_orders 7 = .ok (.putfield 143, 3) := by decide +kernel
theorem dX12_orders_10 : decode cX12_orders 10 = .ok (.aload_n 0, 1) := by decide +kernel
theorem dX12_orders_11 : decode cX12_orders 11 = .ok (.iconst 1, 1) := by decide +kernel
theorem dX12_orders_12 : decode cX12_orders 12 = .ok (.invokevirtual 406, 3) := by decide +kernel
theorem dX12_orders_15 : decode cX12_orders 15 = .ok (.aload_n 0, 1) := by decide +kernel
theorem dX12_orders_16 : decode cX12_orders 16 = .ok (.invokevirtual 558, 3) := by decide +kernel
theorem dX12_orders_19 : decode cX12_orders 19 = .ok (.aload_n 0, 1) := by decide +kernel
theorem dX12_orders_20 : decode cX12_orders 20 = .ok (.getfield 270, 3) := by decide +kernel
theorem dX12_orders_23 : decode cX12_orders 23 = .ok (.ifCond .ne 23, 3) := by decide +kernel
theorem dX12_orders_26 : decode cX12_orders 26 = .ok (.aload_n 0, 1) := by decide +kernel
theorem dX12_orders_27 : decode cX12_orders 27 = .ok (.bipush 59, 2) := by decide +kernel
theorem dX12_orders_29 : decode cX12_orders 29 = .ok (.invokevirtual 339, 3) := by decide +kernel
theorem dX12_orders_32 : decode cX12_orders 32 = .ok (.ifCond .eq 14, 3) := by decide +kernel
theorem dX12_orders_35 : decode cX12_orders 35 = .ok (.aload_n 0, 1) := by decide +kernel
theorem dX12_orders_36 : decode cX12_orders 36 = .ok (.invokevirtual 274, 3) := by decide +kernel
theorem dX12_orders_39 : decode cX12_orders 39 = .ok (.aload_n 0, 1) := by decide +kernel
theorem dX12_orders_40 : decode cX12_orders 40 = .ok (.invokevirtual 558, 3) := by decide +kernel
theorem dX12_orders_43 : decode cX12_orders 43 = .ok (.goto (-24), 3) := by decide +kernel
theorem dX12_orders_46 : decode cX12_orders 46 = .ok (.aload_n 0, 1) := by decide +kernel
theorem dX12_orders_47 : decode cX12_orders 47 = .ok (.invokevirtual 412, 3) := by decide +kernel
theorem dX12_orders_50 : decode cX12_orders 50 = .ok (.aload_n 0, 1) := by decide +kernel
theorem dX12_orders_51 : decode cX12_orders 51 = .ok (.getfield 270, 3) := by decide +kernel
theorem dX12_orders_54 : decode cX12_orders 54 = .ok (.ifCond .eq 10, 3) := by decide +kernel
theorem dX12_orders_57 : decode cX12_orders 57 = .ok (.aload_n 0, 1) := by decide +kernel
theorem dX12_orders_58 : decode cX12_orders 58 = .ok (.bipush (-6), 2) := by decide +kernel
theorem dX12_orders_60 : decode cX12_orders 60 = .ok (.invokevirtual 158, 3) := by decide +kernel
theorem dX12_orders_63 : decode cX12_orders 63 = .ok (.ireturn, 1) := by decide +kernel
theorem dX12_orders_64 : decode cX12_orders 64 = .ok (.aload_n 0, 1) := by decide +kernel
theorem dX12_orders_65 : decode cX12_orders 65 = .ok (.bipush 20, 2) := by decide +kernel
theorem dX12_orders_67 : decode cX12_orders 67 = .ok (.invokevirtual 162, 3) := by decide +kernel
theorem dX12_orders_70 : decode cX12_orders 70 = .ok (.aload_n 0, 1) := by decide +kernel
theorem dX12_orders_71 : decode cX12_orders 71 = .ok (.getfield 155, 3) := by decide +kernel
theorem dX12_orders_74 : decode cX12_orders 74 = .ok (.istore_n 1, 1) := by decide +kernel
theorem dX12_orders_75 : decode cX12_orders 75 = .ok (.iconst 0, 1) := by decide +kernel
theorem dX12_orders_76 : decode cX12_orders 76 = .ok (.istore_n 2, 1) := by decide +kernel
theorem dX12_orders_77 : decode cX12_orders 77 = .ok (.iload_n 2, 1) := by decide +kernel
theorem dX12_orders_78 : decode cX12_orders 78 = .ok (.sipush 2400, 3) := by decide +kernel
theorem dX12_orders_81 : decode cX12_orders 81 = .ok (.if_icmp .ge 21, 3) := by decide +kernel
theorem dX12_orders_84 : decode cX12_orders 84 = .ok (.aload_n 0, 1) := by decide +kernel
theorem dX12_orders_85 : decode cX12_orders 85 = .ok (.getfield 29, 3) := by decide +kernel
theorem dX12_orders_88 : decode cX12_orders 88 = .ok (.iload_n 2, 1) := by decide +kernel
theorem dX12_orders_89 : decode cX12_orders 89 = .ok (.aload_n 0, 1) := by decide +kernel
theorem dX12_orders_90 : decode cX12_orders 90 = .ok (.getfield 23, 3) := by decide +kernel
theorem dX12_orders_93 : decode cX12_orders 93 = .ok (.iload_n 2, 1) := by decide +kernel
theorem dX12_orders_94 : decode cX12_orders 94 = .ok (.iaload, 1) := by decide +kernel
theorem dX12_orders_95 : decode cX12_orders 95 = .ok (.iastore, 1) := by decide +kernel
theorem dX12_orders_96 : decode cX12_orders 96 = .ok (.iinc 2 1, 3) := by decide +kernel
theorem dX12_orders_99 : decode cX12_orders 99 = .ok (.goto (-22), 3) := by decide +kernel
theorem dX12_orders_102 : decode cX12_orders 102 = .ok (.iconst 0, 1) := by decide +kernel
theorem dX12_orders_103 : decode cX12_orders 103 = .ok (.istore_n 2, 1) := by decide +kernel
theorem dX12_orders_104 : decode cX12_orders 104 = .ok (.iload_n 2, 1) := by decide +kernel
theorem dX12_orders_105 : decode cX12_orders 105 = .ok (.bipush 16, 2) := by decide +kernel
theorem dX12_orders_107 : decode cX12_orders 107 = .ok (.if_icmp .ge 21, 3) := by decide +kernel
theorem dX12_orders_110 : decode cX12_orders 110 = .ok (.aload_n 0, 1) := by decide +kernel
theorem dX12_orders_111 : decode cX12_orders 111 = .ok (.getfield 32, 3) := by decide +kernel
theorem dX12_orders_114 : decode cX12_orders 114 = .ok (.iload_n 2, 1) := by decide +kernel
theorem dX12_orders_115 : decode cX12_orders 115 = .ok (.aload_n 0, 1) := by decide +kernel
theorem dX12_orders_116 : decode cX12_orders 116 = .ok (.getfield 26, 3) := by decide +kernel
theorem dX12_orders_119 : decode cX12_orders 119 = .ok (.iload_n 2, 1) := by decide +kernel
theorem dX12_orders_120 : decode cX12_orders 120 = .ok (.iaload, 1) := by decide +kernel
theorem dX12_orders_121 : decode cX12_orders 121 = .ok (.iastore, 1) := by decide +kernel
theorem dX12_orders_122 : decode cX12_orders 122 = .ok (.iinc 2 1, 3) := by decide +kernel
theorem dX12_orders_125 : decode cX12_orders 125 = .ok (.goto (-21), 3) := by decide +kernel
theorem dX12_orders_128 : decode cX12_orders 128 = .ok (.aload_n 0, 1) := by decide +kernel
theorem dX12_orders_129 : decode cX12_orders 129 = .ok (.iconst 0, 1) := by decide +kernel
theorem dX12_orders_130 : decode cX12_orders 130 = .ok (.putfield 548, 3) := by decide +kernel
theorem dX12_orders_133 : decode cX12_orders 133 = .ok (.aload_n 0, 1) := by decide +kernel
theorem dX12_orders_134 : decode cX12_orders 134 = .ok (.iconst (-1), 1) := by decide +kernel
theorem dX12_orders_135 : decode cX12_orders 135 = .ok (.putfield 551, 3) := by decide +kernel
theorem dX12_orders_138 : decode cX12_orders 138 = .ok (.iconst 0, 1) := by decide +kernel
theorem dX12_orders_139 : decode cX12_orders 139 = .ok (.istore_n 2, 1) := by decide +kernel
theorem dX12_orders_140 : decode cX12_orders 140 = .ok (.iload_n 2, 1) := by decide +kernel
theorem dX12_orders_141 : decode cX12_orders 141 = .ok (.aload_n 0, 1) := by decide +kernel
theorem dX12_orders_142 : decode cX12_orders 142 = .ok (.getfield 398, 3) := by decide +kernel
theorem dX12_orders_145 : decode cX12_orders 145 = .ok (.if_icmp .ge 61, 3) := by decide +kernel
theorem dX12_orders_148 : decode cX12_orders 148 = .ok (.iconst 0, 1) := by decide +kernel
theorem dX12_orders_149 : decode cX12_orders 149 = .ok (.istore_n 3, 1) := by decide +kernel
theorem dX12_orders_150 : decode cX12_orders 150 = .ok (.iload_n 3, 1) := by decide +kernel
theorem dX12_orders_151 : decode cX12_orders 151 = .ok (.aload_n 0, 1) := by decide +kernel
theorem dX12_orders_152 : decode cX12_orders 152 = .ok (.getfield 140, 3) := by decide +kernel
theorem dX12_orders_155 : decode cX12_orders 155 = .ok (.bipush 8, 2) := by decide +kernel
theorem dX12_orders_157 : decode cX12_orders 157 = .ok (.iload_n 2, 1) := by decide +kernel
theorem dX12_orders_158 : decode cX12_orders 158 = .ok (.imul, 1) := by decide +kernel
theorem dX12_orders_159 : decode cX12_orders 159 = .ok (.bipush 7, 2) := by decide +kernel
theorem dX12_orders_161 : decode cX12_orders 161 = .ok (.iadd, 1) := by decide +kernel
theorem dX12_orders_162 : decode cX12_orders 162 = .ok (.iaload, 1) := by decide +kernel
theorem dX12_orders_163 : decode cX12_orders 163 = .ok (.if_icmp .ge 37, 3) := by decide +kernel
theorem dX12_orders_166 : decode cX12_orders 166 = .ok (.aload_n 0, 1) := by decide +kernel
theorem dX12_orders_167 : decode cX12_orders 167 = .ok (.bipush 8, 2) := by decide +kernel
theorem dX12_orders_169 : decode cX12_orders 169 = .ok (.iload_n 2, 1) := by decide +kernel
theorem dX12_orders_170 : decode cX12_orders 170 = .ok (.imul, 1) := by decide +kernel
theorem dX12_orders_171 : decode cX12_orders 171 = .ok (.invokevirtual 561, 3) := by decide +kernel
theorem dX12_orders_174 : decode cX12_orders 174 = .ok (.ifCond .ge 20, 3) := by decide +kernel
theorem dX12_orders_177 : decode cX12_orders 177 = .ok (.aload_n 0, 1) := by decide +kernel
theorem dX12_orders_178 : decode cX12_orders 178 = .ok (.iload_n 1, 1) := by decide +kernel
theorem dX12_orders_179 : decode cX12_orders 179 = .ok (.invokevirtual 564, 3) := by decide +kernel
theorem dX12_orders_182 : decode cX12_orders 182 = .ok (.aload_n 0, 1) := by decide +kernel
theorem dX12_orders_183 : decode cX12_orders 183 = .ok (.iload_n 2, 1) := by decide +kernel
theorem dX12_orders_184 : decode cX12_orders 184 = .ok (.putfield 143, 3) := by decide +kernel
theorem dX12_orders_187 : decode cX12_orders 187 = .ok (.aload_n 0, 1) := by decide +kernel
theorem dX12_orders_188 : decode cX12_orders 188 = .ok (.bipush (-3), 2) := by decide +kernel
theorem dX12_orders_190 : decode cX12_orders 190 = .ok (.invokevirtual 158, 3) := by decide +kernel
theorem dX12_orders_193 : decode cX12_orders 193 = .ok (.ireturn, 1) := by decide +kernel
theorem dX12_orders_194 : decode cX12_orders 194 = .ok (.iinc 3 1, 3) := by decide +kernel
theorem dX12_orders_197 : decode cX12_orders 197 = .ok (.goto (-47), 3) := by decide +kernel
theorem dX12_orders_200 : decode cX12_orders 200 = .ok (.iinc 2 1, 3) := by decide +kernel
theorem dX12_orders_203 : decode cX12_orders 203 = .ok (.goto (-63), 3) := by decide +kernel
theorem dX12_orders_206 : decode cX12_orders 206 = .ok (.aload_n 0, 1) := by decide +kernel
theorem dX12_orders_207 : decode cX12_orders 207 = .ok (.aload_n 0, 1) := by decide +kernel
theorem dX12_orders_208 : decode cX12_orders 208 = .ok (.getfield 548, 3) := by decide +kernel
theorem dX12_orders_211 : decode cX12_orders 211 = .ok (.invokevirtual 158, 3) := by decide +kernel
theorem dX12_orders_214 : decode cX12_orders 214 = .ok (.ireturn, 1) := by decide +kernel
theorem dX12_giveBack_0 : decode cX12_giveBack 0 = .ok (.aload_n 0, 1) := by decide +kernel
theorem dX12_giveBack_1 : decode cX12_giveBack 1 = .ok (.bipush 20, 2) := by decide +kernel
theorem dX12_giveBack_3 : decode cX12_giveBack 3 = .ok (.invokevirtual 166, 3) := by decide +kernel
theorem dX12_giveBack_6 : decode cX12_giveBack 6 = .ok (.iconst 0, 1) := by decide +kernel
theorem dX12_giveBack_7 : decode cX12_giveBack 7 = .ok (.istore_n 2, 1) := by decide +kernel
theorem dX12_giveBack_8 : decode cX12_giveBack 8 = .ok (.iload_n 2, 1) := by decide +kernel
theorem dX12_giveBack_9 : decode cX12_giveBack 9 = .ok (.sipush 2400, 3) := by decide +kernel
theorem dX12_giveBack_12 : decode cX12_giveBack 12 = .ok (.if_icmp .ge 21, 3) := by decide +kernel
theorem dX12_giveBack_15 : decode cX12_giveBack 15 = .ok (.aload_n 0, 1) := by decide +kernel
theorem dX12_giveBack_16 : decode cX12_giveBack 16 = .ok (.getfield 23, 3) := by decide +kernel
theorem dX12_giveBack_19 : decode cX12_giveBack 19 = .ok (.iload_n 2, 1) := by decide +kernel
theorem dX12_giveBack_20 : decode cX12_giveBack 20 = .ok (.aload_n 0, 1) := by decide +kernel
theorem dX12_giveBack_21 : decode cX12_giveBack 21 = .ok (.getfield 29, 3) := by decide +kernel
theorem dX12_giveBack_24 : decode cX12_giveBack 24 = .ok (.iload_n 2, 1) := by decide +kernel
theorem dX12_giveBack_25 : decode cX12_giveBack 25 = .ok (.iaload, 1) := by decide +kernel
theorem dX12_giveBack_26 : decode cX12_giveBack 26 = .ok (.iastore, 1) := by decide +kernel
theorem dX12_giveBack_27 : decode cX12_giveBack 27 = .ok (.iinc 2 1, 3) := by decide +kernel
theorem dX12_giveBack_30 : decode cX12_giveBack 30 = .ok (.goto (-22), 3) := by decide +kernel
theorem dX12_giveBack_33 : decode cX12_giveBack 33 = .ok (.iconst 0, 1) := by decide +kernel
theorem dX12_giveBack_34 : decode cX12_giveBack 34 = .ok (.istore_n 2, 1) := by decide +kernel
theorem dX12_giveBack_35 : decode cX12_giveBack 35 = .ok (.iload_n 2, 1) := by decide +kernel
theorem dX12_giveBack_36 : decode cX12_giveBack 36 = .ok (.bipush 16, 2) := by decide +kernel
theorem dX12_giveBack_38 : decode cX12_giveBack 38 = .ok (.if_icmp .ge 21, 3) := by decide +kernel
theorem dX12_giveBack_41 : decode cX12_giveBack 41 = .ok (.aload_n 0, 1) := by decide +kernel
theorem dX12_giveBack_42 : decode cX12_giveBack 42 = .ok (.getfield 26, 3) := by decide +kernel
theorem dX12_giveBack_45 : decode cX12_giveBack 45 = .ok (.iload_n 2, 1) := by decide +kernel
theorem dX12_giveBack_46 : decode cX12_giveBack 46 = .ok (.aload_n 0, 1) := by decide +kernel
theorem dX12_giveBack_47 : decode cX12_giveBack 47 = .ok (.getfield 32, 3) := by decide +kernel
theorem dX12_giveBack_50 : decode cX12_giveBack 50 = .ok (.iload_n 2, 1) := by decide +kernel
theorem dX12_giveBack_51 : decode cX12_giveBack 51 = .ok (.iaload, 1) := by decide +kernel
theorem dX12_giveBack_52 : decode cX12_giveBack 52 = .ok (.iastore, 1) := by decide +kernel
theorem dX12_giveBack_53 : decode cX12_giveBack 53 = .ok (.iinc 2 1, 3) := by decide +kernel
theorem dX12_giveBack_56 : decode cX12_giveBack 56 = .ok (.goto (-21), 3) := by decide +kernel
theorem dX12_giveBack_59 : decode cX12_giveBack 59 = .ok (.aload_n 0, 1) := by decide +kernel
theorem dX12_giveBack_60 : decode cX12_giveBack 60 = .ok (.iload_n 1, 1) := by decide +kernel
theorem dX12_giveBack_61 : decode cX12_giveBack 61 = .ok (.putfield 155, 3) := by decide +kernel
theorem dX12_giveBack_64 : decode cX12_giveBack 64 = .ok (.return_, 1) := by decide +kernel
theorem dX12_stopped_0 : decode cX12_stopped 0 = .ok (.aload_n 0, 1) := by decide +kernel
theorem dX12_stopped_1 : decode cX12_stopped 1 = .ok (.iconst 0, 1) := by decide +kernel
theorem dX12_stopped_2 : decode cX12_stopped 2 = .ok (.putfield 149, 3) := by decide +kernel
theorem dX12_stopped_5 : decode cX12_stopped 5 = .ok (.aload_n 0, 1) := by decide +kernel
theorem dX12_stopped_6 : decode cX12_stopped 6 = .ok (.getfield 143, 3) := by decide +kernel
theorem dX12_stopped_9 : decode cX12_stopped 9 = .ok (.ireturn, 1) := by decide +kernel
theorem dX12_season_0 : decode cX12_season 0 = .ok (.aload_n 0, 1) := by decide +kernel
theorem dX12_season_1 : decode cX12_season 1 = .ok (.iconst 0, 1) := by decide +kernel
theorem dX12_season_2 : decode cX12_season 2 = .ok (.putfield 149, 3) := by decide +kernel
theorem dX12_season_5 : decode cX12_season 5 = .ok (.iload_n 1, 1) := by decide +kernel
theorem dX12_season_6 : decode cX12_season 6 = .ok (.i2l, 1) := by decide +kernel
theorem dX12_season_7 : decode cX12_season 7 = .ok (.lconst 0, 1) := by decide +kernel
theorem dX12_season_8 : decode cX12_season 8 = .ok (.ldc2_w 299, 3) := by decide +kernel
theorem dX12_season_11 : decode cX12_season 11 = .ok (.invokestatic 169, 3) := by decide +kernel
theorem dX12_season_14 : decode cX12_season 14 = .ok (.ifCond .eq 15, 3) := by decide +kernel
theorem dX12_season_17 : decode cX12_season 17 = .ok (.iload_n 2, 1) := by decide +kernel
theorem dX12_season_18 : decode cX12_season 18 = .ok (.i2l, 1) := by decide +kernel
theorem dX12_season_19 : decode cX12_season 19 = .ok (.lconst 1, 1) := by decide +kernel
theorem dX12_season_20 : decode cX12_season 20 = .ok (.ldc2_w 567, 3) := by decide +kernel
theorem dX12_season_23 : decode cX12_season 23 = .ok (.invokestatic 169, 3) := by decide +kernel
theorem dX12_season_26 : decode cX12_season 26 = .ok (.ifCond .ne 9, 3) := by decide +kernel
theorem dX12_season_29 : decode cX12_season 29 = .ok (.aload_n 0, 1) := by decide +kernel
theorem dX12_season_30 : decode cX12_season 30 = .ok (.iconst (-1), 1) := by decide +kernel
theorem dX12_season_31 : decode cX12_season 31 = .ok (.invokevirtual 158, 3) := by decide +kernel
theorem dX12_season_34 : decode cX12_season 34 = .ok (.ireturn, 1) := by decide +kernel
theorem dX12_season_35 : decode cX12_season 35 = .ok (.aload_n 0, 1) := by decide +kernel
theorem dX12_season_36 : decode cX12_season 36 = .ok (.bipush 16, 2) := by decide +kernel
theorem dX12_season_38 : decode cX12_season 38 = .ok (.invokevirtual 162, 3) := by decide +kernel
theorem dX12_season_41 : decode cX12_season 41 = .ok (.aload_n 0, 1) := by decide +kernel
theorem dX12_season_42 : decode cX12_season 42 = .ok (.iload_n 1, 1) := by decide +kernel
theorem dX12_season_43 : decode cX12_season 43 = .ok (.i2l, 1) := by decide +kernel
theorem dX12_season_44 : decode cX12_season 44 = .ok (.putfield 466, 3) := by decide +kernel
theorem dX12_season_47 : decode cX12_season 47 = .ok (.aload_n 0, 1) := by decide +kernel
theorem dX12_season_48 : decode cX12_season 48 = .ok (.iconst 1, 1) := by decide +kernel
theorem dX12_season_49 : decode cX12_season 49 = .ok (.putfield 569, 3) := by decide +kernel
theorem dX12_season_52 : decode cX12_season 52 = .ok (.iconst 0, 1) := by decide +kernel
theorem dX12_season_53 : decode cX12_season 53 = .ok (.istore_n 3, 1) := by decide +kernel
theorem dX12_season_54 : decode cX12_season 54 = .ok (.iconst 0, 1) := by decide +kernel
theorem dX12_season_55 : decode cX12_season 55 = .ok (.istore 4, 2) := by decide +kernel
theorem dX12_season_57 : decode cX12_season 57 = .ok (.iload 4, 2) := by decide +kernel
theorem dX12_season_59 : decode cX12_season 59 = .ok (.iload_n 2, 1) := by decide +kernel
theorem dX12_season_60 : decode cX12_season 60 = .ok (.if_icmp .ge 85, 3) := by decide +kernel
theorem dX12_season_63 : decode cX12_season 63 = .ok (.aload_n 0, 1) := by decide +kernel
theorem dX12_season_64 : decode cX12_season 64 = .ok (.getfield 13, 3) := by decide +kernel
theorem dX12_season_67 : decode cX12_season 67 = .ok (.iconst 2, 1) := by decide +kernel
theorem dX12_season_68 : decode cX12_season 68 = .ok (.iaload, 1) := by decide +kernel
theorem dX12_season_69 : decode cX12_season 69 = .ok (.ifCond .le 16, 3) := by decide +kernel
theorem dX12_season_72 : decode cX12_season 72 = .ok (.aload_n 0, 1) := by decide +kernel
theorem dX12_season_73 : decode cX12_season 73 = .ok (.aload_n 0, 1) := by decide +kernel
theorem dX12_season_74 : decode cX12_season 74 = .ok (.getfield 13, 3) := by decide +kernel
theorem dX12_season_77 : decode cX12_season 77 = .ok (.iconst 2, 1) := by decide +kernel
theorem dX12_season_78 : decode cX12_season 78 = .ok (.iaload, 1) := by decide +kernel
theorem dX12_season_79 : decode cX12_season 79 = .ok (.invokevirtual 475, 3) := by decide +kernel
theorem dX12_season_82 : decode cX12_season 82 = .ok (.goto 4, 3) := by decide +kernel
theorem dX12_season_85 : decode cX12_season 85 = .ok (.iconst (-1), 1) := by decide +kernel
theorem dX12_season_86 : decode cX12_season 86 = .ok (.istore 5, 2) := by decide +kernel
theorem dX12_season_88 : decode cX12_season 88 = .ok (.iload 5, 2) := by decide +kernel
theorem dX12_season_90 : decode cX12_season 90 = .ok (.iconst (-1), 1) := by decide +kernel
theorem dX12_season_91 : decode cX12_season 91 = .ok (.if_icmp .eq 43, 3) := by decide +kernel
theorem dX12_season_94 : decode cX12_season 94 = .ok (.aload_n 0, 1) := by decide +kernel
theorem dX12_season_95 : decode cX12_season 95 = .ok (.iload 5, 2) := by decide +kernel
theorem dX12_season_97 : decode cX12_season 97 = .ok (.invokevirtual 250, 3) := by decide +kernel
theorem dX12_season_100 : decode cX12_season 100 = .ok (.ifCond .eq 34, 3) := by decide +kernel
theorem dX12_season_103 : decode cX12_season 103 = .ok (.aload_n 0, 1) := by decide +kernel
theorem dX12_season_104 : decode cX12_season 104 = .ok (.iload 5, 2) := by decide +kernel
theorem dX12_season_106 : decode cX12_season 106 = .ok (.invokevirtual 481, 3) := by decide +kernel
theorem dX12_season_109 : decode cX12_season 109 = .ok (.istore 6, 2) := by decide +kernel
theorem dX12_season_111 : decode cX12_season 111 = .ok (.iload_n 3, 1) := by decide +kernel
theorem dX12_season_112 : decode cX12_season 112 = .ok (.iload 6, 2) := by decide +kernel
theorem dX12_season_114 : decode cX12_season 114 = .ok (.iconst 1, 1) := by decide +kernel
theorem dX12_season_115 : decode cX12_season 115 = .ok (.if_icmp .eq 9, 3) := by decide +kernel
theorem dX12_season_118 : decode cX12_season 118 = .ok (.iload 6, 2) := by decide +kernel
theorem dX12_season_120 : decode cX12_season 120 = .ok (.iconst 2, 1) := by decide +kernel
theorem dX12_season_121 : decode cX12_season 121 = .ok (.if_icmp .ne 7, 3) := by decide +kernel
theorem dX12_season_124 : decode cX12_season 124 = .ok (.iconst 1, 1) := by decide +kernel
theorem dX12_season_125 : decode cX12_season 125 = .ok (.goto 4, 3) := by decide +kernel
theorem dX12_season_128 : decode cX12_season 128 = .ok (.iconst 0, 1) := by decide +kernel
theorem dX12_season_129 : decode cX12_season 129 = .ok (.iadd, 1) := by decide +kernel
theorem dX12_season_130 : decode cX12_season 130 = .ok (.istore_n 3, 1) := by decide +kernel
theorem dX12_season_131 : decode cX12_season 131 = .ok (.goto 8, 3) := by decide +kernel
theorem dX12_season_134 : decode cX12_season 134 = .ok (.aload_n 0, 1) := by decide +kernel
theorem dX12_season_135 : decode cX12_season 135 = .ok (.iconst 3, 1) := by decide +kernel
theorem dX12_season_136 : decode cX12_season 136 = .ok (.invokevirtual 454, 3) := by decide +kernel
theorem dX12_season_139 : decode cX12_season 139 = .ok (.iinc 4 1, 3) := by decide +kernel
theorem dX12_season_142 : decode cX12_season 142 = .ok (.goto (-85), 3) := by decide +kernel
theorem dX12_season_145 : decode cX12_season 145 = .ok (.iconst 0, 1) := by decide +kernel
theorem dX12_season_146 : decode cX12_season 146 = .ok (.istore 4, 2) := by decide +kernel
theorem dX12_season_148 : decode cX12_season 148 = .ok (.iload 4, 2) := by decide +kernel
theorem dX12_season_150 : decode cX12_season 150 = .ok (.iconst 4, 1) := by decide +kernel
theorem dX12_season_151 : decode cX12_season 151 = .ok (.if_icmp .ge 22, 3) := by decide +kernel
theorem dX12_season_154 : decode cX12_season 154 = .ok (.aload_n 0, 1) := by decide +kernel
theorem dX12_season_155 : decode cX12_season 155 = .ok (.getfield 146, 3) := by decide +kernel
theorem dX12_season_158 : decode cX12_season 158 = .ok (.iload 4, 2) := by decide +kernel
theorem dX12_season_160 : decode cX12_season 160 = .ok (.aload_n 0, 1) := by decide +kernel
theorem dX12_season_161 : decode cX12_season 161 = .ok (.iload 4, 2) := by decide +kernel
theorem dX12_season_163 : decode cX12_season 163 = .ok (.invokevirtual 186, 3) := by decide +kernel
theorem dX12_season_166 : decode cX12_season 166 = .ok (.iastore, 1) := by decide +kernel
theorem dX12_season_167 : decode cX12_season 167 = .ok (.iinc 4 1, 3) := by decide +kernel
theorem dX12_season_170 : decode cX12_season 170 = .ok (.goto (-22), 3) := by decide +kernel
theorem dX12_season_173 : decode cX12_season 173 = .ok (.aload_n 0, 1) := by decide +kernel
theorem dX12_season_174 : decode cX12_season 174 = .ok (.getfield 146, 3) := by decide +kernel
theorem dX12_season_177 : decode cX12_season 177 = .ok (.iconst 4, 1) := by decide +kernel
theorem dX12_season_178 : decode cX12_season 178 = .ok (.aload_n 0, 1) := by decide +kernel
theorem dX12_season_179 : decode cX12_season 179 = .ok (.iconst 0, 1) := by decide +kernel
theorem dX12_season_180 : decode cX12_season 180 = .ok (.invokevirtual 189, 3) := by decide +kernel
theorem dX12_season_183 : decode cX12_season 183 = .ok (.iastore, 1) := by decide +kernel
theorem dX12_season_184 : decode cX12_season 184 = .ok (.aload_n 0, 1) := by decide +kernel
theorem dX12_season_185 : decode cX12_season 185 = .ok (.getfield 146, 3) := by decide +kernel
theorem dX12_season_188 : decode cX12_season 188 = .ok (.iconst 5, 1) := by decide +kernel
theorem dX12_season_189 : decode cX12_season 189 = .ok (.aload_n 0, 1) := by decide +kernel
theorem dX12_season_190 : decode cX12_season 190 = .ok (.getfield 13, 3) := by decide +kernel
theorem dX12_season_193 : decode cX12_season 193 = .ok (.iconst 2, 1) := by decide +kernel
theorem dX12_season_194 : decode cX12_season 194 = .ok (.iaload, 1) := by decide +kernel
theorem dX12_season_195 : decode cX12_season 195 = .ok (.iastore, 1) := by decide +kernel
theorem dX12_season_196 : decode cX12_season 196 = .ok (.aload_n 0, 1) := by decide +kernel
theorem dX12_season_197 : decode cX12_season 197 = .ok (.bipush 16, 2) := by decide +kernel
theorem dX12_season_199 : decode cX12_season 199 = .ok (.invokevirtual 166, 3) := by decide +kernel
theorem dX12_season_202 : decode cX12_season 202 = .ok (.aload_n 0, 1) := by decide +kernel
theorem dX12_season_203 : decode cX12_season 203 = .ok (.iload_n 3, 1) := by decide +kernel
theorem dX12_season_204 : decode cX12_season 204 = .ok (.invokevirtual 158, 3) := by decide +kernel
theorem dX12_season_207 : decode cX12_season 207 = .ok (.ireturn, 1) := by decide +kernel
theorem dX12_drawn_0 : decode cX12_drawn 0 = .ok (.aload_n 0, 1) := by decide +kernel
theorem dX12_drawn_1 : decode cX12_drawn 1 = .ok (.iconst 0, 1) := by decide +kernel
theorem dX12_drawn_2 : decode cX12_drawn 2 = .ok (.putfield 149, 3) := by decide +kernel
theorem dX12_drawn_5 : decode cX12_drawn 5 = .ok (.aload_n 0, 1) := by decide +kernel
theorem dX12_drawn_6 : decode cX12_drawn 6 = .ok (.getfield 569, 3) := by decide +kernel
theorem dX12_drawn_9 : decode cX12_drawn 9 = .ok (.ifCond .eq 24, 3) := by decide +kernel
theorem dX12_drawn_12 : decode cX12_drawn 12 = .ok (.iload_n 1, 1) := by decide +kernel
theorem dX12_drawn_13 : decode cX12_drawn 13 = .ok (.i2l, 1) := by decide +kernel
theorem dX12_drawn_14 : decode cX12_drawn 14 = .ok (.lconst 0, 1) := by decide +kernel
theorem dX12_drawn_15 : decode cX12_drawn 15 = .ok (.ldc2_w 192, 3) := by decide +kernel
theorem dX12_drawn_18 : decode cX12_drawn 18 = .ok (.invokestatic 169, 3) := by decide +kernel
theorem dX12_drawn_21 : decode cX12_drawn 21 = .ok (.ifCond .eq 12, 3) := by decide +kernel
theorem dX12_drawn_24 : decode cX12_drawn 24 = .ok (.aload_n 0, 1) := by decide +kernel
theorem dX12_drawn_25 : decode cX12_drawn 25 = .ok (.getfield 146, 3) := by decide +kernel
theorem dX12_drawn_28 : decode cX12_drawn 28 = .ok (.iload_n 1, 1) := by decide +kernel
theorem dX12_drawn_29 : decode cX12_drawn 29 = .ok (.iaload, 1) := by decide +kernel
theorem dX12_drawn_30 : decode cX12_drawn 30 = .ok (.goto 4, 3) := by decide +kernel
theorem dX12_drawn_33 : decode cX12_drawn 33 = .ok (.iconst (-1), 1) := by decide +kernel
theorem dX12_drawn_34 : decode cX12_drawn 34 = .ok (.ireturn, 1) := by decide +kernel
theorem dX12_count_0 : decode cX12_count 0 = .ok (.aload_n 0, 1) := by decide +kernel
theorem dX12_count_1 : decode cX12_count 1 = .ok (.iconst 0, 1) := by decide +kernel
theorem dX12_count_2 : decode cX12_count 2 = .ok (.putfield 149, 3) := by decide +kernel
theorem dX12_count_5 : decode cX12_count 5 = .ok (.iload_n 1, 1) := by decide +kernel
theorem dX12_count_6 : decode cX12_count 6 = .ok (.tableswitch 198 0 19 #[94, 101, 108, 115, 122, 129, 134, 139, 146, 153, 160, 167, 175, 198, 198, 198, 198, 198, 182, 190], 94) := by decide +kernel
theorem dX12_count_100 : decode cX12_count 100 = .ok (.aload_n 0, 1) := by decide +kernel
theorem dX12_count_101 : decode cX12_count 101 = .ok (.getfield 13, 3) := by decide +kernel
theorem dX12_count_104 : decode cX12_count 104 = .ok (.iconst 0, 1) := by decide +kernel
theorem dX12_count_105 : decode cX12_count 105 = .ok (.iaload, 1) := by decide +kernel
theorem dX12_count_106 : decode cX12_count 106 = .ok (.ireturn, 1) := by decide +kernel
