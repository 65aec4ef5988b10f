theorem dX12_findEnds_45 : decode cX12_findEnds 45 = .ok (.imul, 1) := by decide +kernel
theorem dX12_findEnds_46 : decode cX12_findEnds 46 = .ok (.if_icmp .ge 95, 3) := by decide +kernel
theorem dX12_findEnds_49 : decode cX12_findEnds 49 = .ok (.aload_n 0, 1) := by decide +kernel
theorem dX12_findEnds_50 : decode cX12_findEnds 50 = .ok (.invokevirtual 194, 3) := by decide +kernel
theorem dX12_findEnds_53 : decode cX12_findEnds 53 = .ok (.ifCond .ne 18, 3) := by decide +kernel
theorem dX12_findEnds_56 : decode cX12_findEnds 56 = .ok (.aload_n 0, 1) := by decide +kernel
theorem dX12_findEnds_57 : decode cX12_findEnds 57 = .ok (.getfield 116, 3) := by decide +kernel
theorem dX12_findEnds_60 : decode cX12_findEnds 60 = .ok (.iconst 3, 1) := by decide +kernel
theorem dX12_findEnds_61 : decode cX12_findEnds 61 = .ok (.dup2, 1) := by decide +kernel
theorem dX12_findEnds_62 : decode cX12_findEnds 62 = .ok (.iaload, 1) := by decide +kernel
theorem dX12_findEnds_63 : decode cX12_findEnds 63 = .ok (.iload_n 3, 1) := by decide +kernel
theorem dX12_findEnds_64 : decode cX12_findEnds 64 = .ok (.iadd, 1) := by decide +kernel
theorem dX12_findEnds_65 : decode cX12_findEnds 65 = .ok (.iastore, 1) := by decide +kernel
theorem dX12_findEnds_66 : decode cX12_findEnds 66 = .ok (.iconst 0, 1) := by decide +kernel
theorem dX12_findEnds_67 : decode cX12_findEnds 67 = .ok (.istore_n 3, 1) := by decide +kernel
theorem dX12_findEnds_68 : decode cX12_findEnds 68 = .ok (.goto 67, 3) := by decide +kernel
theorem dX12_findEnds_71 : decode cX12_findEnds 71 = .ok (.aload_n 0, 1) := by decide +kernel
theorem dX12_findEnds_72 : decode cX12_findEnds 72 = .ok (.iload_n 1, 1) := by decide +kernel
theorem dX12_findEnds_73 : decode cX12_findEnds 73 = .ok (.iload 4, 2) := by decide +kernel
theorem dX12_findEnds_75 : decode cX12_findEnds 75 = .ok (.iconst 2, 1) := by decide +kernel
theorem dX12_findEnds_76 : decode cX12_findEnds 76 = .ok (.irem, 1) := by decide +kernel
theorem dX12_findEnds_77 : decode cX12_findEnds 77 = .ok (.invokevirtual 238, 3) := by decide +kernel
theorem dX12_findEnds_80 : decode cX12_findEnds 80 = .ok (.istore 5, 2) := by decide +kernel
theorem dX12_findEnds_82 : decode cX12_findEnds 82 = .ok (.aload_n 0, 1) := by decide +kernel
theorem dX12_findEnds_83 : decode cX12_findEnds 83 = .ok (.iload 5, 2) := by decide +kernel
theorem dX12_findEnds_85 : decode cX12_findEnds 85 = .ok (.iload_n 2, 1) := by decide +kernel
theorem dX12_findEnds_86 : decode cX12_findEnds 86 = .ok (.invokevirtual 235, 3) := by decide +kernel
theorem dX12_findEnds_89 : decode cX12_findEnds 89 = .ok (.istore 6, 2) := by decide +kernel
theorem dX12_findEnds_91 : decode cX12_findEnds 91 = .ok (.aload_n 0, 1) := by decide +kernel
theorem dX12_findEnds_92 : decode cX12_findEnds 92 = .ok (.getfield 116, 3) := by decide +kernel
theorem dX12_findEnds_95 : decode cX12_findEnds 95 = .ok (.iconst 1, 1) := by decide +kernel
theorem dX12_findEnds_96 : decode cX12_findEnds 96 = .ok (.iload 4, 2) := by decide +kernel
theorem dX12_findEnds_98 : decode cX12_findEnds 98 = .ok (.iconst 2, 1) := by decide +kernel
theorem dX12_findEnds_99 : decode cX12_findEnds 99 = .ok (.irem, 1) := by decide +kernel
theorem dX12_findEnds_100 : decode cX12_findEnds 100 = .ok (.iadd, 1) := by decide +kernel
theorem dX12_findEnds_101 : decode cX12_findEnds 101 = .ok (.dup2, 1) := by decide +kernel
theorem dX12_findEnds_102 : decode cX12_findEnds 102 = .ok (.iaload, 1) := by decide +kernel
theorem dX12_findEnds_103 : decode cX12_findEnds 103 = .ok (.iload_n 3, 1) := by decide +kernel
theorem dX12_findEnds_104 : decode cX12_findEnds 104 = .ok (.bipush 10, 2) := by decide +kernel
theorem dX12_findEnds_106 : decode cX12_findEnds 106 = .ok (.idiv, 1) := by decide +kernel
theorem dX12_findEnds_107 : decode cX12_findEnds 107 = .ok (.iload 6, 2) := by decide +kernel
theorem dX12_findEnds_109 : decode cX12_findEnds 109 = .ok (.imul, 1) := by decide +kernel
theorem dX12_findEnds_110 : decode cX12_findEnds 110 = .ok (.iadd, 1) := by decide +kernel
theorem dX12_findEnds_111 : decode cX12_findEnds 111 = .ok (.iastore, 1) := by decide +kernel
theorem dX12_findEnds_112 : decode cX12_findEnds 112 = .ok (.iload_n 3, 1) := by decide +kernel
theorem dX12_findEnds_113 : decode cX12_findEnds 113 = .ok (.bipush 10, 2) := by decide +kernel
theorem dX12_findEnds_115 : decode cX12_findEnds 115 = .ok (.idiv, 1) := by decide +kernel
theorem dX12_findEnds_116 : decode cX12_findEnds 116 = .ok (.bipush 10, 2) := by decide +kernel
theorem dX12_findEnds_118 : decode cX12_findEnds 118 = .ok (.iload 6, 2) := by decide +kernel
theorem dX12_findEnds_120 : decode cX12_findEnds 120 = .ok (.isub, 1) := by decide +kernel
theorem dX12_findEnds_121 : decode cX12_findEnds 121 = .ok (.imul, 1) := by decide +kernel
theorem dX12_findEnds_122 : decode cX12_findEnds 122 = .ok (.istore_n 3, 1) := by decide +kernel
theorem dX12_findEnds_123 : decode cX12_findEnds 123 = .ok (.aload_n 0, 1) := by decide +kernel
theorem dX12_findEnds_124 : decode cX12_findEnds 124 = .ok (.aload_n 0, 1) := by decide +kernel
theorem dX12_findEnds_125 : decode cX12_findEnds 125 = .ok (.iload 5, 2) := by decide +kernel
theorem dX12_findEnds_127 : decode cX12_findEnds 127 = .ok (.iconst 1, 1) := by decide +kernel
theorem dX12_findEnds_128 : decode cX12_findEnds 128 = .ok (.invokevirtual 226, 3) := by decide +kernel
theorem dX12_findEnds_131 : decode cX12_findEnds 131 = .ok (.iload_n 2, 1) := by decide +kernel
theorem dX12_findEnds_132 : decode cX12_findEnds 132 = .ok (.invokevirtual 460, 3) := by decide +kernel
theorem dX12_findEnds_135 : decode cX12_findEnds 135 = .ok (.iinc 4 1, 3) := by decide +kernel
theorem dX12_findEnds_138 : decode cX12_findEnds 138 = .ok (.goto (-101), 3) := by decide +kernel
theorem dX12_findEnds_141 : decode cX12_findEnds 141 = .ok (.aload_n 0, 1) := by decide +kernel
theorem dX12_findEnds_142 : decode cX12_findEnds 142 = .ok (.getfield 116, 3) := by decide +kernel
theorem dX12_findEnds_145 : decode cX12_findEnds 145 = .ok (.iconst 0, 1) := by decide +kernel
theorem dX12_findEnds_146 : decode cX12_findEnds 146 = .ok (.iload_n 3, 1) := by decide +kernel
theorem dX12_findEnds_147 : decode cX12_findEnds 147 = .ok (.iastore, 1) := by decide +kernel
theorem dX12_findEnds_148 : decode cX12_findEnds 148 = .ok (.return_, 1) := by decide +kernel
theorem dX12_odds_0 : decode cX12_odds 0 = .ok (.aload_n 0, 1) := by decide +kernel
theorem dX12_odds_1 : decode cX12_odds 1 = .ok (.iconst 0, 1) := by decide +kernel
theorem dX12_odds_2 : decode cX12_odds 2 = .ok (.putfield 149, 3) := by decide +kernel
theorem dX12_odds_5 : decode cX12_odds 5 = .ok (.aload_n 0, 1) := by decide +kernel
theorem dX12_odds_6 : decode cX12_odds 6 = .ok (.iload_n 1, 1) := by decide +kernel
theorem dX12_odds_7 : decode cX12_odds 7 = .ok (.invokevirtual 245, 3) := by decide +kernel
theorem dX12_odds_10 : decode cX12_odds 10 = .ok (.ifCond .eq 15, 3) := by decide +kernel
theorem dX12_odds_13 : decode cX12_odds 13 = .ok (.iload_n 2, 1) := by decide +kernel
theorem dX12_odds_14 : decode cX12_odds 14 = .ok (.i2l, 1) := by decide +kernel
theorem dX12_odds_15 : decode cX12_odds 15 = .ok (.lconst 0, 1) := by decide +kernel
theorem dX12_odds_16 : decode cX12_odds 16 = .ok (.ldc2_w 198, 3) := by decide +kernel
theorem dX12_odds_19 : decode cX12_odds 19 = .ok (.invokestatic 169, 3) := by decide +kernel
theorem dX12_odds_22 : decode cX12_odds 22 = .ok (.ifCond .ne 5, 3) := by decide +kernel
theorem dX12_odds_25 : decode cX12_odds 25 = .ok (.iconst (-1), 1) := by decide +kernel
theorem dX12_odds_26 : decode cX12_odds 26 = .ok (.ireturn, 1) := by decide +kernel
theorem dX12_odds_27 : decode cX12_odds 27 = .ok (.aload_n 0, 1) := by decide +kernel
theorem dX12_odds_28 : decode cX12_odds 28 = .ok (.bipush 16, 2) := by decide +kernel
theorem dX12_odds_30 : decode cX12_odds 30 = .ok (.invokevirtual 162, 3) := by decide +kernel
theorem dX12_odds_33 : decode cX12_odds 33 = .ok (.aload_n 0, 1) := by decide +kernel
theorem dX12_odds_34 : decode cX12_odds 34 = .ok (.iload_n 1, 1) := by decide +kernel
theorem dX12_odds_35 : decode cX12_odds 35 = .ok (.invokevirtual 491, 3) := by decide +kernel
theorem dX12_odds_38 : decode cX12_odds 38 = .ok (.aload_n 0, 1) := by decide +kernel
theorem dX12_odds_39 : decode cX12_odds 39 = .ok (.bipush 16, 2) := by decide +kernel
theorem dX12_odds_41 : decode cX12_odds 41 = .ok (.invokevirtual 166, 3) := by decide +kernel
theorem dX12_odds_44 : decode cX12_odds 44 = .ok (.aload_n 0, 1) := by decide +kernel
theorem dX12_odds_45 : decode cX12_odds 45 = .ok (.getfield 116, 3) := by decide +kernel
theorem dX12_odds_48 : decode cX12_odds 48 = .ok (.iload_n 2, 1) := by decide +kernel
theorem dX12_odds_49 : decode cX12_odds 49 = .ok (.iaload, 1) := by decide +kernel
theorem dX12_odds_50 : decode cX12_odds 50 = .ok (.ireturn, 1) := by decide +kernel
theorem dX12_isHad_0 : decode cX12_isHad 0 = .ok (.iconst 1, 1) := by decide +kernel
theorem dX12_isHad_1 : decode cX12_isHad 1 = .ok (.istore_n 2, 1) := by decide +kernel
theorem dX12_isHad_2 : decode cX12_isHad 2 = .ok (.iconst 0, 1) := by decide +kernel
theorem dX12_isHad_3 : decode cX12_isHad 3 = .ok (.istore_n 3, 1) := by decide +kernel
theorem dX12_isHad_4 : decode cX12_isHad 4 = .ok (.iload_n 3, 1) := by decide +kernel
theorem dX12_isHad_5 : decode cX12_isHad 5 = .ok (.iconst 2, 1) := by decide +kernel
theorem dX12_isHad_6 : decode cX12_isHad 6 = .ok (.aload_n 0, 1) := by decide +kernel
theorem dX12_isHad_7 : decode cX12_isHad 7 = .ok (.iconst 1, 1) := by decide +kernel
theorem dX12_isHad_8 : decode cX12_isHad 8 = .ok (.invokevirtual 189, 3) := by decide +kernel
theorem dX12_isHad_11 : decode cX12_isHad 11 = .ok (.imul, 1) := by decide +kernel
theorem dX12_isHad_12 : decode cX12_isHad 12 = .ok (.if_icmp .ge 45, 3) := by decide +kernel
theorem dX12_isHad_15 : decode cX12_isHad 15 = .ok (.iload_n 2, 1) := by decide +kernel
theorem dX12_isHad_16 : decode cX12_isHad 16 = .ok (.ifCond .eq 41, 3) := by decide +kernel
theorem dX12_isHad_19 : decode cX12_isHad 19 = .ok (.aload_n 0, 1) := by decide +kernel
theorem dX12_isHad_20 : decode cX12_isHad 20 = .ok (.invokevirtual 194, 3) := by decide +kernel
theorem dX12_isHad_23 : decode cX12_isHad 23 = .ok (.istore_n 2, 1) := by decide +kernel
theorem dX12_isHad_24 : decode cX12_isHad 24 = .ok (.iload_n 2, 1) := by decide +kernel
theorem dX12_isHad_25 : decode cX12_isHad 25 = .ok (.ifCond .eq 26, 3) := by decide +kernel
theorem dX12_isHad_28 : decode cX12_isHad 28 = .ok (.aload_n 0, 1) := by decide +kernel
theorem dX12_isHad_29 : decode cX12_isHad 29 = .ok (.aload_n 0, 1) := by decide +kernel
theorem dX12_isHad_30 : decode cX12_isHad 30 = .ok (.aload_n 0, 1) := by decide +kernel
theorem dX12_isHad_31 : decode cX12_isHad 31 = .ok (.iload_n 1, 1) := by decide +kernel
theorem dX12_isHad_32 : decode cX12_isHad 32 = .ok (.iload_n 3, 1) := by decide +kernel
theorem dX12_isHad_33 : decode cX12_isHad 33 = .ok (.iconst 2, 1) := by decide +kernel
theorem dX12_isHad_34 : decode cX12_isHad 34 = .ok (.irem, 1) := by decide +kernel
theorem dX12_isHad_35 : decode cX12_isHad 35 = .ok (.invokevirtual 238, 3) := by decide +kernel
theorem dX12_isHad_38 : decode cX12_isHad 38 = .ok (.iconst 1, 1) := by decide +kernel
theorem dX12_isHad_39 : decode cX12_isHad 39 = .ok (.invokevirtual 226, 3) := by decide +kernel
theorem dX12_isHad_42 : decode cX12_isHad 42 = .ok (.aload_n 0, 1) := by decide +kernel
theorem dX12_isHad_43 : decode cX12_isHad 43 = .ok (.iload_n 1, 1) := by decide +kernel
theorem dX12_isHad_44 : decode cX12_isHad 44 = .ok (.iconst 2, 1) := by decide +kernel
theorem dX12_isHad_45 : decode cX12_isHad 45 = .ok (.invokevirtual 238, 3) := by decide +kernel
theorem dX12_isHad_48 : decode cX12_isHad 48 = .ok (.invokevirtual 460, 3) := by decide +kernel
theorem dX12_isHad_51 : decode cX12_isHad 51 = .ok (.iinc 3 1, 3) := by decide +kernel
theorem dX12_isHad_54 : decode cX12_isHad 54 = .ok (.goto (-50), 3) := by decide +kernel
theorem dX12_isHad_57 : decode cX12_isHad 57 = .ok (.iload_n 2, 1) := by decide +kernel
theorem dX12_isHad_58 : decode cX12_isHad 58 = .ok (.ifCond .eq 29, 3) := by decide +kernel
theorem dX12_isHad_61 : decode cX12_isHad 61 = .ok (.aload_n 0, 1) := by decide +kernel
theorem dX12_isHad_62 : decode cX12_isHad 62 = .ok (.iconst 3, 1) := by decide +kernel
theorem dX12_isHad_63 : decode cX12_isHad 63 = .ok (.invokevirtual 186, 3) := by decide +kernel
theorem dX12_isHad_66 : decode cX12_isHad 66 = .ok (.ifCond .ne 21, 3) := by decide +kernel
theorem dX12_isHad_69 : decode cX12_isHad 69 = .ok (.aload_n 0, 1) := by decide +kernel
theorem dX12_isHad_70 : decode cX12_isHad 70 = .ok (.iconst 0, 1) := by decide +kernel
theorem dX12_isHad_71 : decode cX12_isHad 71 = .ok (.invokevirtual 189, 3) := by decide +kernel
theorem dX12_isHad_74 : decode cX12_isHad 74 = .ok (.aload_n 0, 1) := by decide +kernel
theorem dX12_isHad_75 : decode cX12_isHad 75 = .ok (.iload_n 1, 1) := by decide +kernel
theorem dX12_isHad_76 : decode cX12_isHad 76 = .ok (.iconst 3, 1) := by decide +kernel
theorem dX12_isHad_77 : decode cX12_isHad 77 = .ok (.invokevirtual 238, 3) := by decide +kernel
theorem dX12_isHad_80 : decode cX12_isHad 80 = .ok (.if_icmp .gt 7, 3) := by decide +kernel
theorem dX12_isHad_83 : decode cX12_isHad 83 = .ok (.iconst 1, 1) := by decide +kernel
theorem dX12_isHad_84 : decode cX12_isHad 84 = .ok (.goto 4, 3) := by decide +kernel
theorem dX12_isHad_87 : decode cX12_isHad 87 = .ok (.iconst 0, 1) := by decide +kernel
theorem dX12_isHad_88 : decode cX12_isHad 88 = .ok (.ireturn, 1) := by decide +kernel
theorem dX12_keepWait_0 : decode cX12_keepWait 0 = .ok (.iconst 0, 1) := by decide +kernel
theorem dX12_keepWait_1 : decode cX12_keepWait 1 = .ok (.istore_n 2, 1) := by decide +kernel
theorem dX12_keepWait_2 : decode cX12_keepWait 2 = .ok (.iload_n 2, 1) := by decide +kernel
theorem dX12_keepWait_3 : decode cX12_keepWait 3 = .ok (.sipush 150, 3) := by decide +kernel
theorem dX12_keepWait_6 : decode cX12_keepWait 6 = .ok (.if_icmp .ge 27, 3) := by decide +kernel
theorem dX12_keepWait_9 : decode cX12_keepWait 9 = .ok (.aload_n 0, 1) := by decide +kernel
theorem dX12_keepWait_10 : decode cX12_keepWait 10 = .ok (.getfield 128, 3) := by decide +kernel
theorem dX12_keepWait_13 : decode cX12_keepWait 13 = .ok (.sipush 150, 3) := by decide +kernel
theorem dX12_keepWait_16 : decode cX12_keepWait 16 = .ok (.iload_n 1, 1) := by decide +kernel
theorem dX12_keepWait_17 : decode cX12_keepWait 17 = .ok (.imul, 1) := by decide +kernel
theorem dX12_keepWait_18 : decode cX12_keepWait 18 = .ok (.iload_n 2, 1) := by decide +kernel
theorem dX12_keepWait_19 : decode cX12_keepWait 19 = .ok (.iadd, 1) := by decide +kernel
theorem dX12_keepWait_20 : decode cX12_keepWait 20 = .ok (.aload_n 0, 1) := by decide +kernel
theorem dX12_keepWait_21 : decode cX12_keepWait 21 = .ok (.getfield 13, 3) := by decide +kernel
theorem dX12_keepWait_24 : decode cX12_keepWait 24 = .ok (.iload_n 2, 1) := by decide +kernel
theorem dX12_keepWait_25 : decode cX12_keepWait 25 = .ok (.iaload, 1) := by decide +kernel
theorem dX12_keepWait_26 : decode cX12_keepWait 26 = .ok (.iastore, 1) := by decide +kernel
theorem dX12_keepWait_27 : decode cX12_keepWait 27 = .ok (.iinc 2 1, 3) := by decide +kernel
theorem dX12_keepWait_30 : decode cX12_keepWait 30 = .ok (.goto (-28), 3) := by decide +kernel
theorem dX12_keepWait_33 : decode cX12_keepWait 33 = .ok (.return_, 1) := by decide +kernel
theorem dX12_putWait_0 : decode cX12_putWait 0 = .ok (.iconst 0, 1) := by decide +kernel
theorem dX12_putWait_1 : decode cX12_putWait 1 = .ok (.istore_n 2, 1) := by decide +kernel
theorem dX12_putWait_2 : decode cX12_putWait 2 = .ok (.iload_n 2, 1) := by decide +kernel
theorem dX12_putWait_3 : decode cX12_putWait 3 = .ok (.sipush 150, 3) := by decide +kernel
theorem dX12_putWait_6 : decode cX12_putWait 6 = .ok (.if_icmp .ge 27, 3) := by decide +kernel
theorem dX12_putWait_9 : decode cX12_putWait 9 = .ok (.aload_n 0, 1) := by decide +kernel
theorem dX12_putWait_10 : decode cX12_putWait 10 = .ok (.getfield 13, 3) := by decide +kernel
theorem dX12_putWait_13 : decode cX12_putWait 13 = .ok (.iload_n 2, 1) := by decide +kernel
theorem dX12_putWait_14 : decode cX12_putWait 14 = .ok (.aload_n 0, 1) := by decide +kernel
theorem dX12_putWait_15 : decode cX12_putWait 15 = .ok (.getfield 128, 3) := by decide +kernel
theorem dX12_putWait_18 : decode cX12_putWait 18 = .ok (.sipush 150, 3) := by decide +kernel
theorem dX12_putWait_21 : decode cX12_putWait 21 = .ok (.iload_n 1, 1) := by decide +kernel
theorem dX12_putWait_22 : decode cX12_putWait 22 = .ok (.imul, 1) := by decide +kernel
theorem dX12_putWait_23 : decode cX12_putWait 23 = .ok (.iload_n 2, 1) := by decide +kernel
theorem dX12_putWait_24 : decode cX12_putWait 24 = .ok (.iadd, 1) := by decide +kernel
theorem dX12_putWait_25 : decode cX12_putWait 25 = .ok (.iaload, 1) := by decide +kernel
theorem dX12_putWait_26 : decode cX12_putWait 26 = .ok (.iastore, 1) := by decide +kernel
theorem dX12_putWait_27 : decode cX12_putWait 27 = .ok (.iinc 2 1, 3) := by decide +kernel
theorem dX12_putWait_30 : decode cX12_putWait 30 = .ok (.goto (-28), 3) := by decide +kernel
theorem dX12_putWait_33 : decode cX12_putWait 33 = .ok (.return_, 1) := by decide +kernel
theorem dX12_keepOrder_0 : decode cX12_keepOrder 0 = .ok (.iconst 0, 1) := by decide +kernel
theorem dX12_keepOrder_1 : decode cX12_keepOrder 1 = .ok (.istore_n 2, 1) := by decide +kernel
theorem dX12_keepOrder_2 : decode cX12_keepOrder 2 = .ok (.iload_n 2, 1) := by decide +kernel
theorem dX12_keepOrder_3 : decode cX12_keepOrder 3 = .ok (.iload_n 1, 1) := by decide +kernel
theorem dX12_keepOrder_4 : decode cX12_keepOrder 4 = .ok (.if_icmp .ge 28, 3) := by decide +kernel
theorem dX12_keepOrder_7 : decode cX12_keepOrder 7 = .ok (.aload_n 0, 1) := by decide +kernel
theorem dX12_keepOrder_8 : decode cX12_keepOrder 8 = .ok (.getfield 494, 3) := by decide +kernel
theorem dX12_keepOrder_11 : decode cX12_keepOrder 11 = .ok (.ifCond .ne 21, 3) := by decide +kernel
theorem dX12_keepOrder_14 : decode cX12_keepOrder 14 = .ok (.aload_n 0, 1) := by decide +kernel
theorem dX12_keepOrder_15 : decode cX12_keepOrder 15 = .ok (.getfield 122, 3) := by decide +kernel
theorem dX12_keepOrder_18 : decode cX12_keepOrder 18 = .ok (.iload_n 2, 1) := by decide +kernel
theorem dX12_keepOrder_19 : decode cX12_keepOrder 19 = .ok (.aload_n 0, 1) := by decide +kernel
theorem dX12_keepOrder_20 : decode cX12_keepOrder 20 = .ok (.getfield 119, 3) := by decide +kernel
theorem dX12_keepOrder_23 : decode cX12_keepOrder 23 = .ok (.iload_n 2, 1) := by decide +kernel
theorem dX12_keepOrder_24 : decode cX12_keepOrder 24 = .ok (.iaload, 1) := by decide +kernel
theorem dX12_keepOrder_25 : decode cX12_keepOrder 25 = .ok (.iastore, 1) := by decide +kernel
theorem dX12_keepOrder_26 : decode cX12_keepOrder 26 = .ok (.iinc 2 1, 3) := by decide +kernel
theorem dX12_keepOrder_29 : decode cX12_keepOrder 29 = .ok (.goto (-27), 3) := by decide +kernel
theorem dX12_keepOrder_32 : decode cX12_keepOrder 32 = .ok (.aload_n 0, 1) := by decide +kernel
theorem dX12_keepOrder_33 : decode cX12_keepOrder 33 = .ok (.dup, 1) := by decide +kernel
theorem dX12_keepOrder_34 : decode cX12_keepOrder 34 = .ok (.getfield 494, 3) := by decide +kernel
theorem dX12_keepOrder_37 : decode cX12_keepOrder 37 = .ok (.iconst 1, 1) := by decide +kernel
theorem dX12_keepOrder_38 : decode cX12_keepOrder 38 = .ok (.iadd, 1) := by decide +kernel
theorem dX12_keepOrder_39 : decode cX12_keepOrder 39 = .ok (.putfield 494, 3) := by decide +kernel
theorem dX12_keepOrder_42 : decode cX12_keepOrder 42 = .ok (.aload_n 0, 1) := by decide +kernel
theorem dX12_keepOrder_43 : decode cX12_keepOrder 43 = .ok (.iconst 0, 1) := by decide +kernel
theorem dX12_keepOrder_44 : decode cX12_keepOrder 44 = .ok (.invokevirtual 186, 3) := by decide +kernel
theorem dX12_keepOrder_47 : decode cX12_keepOrder 47 = .ok (.aload_n 0, 1) := by decide +kernel
theorem dX12_keepOrder_48 : decode cX12_keepOrder 48 = .ok (.getfield 497, 3) := by decide +kernel
theorem dX12_keepOrder_51 : decode cX12_keepOrder 51 = .ok (.if_icmp .gt 4, 3) := by decide +kernel
theorem dX12_keepOrder_54 : decode cX12_keepOrder 54 = .ok (.return_, 1) := by decide +kernel
theorem dX12_keepOrder_55 : decode cX12_keepOrder 55 = .ok (.aload_n 0, 1) := by decide +kernel
theorem dX12_keepOrder_56 : decode cX12_keepOrder 56 = .ok (.aload_n 0, 1) := by decide +kernel
theorem dX12_keepOrder_57 : decode cX12_keepOrder 57 = .ok (.iconst 0, 1) := by decide +kernel
theorem dX12_keepOrder_58 : decode cX12_keepOrder 58 = .ok (.invokevirtual 186, 3) := by decide +kernel
theorem dX12_keepOrder_61 : decode cX12_keepOrder 61 = .ok (.putfield 497, 3) := by decide +kernel
theorem dX12_keepOrder_64 : decode cX12_keepOrder 64 = .ok (.iconst 0, 1) := by decide +kernel
theorem dX12_keepOrder_65 : decode cX12_keepOrder 65 = .ok (.istore_n 2, 1) := by decide +kernel
theorem dX12_keepOrder_66 : decode cX12_keepOrder 66 = .ok (.iload_n 2, 1) := by decide +kernel
theorem dX12_keepOrder_67 : decode cX12_keepOrder 67 = .ok (.iload_n 1, 1) := by decide +kernel
theorem dX12_keepOrder_68 : decode cX12_keepOrder 68 = .ok (.if_icmp .ge 21, 3) := by decide +kernel
theorem dX12_keepOrder_71 : decode cX12_keepOrder 71 = .ok (.aload_n 0, 1) := by decide +kernel
theorem dX12_keepOrder_72 : decode cX12_keepOrder 72 = .ok (.getfield 125, 3) := by decide +kernel
theorem dX12_keepOrder_75 : decode cX12_keepOrder 75 = .ok (.iload_n 2, 1) := by decide +kernel
theorem dX12_keepOrder_76 : decode cX12_keepOrder 76 = .ok (.aload_n 0, 1) := by decide +kernel
theorem dX12_keepOrder_77 : decode cX12_keepOrder 77 = .ok (.getfield 119, 3) := by decide +kernel
theorem dX12_keepOrder_80 : decode cX12_keepOrder 80 = .ok (.iload_n 2, 1) := by decide +kernel
theorem dX12_keepOrder_81 : decode cX12_keepOrder 81 = .ok (.iaload, 1) := by decide +kernel
theorem dX12_keepOrder_82 : decode cX12_keepOrder 82 = .ok (.iastore, 1) := by decide +kernel
theorem dX12_keepOrder_83 : decode cX12_keepOrder 83 = .ok (.iinc 2 1, 3) := by decide +kernel
theorem dX12_keepOrder_86 : decode cX12_keepOrder 86 = .ok (.goto (-20), 3) := by decide +kernel
theorem dX12_keepOrder_89 : decode cX12_keepOrder 89 = .ok (.return_, 1) := by decide +kernel
theorem dX12_isFresh_0 : decode cX12_isFresh 0 = .ok (.iconst 1, 1) := by decide +kernel
theorem dX12_isFresh_1 : decode cX12_isFresh 1 = .ok (.istore_n 2, 1) := by decide +kernel
theorem dX12_isFresh_2 : decode cX12_isFresh 2 = .ok (.iconst 0, 1) := by decide +kernel
theorem dX12_isFresh_3 : decode cX12_isFresh 3 = .ok (.istore_n 3, 1) := by decide +kernel
theorem dX12_isFresh_4 : decode cX12_isFresh 4 = .ok (.iload_n 3, 1) := by decide +kernel
theorem dX12_isFresh_5 : decode cX12_isFresh 5 = .ok (.iload_n 1, 1) := by decide +kernel
theorem dX12_isFresh_6 : decode cX12_isFresh 6 = .ok (.if_icmp .ge 34, 3) := by decide +kernel
theorem dX12_isFresh_9 : decode cX12_isFresh 9 = .ok (.iload_n 2, 1) := by decide +kernel
theorem dX12_isFresh_10 : decode cX12_isFresh 10 = .ok (.ifCond .eq 22, 3) := by decide +kernel
theorem dX12_isFresh_13 : decode cX12_isFresh 13 = .ok (.aload_n 0, 1) := by decide +kernel
theorem dX12_isFresh_14 : decode cX12_isFresh 14 = .ok (.getfield 119, 3) := by decide +kernel
theorem dX12_isFresh_17 : decode cX12_isFresh 17 = .ok (.iload_n 3, 1) := by decide +kernel
theorem dX12_isFresh_18 : decode cX12_isFresh 18 = .ok (.iaload, 1) := by decide +kernel
theorem dX12_isFresh_19 : decode cX12_isFresh 19 = .ok (.aload_n 0, 1) := by decide +kernel
theorem dX12_isFresh_20 : decode cX12_isFresh 20 = .ok (.getfield 119, 3) := by decide +kernel
theorem dX12_isFresh_23 : decode cX12_isFresh 23 = .ok (.iload_n 1, 1) := by decide +kernel
theorem dX12_isFresh_24 : decode cX12_isFresh 24 = .ok (.iaload, 1) := by decide +kernel
theorem dX12_isFresh_25 : decode cX12_isFresh 25 = .ok (.if_icmp .eq 7, 3) := by decide +kernel
theorem dX12_isFresh_28 : decode cX12_isFresh 28 = .ok (.iconst 1, 1) := by decide +kernel
theorem dX12_isFresh_29 : decode cX12_isFresh 29 = .ok (.goto 4, 3) := by decide +kernel
theorem dX12_isFresh_32 : decode cX12_isFresh 32 = .ok (.iconst 0, 1) := by decide +kernel
theorem dX12_isFresh_33 : decode cX12_isFresh 33 = .ok (.istore_n 2, 1) := by decide +kernel
theorem dX12_isFresh_34 : decode cX12_isFresh 34 = .ok (.iinc 3 1, 3) := by decide +kernel
theorem dX12_isFresh_37 : decode cX12_isFresh 37 = .ok (.goto (-33), 3) := by decide +kernel
theorem dX12_isFresh_40 : decode cX12_isFresh 40 = .ok (.iload_n 2, 1) := by decide +kernel
theorem dX12_isFresh_41 : decode cX12_isFresh 41 = .ok (.ireturn, 1) := by decide +kernel
theorem dX12_findOrders_0 : decode cX12_findOrders 0 = .ok (.aload_n 0, 1) := by decide +kernel
theorem dX12_findOrders_1 : decode cX12_findOrders 1 = .ok (.getfield 13, 3) := by decide +kernel
theorem dX12_findOrders_4 : decode cX12_findOrders 4 = .ok (.iconst 2, 1) := by decide +kernel
theorem dX12_findOrders_5 : decode cX12_findOrders 5 = .ok (.iaload, 1) := by decide +kernel
theorem dX12_findOrders_6 : decode cX12_findOrders 6 = .ok (.istore_n 1, 1) := by decide +kernel
theorem dX12_findOrders_7 : decode cX12_findOrders 7 = .ok (.aload_n 0, 1) := by decide +kernel
theorem dX12_findOrders_8 : decode cX12_findOrders 8 = .ok (.iconst 0, 1) := by decide +kernel
theorem dX12_findOrders_9 : decode cX12_findOrders 9 = .ok (.putfield 494, 3) := by decide +kernel
theorem dX12_findOrders_12 : decode cX12_findOrders 12 = .ok (.aload_n 0, 1) := by decide +kernel
theorem dX12_findOrders_13 : decode cX12_findOrders 13 = .ok (.iconst (-1), 1) := by decide +kernel
theorem dX12_findOrders_14 : decode cX12_findOrders 14 = .ok (.putfield 497, 3) := by decide +kernel
theorem dX12_findOrders_17 : decode cX12_findOrders 17 = .ok (.aload_n 0, 1) := by decide +kernel
theorem dX12_findOrders_18 : decode cX12_findOrders 18 = .ok (.iconst 0, 1) := by decide +kernel
theorem dX12_findOrders_19 : decode cX12_findOrders 19 = .ok (.invokevirtual 500, 3) := by decide +kernel
theorem dX12_findOrders_22 : decode cX12_findOrders 22 = .ok (.iload_n 1, 1) := by decide +kernel
theorem dX12_findOrders_23 : decode cX12_findOrders 23 = .ok (.ifCond .ne 9, 3) := by decide +kernel
theorem dX12_findOrders_26 : decode cX12_findOrders 26 = .ok (.aload_n 0, 1) := by decide +kernel
theorem dX12_findOrders_27 : decode cX12_findOrders 27 = .ok (.iconst 0, 1) := by decide +kernel
theorem dX12_findOrders_28 : decode cX12_findOrders 28 = .ok (.invokevirtual 503, 3) := by decide +kernel
theorem dX12_findOrders_31 : decode cX12_findOrders 31 = .ok (.return_, 1) := by decide +kernel
theorem dX12_findOrders_32 : decode cX12_findOrders 32 = .ok (.iconst 0, 1) := by decide +kernel
theorem dX12_findOrders_33 : decode cX12_findOrders 33 = .ok (.istore_n 2, 1) := by decide +kernel
theorem dX12_findOrders_34 : decode cX12_findOrders 34 = .ok (.aload_n 0, 1) := by decide +kernel
theorem dX12_findOrders_35 : decode cX12_findOrders 35 = .ok (.getfield 119, 3) := by decide +kernel
theorem dX12_findOrders_38 : decode cX12_findOrders 38 = .ok (.iconst 0, 1) := by decide +kernel
theorem dX12_findOrders_39 : decode cX12_findOrders 39 = .ok (.iconst (-1), 1) := by decide +kernel
theorem dX12_findOrders_40 : decode cX12_findOrders 40 = .ok (.iastore, 1) := by decide +kernel
theorem dX12_findOrders_41 : decode cX12_findOrders 41 = .ok (.iload_n 2, 1) := by decide +kernel
theorem dX12_findOrders_42 : decode cX12_findOrders 42 = .ok (.ifCond .lt 107, 3) := by decide +kernel
theorem dX12_findOrders_45 : decode cX12_findOrders 45 = .ok (.aload_n 0, 1) := by decide +kernel
theorem dX12_findOrders_46 : decode cX12_findOrders 46 = .ok (.getfield 119, 3) := by decide +kernel
theorem dX12_findOrders_49 : decode cX12_findOrders 49 = .ok (.iload_n 2, 1) := by decide +kernel
theorem dX12_findOrders_50 : decode cX12_findOrders 50 = .ok (.dup2, 1) := by decide +kernel
theorem dX12_findOrders_51 : decode cX12_findOrders 51 = .ok (.iaload, 1) := by decide +kernel
theorem dX12_findOrders_52 : decode cX12_findOrders 52 = .ok (.iconst 1, 1) := by decide +kernel
theorem dX12_findOrders_53 : decode cX12_findOrders 53 = .ok (.iadd, 1) := by decide +kernel
theorem dX12_findOrders_54 : decode cX12_findOrders 54 = .ok (.iastore, 1) := by decide +kernel
theorem dX12_findOrders_55 : decode cX12_findOrders 55 = .ok (.aload_n 0, 1) := by decide +kernel
theorem dX12_findOrders_56 : decode cX12_findOrders 56 = .ok (.getfield 119, 3) := by decide +kernel
theorem dX12_findOrders_59 : decode cX12_findOrders 59 = .ok (.iload_n 2, 1) := by decide +kernel
theorem dX12_findOrders_60 : decode cX12_findOrders 60 = .ok (.iaload, 1) := by decide +kernel
theorem dX12_findOrders_61 : decode cX12_findOrders 61 = .ok (.iload_n 1, 1) := by decide +kernel
theorem dX12_findOrders_62 : decode cX12_findOrders 62 = .ok (.if_icmp .ne 22, 3) := by decide +kernel
theorem dX12_findOrders_65 : decode cX12_findOrders 65 = .ok (.iinc 2 (-1), 3) := by decide +kernel
theorem dX12_findOrders_68 : decode cX12_findOrders 68 = .ok (.aload_n 0, 1) := by decide +kernel
theorem dX12_findOrders_69 : decode cX12_findOrders 69 = .ok (.iload_n 2, 1) := by decide +kernel
theorem dX12_findOrders_70 : decode cX12_findOrders 70 = .ok (.ifCond .ge 7, 3) := by decide +kernel
theorem dX12_findOrders_73 : decode cX12_findOrders 73 = .ok (.iconst 0, 1) := by decide +kernel
theorem dX12_findOrders_74 : decode cX12_findOrders 74 = .ok (.goto 4, 3) := by decide +kernel
theorem dX12_findOrders_77 : decode cX12_findOrders 77 = .ok (.iload_n 2, 1) := by decide +kernel
theorem dX12_findOrders_78 : decode cX12_findOrders 78 = .ok (.invokevirtual 506, 3) := by decide +kernel
theorem dX12_findOrders_81 : decode cX12_findOrders 81 = .ok (.goto (-40), 3) := by decide +kernel
theorem dX12_findOrders_84 : decode cX12_findOrders 84 = .ok (.aload_n 0, 1) := by decide +kernel
theorem dX12_findOrders_85 : decode cX12_findOrders 85 = .ok (.iload_n 2, 1) := by decide +kernel
theorem dX12_findOrders_86 : decode cX12_findOrders 86 = .ok (.invokevirtual 509, 3) := by decide +kernel
theorem dX12_findOrders_89 : decode cX12_findOrders 89 = .ok (.ifCond .eq (-48), 3) := by decide +kernel
theorem dX12_findOrders_92 : decode cX12_findOrders 92 = .ok (.aload_n 0, 1) := by decide +kernel
theorem dX12_findOrders_93 : decode cX12_findOrders 93 = .ok (.aload_n 0, 1) := by decide +kernel
theorem dX12_findOrders_94 : decode cX12_findOrders 94 = .ok (.getfield 119, 3) := by decide +kernel
theorem dX12_findOrders_97 : decode cX12_findOrders 97 = .ok (.iload_n 2, 1) := by decide +kernel
theorem dX12_findOrders_98 : decode cX12_findOrders 98 = .ok (.iaload, 1) := by decide +kernel
theorem dX12_findOrders_99 : decode cX12_findOrders 99 = .ok (.invokevirtual 512, 3) := by decide +kernel
theorem dX12_findOrders_102 : decode cX12_findOrders 102 = .ok (.istore_n 3, 1) := by decide +kernel
theorem dX12_findOrders_103 : decode cX12_findOrders 103 = .ok (.iload_n 3, 1) := by decide +kernel
theorem dX12_findOrders_104 : decode cX12_findOrders 104 = .ok (.ifCond .eq 28, 3) := by decide +kernel
theorem dX12_findOrders_107 : decode cX12_findOrders 107 = .ok (.iload_n 2, 1) := by decide +kernel
theorem dX12_findOrders_108 : decode cX12_findOrders 108 = .ok (.iload_n 1, 1) := by decide +kernel
theorem dX12_findOrders_109 : decode cX12_findOrders 109 = .ok (.iconst 1, 1) := by decide +kernel
theorem dX12_findOrders_110 : decode cX12_findOrders 110 = .ok (.isub, 1) := by decide +kernel
theorem dX12_findOrders_111 : decode cX12_findOrders 111 = .ok (.if_icmp .ge 21, 3) := by decide +kernel
theorem dX12_findOrders_114 : decode cX12_findOrders 114 = .ok (.iinc 2 1, 3) := by decide +kernel
theorem dX12_findOrders_117 : decode cX12_findOrders 117 = .ok (.aload_n 0, 1) := by decide +kernel
theorem dX12_findOrders_118 : decode cX12_findOrders 118 = .ok (.iload_n 2, 1) := by decide +kernel
theorem dX12_findOrders_119 : decode cX12_findOrders 119 = .ok (.invokevirtual 500, 3) := by decide +kernel
theorem dX12_findOrders_122 : decode cX12_findOrders 122 = .ok (.aload_n 0, 1) := by decide +kernel
theorem dX12_findOrders_123 : decode cX12_findOrders 123 = .ok (.getfield 119, 3) := by decide +kernel
theorem dX12_findOrders_126 : decode cX12_findOrders 126 = .ok (.iload_n 2, 1) := by decide +kernel
theorem dX12_findOrders_127 : decode cX12_findOrders 127 = .ok (.iconst (-1), 1) := by decide +kernel
theorem dX12_findOrders_128 : decode cX12_findOrders 128 = .ok (.iastore, 1) := by decide +kernel
theorem dX12_findOrders_129 : decode cX12_findOrders 129 = .ok (.goto 17, 3) := by decide +kernel
theorem dX12_findOrders_132 : decode cX12_findOrders 132 = .ok (.iload_n 3, 1) := by decide +kernel
theorem dX12_findOrders_133 : decode cX12_findOrders 133 = .ok (.ifCond .eq 8, 3) := by decide +kernel
theorem dX12_findOrders_136 : decode cX12_findOrders 136 = .ok (.aload_n 0, 1) := by decide +kernel
theorem dX12_findOrders_137 : decode cX12_findOrders 137 = .ok (.iload_n 1, 1) := by decide +kernel
theorem dX12_findOrders_138 : decode cX12_findOrders 138 = .ok (.invokevirtual 503, 3) := by decide +kernel
theorem dX12_findOrders_141 : decode cX12_findOrders 141 = .ok (.aload_n 0, 1) := by decide +kernel
theorem dX12_findOrders_142 : decode cX12_findOrders 142 = .ok (.iload_n 2, 1) := by decide +kernel
theorem dX12_findOrders_143 : decode cX12_findOrders 143 = .ok (.invokevirtual 506, 3) := by decide +kernel
theorem dX12_findOrders_146 : decode cX12_findOrders 146 = .ok (.goto (-105), 3) := by decide +kernel
theorem dX12_findOrders_149 : decode cX12_findOrders 149 = .ok (.return_, 1) := by decide +kernel
theorem dX12_queue_0 : decode cX12_queue 0 = .ok (.aload_n 0, 1) := by decide +kernel
theorem dX12_queue_1 : decode cX12_queue 1 = .ok (.iconst 0, 1) := by decide +kernel
theorem dX12_queue_2 : decode cX12_queue 2 = .ok (.putfield 149, 3) := by decide +kernel
theorem dX12_queue_5 : decode cX12_queue 5 = .ok (.aload_n 0, 1) := by decide +kernel
theorem dX12_queue_6 : decode cX12_queue 6 = .ok (.getfield 13, 3) := by decide +kernel
theorem dX12_queue_9 : decode cX12_queue 9 = .ok (.iconst 2, 1) := by decide +kernel
theorem dX12_queue_10 : decode cX12_queue 10 = .ok (.iaload, 1) := by decide +kernel
theorem dX12_queue_11 : decode cX12_queue 11 = .ok (.istore_n 2, 1) := by decide +kernel
theorem dX12_queue_12 : decode cX12_queue 12 = .ok (.iload_n 1, 1) := by decide +kernel
theorem dX12_queue_13 : decode cX12_queue 13 = .ok (.ifCond .eq 39, 3) := by decide +kernel
theorem dX12_queue_16 : decode cX12_queue 16 = .ok (.iload_n 1, 1) := by decide +kernel
theorem dX12_queue_17 : decode cX12_queue 17 = .ok (.bipush 21, 2) := by decide +kernel
theorem dX12_queue_19 : decode cX12_queue 19 = .ok (.if_icmp .eq 33, 3) := by decide +kernel
theorem dX12_queue_22 : decode cX12_queue 22 = .ok (.iload_n 1, 1) := by decide +kernel
theorem dX12_queue_23 : decode cX12_queue 23 = .ok (.i2l, 1) := by decide +kernel
theorem dX12_queue_24 : decode cX12_queue 24 = .ok (.lconst 1, 1) := by decide +kernel
theorem dX12_queue_25 : decode cX12_queue 25 = .ok (.iload_n 2, 1) := by decide +kernel
theorem dX12_queue_26 : decode cX12_queue 26 = .ok (.i2l, 1) := by decide +kernel
theorem dX12_queue_27 : decode cX12_queue 27 = .ok (.invokestatic 169, 3) := by decide +kernel
theorem dX12_queue_30 : decode cX12_queue 30 = .ok (.ifCond .ne 22, 3) := by decide +kernel
theorem dX12_queue_33 : decode cX12_queue 33 = .ok (.iload_n 1, 1) := by decide +kernel
theorem dX12_queue_34 : decode cX12_queue 34 = .ok (.i2l, 1) := by decide +kernel
theorem dX12_queue_35 : decode cX12_queue 35 = .ok (.ldc2_w 361, 3) := by decide +kernel
theorem dX12_queue_38 : decode cX12_queue 38 = .ok (.ldc2_w 224, 3) := by decide +kernel
theorem dX12_queue_41 : decode cX12_queue 41 = .ok (.iload_n 2, 1) := by decide +kernel
theorem dX12_queue_42 : decode cX12_queue 42 = .ok (.i2l, 1) := by decide +kernel
theorem dX12_queue_43 : decode cX12_queue 43 = .ok (.ladd, 1) := by decide +kernel
theorem dX12_queue_44 : decode cX12_queue 44 = .ok (.invokestatic 169, 3) := by decide +kernel
theorem dX12_queue_47 : decode cX12_queue 47 = .ok (.ifCond .ne 5, 3) := by decide +kernel
theorem dX12_queue_50 : decode cX12_queue 50 = .ok (.iconst (-1), 1) := by decide +kernel
theorem dX12_queue_51 : decode cX12_queue 51 = .ok (.ireturn, 1) := by decide +kernel
theorem dX12_queue_52 : decode cX12_queue 52 = .ok (.aload_n 0, 1) := by decide +kernel
theorem dX12_queue_53 : decode cX12_queue 53 = .ok (.invokevirtual 515, 3) := by decide +kernel
theorem dX12_queue_56 : decode cX12_queue 56 = .ok (.iload_n 1, 1) := by decide +kernel
theorem dX12_queue_57 : decode cX12_queue 57 = .ok (.ifCond .eq 10, 3) := by decide +kernel
theorem dX12_queue_60 : decode cX12_queue 60 = .ok (.aload_n 0, 1) := by decide +kernel
theorem dX12_queue_61 : decode cX12_queue 61 = .ok (.getfield 494, 3) := by decide +kernel
theorem dX12_queue_64 : decode cX12_queue 64 = .ok (.ifCond .ne 16, 3) := by decide +kernel
theorem dX12_queue_67 : decode cX12_queue 67 = .ok (.iload_n 1, 1) := by decide +kernel
theorem dX12_queue_68 : decode cX12_queue 68 = .ok (.ifCond .ne 10, 3) := by decide +kernel
theorem dX12_queue_71 : decode cX12_queue 71 = .ok (.aload_n 0, 1) := by decide +kernel
theorem dX12_queue_72 : decode cX12_queue 72 = .ok (.getfield 494, 3) := by decide +kernel
theorem dX12_queue_75 : decode cX12_queue 75 = .ok (.goto 4, 3) := by decide +kernel
theorem dX12_queue_78 : decode cX12_queue 78 = .ok (.iconst (-1), 1) := by decide +kernel
theorem dX12_queue_79 : decode cX12_queue 79 = .ok (.ireturn, 1) := by decide +kernel
theorem dX12_queue_80 : decode cX12_queue 80 = .ok (.iload_n 1, 1) := by decide +kernel
theorem dX12_queue_81 : decode cX12_queue 81 = .ok (.bipush 21, 2) := by decide +kernel
theorem dX12_queue_83 : decode cX12_queue 83 = .ok (.if_icmp .ne 10, 3) := by decide +kernel
theorem dX12_queue_86 : decode cX12_queue 86 = .ok (.aload_n 0, 1) := by decide +kernel
theorem dX12_queue_87 : decode cX12_queue 87 = .ok (.getfield 497, 3) := by decide +kernel
theorem dX12_queue_90 : decode cX12_queue 90 = .ok (.goto 29, 3) := by decide +kernel
theorem dX12_queue_93 : decode cX12_queue 93 = .ok (.iload_n 1, 1) := by decide +kernel
theorem dX12_queue_94 : decode cX12_queue 94 = .ok (.bipush 11, 2) := by decide +kernel
theorem dX12_queue_96 : decode cX12_queue 96 = .ok (.if_icmp .ge 14, 3) := by decide +kernel
theorem dX12_queue_99 : decode cX12_queue 99 = .ok (.aload_n 0, 1) := by decide +kernel
theorem dX12_queue_100 : decode cX12_queue 100 = .ok (.getfield 122, 3) := by decide +kernel
theorem dX12_queue_103 : decode cX12_queue 103 = .ok (.iload_n 1, 1) := by decide +kernel
theorem dX12_queue_104 : decode cX12_queue 104 = .ok (.iconst 1, 1) := by decide +kernel
theorem dX12_queue_105 : decode cX12_queue 105 = .ok (.isub, 1) := by decide +kernel
theorem dX12_queue_106 : decode cX12_queue 106 = .ok (.iaload, 1) := by decide +kernel
theorem dX12_queue_107 : decode cX12_queue 107 = .ok (.goto 12, 3) := by decide +kernel
theorem dX12_queue_110 : decode cX12_queue 110 = .ok (.aload_n 0, 1) := by decide +kernel
theorem dX12_queue_111 : decode cX12_queue 111 = .ok (.getfield 125, 3) := by decide +kernel
theorem dX12_queue_114 : decode cX12_queue 114 = .ok (.iload_n 1, 1) := by decide +kernel
theorem dX12_queue_115 : decode cX12_queue 115 = .ok (.bipush 11, 2) := by decide +kernel
theorem dX12_queue_117 : decode cX12_queue 117 = .ok (.isub, 1) := by decide +kernel
theorem dX12_queue_118 : decode cX12_queue 118 = .ok (.iaload, 1) := by decide +kernel
theorem dX12_queue_119 : decode cX12_queue 119 = .ok (.ireturn, 1) := by decide +kernel
theorem dX12_spades_0 : decode cX12_spades 0 = .ok (.aload_n 0, 1) := by decide +kernel
theorem dX12_spades_1 : decode cX12_spades 1 = .ok (.iconst 0, 1) := by decide +kernel
theorem dX12_spades_2 : decode cX12_spades 2 = .ok (.putfield 149, 3) := by decide +kernel
theorem dX12_spades_5 : decode cX12_spades 5 = .ok (.aload_n 0, 1) := by decide +kernel
theorem dX12_spades_6 : decode cX12_spades 6 = .ok (.iconst 3, 1) := by decide +kernel
theorem dX12_spades_7 : decode cX12_spades 7 = .ok (.invokevirtual 189, 3) := by decide +kernel
theorem dX12_spades_10 : decode cX12_spades 10 = .ok (.istore_n 1, 1) := by decide +kernel
theorem dX12_spades_11 : decode cX12_spades 11 = .ok (.iconst (-1), 1) := by decide +kernel
theorem dX12_spades_12 : decode cX12_spades 12 = .ok (.istore_n 2, 1) := by decide +kernel
theorem dX12_spades_13 : decode cX12_spades 13 = .ok (.iconst 1, 1) := by decide +kernel
theorem dX12_spades_14 : decode cX12_spades 14 = .ok (.istore_n 3, 1) := by decide +kernel
theorem dX12_spades_15 : decode cX12_spades 15 = .ok (.iload_n 3, 1) := by decide +kernel
theorem dX12_spades_16 : decode cX12_spades 16 = .ok (.bipush 10, 2) := by decide +kernel
theorem dX12_spades_18 : decode cX12_spades 18 = .ok (.if_icmp .ge 39, 3) := by decide +kernel
theorem dX12_spades_21 : decode cX12_spades 21 = .ok (.iload_n 2, 1) := by decide +kernel
theorem dX12_spades_22 : decode cX12_spades 22 = .ok (.iconst (-1), 1) := by decide +kernel
theorem dX12_spades_23 : decode cX12_spades 23 = .ok (.if_icmp .ne 34, 3) := by decide +kernel
theorem dX12_spades_26 : decode cX12_spades 26 = .ok (.aload_n 0, 1) := by decide +kernel
theorem dX12_spades_27 : decode cX12_spades 27 = .ok (.getfield 13, 3) := by decide +kernel
theorem dX12_spades_30 : decode cX12_spades 30 = .ok (.bipush 9, 2) := by decide +kernel
theorem dX12_spades_32 : decode cX12_spades 32 = .ok (.iload_n 3, 1) := by decide +kernel
theorem dX12_spades_33 : decode cX12_spades 33 = .ok (.iastore, 1) := by decide +kernel
theorem dX12_spades_34 : decode cX12_spades 34 = .ok (.aload_n 0, 1) := by decide +kernel
theorem dX12_spades_35 : decode cX12_spades 35 = .ok (.invokevirtual 515, 3) := by decide +kernel
theorem dX12_spades_38 : decode cX12_spades 38 = .ok (.aload_n 0, 1) := by decide +kernel
theorem dX12_spades_39 : decode cX12_spades 39 = .ok (.getfield 494, 3) := by decide +kernel
theorem dX12_spades_42 : decode cX12_spades 42 = .ok (.ifCond .le 7, 3) := by decide +kernel
theorem dX12_spades_45 : decode cX12_spades 45 = .ok (.iload_n 3, 1) := by decide +kernel
theorem dX12_spades_46 : decode cX12_spades 46 = .ok (.goto 4, 3) := by decide +kernel
theorem dX12_spades_49 : decode cX12_spades 49 = .ok (.iconst (-1), 1) := by decide +kernel
theorem dX12_spades_50 : decode cX12_spades 50 = .ok (.istore_n 2, 1) := by decide +kernel
theorem dX12_spades_51 : decode cX12_spades 51 = .ok (.iinc 3 1, 3) := by decide +kernel
theorem dX12_spades_54 : decode cX12_spades 54 = .ok (.goto (-39), 3) := by decide +kernel
theorem dX12_spades_57 : decode cX12_spades 57 = .ok (.aload_n 0, 1) := by decide +kernel
theorem dX12_spades_58 : decode cX12_spades 58 = .ok (.getfield 13, 3) := by decide +kernel
theorem dX12_spades_61 : decode cX12_spades 61 = .ok (.bipush 9, 2) := by decide +kernel
theorem dX12_spades_63 : decode cX12_spades 63 = .ok (.iload_n 1, 1) := by decide +kernel
theorem dX12_spades_64 : decode cX12_spades 64 = .ok (.iastore, 1) := by decide +kernel
theorem dX12_spades_65 : decode cX12_spades 65 = .ok (.iload_n 2, 1) := by decide +kernel
theorem dX12_spades_66 : decode cX12_spades 66 = .ok (.ireturn, 1) := by decide +kernel
theorem dX12_free_0 : decode cX12_free 0 = .ok (.aload_n 0, 1) := by decide +kernel
theorem dX12_free_1 : decode cX12_free 1 = .ok (.iconst 0, 1) := by decide +kernel
theorem dX12_free_2 : decode cX12_free 2 = .ok (.putfield 149, 3) := by decide +kernel
theorem dX12_free_5 : decode cX12_free 5 = .ok (.iload_n 1, 1) := by decide +kernel
theorem dX12_free_6 : decode cX12_free 6 = .ok (.i2l, 1) := by decide +kernel
theorem dX12_free_7 : decode cX12_free 7 = .ok (.lconst 0, 1) := by decide +kernel
theorem dX12_free_8 : decode cX12_free 8 = .ok (.lconst 1, 1) := by decide +kernel
theorem dX12_free_9 : decode cX12_free 9 = .ok (.invokestatic 169, 3) := by decide +kernel
theorem dX12_free_12 : decode cX12_free 12 = .ok (.ifCond .ne 5, 3) := by decide +kernel
theorem dX12_free_15 : decode cX12_free 15 = .ok (.iconst (-1), 1) := by decide +kernel
theorem dX12_free_16 : decode cX12_free 16 = .ok (.ireturn, 1) := by decide +kernel
theorem dX12_free_17 : decode cX12_free 17 = .ok (.iconst (-1), 1) := by decide +kernel
theorem dX12_free_18 : decode cX12_free 18 = .ok (.istore_n 2, 1) := by decide +kernel
theorem dX12_free_19 : decode cX12_free 19 = .ok (.iconst 0, 1) := by decide +kernel
theorem dX12_free_20 : decode cX12_free 20 = .ok (.istore_n 3, 1) := by decide +kernel
theorem dX12_free_21 : decode cX12_free 21 = .ok (.iconst 0, 1) := by decide +kernel
theorem dX12_free_22 : decode cX12_free 22 = .ok (.istore 4, 2) := by decide +kernel
theorem dX12_free_24 : decode cX12_free 24 = .ok (.iload 4, 2) := by decide +kernel
theorem dX12_free_26 : decode cX12_free 26 = .ok (.iconst 1, 1) := by decide +kernel
theorem dX12_free_27 : decode cX12_free 27 = .ok (.aload_n 0, 1) := by decide +kernel
theorem dX12_free_28 : decode cX12_free 28 = .ok (.getfield 13, 3) := by decide +kernel
theorem dX12_free_31 : decode cX12_free 31 = .ok (.iconst 2, 1) := by decide +kernel
theorem dX12_free_32 : decode cX12_free 32 = .ok (.iaload, 1) := by decide +kernel
theorem dX12_free_33 : decode cX12_free 33 = .ok (.ishl, 1) := by decide +kernel
theorem dX12_free_34 : decode cX12_free 34 = .ok (.if_icmp .ge 134, 3) := by decide +kernel
theorem dX12_free_37 : decode cX12_free 37 = .ok (.iconst 0, 1) := by decide +kernel
theorem dX12_free_38 : decode cX12_free 38 = .ok (.istore 5, 2) := by decide +kernel
theorem dX12_free_40 : decode cX12_free 40 = .ok (.iconst 1, 1) := by decide +kernel
theorem dX12_free_41 : decode cX12_free 41 = .ok (.istore 6, 2) := by decide +kernel
theorem dX12_free_43 : decode cX12_free 43 = .ok (.iconst 0, 1) := by decide +kernel
theorem dX12_free_44 : decode cX12_free 44 = .ok (.istore 7, 2) := by decide +kernel
theorem dX12_free_46 : decode cX12_free 46 = .ok (.iload 7, 2) := by decide +kernel
theorem dX12_free_48 : decode cX12_free 48 = .ok (.aload_n 0, 1) := by decide +kernel
theorem dX12_free_49 : decode cX12_free 49 = .ok (.getfield 13, 3) := by decide +kernel
theorem dX12_free_52 : decode cX12_free 52 = .ok (.iconst 2, 1) := by decide +kernel
theorem dX12_free_53 : decode cX12_free 53 = .ok (.iaload, 1) := by decide +kernel
theorem dX12_free_54 : decode cX12_free 54 = .ok (.if_icmp .ge 85, 3) := by decide +kernel
theorem dX12_free_57 : decode cX12_free 57 = .ok (.iload 4, 2) := by decide +kernel
theorem dX12_free_59 : decode cX12_free 59 = .ok (.iload 7, 2) := by decide +kernel
theorem dX12_free_61 : decode cX12_free 61 = .ok (.invokestatic 518, 3) := by decide +kernel
theorem dX12_free_64 : decode cX12_free 64 = .ok (.ifCond .eq 69, 3) := by decide +kernel
theorem dX12_free_67 : decode cX12_free 67 = .ok (.iload 6, 2) := by decide +kernel
theorem dX12_free_69 : decode cX12_free 69 = .ok (.ifCond .eq 37, 3) := by decide +kernel
theorem dX12_free_72 : decode cX12_free 72 = .ok (.iload 5, 2) := by decide +kernel
theorem dX12_free_74 : decode cX12_free 74 = .ok (.aload_n 0, 1) := by decide +kernel
theorem dX12_free_75 : decode cX12_free 75 = .ok (.iload 7, 2) := by decide +kernel
theorem dX12_free_77 : decode cX12_free 77 = .ok (.iconst 0, 1) := by decide +kernel
theorem dX12_free_78 : decode cX12_free 78 = .ok (.invokevirtual 238, 3) := by decide +kernel
theorem dX12_free_81 : decode cX12_free 81 = .ok (.invokestatic 518, 3) := by decide +kernel
theorem dX12_free_84 : decode cX12_free 84 = .ok (.ifCond .ne 22, 3) := by decide +kernel
theorem dX12_free_87 : decode cX12_free 87 = .ok (.iload 5, 2) := by decide +kernel
theorem dX12_free_89 : decode cX12_free 89 = .ok (.aload_n 0, 1) := by decide +kernel
theorem dX12_free_90 : decode cX12_free 90 = .ok (.iload 7, 2) := by decide +kernel
theorem dX12_free_92 : decode cX12_free 92 = .ok (.iconst 1, 1) := by decide +kernel
theorem dX12_free_93 : decode cX12_free 93 = .ok (.invokevirtual 238, 3) := by decide +kernel
theorem dX12_free_96 : decode cX12_free 96 = .ok (.invokestatic 518, 3) := by decide +kernel
theorem dX12_free_99 : decode cX12_free 99 = .ok (.ifCond .ne 7, 3) := by decide +kernel
theorem dX12_free_102 : decode cX12_free 102 = .ok (.iconst 1, 1) := by decide +kernel
theorem dX12_free_103 : decode cX12_free 103 = .ok (.goto 4, 3) := by decide +kernel
theorem dX12_free_106 : decode cX12_free 106 = .ok (.iconst 0, 1) := by decide +kernel
theorem dX12_free_107 : decode cX12_free 107 = .ok (.istore 6, 2) := by decide +kernel
theorem dX12_free_109 : decode cX12_free 109 = .ok (.iload 5, 2) := by decide +kernel
theorem dX12_free_111 : decode cX12_free 111 = .ok (.iconst 1, 1) := by decide +kernel
theorem dX12_free_112 : decode cX12_free 112 = .ok (.aload_n 0, 1) := by decide +kernel
theorem dX12_free_113 : decode cX12_free 113 = .ok (.iload 7, 2) := by decide +kernel
theorem dX12_free_115 : decode cX12_free 115 = .ok (.iconst 0, 1) := by decide +kernel
theorem dX12_free_116 : decode cX12_free 116 = .ok (.invokevirtual 238, 3) := by decide +kernel
theorem dX12_free_119 : decode cX12_free 119 = .ok (.ishl, 1) := by decide +kernel
theorem dX12_free_120 : decode cX12_free 120 = .ok (.iconst 1, 1) := by decide +kernel
theorem dX12_free_121 : decode cX12_free 121 = .ok (.aload_n 0, 1) := by decide +kernel
theorem dX12_free_122 : decode cX12_free 122 = .ok (.iload 7, 2) := by decide +kernel
theorem dX12_free_124 : decode cX12_free 124 = .ok (.iconst 1, 1) := by decide +kernel
theorem dX12_free_125 : decode cX12_free 125 = .ok (.invokevirtual 238, 3) := by decide +kernel
theorem dX12_free_128 : decode cX12_free 128 = .ok (.ishl, 1) := by decide +kernel
theorem dX12_free_129 : decode cX12_free 129 = .ok (.ior, 1) := by decide +kernel
theorem dX12_free_130 : decode cX12_free 130 = .ok (.ior, 1) := by decide +kernel
theorem dX12_free_131 : decode cX12_free 131 = .ok (.istore 5, 2) := by decide +kernel
theorem dX12_free_133 : decode cX12_free 133 = .ok (.iinc 7 1, 3) := by decide +kernel
theorem dX12_free_136 : decode cX12_free 136 = .ok (.goto (-90), 3) := by decide +kernel
theorem dX12_free_139 : decode cX12_free 139 = .ok (.iload 6, 2) := by decide +kernel
theorem dX12_free_141 : decode cX12_free 141 = .ok (.ifCond .eq 21, 3) := by decide +kernel
theorem dX12_free_144 : decode cX12_free 144 = .ok (.iload 4, 2) := by decide +kernel
theorem dX12_free_146 : decode cX12_free 146 = .ok (.invokestatic 521, 3) := by decide +kernel
theorem dX12_free_149 : decode cX12_free 149 = .ok (.iload_n 2, 1) := by decide +kernel
theorem dX12_free_150 : decode cX12_free 150 = .ok (.if_icmp .le 12, 3) := by decide +kernel
theorem dX12_free_153 : decode cX12_free 153 = .ok (.iload 4, 2) := by decide +kernel
theorem dX12_free_155 : decode cX12_free 155 = .ok (.invokestatic 521, 3) := by decide +kernel
theorem dX12_free_158 : decode cX12_free 158 = .ok (.istore_n 2, 1) := by decide +kernel
theorem dX12_free_159 : decode cX12_free 159 = .ok (.iload 4, 2) := by decide +kernel
theorem dX12_free_161 : decode cX12_free 161 = .ok (.istore_n 3, 1) := by decide +kernel
theorem dX12_free_162 : decode cX12_free 162 = .ok (.iinc 4 1, 3) := by decide +kernel
theorem dX12_free_165 : decode cX12_free 165 = .ok (.goto (-141), 3) := by decide +kernel
theorem dX12_free_168 : decode cX12_free 168 = .ok (.iload_n 1, 1) := by decide +kernel
theorem dX12_free_169 : decode cX12_free 169 = .ok (.ifCond .ne 7, 3) := by decide +kernel
theorem dX12_free_172 : decode cX12_free 172 = .ok (.iload_n 2, 1) := by decide +kernel
theorem dX12_free_173 : decode cX12_free 173 = .ok (.goto 4, 3) := by decide +kernel
theorem dX12_free_176 : decode cX12_free 176 = .ok (.iload_n 3, 1) := by decide +kernel
theorem dX12_free_177 : decode cX12_free 177 = .ok (.ireturn, 1) := by decide +kernel
theorem dX12_findMarks_0 : decode cX12_findMarks 0 = .ok (.iconst 1, 1) := by decide +kernel
theorem dX12_findMarks_1 : decode cX12_findMarks 1 = .ok (.istore 4, 2) := by decide +kernel
theorem dX12_findMarks_3 : decode cX12_findMarks 3 = .ok (.iconst 0, 1) := by decide +kernel
theorem dX12_findMarks_4 : decode cX12_findMarks 4 = .ok (.istore 5, 2) := by decide +kernel
theorem dX12_findMarks_6 : decode cX12_findMarks 6 = .ok (.iload 5, 2) := by decide +kernel
theorem dX12_findMarks_8 : decode cX12_findMarks 8 = .ok (.iload_n 1, 1) := by decide +kernel
theorem dX12_findMarks_9 : decode cX12_findMarks 9 = .ok (.if_icmp .ge 20, 3) := by decide +kernel
theorem dX12_findMarks_12 : decode cX12_findMarks 12 = .ok (.iload 4, 2) := by decide +kernel
theorem dX12_findMarks_14 : decode cX12_findMarks 14 = .ok (.aload_n 0, 1) := by decide +kernel
theorem dX12_findMarks_15 : decode cX12_findMarks 15 = .ok (.getfield 13, 3) := by decide +kernel
theorem dX12_findMarks_18 : decode cX12_findMarks 18 = .ok (.iconst 0, 1) := by decide +kernel
theorem dX12_findMarks_19 : decode cX12_findMarks 19 = .ok (.iaload, 1) := by decide +kernel
theorem dX12_findMarks_20 : decode cX12_findMarks 20 = .ok (.imul, 1) := by decide +kernel
theorem dX12_findMarks_21 : decode cX12_findMarks 21 = .ok (.istore 4, 2) := by decide +kernel
theorem dX12_findMarks_23 : decode cX12_findMarks 23 = .ok (.iinc 5 1, 3) := by decide +kernel
theorem dX12_findMarks_26 : decode cX12_findMarks 26 = .ok (.goto (-20), 3) := by decide +kernel
theorem dX12_findMarks_29 : decode cX12_findMarks 29 = .ok (.iconst 0, 1) := by decide +kernel
theorem dX12_findMarks_30 : decode cX12_findMarks 30 = .ok (.istore 5, 2) := by decide +kernel
theorem dX12_findMarks_32 : decode cX12_findMarks 32 = .ok (.iconst 0, 1) := by decide +kernel
theorem dX12_findMarks_33 : decode cX12_findMarks 33 = .ok (.istore 6, 2) := by decide +kernel
theorem dX12_findMarks_35 : decode cX12_findMarks 35 = .ok (.iload 6, 2) := by decide +kernel
theorem dX12_findMarks_37 : decode cX12_findMarks 37 = .ok (.iload 4, 2) := by decide +kernel
theorem dX12_findMarks_39 : decode cX12_findMarks 39 = .ok (.if_icmp .ge 217, 3) := by decide +kernel
theorem dX12_findMarks_42 : decode cX12_findMarks 42 = .ok (.iload 6, 2) := by decide +kernel
theorem dX12_findMarks_44 : decode cX12_findMarks 44 = .ok (.istore 7, 2) := by decide +kernel
theorem dX12_findMarks_46 : decode cX12_findMarks 46 = .ok (.iload_n 1, 1) := by decide +kernel
theorem dX12_findMarks_47 : decode cX12_findMarks 47 = .ok (.iconst 1, 1) := by decide +kernel
theorem dX12_findMarks_48 : decode cX12_findMarks 48 = .ok (.isub, 1) := by decide +kernel
theorem dX12_findMarks_49 : decode cX12_findMarks 49 = .ok (.istore 8, 2) := by decide +kernel
theorem dX12_findMarks_51 : decode cX12_findMarks 51 = .ok (.iload 8, 2) := by decide +kernel
theorem dX12_findMarks_53 : decode cX12_findMarks 53 = .ok (.ifCond .lt 36, 3) := by decide +kernel
theorem dX12_findMarks_56 : decode cX12_findMarks 56 = .ok (.aload_n 0, 1) := by decide +kernel
theorem dX12_findMarks_57 : decode cX12_findMarks 57 = .ok (.getfield 134, 3) := by decide +kernel
theorem dX12_findMarks_60 : decode cX12_findMarks 60 = .ok (.iload 8, 2) := by decide +kernel
theorem dX12_findMarks_62 : decode cX12_findMarks 62 = .ok (.iload 7, 2) := by decide +kernel
theorem dX12_findMarks_64 : decode cX12_findMarks 64 = .ok (.aload_n 0, 1) := by decide +kernel
theorem dX12_findMarks_65 : decode cX12_findMarks 65 = .ok (.getfield 13, 3) := by decide +kernel
theorem dX12_findMarks_68 : decode cX12_findMarks 68 = .ok (.iconst 0, 1) := by decide +kernel
theorem dX12_findMarks_69 : decode cX12_findMarks 69 = .ok (.iaload, 1) := by decide +kernel
theorem dX12_findMarks_70 : decode cX12_findMarks 70 = .ok (.irem, 1) := by decide +kernel
theorem dX12_findMarks_71 : decode cX12_findMarks 71 = .ok (.iastore, 1) := by decide +kernel
theorem dX12_findMarks_72 : decode cX12_findMarks 72 = .ok (.iload 7, 2) := by decide +kernel
theorem dX12_findMarks_74 : decode cX12_findMarks 74 = .ok (.aload_n 0, 1) := by decide +kernel
theorem dX12_findMarks_75 : decode cX12_findMarks 75 = .ok (.getfield 13, 3) := by decide +kernel
theorem dX12_findMarks_78 : decode cX12_findMarks 78 = .ok (.iconst 0, 1) := by decide +kernel
theorem dX12_findMarks_79 : decode cX12_findMarks 79 = .ok (.iaload, 1) := by decide +kernel
theorem dX12_findMarks_80 : decode cX12_findMarks 80 = .ok (.idiv, 1) := by decide +kernel
theorem dX12_findMarks_81 : decode cX12_findMarks 81 = .ok (.istore 7, 2) := by decide +kernel
theorem dX12_findMarks_83 : decode cX12_findMarks 83 = .ok (.iinc 8 (-1), 3) := by decide +kernel
theorem dX12_findMarks_86 : decode cX12_findMarks 86 = .ok (.goto (-35), 3) := by decide +kernel
theorem dX12_findMarks_89 : decode cX12_findMarks 89 = .ok (.iconst 1, 1) := by decide +kernel
theorem dX12_findMarks_90 : decode cX12_findMarks 90 = .ok (.istore 8, 2) := by decide +kernel
theorem dX12_findMarks_92 : decode cX12_findMarks 92 = .ok (.iconst 0, 1) := by decide +kernel
theorem dX12_findMarks_93 : decode cX12_findMarks 93 = .ok (.istore 9, 2) := by decide +kernel
theorem dX12_findMarks_95 : decode cX12_findMarks 95 = .ok (.iload 9, 2) := by decide +kernel
theorem dX12_findMarks_97 : decode cX12_findMarks 97 = .ok (.iload_n 1, 1) := by decide +kernel
theorem dX12_findMarks_98 : decode cX12_findMarks 98 = .ok (.if_icmp .ge 62, 3) := by decide +kernel
theorem dX12_findMarks_101 : decode cX12_findMarks 101 = .ok (.iload 8, 2) := by decide +kernel
theorem dX12_findMarks_103 : decode cX12_findMarks 103 = .ok (.ifCond .eq 57, 3) := by decide +kernel
theorem dX12_findMarks_106 : decode cX12_findMarks 106 = .ok (.aload_n 0, 1) := by decide +kernel
theorem dX12_findMarks_107 : decode cX12_findMarks 107 = .ok (.aload_n 0, 1) := by decide +kernel
theorem dX12_findMarks_108 : decode cX12_findMarks 108 = .ok (.getfield 134, 3) := by decide +kernel
theorem dX12_findMarks_111 : decode cX12_findMarks 111 = .ok (.iload 9, 2) := by decide +kernel
theorem dX12_findMarks_113 : decode cX12_findMarks 113 = .ok (.iaload, 1) := by decide +kernel
theorem dX12_findMarks_114 : decode cX12_findMarks 114 = .ok (.iconst 0, 1) := by decide +kernel
theorem dX12_findMarks_115 : decode cX12_findMarks 115 = .ok (.invokevirtual 221, 3) := by decide +kernel
theorem dX12_findMarks_118 : decode cX12_findMarks 118 = .ok (.iconst 2, 1) := by decide +kernel
theorem dX12_findMarks_119 : decode cX12_findMarks 119 = .ok (.if_icmp .eq 15, 3) := by decide +kernel
theorem dX12_findMarks_122 : decode cX12_findMarks 122 = .ok (.aload_n 0, 1) := by decide +kernel
theorem dX12_findMarks_123 : decode cX12_findMarks 123 = .ok (.iconst 0, 1) := by decide +kernel
theorem dX12_findMarks_124 : decode cX12_findMarks 124 = .ok (.invokevirtual 186, 3) := by decide +kernel
theorem dX12_findMarks_127 : decode cX12_findMarks 127 = .ok (.ifCond .le 7, 3) := by decide +kernel
theorem dX12_findMarks_130 : decode cX12_findMarks 130 = .ok (.iconst 1, 1) := by decide +kernel
theorem dX12_findMarks_131 : decode cX12_findMarks 131 = .ok (.goto 4, 3) := by decide +kernel
theorem dX12_findMarks_134 : decode cX12_findMarks 134 = .ok (.iconst 0, 1) := by decide +kernel
theorem dX12_findMarks_135 : decode cX12_findMarks 135 = .ok (.istore 8, 2) := by decide +kernel
theorem dX12_findMarks_137 : decode cX12_findMarks 137 = .ok (.iload 8, 2) := by decide +kernel
theorem dX12_findMarks_139 : decode cX12_findMarks 139 = .ok (.ifCond .eq 15, 3) := by decide +kernel
theorem dX12_findMarks_142 : decode cX12_findMarks 142 = .ok (.aload_n 0, 1) := by decide +kernel
theorem dX12_findMarks_143 : decode cX12_findMarks 143 = .ok (.iconst 0, 1) := by decide +kernel
theorem dX12_findMarks_144 : decode cX12_findMarks 144 = .ok (.aload_n 0, 1) := by decide +kernel
theorem dX12_findMarks_145 : decode cX12_findMarks 145 = .ok (.getfield 134, 3) := by decide +kernel
theorem dX12_findMarks_148 : decode cX12_findMarks 148 = .ok (.iload 9, 2) := by decide +kernel
theorem dX12_findMarks_150 : decode cX12_findMarks 150 = .ok (.iaload, 1) := by decide +kernel
theorem dX12_findMarks_151 : decode cX12_findMarks 151 = .ok (.invokevirtual 460, 3) := by decide +kernel
theorem dX12_findMarks_154 : decode cX12_findMarks 154 = .ok (.iinc 9 1, 3) := by decide +kernel
theorem dX12_findMarks_157 : decode cX12_findMarks 157 = .ok (.goto (-62), 3) := by decide +kernel
theorem dX12_findMarks_160 : decode cX12_findMarks 160 = .ok (.iload 8, 2) := by decide +kernel
theorem dX12_findMarks_162 : decode cX12_findMarks 162 = .ok (.ifCond .eq 25, 3) := by decide +kernel
theorem dX12_findMarks_165 : decode cX12_findMarks 165 = .ok (.aload_n 0, 1) := by decide +kernel
theorem dX12_findMarks_166 : decode cX12_findMarks 166 = .ok (.iconst 0, 1) := by decide +kernel
theorem dX12_findMarks_167 : decode cX12_findMarks 167 = .ok (.invokevirtual 186, 3) := by decide +kernel
theorem dX12_findMarks_170 : decode cX12_findMarks 170 = .ok (.iload_n 2, 1) := by decide +kernel
theorem dX12_findMarks_171 : decode cX12_findMarks 171 = .ok (.if_icmp .ne 16, 3) := by decide +kernel
theorem dX12_findMarks_174 : decode cX12_findMarks 174 = .ok (.aload_n 0, 1) := by decide +kernel
theorem dX12_findMarks_175 : decode cX12_findMarks 175 = .ok (.iconst 1, 1) := by decide +kernel
theorem dX12_findMarks_176 : decode cX12_findMarks 176 = .ok (.invokevirtual 186, 3) := by decide +kernel
theorem dX12_findMarks_179 : decode cX12_findMarks 179 = .ok (.iload_n 3, 1) := by decide +kernel
theorem dX12_findMarks_180 : decode cX12_findMarks 180 = .ok (.if_icmp .ne 7, 3) := by decide +kernel
theorem dX12_findMarks_183 : decode cX12_findMarks 183 = .ok (.iconst 1, 1) := by decide +kernel
theorem dX12_findMarks_184 : decode cX12_findMarks 184 = .ok (.goto 4, 3) := by decide +kernel
theorem dX12_findMarks_187 : decode cX12_findMarks 187 = .ok (.iconst 0, 1) := by decide +kernel
theorem dX12_findMarks_188 : decode cX12_findMarks 188 = .ok (.istore 8, 2) := by decide +kernel
theorem dX12_findMarks_190 : decode cX12_findMarks 190 = .ok (.aload_n 0, 1) := by decide +kernel
theorem dX12_findMarks_191 : decode cX12_findMarks 191 = .ok (.bipush 16, 2) := by decide +kernel
theorem dX12_findMarks_193 : decode cX12_findMarks 193 = .ok (.invokevirtual 166, 3) := by decide +kernel
theorem dX12_findMarks_196 : decode cX12_findMarks 196 = .ok (.iconst 0, 1) := by decide +kernel
theorem dX12_findMarks_197 : decode cX12_findMarks 197 = .ok (.istore 9, 2) := by decide +kernel
theorem dX12_findMarks_199 : decode cX12_findMarks 199 = .ok (.iload 9, 2) := by decide +kernel
theorem dX12_findMarks_201 : decode cX12_findMarks 201 = .ok (.iload_n 1, 1) := by decide +kernel
theorem dX12_findMarks_202 : decode cX12_findMarks 202 = .ok (.if_icmp .ge 33, 3) := by decide +kernel
theorem dX12_findMarks_205 : decode cX12_findMarks 205 = .ok (.iload 8, 2) := by decide +kernel
theorem dX12_findMarks_207 : decode cX12_findMarks 207 = .ok (.ifCond .eq 28, 3) := by decide +kernel
theorem dX12_findMarks_210 : decode cX12_findMarks 210 = .ok (.iload 5, 2) := by decide +kernel
theorem dX12_findMarks_212 : decode cX12_findMarks 212 = .ok (.ifCond .ne 23, 3) := by decide +kernel
theorem dX12_findMarks_215 : decode cX12_findMarks 215 = .ok (.aload_n 0, 1) := by decide +kernel
theorem dX12_findMarks_216 : decode cX12_findMarks 216 = .ok (.getfield 131, 3) := by decide +kernel
theorem dX12_findMarks_219 : decode cX12_findMarks 219 = .ok (.iload 9, 2) := by decide +kernel
theorem dX12_findMarks_221 : decode cX12_findMarks 221 = .ok (.aload_n 0, 1) := by decide +kernel
theorem dX12_findMarks_222 : decode cX12_findMarks 222 = .ok (.getfield 134, 3) := by decide +kernel
theorem dX12_findMarks_225 : decode cX12_findMarks 225 = .ok (.iload 9, 2) := by decide +kernel
theorem dX12_findMarks_227 : decode cX12_findMarks 227 = .ok (.iaload, 1) := by decide +kernel
theorem dX12_findMarks_228 : decode cX12_findMarks 228 = .ok (.iastore, 1) := by decide +kernel
theorem dX12_findMarks_229 : decode cX12_findMarks 229 = .ok (.iinc 9 1, 3) := by decide +kernel
theorem dX12_findMarks_232 : decode cX12_findMarks 232 = .ok (.goto (-33), 3) := by decide +kernel
theorem dX12_findMarks_235 : decode cX12_findMarks 235 = .ok (.iload 5, 2) := by decide +kernel
theorem dX12_findMarks_237 : decode cX12_findMarks 237 = .ok (.iload 8, 2) := by decide +kernel
theorem dX12_findMarks_239 : decode cX12_findMarks 239 = .ok (.ifCond .eq 7, 3) := by decide +kernel
theorem dX12_findMarks_242 : decode cX12_findMarks 242 = .ok (.iconst 1, 1) := by decide +kernel
theorem dX12_findMarks_243 : decode cX12_findMarks 243 = .ok (.goto 4, 3) := by decide +kernel
theorem dX12_findMarks_246 : decode cX12_findMarks 246 = .ok (.iconst 0, 1) := by decide +kernel
theorem dX12_findMarks_247 : decode cX12_findMarks 247 = .ok (.iadd, 1) := by decide +kernel
theorem dX12_findMarks_248 : decode cX12_findMarks 248 = .ok (.istore 5, 2) := by decide +kernel
theorem dX12_findMarks_250 : decode cX12_findMarks 250 = .ok (.iinc 6 1, 3) := by decide +kernel
theorem dX12_findMarks_253 : decode cX12_findMarks 253 = .ok (.goto (-218), 3) := by decide +kernel
theorem dX12_findMarks_256 : decode cX12_findMarks 256 = .ok (.iload 5, 2) := by decide +kernel
theorem dX12_findMarks_258 : decode cX12_findMarks 258 = .ok (.ireturn, 1) := by decide +kernel
theorem dX12_marks_0 : decode cX12_marks 0 = .ok (.aload_n 0, 1) := by decide +kernel
theorem dX12_marks_1 : decode cX12_marks 1 = .ok (.iconst 0, 1) := by decide +kernel
theorem dX12_marks_2 : decode cX12_marks 2 = .ok (.putfield 149, 3) := by decide +kernel
theorem dX12_marks_5 : decode cX12_marks 5 = .ok (.iload_n 1, 1) := by decide +kernel
theorem dX12_marks_6 : decode cX12_marks 6 = .ok (.i2l, 1) := by decide +kernel
theorem dX12_marks_7 : decode cX12_marks 7 = .ok (.lconst 1, 1) := by decide +kernel
theorem dX12_marks_8 : decode cX12_marks 8 = .ok (.ldc2_w 198, 3) := by decide +kernel
theorem dX12_marks_11 : decode cX12_marks 11 = .ok (.invokestatic 169, 3) := by decide +kernel
theorem dX12_marks_14 : decode cX12_marks 14 = .ok (.ifCond .eq 43, 3) := by decide +kernel
theorem dX12_marks_17 : decode cX12_marks 17 = .ok (.iload_n 2, 1) := by decide +kernel
theorem dX12_marks_18 : decode cX12_marks 18 = .ok (.i2l, 1) := by decide +kernel
theorem dX12_marks_19 : decode cX12_marks 19 = .ok (.lconst 0, 1) := by decide +kernel
theorem dX12_marks_20 : decode cX12_marks 20 = .ok (.ldc2_w 178, 3) := by decide +kernel
theorem dX12_marks_23 : decode cX12_marks 23 = .ok (.invokestatic 169, 3) := by decide +kernel
theorem dX12_marks_26 : decode cX12_marks 26 = .ok (.ifCond .eq 31, 3) := by decide +kernel
theorem dX12_marks_29 : decode cX12_marks 29 = .ok (.iload_n 3, 1) := by decide +kernel
theorem dX12_marks_30 : decode cX12_marks 30 = .ok (.i2l, 1) := by decide +kernel
theorem dX12_marks_31 : decode cX12_marks 31 = .ok (.lconst 0, 1) := by decide +kernel
theorem dX12_marks_32 : decode cX12_marks 32 = .ok (.ldc2_w 180, 3) := by decide +kernel
theorem dX12_marks_35 : decode cX12_marks 35 = .ok (.invokestatic 169, 3) := by decide +kernel
theorem dX12_marks_38 : decode cX12_marks 38 = .ok (.ifCond .eq 19, 3) := by decide +kernel
theorem dX12_marks_41 : decode cX12_marks 41 = .ok (.iload 4, 2) := by decide +kernel
theorem dX12_marks_43 : decode cX12_marks 43 = .ok (.i2l, 1) := by decide +kernel
theorem dX12_marks_44 : decode cX12_marks 44 = .ok (.ldc2_w 297, 3) := by decide +kernel
theorem dX12_marks_47 : decode cX12_marks 47 = .ok (.iload_n 1, 1) := by decide +kernel
theorem dX12_marks_48 : decode cX12_marks 48 = .ok (.i2l, 1) := by decide +kernel
theorem dX12_marks_49 : decode cX12_marks 49 = .ok (.lconst 1, 1) := by decide +kernel
theorem dX12_marks_50 : decode cX12_marks 50 = .ok (.lsub, 1) := by decide +kernel
theorem dX12_marks_51 : decode cX12_marks 51 = .ok (.invokestatic 169, 3) := by decide +kernel
theorem dX12_marks_54 : decode cX12_marks 54 = .ok (.ifCond .ne 5, 3) := by decide +kernel
theorem dX12_marks_57 : decode cX12_marks 57 = .ok (.iconst (-1), 1) := by decide +kernel
theorem dX12_marks_58 : decode cX12_marks 58 = .ok (.ireturn, 1) := by decide +kernel
theorem dX12_marks_59 : decode cX12_marks 59 = .ok (.aload_n 0, 1) := by decide +kernel
theorem dX12_marks_60 : decode cX12_marks 60 = .ok (.bipush 16, 2) := by decide +kernel
theorem dX12_marks_62 : decode cX12_marks 62 = .ok (.invokevirtual 162, 3) := by decide +kernel
theorem dX12_marks_65 : decode cX12_marks 65 = .ok (.aload_n 0, 1) := by decide +kernel
theorem dX12_marks_66 : decode cX12_marks 66 = .ok (.iload_n 1, 1) := by decide +kernel
theorem dX12_marks_67 : decode cX12_marks 67 = .ok (.iload_n 2, 1) := by decide +kernel
theorem dX12_marks_68 : decode cX12_marks 68 = .ok (.iload_n 3, 1) := by decide +kernel
theorem dX12_marks_69 : decode cX12_marks 69 = .ok (.invokevirtual 524, 3) := by decide +kernel
theorem dX12_marks_72 : decode cX12_marks 72 = .ok (.istore 5, 2) := by decide +kernel
theorem dX12_marks_74 : decode cX12_marks 74 = .ok (.iload 4, 2) := by decide +kernel
theorem dX12_marks_76 : decode cX12_marks 76 = .ok (.iconst (-1), 1) := by decide +kernel
theorem dX12_marks_77 : decode cX12_marks 77 = .ok (.if_icmp .ne 8, 3) := by decide +kernel
theorem dX12_marks_80 : decode cX12_marks 80 = .ok (.iload 5, 2) := by decide +kernel
theorem dX12_marks_82 : decode cX12_marks 82 = .ok (.goto 19, 3) := by decide +kernel
theorem dX12_marks_85 : decode cX12_marks 85 = .ok (.iload 5, 2) := by decide +kernel
theorem dX12_marks_87 : decode cX12_marks 87 = .ok (.ifCond .ne 7, 3) := by decide +kernel
theorem dX12_marks_90 : decode cX12_marks 90 = .ok (.iconst (-1), 1) := by decide +kernel
theorem dX12_marks_91 : decode cX12_marks 91 = .ok (.goto 10, 3) := by decide +kernel
theorem dX12_marks_94 : decode cX12_marks 94 = .ok (.aload_n 0, 1) := by decide +kernel
theorem dX12_marks_95 : decode cX12_marks 95 = .ok (.getfield 131, 3) := by decide +kernel
theorem dX12_marks_98 : decode cX12_marks 98 = .ok (.iload 4, 2) := by decide +kernel
theorem dX12_marks_100 : decode cX12_marks 100 = .ok (.iaload, 1) := by decide +kernel
theorem dX12_marks_101 : decode cX12_marks 101 = .ok (.ireturn, 1) := by decide +kernel
theorem dX12_isWon_0 : decode cX12_isWon 0 = .ok (.aload_n 0, 1) := by decide +kernel
theorem dX12_isWon_1 : decode cX12_isWon 1 = .ok (.iload_n 2, 1) := by decide +kernel
theorem dX12_isWon_2 : decode cX12_isWon 2 = .ok (.iconst 0, 1) := by decide +kernel
theorem dX12_isWon_3 : decode cX12_isWon 3 = .ok (.invokevirtual 221, 3) := by decide +kernel
theorem dX12_isWon_6 : decode cX12_isWon 6 = .ok (.iconst 2, 1) := by decide +kernel
theorem dX12_isWon_7 : decode cX12_isWon 7 = .ok (.if_icmp .ne 5, 3) := by decide +kernel
theorem dX12_isWon_10 : decode cX12_isWon 10 = .ok (.iconst 0, 1) := by decide +kernel
theorem dX12_isWon_11 : decode cX12_isWon 11 = .ok (.ireturn, 1) := by decide +kernel
theorem dX12_isWon_12 : decode cX12_isWon 12 = .ok (.aload_n 0, 1) := by decide +kernel
theorem dX12_isWon_13 : decode cX12_isWon 13 = .ok (.iload_n 2, 1) := by decide +kernel
theorem dX12_isWon_14 : decode cX12_isWon 14 = .ok (.iload_n 1, 1) := by decide +kernel
theorem dX12_isWon_15 : decode cX12_isWon 15 = .ok (.invokevirtual 212, 3) := by decide +kernel
theorem dX12_isWon_18 : decode cX12_isWon 18 = .ok (.istore_n 3, 1) := by decide +kernel
theorem dX12_isWon_19 : decode cX12_isWon 19 = .ok (.iload_n 3, 1) := by decide +kernel
theorem dX12_isWon_20 : decode cX12_isWon 20 = .ok (.ifCond .le 29, 3) := by decide +kernel
theorem dX12_isWon_23 : decode cX12_isWon 23 = .ok (.iload_n 1, 1) := by decide +kernel
theorem dX12_isWon_24 : decode cX12_isWon 24 = .ok (.iload_n 3, 1) := by decide +kernel
theorem dX12_isWon_25 : decode cX12_isWon 25 = .ok (.isub, 1) := by decide +kernel
theorem dX12_isWon_26 : decode cX12_isWon 26 = .ok (.aload_n 0, 1) := by decide +kernel
theorem dX12_isWon_27 : decode cX12_isWon 27 = .ok (.iconst 2, 1) := by decide +kernel
theorem dX12_isWon_28 : decode cX12_isWon 28 = .ok (.invokevirtual 189, 3) := by decide +kernel
theorem dX12_isWon_31 : decode cX12_isWon 31 = .ok (.if_icmp .lt 18, 3) := by decide +kernel
theorem dX12_isWon_34 : decode cX12_isWon 34 = .ok (.aload_n 0, 1) := by decide +kernel
theorem dX12_isWon_35 : decode cX12_isWon 35 = .ok (.getfield 137, 3) := by decide +kernel
theorem dX12_isWon_38 : decode cX12_isWon 38 = .ok (.iload_n 1, 1) := by decide +kernel
theorem dX12_isWon_39 : decode cX12_isWon 39 = .ok (.iload_n 3, 1) := by decide +kernel
theorem dX12_isWon_40 : decode cX12_isWon 40 = .ok (.isub, 1) := by decide +kernel
theorem dX12_isWon_41 : decode cX12_isWon 41 = .ok (.baload, 1) := by decide +kernel
theorem dX12_isWon_42 : decode cX12_isWon 42 = .ok (.ifCond .ne 7, 3) := by decide +kernel
theorem dX12_isWon_45 : decode cX12_isWon 45 = .ok (.iconst 1, 1) := by decide +kernel
theorem dX12_isWon_46 : decode cX12_isWon 46 = .ok (.goto 4, 3) := by decide +kernel
theorem dX12_isWon_49 : decode cX12_isWon 49 = .ok (.iconst 0, 1) := by decide +kernel
theorem dX12_isWon_50 : decode cX12_isWon 50 = .ok (.ireturn, 1) := by decide +kernel
theorem dX12_game_0 : decode cX12_game 0 = .ok (.aload_n 0, 1) := by decide +kernel
theorem dX12_game_1 : decode cX12_game 1 = .ok (.iconst 0, 1) := by decide +kernel
theorem dX12_game_2 : decode cX12_game 2 = .ok (.putfield 149, 3) := by decide +kernel
theorem dX12_game_5 : decode cX12_game 5 = .ok (.iload_n 1, 1) := by decide +kernel
theorem dX12_game_6 : decode cX12_game 6 = .ok (.i2l, 1) := by decide +kernel
theorem dX12_game_7 : decode cX12_game 7 = .ok (.lconst 0, 1) := by decide +kernel
theorem dX12_game_8 : decode cX12_game 8 = .ok (.ldc2_w 176, 3) := by decide +kernel
theorem dX12_game_11 : decode cX12_game 11 = .ok (.invokestatic 169, 3) := by decide +kernel
theorem dX12_game_14 : decode cX12_game 14 = .ok (.ifCond .eq 10, 3) := by decide +kernel
theorem dX12_game_17 : decode cX12_game 17 = .ok (.aload_n 0, 1) := by decide +kernel
theorem dX12_game_18 : decode cX12_game 18 = .ok (.invokevirtual 194, 3) := by decide +kernel
theorem dX12_game_21 : decode cX12_game 21 = .ok (.ifCond .ne 5, 3) := by decide +kernel
