theorem dX11_person_14 : decode cX11_person 14 = .ok (.iload_n 2, 1) := by decide +kernel
theorem dX11_person_15 : decode cX11_person 15 = .ok (.iconst 1, 1) := by decide +kernel
theorem dX11_person_16 : decode cX11_person 16 = .ok (.if_icmp .le 9, 3) := by decide +kernel
theorem dX11_person_19 : decode cX11_person 19 = .ok (.aload_n 0, 1) := by decide +kernel
theorem dX11_person_20 : decode cX11_person 20 = .ok (.iconst (-1), 1) := by decide +kernel
theorem dX11_person_21 : decode cX11_person 21 = .ok (.invokevirtual 116, 3) := by decide +kernel
theorem dX11_person_24 : decode cX11_person 24 = .ok (.ireturn, 1) := by decide +kernel
theorem dX11_person_25 : decode cX11_person 25 = .ok (.aload_n 0, 1) := by decide +kernel
theorem dX11_person_26 : decode cX11_person 26 = .ok (.getfield 14, 3) := by decide +kernel
theorem dX11_person_29 : decode cX11_person 29 = .ok (.getfield 120, 3) := by decide +kernel
theorem dX11_person_32 : decode cX11_person 32 = .ok (.bipush 24, 2) := by decide +kernel
theorem dX11_person_34 : decode cX11_person 34 = .ok (.iaload, 1) := by decide +kernel
theorem dX11_person_35 : decode cX11_person 35 = .ok (.bipush 10, 2) := by decide +kernel
theorem dX11_person_37 : decode cX11_person 37 = .ok (.if_icmp .lt 10, 3) := by decide +kernel
theorem dX11_person_40 : decode cX11_person 40 = .ok (.aload_n 0, 1) := by decide +kernel
theorem dX11_person_41 : decode cX11_person 41 = .ok (.bipush (-5), 2) := by decide +kernel
theorem dX11_person_43 : decode cX11_person 43 = .ok (.invokevirtual 116, 3) := by decide +kernel
theorem dX11_person_46 : decode cX11_person 46 = .ok (.ireturn, 1) := by decide +kernel
theorem dX11_person_47 : decode cX11_person 47 = .ok (.aload_n 0, 1) := by decide +kernel
theorem dX11_person_48 : decode cX11_person 48 = .ok (.aload_n 0, 1) := by decide +kernel
theorem dX11_person_49 : decode cX11_person 49 = .ok (.getfield 14, 3) := by decide +kernel
theorem dX11_person_52 : decode cX11_person 52 = .ok (.iload_n 1, 1) := by decide +kernel
theorem dX11_person_53 : decode cX11_person 53 = .ok (.iload_n 2, 1) := by decide +kernel
theorem dX11_person_54 : decode cX11_person 54 = .ok (.invokevirtual 149, 3) := by decide +kernel
theorem dX11_person_57 : decode cX11_person 57 = .ok (.invokevirtual 123, 3) := by decide +kernel
theorem dX11_person_60 : decode cX11_person 60 = .ok (.ireturn, 1) := by decide +kernel
theorem dX11_of_0 : decode cX11_of 0 = .ok (.aload_n 0, 1) := by decide +kernel
theorem dX11_of_1 : decode cX11_of 1 = .ok (.getfield 14, 3) := by decide +kernel
theorem dX11_of_4 : decode cX11_of 4 = .ok (.iload_n 1, 1) := by decide +kernel
theorem dX11_of_5 : decode cX11_of 5 = .ok (.invokevirtual 153, 3) := by decide +kernel
theorem dX11_of_8 : decode cX11_of 8 = .ok (.ifCond .eq 7, 3) := by decide +kernel
theorem dX11_of_11 : decode cX11_of 11 = .ok (.iload_n 2, 1) := by decide +kernel
theorem dX11_of_12 : decode cX11_of 12 = .ok (.ifCond .ge 5, 3) := by decide +kernel
theorem dX11_of_15 : decode cX11_of 15 = .ok (.iconst (-1), 1) := by decide +kernel
theorem dX11_of_16 : decode cX11_of 16 = .ok (.ireturn, 1) := by decide +kernel
theorem dX11_of_17 : decode cX11_of 17 = .ok (.iload_n 2, 1) := by decide +kernel
theorem dX11_of_18 : decode cX11_of 18 = .ok (.tableswitch 86 0 3 #[30, 43, 56, 69], 30) := by decide +kernel
theorem dX11_of_48 : decode cX11_of 48 = .ok (.aload_n 0, 1) := by decide +kernel
theorem dX11_of_49 : decode cX11_of 49 = .ok (.getfield 14, 3) := by decide +kernel
theorem dX11_of_52 : decode cX11_of 52 = .ok (.getfield 120, 3) := by decide +kernel
theorem dX11_of_55 : decode cX11_of 55 = .ok (.bipush 63, 2) := by decide +kernel
theorem dX11_of_57 : decode cX11_of 57 = .ok (.iload_n 1, 1) := by decide +kernel
theorem dX11_of_58 : decode cX11_of 58 = .ok (.iadd, 1) := by decide +kernel
theorem dX11_of_59 : decode cX11_of 59 = .ok (.iaload, 1) := by decide +kernel
theorem dX11_of_60 : decode cX11_of 60 = .ok (.ireturn, 1) := by decide +kernel
theorem dX11_of_61 : decode cX11_of 61 = .ok (.aload_n 0, 1) := by decide +kernel
theorem dX11_of_62 : decode cX11_of 62 = .ok (.getfield 14, 3) := by decide +kernel
theorem dX11_of_65 : decode cX11_of 65 = .ok (.getfield 120, 3) := by decide +kernel
theorem dX11_of_68 : decode cX11_of 68 = .ok (.bipush 73, 2) := by decide +kernel
theorem dX11_of_70 : decode cX11_of 70 = .ok (.iload_n 1, 1) := by decide +kernel
theorem dX11_of_71 : decode cX11_of 71 = .ok (.iadd, 1) := by decide +kernel
theorem dX11_of_72 : decode cX11_of 72 = .ok (.iaload, 1) := by decide +kernel
theorem dX11_of_73 : decode cX11_of 73 = .ok (.ireturn, 1) := by decide +kernel
theorem dX11_of_74 : decode cX11_of 74 = .ok (.aload_n 0, 1) := by decide +kernel
theorem dX11_of_75 : decode cX11_of 75 = .ok (.getfield 14, 3) := by decide +kernel
theorem dX11_of_78 : decode cX11_of 78 = .ok (.getfield 120, 3) := by decide +kernel
theorem dX11_of_81 : decode cX11_of 81 = .ok (.bipush 83, 2) := by decide +kernel
theorem dX11_of_83 : decode cX11_of 83 = .ok (.iload_n 1, 1) := by decide +kernel
theorem dX11_of_84 : decode cX11_of 84 = .ok (.iadd, 1) := by decide +kernel
theorem dX11_of_85 : decode cX11_of 85 = .ok (.iaload, 1) := by decide +kernel
theorem dX11_of_86 : decode cX11_of 86 = .ok (.ireturn, 1) := by decide +kernel
theorem dX11_of_87 : decode cX11_of 87 = .ok (.aload_n 0, 1) := by decide +kernel
theorem dX11_of_88 : decode cX11_of 88 = .ok (.getfield 14, 3) := by decide +kernel
theorem dX11_of_91 : decode cX11_of 91 = .ok (.iload_n 1, 1) := by decide +kernel
theorem dX11_of_92 : decode cX11_of 92 = .ok (.invokevirtual 156, 3) := by decide +kernel
theorem dX11_of_95 : decode cX11_of 95 = .ok (.ifCond .eq 7, 3) := by decide +kernel
theorem dX11_of_98 : decode cX11_of 98 = .ok (.iconst 1, 1) := by decide +kernel
theorem dX11_of_99 : decode cX11_of 99 = .ok (.goto 4, 3) := by decide +kernel
theorem dX11_of_102 : decode cX11_of 102 = .ok (.iconst 0, 1) := by decide +kernel
theorem dX11_of_103 : decode cX11_of 103 = .ok (.ireturn, 1) := by decide +kernel
theorem dX11_of_104 : decode cX11_of 104 = .ok (.aload_n 0, 1) := by decide +kernel
theorem dX11_of_105 : decode cX11_of 105 = .ok (.getfield 14, 3) := by decide +kernel
theorem dX11_of_108 : decode cX11_of 108 = .ok (.iload_n 2, 1) := by decide +kernel
theorem dX11_of_109 : decode cX11_of 109 = .ok (.iconst 4, 1) := by decide +kernel
theorem dX11_of_110 : decode cX11_of 110 = .ok (.isub, 1) := by decide +kernel
theorem dX11_of_111 : decode cX11_of 111 = .ok (.invokevirtual 141, 3) := by decide +kernel
theorem dX11_of_114 : decode cX11_of 114 = .ok (.ifCond .eq 22, 3) := by decide +kernel
theorem dX11_of_117 : decode cX11_of 117 = .ok (.aload_n 0, 1) := by decide +kernel
theorem dX11_of_118 : decode cX11_of 118 = .ok (.getfield 84, 3) := by decide +kernel
theorem dX11_of_121 : decode cX11_of 121 = .ok (.aload_n 0, 1) := by decide +kernel
theorem dX11_of_122 : decode cX11_of 122 = .ok (.getfield 14, 3) := by decide +kernel
theorem dX11_of_125 : decode cX11_of 125 = .ok (.iconst 0, 1) := by decide +kernel
theorem dX11_of_126 : decode cX11_of 126 = .ok (.iload_n 1, 1) := by decide +kernel
theorem dX11_of_127 : decode cX11_of 127 = .ok (.iload_n 2, 1) := by decide +kernel
theorem dX11_of_128 : decode cX11_of 128 = .ok (.iconst 4, 1) := by decide +kernel
theorem dX11_of_129 : decode cX11_of 129 = .ok (.isub, 1) := by decide +kernel
theorem dX11_of_130 : decode cX11_of 130 = .ok (.invokevirtual 145, 3) := by decide +kernel
theorem dX11_of_133 : decode cX11_of 133 = .ok (.goto 4, 3) := by decide +kernel
theorem dX11_of_136 : decode cX11_of 136 = .ok (.iconst (-1), 1) := by decide +kernel
theorem dX11_of_137 : decode cX11_of 137 = .ok (.ireturn, 1) := by decide +kernel
theorem dX11_quarrel_0 : decode cX11_quarrel 0 = .ok (.iload_n 1, 1) := by decide +kernel
theorem dX11_quarrel_1 : decode cX11_quarrel 1 = .ok (.iload_n 2, 1) := by decide +kernel
theorem dX11_quarrel_2 : decode cX11_quarrel 2 = .ok (.if_icmp .eq 16, 3) := by decide +kernel
theorem dX11_quarrel_5 : decode cX11_quarrel 5 = .ok (.iload 4, 2) := by decide +kernel
theorem dX11_quarrel_7 : decode cX11_quarrel 7 = .ok (.ifCond .lt 11, 3) := by decide +kernel
theorem dX11_quarrel_10 : decode cX11_quarrel 10 = .ok (.iload 4, 2) := by decide +kernel
theorem dX11_quarrel_12 : decode cX11_quarrel 12 = .ok (.sipush 999, 3) := by decide +kernel
theorem dX11_quarrel_15 : decode cX11_quarrel 15 = .ok (.if_icmp .le 9, 3) := by decide +kernel
theorem dX11_quarrel_18 : decode cX11_quarrel 18 = .ok (.aload_n 0, 1) := by decide +kernel
theorem dX11_quarrel_19 : decode cX11_quarrel 19 = .ok (.iconst (-1), 1) := by decide +kernel
theorem dX11_quarrel_20 : decode cX11_quarrel 20 = .ok (.invokevirtual 116, 3) := by decide +kernel
theorem dX11_quarrel_23 : decode cX11_quarrel 23 = .ok (.ireturn, 1) := by decide +kernel
theorem dX11_quarrel_24 : decode cX11_quarrel 24 = .ok (.aload_n 0, 1) := by decide +kernel
theorem dX11_quarrel_25 : decode cX11_quarrel 25 = .ok (.getfield 14, 3) := by decide +kernel
theorem dX11_quarrel_28 : decode cX11_quarrel 28 = .ok (.iload_n 1, 1) := by decide +kernel
theorem dX11_quarrel_29 : decode cX11_quarrel 29 = .ok (.invokevirtual 153, 3) := by decide +kernel
theorem dX11_quarrel_32 : decode cX11_quarrel 32 = .ok (.ifCond .eq 25, 3) := by decide +kernel
theorem dX11_quarrel_35 : decode cX11_quarrel 35 = .ok (.aload_n 0, 1) := by decide +kernel
theorem dX11_quarrel_36 : decode cX11_quarrel 36 = .ok (.getfield 14, 3) := by decide +kernel
theorem dX11_quarrel_39 : decode cX11_quarrel 39 = .ok (.iload_n 2, 1) := by decide +kernel
theorem dX11_quarrel_40 : decode cX11_quarrel 40 = .ok (.invokevirtual 153, 3) := by decide +kernel
theorem dX11_quarrel_43 : decode cX11_quarrel 43 = .ok (.ifCond .eq 14, 3) := by decide +kernel
theorem dX11_quarrel_46 : decode cX11_quarrel 46 = .ok (.aload_n 0, 1) := by decide +kernel
theorem dX11_quarrel_47 : decode cX11_quarrel 47 = .ok (.getfield 14, 3) := by decide +kernel
theorem dX11_quarrel_50 : decode cX11_quarrel 50 = .ok (.iload_n 3, 1) := by decide +kernel
theorem dX11_quarrel_51 : decode cX11_quarrel 51 = .ok (.invokevirtual 141, 3) := by decide +kernel
theorem dX11_quarrel_54 : decode cX11_quarrel 54 = .ok (.ifCond .ne 10, 3) := by decide +kernel
theorem dX11_quarrel_57 : decode cX11_quarrel 57 = .ok (.aload_n 0, 1) := by decide +kernel
theorem dX11_quarrel_58 : decode cX11_quarrel 58 = .ok (.bipush (-2), 2) := by decide +kernel
theorem dX11_quarrel_60 : decode cX11_quarrel 60 = .ok (.invokevirtual 116, 3) := by decide +kernel
theorem dX11_quarrel_63 : decode cX11_quarrel 63 = .ok (.ireturn, 1) := by decide +kernel
theorem dX11_quarrel_64 : decode cX11_quarrel 64 = .ok (.aload_n 0, 1) := by decide +kernel
theorem dX11_quarrel_65 : decode cX11_quarrel 65 = .ok (.getfield 14, 3) := by decide +kernel
theorem dX11_quarrel_68 : decode cX11_quarrel 68 = .ok (.getfield 120, 3) := by decide +kernel
theorem dX11_quarrel_71 : decode cX11_quarrel 71 = .ok (.bipush 25, 2) := by decide +kernel
theorem dX11_quarrel_73 : decode cX11_quarrel 73 = .ok (.iaload, 1) := by decide +kernel
theorem dX11_quarrel_74 : decode cX11_quarrel 74 = .ok (.bipush 7, 2) := by decide +kernel
theorem dX11_quarrel_76 : decode cX11_quarrel 76 = .ok (.if_icmp .lt 10, 3) := by decide +kernel
theorem dX11_quarrel_79 : decode cX11_quarrel 79 = .ok (.aload_n 0, 1) := by decide +kernel
theorem dX11_quarrel_80 : decode cX11_quarrel 80 = .ok (.bipush (-5), 2) := by decide +kernel
theorem dX11_quarrel_82 : decode cX11_quarrel 82 = .ok (.invokevirtual 116, 3) := by decide +kernel
theorem dX11_quarrel_85 : decode cX11_quarrel 85 = .ok (.ireturn, 1) := by decide +kernel
theorem dX11_quarrel_86 : decode cX11_quarrel 86 = .ok (.aload_n 0, 1) := by decide +kernel
theorem dX11_quarrel_87 : decode cX11_quarrel 87 = .ok (.aload_n 0, 1) := by decide +kernel
theorem dX11_quarrel_88 : decode cX11_quarrel 88 = .ok (.getfield 14, 3) := by decide +kernel
theorem dX11_quarrel_91 : decode cX11_quarrel 91 = .ok (.iload_n 1, 1) := by decide +kernel
theorem dX11_quarrel_92 : decode cX11_quarrel 92 = .ok (.iload_n 2, 1) := by decide +kernel
theorem dX11_quarrel_93 : decode cX11_quarrel 93 = .ok (.iload_n 3, 1) := by decide +kernel
theorem dX11_quarrel_94 : decode cX11_quarrel 94 = .ok (.iload 4, 2) := by decide +kernel
theorem dX11_quarrel_96 : decode cX11_quarrel 96 = .ok (.invokevirtual 159, 3) := by decide +kernel
theorem dX11_quarrel_99 : decode cX11_quarrel 99 = .ok (.invokevirtual 123, 3) := by decide +kernel
theorem dX11_quarrel_102 : decode cX11_quarrel 102 = .ok (.ireturn, 1) := by decide +kernel
theorem dX11_about_0 : decode cX11_about 0 = .ok (.aload_n 0, 1) := by decide +kernel
theorem dX11_about_1 : decode cX11_about 1 = .ok (.getfield 14, 3) := by decide +kernel
theorem dX11_about_4 : decode cX11_about 4 = .ok (.iload_n 1, 1) := by decide +kernel
theorem dX11_about_5 : decode cX11_about 5 = .ok (.invokevirtual 163, 3) := by decide +kernel
theorem dX11_about_8 : decode cX11_about 8 = .ok (.ifCond .ne 5, 3) := by decide +kernel
theorem dX11_about_11 : decode cX11_about 11 = .ok (.iconst (-1), 1) := by decide +kernel
theorem dX11_about_12 : decode cX11_about 12 = .ok (.ireturn, 1) := by decide +kernel
theorem dX11_about_13 : decode cX11_about 13 = .ok (.iload_n 2, 1) := by decide +kernel
theorem dX11_about_14 : decode cX11_about 14 = .ok (.tableswitch 107 0 4 #[34, 47, 60, 73, 86], 34) := by decide +kernel
theorem dX11_about_48 : decode cX11_about 48 = .ok (.aload_n 0, 1) := by decide +kernel
theorem dX11_about_49 : decode cX11_about 49 = .ok (.getfield 14, 3) := by decide +kernel
theorem dX11_about_52 : decode cX11_about 52 = .ok (.getfield 120, 3) := by decide +kernel
theorem dX11_about_55 : decode cX11_about 55 = .ok (.bipush 93, 2) := by decide +kernel
theorem dX11_about_57 : decode cX11_about 57 = .ok (.iload_n 1, 1) := by decide +kernel
theorem dX11_about_58 : decode cX11_about 58 = .ok (.iadd, 1) := by decide +kernel
theorem dX11_about_59 : decode cX11_about 59 = .ok (.iaload, 1) := by decide +kernel
theorem dX11_about_60 : decode cX11_about 60 = .ok (.ireturn, 1) := by decide +kernel
theorem dX11_about_61 : decode cX11_about 61 = .ok (.aload_n 0, 1) := by decide +kernel
theorem dX11_about_62 : decode cX11_about 62 = .ok (.getfield 14, 3) := by decide +kernel
theorem dX11_about_65 : decode cX11_about 65 = .ok (.getfield 120, 3) := by decide +kernel
theorem dX11_about_68 : decode cX11_about 68 = .ok (.bipush 100, 2) := by decide +kernel
theorem dX11_about_70 : decode cX11_about 70 = .ok (.iload_n 1, 1) := by decide +kernel
theorem dX11_about_71 : decode cX11_about 71 = .ok (.iadd, 1) := by decide +kernel
theorem dX11_about_72 : decode cX11_about 72 = .ok (.iaload, 1) := by decide +kernel
theorem dX11_about_73 : decode cX11_about 73 = .ok (.ireturn, 1) := by decide +kernel
theorem dX11_about_74 : decode cX11_about 74 = .ok (.aload_n 0, 1) := by decide +kernel
theorem dX11_about_75 : decode cX11_about 75 = .ok (.getfield 14, 3) := by decide +kernel
theorem dX11_about_78 : decode cX11_about 78 = .ok (.getfield 120, 3) := by decide +kernel
theorem dX11_about_81 : decode cX11_about 81 = .ok (.bipush 107, 2) := by decide +kernel
theorem dX11_about_83 : decode cX11_about 83 = .ok (.iload_n 1, 1) := by decide +kernel
theorem dX11_about_84 : decode cX11_about 84 = .ok (.iadd, 1) := by decide +kernel
theorem dX11_about_85 : decode cX11_about 85 = .ok (.iaload, 1) := by decide +kernel
theorem dX11_about_86 : decode cX11_about 86 = .ok (.ireturn, 1) := by decide +kernel
theorem dX11_about_87 : decode cX11_about 87 = .ok (.aload_n 0, 1) := by decide +kernel
theorem dX11_about_88 : decode cX11_about 88 = .ok (.getfield 14, 3) := by decide +kernel
theorem dX11_about_91 : decode cX11_about 91 = .ok (.getfield 120, 3) := by decide +kernel
theorem dX11_about_94 : decode cX11_about 94 = .ok (.bipush 114, 2) := by decide +kernel
theorem dX11_about_96 : decode cX11_about 96 = .ok (.iload_n 1, 1) := by decide +kernel
theorem dX11_about_97 : decode cX11_about 97 = .ok (.iadd, 1) := by decide +kernel
theorem dX11_about_98 : decode cX11_about 98 = .ok (.iaload, 1) := by decide +kernel
theorem dX11_about_99 : decode cX11_about 99 = .ok (.ireturn, 1) := by decide +kernel
theorem dX11_about_100 : decode cX11_about 100 = .ok (.aload_n 0, 1) := by decide +kernel
theorem dX11_about_101 : decode cX11_about 101 = .ok (.getfield 84, 3) := by decide +kernel
theorem dX11_about_104 : decode cX11_about 104 = .ok (.aload_n 0, 1) := by decide +kernel
theorem dX11_about_105 : decode cX11_about 105 = .ok (.getfield 14, 3) := by decide +kernel
theorem dX11_about_108 : decode cX11_about 108 = .ok (.iload_n 1, 1) := by decide +kernel
theorem dX11_about_109 : decode cX11_about 109 = .ok (.invokevirtual 166, 3) := by decide +kernel
theorem dX11_about_112 : decode cX11_about 112 = .ok (.ifCond .eq 7, 3) := by decide +kernel
theorem dX11_about_115 : decode cX11_about 115 = .ok (.iconst 1, 1) := by decide +kernel
theorem dX11_about_116 : decode cX11_about 116 = .ok (.goto 4, 3) := by decide +kernel
theorem dX11_about_119 : decode cX11_about 119 = .ok (.iconst 0, 1) := by decide +kernel
theorem dX11_about_120 : decode cX11_about 120 = .ok (.ireturn, 1) := by decide +kernel
theorem dX11_about_121 : decode cX11_about 121 = .ok (.iconst (-1), 1) := by decide +kernel
theorem dX11_about_122 : decode cX11_about 122 = .ok (.ireturn, 1) := by decide +kernel
theorem dX11_terms_0 : decode cX11_terms 0 = .ok (.iload_n 1, 1) := by decide +kernel
theorem dX11_terms_1 : decode cX11_terms 1 = .ok (.ifCond .lt 29, 3) := by decide +kernel
theorem dX11_terms_4 : decode cX11_terms 4 = .ok (.iload_n 1, 1) := by decide +kernel
theorem dX11_terms_5 : decode cX11_terms 5 = .ok (.getstatic 170, 3) := by decide +kernel
theorem dX11_terms_8 : decode cX11_terms 8 = .ok (.arraylength, 1) := by decide +kernel
theorem dX11_terms_9 : decode cX11_terms 9 = .ok (.if_icmp .ge 21, 3) := by decide +kernel
theorem dX11_terms_12 : decode cX11_terms 12 = .ok (.iload_n 2, 1) := by decide +kernel
theorem dX11_terms_13 : decode cX11_terms 13 = .ok (.getstatic 173, 3) := by decide +kernel
theorem dX11_terms_16 : decode cX11_terms 16 = .ok (.iload_n 1, 1) := by decide +kernel
theorem dX11_terms_17 : decode cX11_terms 17 = .ok (.iaload, 1) := by decide +kernel
theorem dX11_terms_18 : decode cX11_terms 18 = .ok (.if_icmp .lt 12, 3) := by decide +kernel
theorem dX11_terms_21 : decode cX11_terms 21 = .ok (.iload_n 2, 1) := by decide +kernel
theorem dX11_terms_22 : decode cX11_terms 22 = .ok (.getstatic 170, 3) := by decide +kernel
theorem dX11_terms_25 : decode cX11_terms 25 = .ok (.iload_n 1, 1) := by decide +kernel
theorem dX11_terms_26 : decode cX11_terms 26 = .ok (.iaload, 1) := by decide +kernel
theorem dX11_terms_27 : decode cX11_terms 27 = .ok (.if_icmp .le 9, 3) := by decide +kernel
theorem dX11_terms_30 : decode cX11_terms 30 = .ok (.aload_n 0, 1) := by decide +kernel
theorem dX11_terms_31 : decode cX11_terms 31 = .ok (.iconst (-1), 1) := by decide +kernel
theorem dX11_terms_32 : decode cX11_terms 32 = .ok (.invokevirtual 116, 3) := by decide +kernel
theorem dX11_terms_35 : decode cX11_terms 35 = .ok (.ireturn, 1) := by decide +kernel
theorem dX11_terms_36 : decode cX11_terms 36 = .ok (.aload_n 0, 1) := by decide +kernel
theorem dX11_terms_37 : decode cX11_terms 37 = .ok (.getfield 14, 3) := by decide +kernel
theorem dX11_terms_40 : decode cX11_terms 40 = .ok (.getfield 120, 3) := by decide +kernel
theorem dX11_terms_43 : decode cX11_terms 43 = .ok (.bipush 16, 2) := by decide +kernel
theorem dX11_terms_45 : decode cX11_terms 45 = .ok (.iload_n 1, 1) := by decide +kernel
theorem dX11_terms_46 : decode cX11_terms 46 = .ok (.iadd, 1) := by decide +kernel
theorem dX11_terms_47 : decode cX11_terms 47 = .ok (.iaload, 1) := by decide +kernel
theorem dX11_terms_48 : decode cX11_terms 48 = .ok (.istore_n 3, 1) := by decide +kernel
theorem dX11_terms_49 : decode cX11_terms 49 = .ok (.aload_n 0, 1) := by decide +kernel
theorem dX11_terms_50 : decode cX11_terms 50 = .ok (.getfield 14, 3) := by decide +kernel
theorem dX11_terms_53 : decode cX11_terms 53 = .ok (.getfield 120, 3) := by decide +kernel
theorem dX11_terms_56 : decode cX11_terms 56 = .ok (.bipush 16, 2) := by decide +kernel
theorem dX11_terms_58 : decode cX11_terms 58 = .ok (.iload_n 1, 1) := by decide +kernel
theorem dX11_terms_59 : decode cX11_terms 59 = .ok (.iadd, 1) := by decide +kernel
theorem dX11_terms_60 : decode cX11_terms 60 = .ok (.iload_n 2, 1) := by decide +kernel
theorem dX11_terms_61 : decode cX11_terms 61 = .ok (.iastore, 1) := by decide +kernel
theorem dX11_terms_62 : decode cX11_terms 62 = .ok (.aload_n 0, 1) := by decide +kernel
theorem dX11_terms_63 : decode cX11_terms 63 = .ok (.iload_n 3, 1) := by decide +kernel
theorem dX11_terms_64 : decode cX11_terms 64 = .ok (.invokevirtual 123, 3) := by decide +kernel
theorem dX11_terms_67 : decode cX11_terms 67 = .ok (.ireturn, 1) := by decide +kernel
theorem dX11_feed_0 : decode cX11_feed 0 = .ok (.aload_n 0, 1) := by decide +kernel
theorem dX11_feed_1 : decode cX11_feed 1 = .ok (.getfield 28, 3) := by decide +kernel
theorem dX11_feed_4 : decode cX11_feed 4 = .ok (.bipush 20, 2) := by decide +kernel
theorem dX11_feed_6 : decode cX11_feed 6 = .ok (.invokevirtual 176, 3) := by decide +kernel
theorem dX11_feed_9 : decode cX11_feed 9 = .ok (.ifCond .ne 5, 3) := by decide +kernel
theorem dX11_feed_12 : decode cX11_feed 12 = .ok (.iconst (-1), 1) := by decide +kernel
theorem dX11_feed_13 : decode cX11_feed 13 = .ok (.ireturn, 1) := by decide +kernel
theorem dX11_feed_14 : decode cX11_feed 14 = .ok (.aload_n 0, 1) := by decide +kernel
theorem dX11_feed_15 : decode cX11_feed 15 = .ok (.getfield 28, 3) := by decide +kernel
theorem dX11_feed_18 : decode cX11_feed 18 = .ok (.iload_n 1, 1) := by decide +kernel
theorem dX11_feed_19 : decode cX11_feed 19 = .ok (.invokevirtual 179, 3) := by decide +kernel
theorem dX11_feed_22 : decode cX11_feed 22 = .ok (.aload_n 0, 1) := by decide +kernel
theorem dX11_feed_23 : decode cX11_feed 23 = .ok (.getfield 28, 3) := by decide +kernel
theorem dX11_feed_26 : decode cX11_feed 26 = .ok (.iload_n 2, 1) := by decide +kernel
theorem dX11_feed_27 : decode cX11_feed 27 = .ok (.invokevirtual 179, 3) := by decide +kernel
theorem dX11_feed_30 : decode cX11_feed 30 = .ok (.aload_n 0, 1) := by decide +kernel
theorem dX11_feed_31 : decode cX11_feed 31 = .ok (.getfield 28, 3) := by decide +kernel
theorem dX11_feed_34 : decode cX11_feed 34 = .ok (.iload_n 3, 1) := by decide +kernel
theorem dX11_feed_35 : decode cX11_feed 35 = .ok (.invokevirtual 179, 3) := by decide +kernel
theorem dX11_feed_38 : decode cX11_feed 38 = .ok (.aload_n 0, 1) := by decide +kernel
theorem dX11_feed_39 : decode cX11_feed 39 = .ok (.getfield 28, 3) := by decide +kernel
theorem dX11_feed_42 : decode cX11_feed 42 = .ok (.iload 4, 2) := by decide +kernel
theorem dX11_feed_44 : decode cX11_feed 44 = .ok (.invokevirtual 179, 3) := by decide +kernel
theorem dX11_feed_47 : decode cX11_feed 47 = .ok (.aload_n 0, 1) := by decide +kernel
theorem dX11_feed_48 : decode cX11_feed 48 = .ok (.getfield 28, 3) := by decide +kernel
theorem dX11_feed_51 : decode cX11_feed 51 = .ok (.iload 5, 2) := by decide +kernel
theorem dX11_feed_53 : decode cX11_feed 53 = .ok (.invokevirtual 179, 3) := by decide +kernel
theorem dX11_feed_56 : decode cX11_feed 56 = .ok (.aload_n 0, 1) := by decide +kernel
theorem dX11_feed_57 : decode cX11_feed 57 = .ok (.getfield 28, 3) := by decide +kernel
theorem dX11_feed_60 : decode cX11_feed 60 = .ok (.getfield 183, 3) := by decide +kernel
theorem dX11_feed_63 : decode cX11_feed 63 = .ok (.ireturn, 1) := by decide +kernel
theorem dX11_end_0 : decode cX11_end 0 = .ok (.iload_n 1, 1) := by decide +kernel
theorem dX11_end_1 : decode cX11_end 1 = .ok (.ifCond .lt 14, 3) := by decide +kernel
theorem dX11_end_4 : decode cX11_end 4 = .ok (.iload_n 1, 1) := by decide +kernel
theorem dX11_end_5 : decode cX11_end 5 = .ok (.aload_n 0, 1) := by decide +kernel
theorem dX11_end_6 : decode cX11_end 6 = .ok (.getfield 28, 3) := by decide +kernel
theorem dX11_end_9 : decode cX11_end 9 = .ok (.getfield 183, 3) := by decide +kernel
theorem dX11_end_12 : decode cX11_end 12 = .ok (.if_icmp .le 5, 3) := by decide +kernel
theorem dX11_end_15 : decode cX11_end 15 = .ok (.iconst (-1), 1) := by decide +kernel
theorem dX11_end_16 : decode cX11_end 16 = .ok (.ireturn, 1) := by decide +kernel
theorem dX11_end_17 : decode cX11_end 17 = .ok (.aload_n 0, 1) := by decide +kernel
theorem dX11_end_18 : decode cX11_end 18 = .ok (.getfield 28, 3) := by decide +kernel
theorem dX11_end_21 : decode cX11_end 21 = .ok (.iload_n 1, 1) := by decide +kernel
theorem dX11_end_22 : decode cX11_end 22 = .ok (.putfield 183, 3) := by decide +kernel
theorem dX11_end_25 : decode cX11_end 25 = .ok (.iload_n 1, 1) := by decide +kernel
theorem dX11_end_26 : decode cX11_end 26 = .ok (.ireturn, 1) := by decide +kernel
theorem dX11_row_0 : decode cX11_row 0 = .ok (.aload_n 0, 1) := by decide +kernel
theorem dX11_row_1 : decode cX11_row 1 = .ok (.getfield 28, 3) := by decide +kernel
theorem dX11_row_4 : decode cX11_row 4 = .ok (.getfield 183, 3) := by decide +kernel
theorem dX11_row_7 : decode cX11_row 7 = .ok (.ifCond .ne 10, 3) := by decide +kernel
theorem dX11_row_10 : decode cX11_row 10 = .ok (.aload_n 0, 1) := by decide +kernel
theorem dX11_row_11 : decode cX11_row 11 = .ok (.bipush (-6), 2) := by decide +kernel
theorem dX11_row_13 : decode cX11_row 13 = .ok (.invokevirtual 116, 3) := by decide +kernel
theorem dX11_row_16 : decode cX11_row 16 = .ok (.ireturn, 1) := by decide +kernel
theorem dX11_row_17 : decode cX11_row 17 = .ok (.iconst 0, 1) := by decide +kernel
theorem dX11_row_18 : decode cX11_row 18 = .ok (.istore_n 1, 1) := by decide +kernel
theorem dX11_row_19 : decode cX11_row 19 = .ok (.aload_n 0, 1) := by decide +kernel
theorem dX11_row_20 : decode cX11_row 20 = .ok (.iconst 0, 1) := by decide +kernel
theorem dX11_row_21 : decode cX11_row 21 = .ok (.putfield 58, 3) := by decide +kernel
theorem dX11_row_24 : decode cX11_row 24 = .ok (.iconst 0, 1) := by decide +kernel
theorem dX11_row_25 : decode cX11_row 25 = .ok (.istore_n 2, 1) := by decide +kernel
theorem dX11_row_26 : decode cX11_row 26 = .ok (.iload_n 2, 1) := by decide +kernel
theorem dX11_row_27 : decode cX11_row 27 = .ok (.aload_n 0, 1) := by decide +kernel
theorem dX11_row_28 : decode cX11_row 28 = .ok (.getfield 28, 3) := by decide +kernel
theorem dX11_row_31 : decode cX11_row 31 = .ok (.getfield 183, 3) := by decide +kernel
theorem dX11_row_34 : decode cX11_row 34 = .ok (.if_icmp .ge 33, 3) := by decide +kernel
theorem dX11_row_37 : decode cX11_row 37 = .ok (.aload_n 0, 1) := by decide +kernel
theorem dX11_row_38 : decode cX11_row 38 = .ok (.iload_n 2, 1) := by decide +kernel
theorem dX11_row_39 : decode cX11_row 39 = .ok (.invokevirtual 186, 3) := by decide +kernel
theorem dX11_row_42 : decode cX11_row 42 = .ok (.ifCond .eq 9, 3) := by decide +kernel
theorem dX11_row_45 : decode cX11_row 45 = .ok (.iinc 1 1, 3) := by decide +kernel
theorem dX11_row_48 : decode cX11_row 48 = .ok (.goto 13, 3) := by decide +kernel
theorem dX11_row_51 : decode cX11_row 51 = .ok (.aload_n 0, 1) := by decide +kernel
theorem dX11_row_52 : decode cX11_row 52 = .ok (.dup, 1) := by decide +kernel
theorem dX11_row_53 : decode cX11_row 53 = .ok (.getfield 58, 3) := by decide +kernel
theorem dX11_row_56 : decode cX11_row 56 = .ok (.iconst 1, 1) := by decide +kernel
theorem dX11_row_57 : decode cX11_row 57 = .ok (.iadd, 1) := by decide +kernel
theorem dX11_row_58 : decode cX11_row 58 = .ok (.putfield 58, 3) := by decide +kernel
theorem dX11_row_61 : decode cX11_row 61 = .ok (.iinc 2 3, 3) := by decide +kernel
theorem dX11_row_64 : decode cX11_row 64 = .ok (.goto (-38), 3) := by decide +kernel
theorem dX11_row_67 : decode cX11_row 67 = .ok (.aload_n 0, 1) := by decide +kernel
theorem dX11_row_68 : decode cX11_row 68 = .ok (.getfield 28, 3) := by decide +kernel
theorem dX11_row_71 : decode cX11_row 71 = .ok (.iconst 0, 1) := by decide +kernel
theorem dX11_row_72 : decode cX11_row 72 = .ok (.putfield 183, 3) := by decide +kernel
theorem dX11_row_75 : decode cX11_row 75 = .ok (.aload_n 0, 1) := by decide +kernel
theorem dX11_row_76 : decode cX11_row 76 = .ok (.iload_n 1, 1) := by decide +kernel
theorem dX11_row_77 : decode cX11_row 77 = .ok (.invokevirtual 123, 3) := by decide +kernel
theorem dX11_row_80 : decode cX11_row 80 = .ok (.ireturn, 1) := by decide +kernel
theorem dX11_chips_0 : decode cX11_chips 0 = .ok (.aload_n 0, 1) := by decide +kernel
theorem dX11_chips_1 : decode cX11_chips 1 = .ok (.getfield 58, 3) := by decide +kernel
theorem dX11_chips_4 : decode cX11_chips 4 = .ok (.ireturn, 1) := by decide +kernel
theorem dX11_law_0 : decode cX11_law 0 = .ok (.aload_n 0, 1) := by decide +kernel
theorem dX11_law_1 : decode cX11_law 1 = .ok (.getfield 21, 3) := by decide +kernel
theorem dX11_law_4 : decode cX11_law 4 = .ok (.getfield 189, 3) := by decide +kernel
theorem dX11_law_7 : decode cX11_law 7 = .ok (.bipush 6, 2) := by decide +kernel
theorem dX11_law_9 : decode cX11_law 9 = .ok (.if_icmp .lt 18, 3) := by decide +kernel
theorem dX11_law_12 : decode cX11_law 12 = .ok (.aload_n 0, 1) := by decide +kernel
theorem dX11_law_13 : decode cX11_law 13 = .ok (.getfield 28, 3) := by decide +kernel
theorem dX11_law_16 : decode cX11_law 16 = .ok (.iconst 0, 1) := by decide +kernel
theorem dX11_law_17 : decode cX11_law 17 = .ok (.putfield 183, 3) := by decide +kernel
theorem dX11_law_20 : decode cX11_law 20 = .ok (.aload_n 0, 1) := by decide +kernel
theorem dX11_law_21 : decode cX11_law 21 = .ok (.bipush (-5), 2) := by decide +kernel
theorem dX11_law_23 : decode cX11_law 23 = .ok (.invokevirtual 116, 3) := by decide +kernel
theorem dX11_law_26 : decode cX11_law 26 = .ok (.ireturn, 1) := by decide +kernel
theorem dX11_law_27 : decode cX11_law 27 = .ok (.aload_n 0, 1) := by decide +kernel
theorem dX11_law_28 : decode cX11_law 28 = .ok (.aload_n 0, 1) := by decide +kernel
theorem dX11_law_29 : decode cX11_law 29 = .ok (.getfield 75, 3) := by decide +kernel
theorem dX11_law_32 : decode cX11_law 32 = .ok (.iconst 0, 1) := by decide +kernel
theorem dX11_law_33 : decode cX11_law 33 = .ok (.invokevirtual 192, 3) := by decide +kernel
theorem dX11_law_36 : decode cX11_law 36 = .ok (.putfield 55, 3) := by decide +kernel
theorem dX11_law_39 : decode cX11_law 39 = .ok (.aload_n 0, 1) := by decide +kernel
theorem dX11_law_40 : decode cX11_law 40 = .ok (.getfield 28, 3) := by decide +kernel
theorem dX11_law_43 : decode cX11_law 43 = .ok (.iconst 0, 1) := by decide +kernel
theorem dX11_law_44 : decode cX11_law 44 = .ok (.putfield 183, 3) := by decide +kernel
theorem dX11_law_47 : decode cX11_law 47 = .ok (.aload_n 0, 1) := by decide +kernel
theorem dX11_law_48 : decode cX11_law 48 = .ok (.getfield 55, 3) := by decide +kernel
theorem dX11_law_51 : decode cX11_law 51 = .ok (.iconst (-1), 1) := by decide +kernel
theorem dX11_law_52 : decode cX11_law 52 = .ok (.if_icmp .eq 10, 3) := by decide +kernel
theorem dX11_law_55 : decode cX11_law 55 = .ok (.aload_n 0, 1) := by decide +kernel
theorem dX11_law_56 : decode cX11_law 56 = .ok (.bipush (-6), 2) := by decide +kernel
theorem dX11_law_58 : decode cX11_law 58 = .ok (.invokevirtual 116, 3) := by decide +kernel
theorem dX11_law_61 : decode cX11_law 61 = .ok (.ireturn, 1) := by decide +kernel
theorem dX11_law_62 : decode cX11_law 62 = .ok (.aload_n 0, 1) := by decide +kernel
theorem dX11_law_63 : decode cX11_law 63 = .ok (.aload_n 0, 1) := by decide +kernel
theorem dX11_law_64 : decode cX11_law 64 = .ok (.getfield 21, 3) := by decide +kernel
theorem dX11_law_67 : decode cX11_law 67 = .ok (.new 196, 3) := by decide +kernel
theorem dX11_law_70 : decode cX11_law 70 = .ok (.dup, 1) := by decide +kernel
theorem dX11_law_71 : decode cX11_law 71 = .ok (.aload_n 0, 1) := by decide +kernel
theorem dX11_law_72 : decode cX11_law 72 = .ok (.getfield 75, 3) := by decide +kernel
theorem dX11_law_75 : decode cX11_law 75 = .ok (.getfield 198, 3) := by decide +kernel
theorem dX11_law_78 : decode cX11_law 78 = .ok (.invokespecial 202, 3) := by decide +kernel
theorem dX11_law_81 : decode cX11_law 81 = .ok (.invokevirtual 205, 3) := by decide +kernel
theorem dX11_law_84 : decode cX11_law 84 = .ok (.invokevirtual 209, 3) := by decide +kernel
theorem dX11_law_87 : decode cX11_law 87 = .ok (.ireturn, 1) := by decide +kernel
theorem dX11_orders_0 : decode cX11_orders 0 = .ok (.aload_n 0, 1) := by decide +kernel
theorem dX11_orders_1 : decode cX11_orders 1 = .ok (.iconst (-1), 1) := by decide +kernel
theorem dX11_orders_2 : decode cX11_orders 2 = .ok (.putfield 61, 3) := by decide +kernel
theorem dX11_orders_5 : decode cX11_orders 5 = .ok (.aload_n 0, 1) := by decide +kernel
theorem dX11_orders_6 : decode cX11_orders 6 = .ok (.aload_n 0, 1) := by decide +kernel
theorem dX11_orders_7 : decode cX11_orders 7 = .ok (.getfield 75, 3) := by decide +kernel
theorem dX11_orders_10 : decode cX11_orders 10 = .ok (.iconst 1, 1) := by decide +kernel
theorem dX11_orders_11 : decode cX11_orders 11 = .ok (.invokevirtual 192, 3) := by decide +kernel
theorem dX11_orders_14 : decode cX11_orders 14 = .ok (.putfield 55, 3) := by decide +kernel
theorem dX11_orders_17 : decode cX11_orders 17 = .ok (.aload_n 0, 1) := by decide +kernel
theorem dX11_orders_18 : decode cX11_orders 18 = .ok (.getfield 28, 3) := by decide +kernel
theorem dX11_orders_21 : decode cX11_orders 21 = .ok (.iconst 0, 1) := by decide +kernel
theorem dX11_orders_22 : decode cX11_orders 22 = .ok (.putfield 183, 3) := by decide +kernel
theorem dX11_orders_25 : decode cX11_orders 25 = .ok (.aload_n 0, 1) := by decide +kernel
theorem dX11_orders_26 : decode cX11_orders 26 = .ok (.getfield 55, 3) := by decide +kernel
theorem dX11_orders_29 : decode cX11_orders 29 = .ok (.iconst (-1), 1) := by decide +kernel
theorem dX11_orders_30 : decode cX11_orders 30 = .ok (.if_icmp .eq 10, 3) := by decide +kernel
theorem dX11_orders_33 : decode cX11_orders 33 = .ok (.aload_n 0, 1) := by decide +kernel
theorem dX11_orders_34 : decode cX11_orders 34 = .ok (.bipush (-6), 2) := by decide +kernel
theorem dX11_orders_36 : decode cX11_orders 36 = .ok (.invokevirtual 116, 3) := by decide +kernel
theorem dX11_orders_39 : decode cX11_orders 39 = .ok (.ireturn, 1) := by decide +kernel
theorem dX11_orders_40 : decode cX11_orders 40 = .ok (.aload_n 0, 1) := by decide +kernel
theorem dX11_orders_41 : decode cX11_orders 41 = .ok (.getfield 93, 3) := by decide +kernel
theorem dX11_orders_44 : decode cX11_orders 44 = .ok (.invokevirtual 212, 3) := by decide +kernel
theorem dX11_orders_47 : decode cX11_orders 47 = .ok (.iconst 0, 1) := by decide +kernel
theorem dX11_orders_48 : decode cX11_orders 48 = .ok (.istore_n 1, 1) := by decide +kernel
theorem dX11_orders_49 : decode cX11_orders 49 = .ok (.iload_n 1, 1) := by decide +kernel
theorem dX11_orders_50 : decode cX11_orders 50 = .ok (.aload_n 0, 1) := by decide +kernel
theorem dX11_orders_51 : decode cX11_orders 51 = .ok (.getfield 75, 3) := by decide +kernel
theorem dX11_orders_54 : decode cX11_orders 54 = .ok (.getfield 198, 3) := by decide +kernel
theorem dX11_orders_57 : decode cX11_orders 57 = .ok (.getfield 215, 3) := by decide +kernel
theorem dX11_orders_60 : decode cX11_orders 60 = .ok (.if_icmp .ge 46, 3) := by decide +kernel
theorem dX11_orders_63 : decode cX11_orders 63 = .ok (.aload_n 0, 1) := by decide +kernel
theorem dX11_orders_64 : decode cX11_orders 64 = .ok (.getfield 93, 3) := by decide +kernel
theorem dX11_orders_67 : decode cX11_orders 67 = .ok (.aload_n 0, 1) := by decide +kernel
theorem dX11_orders_68 : decode cX11_orders 68 = .ok (.getfield 75, 3) := by decide +kernel
theorem dX11_orders_71 : decode cX11_orders 71 = .ok (.getfield 198, 3) := by decide +kernel
theorem dX11_orders_74 : decode cX11_orders 74 = .ok (.iload_n 1, 1) := by decide +kernel
theorem dX11_orders_75 : decode cX11_orders 75 = .ok (.invokevirtual 218, 3) := by decide +kernel
theorem dX11_orders_78 : decode cX11_orders 78 = .ok (.ifCond .ne 22, 3) := by decide +kernel
theorem dX11_orders_81 : decode cX11_orders 81 = .ok (.aload_n 0, 1) := by decide +kernel
theorem dX11_orders_82 : decode cX11_orders 82 = .ok (.iload_n 1, 1) := by decide +kernel
theorem dX11_orders_83 : decode cX11_orders 83 = .ok (.putfield 61, 3) := by decide +kernel
theorem dX11_orders_86 : decode cX11_orders 86 = .ok (.aload_n 0, 1) := by decide +kernel
theorem dX11_orders_87 : decode cX11_orders 87 = .ok (.getfield 93, 3) := by decide +kernel
theorem dX11_orders_90 : decode cX11_orders 90 = .ok (.invokevirtual 222, 3) := by decide +kernel
theorem dX11_orders_93 : decode cX11_orders 93 = .ok (.aload_n 0, 1) := by decide +kernel
theorem dX11_orders_94 : decode cX11_orders 94 = .ok (.bipush (-3), 2) := by decide +kernel
theorem dX11_orders_96 : decode cX11_orders 96 = .ok (.invokevirtual 116, 3) := by decide +kernel
theorem dX11_orders_99 : decode cX11_orders 99 = .ok (.ireturn, 1) := by decide +kernel
theorem dX11_orders_100 : decode cX11_orders 100 = .ok (.iinc 1 1, 3) := by decide +kernel
theorem dX11_orders_103 : decode cX11_orders 103 = .ok (.goto (-54), 3) := by decide +kernel
theorem dX11_orders_106 : decode cX11_orders 106 = .ok (.aload_n 0, 1) := by decide +kernel
theorem dX11_orders_107 : decode cX11_orders 107 = .ok (.aload_n 0, 1) := by decide +kernel
theorem dX11_orders_108 : decode cX11_orders 108 = .ok (.getfield 93, 3) := by decide +kernel
theorem dX11_orders_111 : decode cX11_orders 111 = .ok (.getfield 225, 3) := by decide +kernel
theorem dX11_orders_114 : decode cX11_orders 114 = .ok (.invokevirtual 209, 3) := by decide +kernel
theorem dX11_orders_117 : decode cX11_orders 117 = .ok (.ireturn, 1) := by decide +kernel
theorem dX11_fault_0 : decode cX11_fault 0 = .ok (.aload_n 0, 1) := by decide +kernel
theorem dX11_fault_1 : decode cX11_fault 1 = .ok (.getfield 55, 3) := by decide +kernel
theorem dX11_fault_4 : decode cX11_fault 4 = .ok (.ireturn, 1) := by decide +kernel
theorem dX11_stopped_0 : decode cX11_stopped 0 = .ok (.aload_n 0, 1) := by decide +kernel
theorem dX11_stopped_1 : decode cX11_stopped 1 = .ok (.getfield 61, 3) := by decide +kernel
theorem dX11_stopped_4 : decode cX11_stopped 4 = .ok (.ireturn, 1) := by decide +kernel
theorem dX11_force_0 : decode cX11_force 0 = .ok (.iload_n 1, 1) := by decide +kernel
theorem dX11_force_1 : decode cX11_force 1 = .ok (.iconst (-1), 1) := by decide +kernel
theorem dX11_force_2 : decode cX11_force 2 = .ok (.if_icmp .lt 14, 3) := by decide +kernel
theorem dX11_force_5 : decode cX11_force 5 = .ok (.iload_n 1, 1) := by decide +kernel
theorem dX11_force_6 : decode cX11_force 6 = .ok (.aload_n 0, 1) := by decide +kernel
theorem dX11_force_7 : decode cX11_force 7 = .ok (.getfield 21, 3) := by decide +kernel
theorem dX11_force_10 : decode cX11_force 10 = .ok (.getfield 189, 3) := by decide +kernel
theorem dX11_force_13 : decode cX11_force 13 = .ok (.if_icmp .lt 10, 3) := by decide +kernel
theorem dX11_force_16 : decode cX11_force 16 = .ok (.aload_n 0, 1) := by decide +kernel
theorem dX11_force_17 : decode cX11_force 17 = .ok (.bipush (-2), 2) := by decide +kernel
theorem dX11_force_19 : decode cX11_force 19 = .ok (.invokevirtual 116, 3) := by decide +kernel
theorem dX11_force_22 : decode cX11_force 22 = .ok (.ireturn, 1) := by decide +kernel
theorem dX11_force_23 : decode cX11_force 23 = .ok (.aload_n 0, 1) := by decide +kernel
theorem dX11_force_24 : decode cX11_force 24 = .ok (.getfield 21, 3) := by decide +kernel
theorem dX11_force_27 : decode cX11_force 27 = .ok (.getfield 228, 3) := by decide +kernel
theorem dX11_force_30 : decode cX11_force 30 = .ok (.istore_n 2, 1) := by decide +kernel
theorem dX11_force_31 : decode cX11_force 31 = .ok (.aload_n 0, 1) := by decide +kernel
theorem dX11_force_32 : decode cX11_force 32 = .ok (.getfield 21, 3) := by decide +kernel
theorem dX11_force_35 : decode cX11_force 35 = .ok (.iload_n 1, 1) := by decide +kernel
theorem dX11_force_36 : decode cX11_force 36 = .ok (.putfield 228, 3) := by decide +kernel
theorem dX11_force_39 : decode cX11_force 39 = .ok (.aload_n 0, 1) := by decide +kernel
theorem dX11_force_40 : decode cX11_force 40 = .ok (.iload_n 2, 1) := by decide +kernel
theorem dX11_force_41 : decode cX11_force 41 = .ok (.invokevirtual 209, 3) := by decide +kernel
theorem dX11_force_44 : decode cX11_force 44 = .ok (.ireturn, 1) := by decide +kernel
theorem dX11_barred_0 : decode cX11_barred 0 = .ok (.aload_n 0, 1) := by decide +kernel
theorem dX11_barred_1 : decode cX11_barred 1 = .ok (.getfield 14, 3) := by decide +kernel
theorem dX11_barred_4 : decode cX11_barred 4 = .ok (.iload_n 1, 1) := by decide +kernel
theorem dX11_barred_5 : decode cX11_barred 5 = .ok (.invokevirtual 153, 3) := by decide +kernel
theorem dX11_barred_8 : decode cX11_barred 8 = .ok (.ifCond .eq 14, 3) := by decide +kernel
theorem dX11_barred_11 : decode cX11_barred 11 = .ok (.aload_n 0, 1) := by decide +kernel
theorem dX11_barred_12 : decode cX11_barred 12 = .ok (.getfield 14, 3) := by decide +kernel
theorem dX11_barred_15 : decode cX11_barred 15 = .ok (.iload_n 2, 1) := by decide +kernel
theorem dX11_barred_16 : decode cX11_barred 16 = .ok (.invokevirtual 141, 3) := by decide +kernel
theorem dX11_barred_19 : decode cX11_barred 19 = .ok (.ifCond .ne 5, 3) := by decide +kernel
theorem dX11_barred_22 : decode cX11_barred 22 = .ok (.iconst (-1), 1) := by decide +kernel
theorem dX11_barred_23 : decode cX11_barred 23 = .ok (.ireturn, 1) := by decide +kernel
theorem dX11_barred_24 : decode cX11_barred 24 = .ok (.aload_n 0, 1) := by decide +kernel
theorem dX11_barred_25 : decode cX11_barred 25 = .ok (.getfield 84, 3) := by decide +kernel
theorem dX11_barred_28 : decode cX11_barred 28 = .ok (.aload_n 0, 1) := by decide +kernel
theorem dX11_barred_29 : decode cX11_barred 29 = .ok (.getfield 14, 3) := by decide +kernel
theorem dX11_barred_32 : decode cX11_barred 32 = .ok (.iconst 4, 1) := by decide +kernel
theorem dX11_barred_33 : decode cX11_barred 33 = .ok (.iload_n 1, 1) := by decide +kernel
theorem dX11_barred_34 : decode cX11_barred 34 = .ok (.iload_n 2, 1) := by decide +kernel
theorem dX11_barred_35 : decode cX11_barred 35 = .ok (.invokevirtual 145, 3) := by decide +kernel
theorem dX11_barred_38 : decode cX11_barred 38 = .ok (.ireturn, 1) := by decide +kernel
theorem dX11_fire_0 : decode cX11_fire 0 = .ok (.aload_n 0, 1) := by decide +kernel
theorem dX11_fire_1 : decode cX11_fire 1 = .ok (.aload_n 0, 1) := by decide +kernel
theorem dX11_fire_2 : decode cX11_fire 2 = .ok (.getfield 93, 3) := by decide +kernel
theorem dX11_fire_5 : decode cX11_fire 5 = .ok (.iload_n 1, 1) := by decide +kernel
theorem dX11_fire_6 : decode cX11_fire 6 = .ok (.iload_n 2, 1) := by decide +kernel
theorem dX11_fire_7 : decode cX11_fire 7 = .ok (.invokevirtual 231, 3) := by decide +kernel
theorem dX11_fire_10 : decode cX11_fire 10 = .ok (.invokevirtual 234, 3) := by decide +kernel
theorem dX11_fire_13 : decode cX11_fire 13 = .ok (.ireturn, 1) := by decide +kernel
theorem dX11_duel_0 : decode cX11_duel 0 = .ok (.aload_n 0, 1) := by decide +kernel
theorem dX11_duel_1 : decode cX11_duel 1 = .ok (.aload_n 0, 1) := by decide +kernel
theorem dX11_duel_2 : decode cX11_duel 2 = .ok (.getfield 93, 3) := by decide +kernel
theorem dX11_duel_5 : decode cX11_duel 5 = .ok (.iload_n 1, 1) := by decide +kernel
theorem dX11_duel_6 : decode cX11_duel 6 = .ok (.iload_n 2, 1) := by decide +kernel
theorem dX11_duel_7 : decode cX11_duel 7 = .ok (.invokevirtual 237, 3) := by decide +kernel
theorem dX11_duel_10 : decode cX11_duel 10 = .ok (.invokevirtual 234, 3) := by decide +kernel
theorem dX11_duel_13 : decode cX11_duel 13 = .ok (.ireturn, 1) := by decide +kernel
theorem dX11_rest_0 : decode cX11_rest 0 = .ok (.aload_n 0, 1) := by decide +kernel
theorem dX11_rest_1 : decode cX11_rest 1 = .ok (.aload_n 0, 1) := by decide +kernel
theorem dX11_rest_2 : decode cX11_rest 2 = .ok (.getfield 93, 3) := by decide +kernel
theorem dX11_rest_5 : decode cX11_rest 5 = .ok (.iload_n 1, 1) := by decide +kernel
theorem dX11_rest_6 : decode cX11_rest 6 = .ok (.invokevirtual 240, 3) := by decide +kernel
theorem dX11_rest_9 : decode cX11_rest 9 = .ok (.invokevirtual 234, 3) := by decide +kernel
theorem dX11_rest_12 : decode cX11_rest 12 = .ok (.ireturn, 1) := by decide +kernel
theorem dX11_undo_0 : decode cX11_undo 0 = .ok (.aload_n 0, 1) := by decide +kernel
theorem dX11_undo_1 : decode cX11_undo 1 = .ok (.getfield 35, 3) := by decide +kernel
theorem dX11_undo_4 : decode cX11_undo 4 = .ok (.getfield 243, 3) := by decide +kernel
theorem dX11_undo_7 : decode cX11_undo 7 = .ok (.ifCond .ne 10, 3) := by decide +kernel
theorem dX11_undo_10 : decode cX11_undo 10 = .ok (.aload_n 0, 1) := by decide +kernel
theorem dX11_undo_11 : decode cX11_undo 11 = .ok (.bipush (-3), 2) := by decide +kernel
theorem dX11_undo_13 : decode cX11_undo 13 = .ok (.invokevirtual 116, 3) := by decide +kernel
theorem dX11_undo_16 : decode cX11_undo 16 = .ok (.ireturn, 1) := by decide +kernel
theorem dX11_undo_17 : decode cX11_undo 17 = .ok (.aload_n 0, 1) := by decide +kernel
theorem dX11_undo_18 : decode cX11_undo 18 = .ok (.aload_n 0, 1) := by decide +kernel
theorem dX11_undo_19 : decode cX11_undo 19 = .ok (.getfield 35, 3) := by decide +kernel
theorem dX11_undo_22 : decode cX11_undo 22 = .ok (.aload_n 0, 1) := by decide +kernel
theorem dX11_undo_23 : decode cX11_undo 23 = .ok (.getfield 14, 3) := by decide +kernel
theorem dX11_undo_26 : decode cX11_undo 26 = .ok (.invokevirtual 244, 3) := by decide +kernel
theorem dX11_undo_29 : decode cX11_undo 29 = .ok (.invokevirtual 209, 3) := by decide +kernel
theorem dX11_undo_32 : decode cX11_undo 32 = .ok (.ireturn, 1) := by decide +kernel
theorem dX11_log_0 : decode cX11_log 0 = .ok (.aload_n 0, 1) := by decide +kernel
theorem dX11_log_1 : decode cX11_log 1 = .ok (.getfield 14, 3) := by decide +kernel
theorem dX11_log_4 : decode cX11_log 4 = .ok (.iload_n 1, 1) := by decide +kernel
theorem dX11_log_5 : decode cX11_log 5 = .ok (.invokevirtual 130, 3) := by decide +kernel
theorem dX11_log_8 : decode cX11_log 8 = .ok (.ireturn, 1) := by decide +kernel
theorem dX11_odds_0 : decode cX11_odds 0 = .ok (.aload_n 0, 1) := by decide +kernel
theorem dX11_odds_1 : decode cX11_odds 1 = .ok (.getfield 14, 3) := by decide +kernel
theorem dX11_odds_4 : decode cX11_odds 4 = .ok (.iload_n 1, 1) := by decide +kernel
theorem dX11_odds_5 : decode cX11_odds 5 = .ok (.invokevirtual 163, 3) := by decide +kernel
theorem dX11_odds_8 : decode cX11_odds 8 = .ok (.ifCond .eq 12, 3) := by decide +kernel
theorem dX11_odds_11 : decode cX11_odds 11 = .ok (.iload_n 2, 1) := by decide +kernel
theorem dX11_odds_12 : decode cX11_odds 12 = .ok (.ifCond .lt 8, 3) := by decide +kernel
theorem dX11_odds_15 : decode cX11_odds 15 = .ok (.iload_n 2, 1) := by decide +kernel
theorem dX11_odds_16 : decode cX11_odds 16 = .ok (.iconst 3, 1) := by decide +kernel
theorem dX11_odds_17 : decode cX11_odds 17 = .ok (.if_icmp .le 5, 3) := by decide +kernel
theorem dX11_odds_20 : decode cX11_odds 20 = .ok (.iconst (-1), 1) := by decide +kernel
theorem dX11_odds_21 : decode cX11_odds 21 = .ok (.ireturn, 1) := by decide +kernel
theorem dX11_odds_22 : decode cX11_odds 22 = .ok (.aload_n 0, 1) := by decide +kernel
theorem dX11_odds_23 : decode cX11_odds 23 = .ok (.getfield 102, 3) := by decide +kernel
theorem dX11_odds_26 : decode cX11_odds 26 = .ok (.iload_n 1, 1) := by decide +kernel
theorem dX11_odds_27 : decode cX11_odds 27 = .ok (.iload_n 2, 1) := by decide +kernel
theorem dX11_odds_28 : decode cX11_odds 28 = .ok (.invokevirtual 248, 3) := by decide +kernel
theorem dX11_odds_31 : decode cX11_odds 31 = .ok (.ireturn, 1) := by decide +kernel
theorem dX11_queue_0 : decode cX11_queue 0 = .ok (.aload_n 0, 1) := by decide +kernel
theorem dX11_queue_1 : decode cX11_queue 1 = .ok (.getfield 109, 3) := by decide +kernel
theorem dX11_queue_4 : decode cX11_queue 4 = .ok (.invokevirtual 251, 3) := by decide +kernel
theorem dX11_queue_7 : decode cX11_queue 7 = .ok (.iload_n 1, 1) := by decide +kernel
theorem dX11_queue_8 : decode cX11_queue 8 = .ok (.ifCond .ne 11, 3) := by decide +kernel
theorem dX11_queue_11 : decode cX11_queue 11 = .ok (.aload_n 0, 1) := by decide +kernel
theorem dX11_queue_12 : decode cX11_queue 12 = .ok (.getfield 109, 3) := by decide +kernel
theorem dX11_queue_15 : decode cX11_queue 15 = .ok (.getfield 254, 3) := by decide +kernel
theorem dX11_queue_18 : decode cX11_queue 18 = .ok (.ireturn, 1) := by decide +kernel
theorem dX11_queue_19 : decode cX11_queue 19 = .ok (.aload_n 0, 1) := by decide +kernel
theorem dX11_queue_20 : decode cX11_queue 20 = .ok (.getfield 109, 3) := by decide +kernel
theorem dX11_queue_23 : decode cX11_queue 23 = .ok (.getfield 254, 3) := by decide +kernel
theorem dX11_queue_26 : decode cX11_queue 26 = .ok (.ifCond .ne 5, 3) := by decide +kernel
theorem dX11_queue_29 : decode cX11_queue 29 = .ok (.iconst (-1), 1) := by decide +kernel
theorem dX11_queue_30 : decode cX11_queue 30 = .ok (.ireturn, 1) := by decide +kernel
theorem dX11_queue_31 : decode cX11_queue 31 = .ok (.iload_n 1, 1) := by decide +kernel
theorem dX11_queue_32 : decode cX11_queue 32 = .ok (.bipush 21, 2) := by decide +kernel
theorem dX11_queue_34 : decode cX11_queue 34 = .ok (.if_icmp .ne 11, 3) := by decide +kernel
theorem dX11_queue_37 : decode cX11_queue 37 = .ok (.aload_n 0, 1) := by decide +kernel
theorem dX11_queue_38 : decode cX11_queue 38 = .ok (.getfield 109, 3) := by decide +kernel
theorem dX11_queue_41 : decode cX11_queue 41 = .ok (.getfield 256, 3) := by decide +kernel
theorem dX11_queue_44 : decode cX11_queue 44 = .ok (.ireturn, 1) := by decide +kernel
theorem dX11_queue_45 : decode cX11_queue 45 = .ok (.aload_n 0, 1) := by decide +kernel
theorem dX11_queue_46 : decode cX11_queue 46 = .ok (.getfield 14, 3) := by decide +kernel
theorem dX11_queue_49 : decode cX11_queue 49 = .ok (.getfield 120, 3) := by decide +kernel
theorem dX11_queue_52 : decode cX11_queue 52 = .ok (.bipush 25, 2) := by decide +kernel
theorem dX11_queue_54 : decode cX11_queue 54 = .ok (.iaload, 1) := by decide +kernel
theorem dX11_queue_55 : decode cX11_queue 55 = .ok (.istore_n 2, 1) := by decide +kernel
theorem dX11_queue_56 : decode cX11_queue 56 = .ok (.iload_n 1, 1) := by decide +kernel
theorem dX11_queue_57 : decode cX11_queue 57 = .ok (.iconst 1, 1) := by decide +kernel
theorem dX11_queue_58 : decode cX11_queue 58 = .ok (.if_icmp .lt 25, 3) := by decide +kernel
theorem dX11_queue_61 : decode cX11_queue 61 = .ok (.iload_n 1, 1) := by decide +kernel
theorem dX11_queue_62 : decode cX11_queue 62 = .ok (.iconst 1, 1) := by decide +kernel
theorem dX11_queue_63 : decode cX11_queue 63 = .ok (.iload_n 2, 1) := by decide +kernel
theorem dX11_queue_64 : decode cX11_queue 64 = .ok (.iadd, 1) := by decide +kernel
theorem dX11_queue_65 : decode cX11_queue 65 = .ok (.if_icmp .ge 18, 3) := by decide +kernel
theorem dX11_queue_68 : decode cX11_queue 68 = .ok (.aload_n 0, 1) := by decide +kernel
theorem dX11_queue_69 : decode cX11_queue 69 = .ok (.getfield 109, 3) := by decide +kernel
theorem dX11_queue_72 : decode cX11_queue 72 = .ok (.getfield 259, 3) := by decide +kernel
theorem dX11_queue_75 : decode cX11_queue 75 = .ok (.iload_n 2, 1) := by decide +kernel
theorem dX11_queue_76 : decode cX11_queue 76 = .ok (.iload_n 1, 1) := by decide +kernel
theorem dX11_queue_77 : decode cX11_queue 77 = .ok (.iconst 1, 1) := by decide +kernel
theorem dX11_queue_78 : decode cX11_queue 78 = .ok (.isub, 1) := by decide +kernel
theorem dX11_queue_79 : decode cX11_queue 79 = .ok (.invokestatic 262, 3) := by decide +kernel
theorem dX11_queue_82 : decode cX11_queue 82 = .ok (.ireturn, 1) := by decide +kernel
theorem dX11_queue_83 : decode cX11_queue 83 = .ok (.iload_n 1, 1) := by decide +kernel
theorem dX11_queue_84 : decode cX11_queue 84 = .ok (.bipush 11, 2) := by decide +kernel
theorem dX11_queue_86 : decode cX11_queue 86 = .ok (.if_icmp .lt 27, 3) := by decide +kernel
theorem dX11_queue_89 : decode cX11_queue 89 = .ok (.iload_n 1, 1) := by decide +kernel
theorem dX11_queue_90 : decode cX11_queue 90 = .ok (.bipush 11, 2) := by decide +kernel
theorem dX11_queue_92 : decode cX11_queue 92 = .ok (.iload_n 2, 1) := by decide +kernel
theorem dX11_queue_93 : decode cX11_queue 93 = .ok (.iadd, 1) := by decide +kernel
theorem dX11_queue_94 : decode cX11_queue 94 = .ok (.if_icmp .ge 19, 3) := by decide +kernel
theorem dX11_queue_97 : decode cX11_queue 97 = .ok (.aload_n 0, 1) := by decide +kernel
theorem dX11_queue_98 : decode cX11_queue 98 = .ok (.getfield 109, 3) := by decide +kernel
theorem dX11_queue_101 : decode cX11_queue 101 = .ok (.getfield 265, 3) := by decide +kernel
theorem dX11_queue_104 : decode cX11_queue 104 = .ok (.iload_n 2, 1) := by decide +kernel
theorem dX11_queue_105 : decode cX11_queue 105 = .ok (.iload_n 1, 1) := by decide +kernel
theorem dX11_queue_106 : decode cX11_queue 106 = .ok (.bipush 11, 2) := by decide +kernel
theorem dX11_queue_108 : decode cX11_queue 108 = .ok (.isub, 1) := by decide +kernel
theorem dX11_queue_109 : decode cX11_queue 109 = .ok (.invokestatic 262, 3) := by decide +kernel
theorem dX11_queue_112 : decode cX11_queue 112 = .ok (.ireturn, 1) := by decide +kernel
theorem dX11_queue_113 : decode cX11_queue 113 = .ok (.iconst (-1), 1) := by decide +kernel
theorem dX11_queue_114 : decode cX11_queue 114 = .ok (.ireturn, 1) := by decide +kernel
theorem dX11_spades_0 : decode cX11_spades 0 = .ok (.aload_n 0, 1) := by decide +kernel
theorem dX11_spades_1 : decode cX11_spades 1 = .ok (.getfield 109, 3) := by decide +kernel
theorem dX11_spades_4 : decode cX11_spades 4 = .ok (.invokevirtual 268, 3) := by decide +kernel
theorem dX11_spades_7 : decode cX11_spades 7 = .ok (.ireturn, 1) := by decide +kernel
theorem dX11_free_0 : decode cX11_free 0 = .ok (.iload_n 1, 1) := by decide +kernel
theorem dX11_free_1 : decode cX11_free 1 = .ok (.ifCond .lt 8, 3) := by decide +kernel
theorem dX11_free_4 : decode cX11_free 4 = .ok (.iload_n 1, 1) := by decide +kernel
theorem dX11_free_5 : decode cX11_free 5 = .ok (.iconst 1, 1) := by decide +kernel
theorem dX11_free_6 : decode cX11_free 6 = .ok (.if_icmp .le 5, 3) := by decide +kernel
theorem dX11_free_9 : decode cX11_free 9 = .ok (.iconst (-1), 1) := by decide +kernel
theorem dX11_free_10 : decode cX11_free 10 = .ok (.ireturn, 1) := by decide +kernel
theorem dX11_free_11 : decode cX11_free 11 = .ok (.aload_n 0, 1) := by decide +kernel
theorem dX11_free_12 : decode cX11_free 12 = .ok (.getfield 102, 3) := by decide +kernel
theorem dX11_free_15 : decode cX11_free 15 = .ok (.invokevirtual 272, 3) := by decide +kernel
theorem dX11_free_18 : decode cX11_free 18 = .ok (.istore_n 2, 1) := by decide +kernel
theorem dX11_free_19 : decode cX11_free 19 = .ok (.iload_n 1, 1) := by decide +kernel
theorem dX11_free_20 : decode cX11_free 20 = .ok (.ifCond .ne 10, 3) := by decide +kernel
theorem dX11_free_23 : decode cX11_free 23 = .ok (.iload_n 2, 1) := by decide +kernel
theorem dX11_free_24 : decode cX11_free 24 = .ok (.invokestatic 275, 3) := by decide +kernel
theorem dX11_free_27 : decode cX11_free 27 = .ok (.goto 4, 3) := by decide +kernel
theorem dX11_free_30 : decode cX11_free 30 = .ok (.iload_n 2, 1) := by decide +kernel
theorem dX11_free_31 : decode cX11_free 31 = .ok (.ireturn, 1) := by decide +kernel
theorem dX11_marks_0 : decode cX11_marks 0 = .ok (.iload_n 1, 1) := by decide +kernel
theorem dX11_marks_1 : decode cX11_marks 1 = .ok (.iconst 1, 1) := by decide +kernel
theorem dX11_marks_2 : decode cX11_marks 2 = .ok (.if_icmp .lt 28, 3) := by decide +kernel
theorem dX11_marks_5 : decode cX11_marks 5 = .ok (.iload_n 1, 1) := by decide +kernel
theorem dX11_marks_6 : decode cX11_marks 6 = .ok (.iconst 3, 1) := by decide +kernel
theorem dX11_marks_7 : decode cX11_marks 7 = .ok (.if_icmp .gt 23, 3) := by decide +kernel
theorem dX11_marks_10 : decode cX11_marks 10 = .ok (.iload 4, 2) := by decide +kernel
theorem dX11_marks_12 : decode cX11_marks 12 = .ok (.iconst (-1), 1) := by decide +kernel
theorem dX11_marks_13 : decode cX11_marks 13 = .ok (.if_icmp .lt 17, 3) := by decide +kernel
theorem dX11_marks_16 : decode cX11_marks 16 = .ok (.iload 4, 2) := by decide +kernel
theorem dX11_marks_18 : decode cX11_marks 18 = .ok (.iload_n 1, 1) := by decide +kernel
theorem dX11_marks_19 : decode cX11_marks 19 = .ok (.if_icmp .ge 11, 3) := by decide +kernel
theorem dX11_marks_22 : decode cX11_marks 22 = .ok (.iload_n 2, 1) := by decide +kernel
theorem dX11_marks_23 : decode cX11_marks 23 = .ok (.iload_n 3, 1) := by decide +kernel
theorem dX11_marks_24 : decode cX11_marks 24 = .ok (.invokestatic 278, 3) := by decide +kernel
theorem dX11_marks_27 : decode cX11_marks 27 = .ok (.ifCond .ne 5, 3) := by decide +kernel
theorem dX11_marks_30 : decode cX11_marks 30 = .ok (.iconst (-1), 1) := by decide +kernel
theorem dX11_marks_31 : decode cX11_marks 31 = .ok (.ireturn, 1) := by decide +kernel
theorem dX11_marks_32 : decode cX11_marks 32 = .ok (.aload_n 0, 1) := by decide +kernel
theorem dX11_marks_33 : decode cX11_marks 33 = .ok (.getfield 109, 3) := by decide +kernel
theorem dX11_marks_36 : decode cX11_marks 36 = .ok (.iload_n 1, 1) := by decide +kernel
theorem dX11_marks_37 : decode cX11_marks 37 = .ok (.iload_n 2, 1) := by decide +kernel
theorem dX11_marks_38 : decode cX11_marks 38 = .ok (.iload_n 3, 1) := by decide +kernel
theorem dX11_marks_39 : decode cX11_marks 39 = .ok (.invokevirtual 282, 3) := by decide +kernel
theorem dX11_marks_42 : decode cX11_marks 42 = .ok (.iload 4, 2) := by decide +kernel
theorem dX11_marks_44 : decode cX11_marks 44 = .ok (.iconst (-1), 1) := by decide +kernel
theorem dX11_marks_45 : decode cX11_marks 45 = .ok (.if_icmp .ne 11, 3) := by decide +kernel
theorem dX11_marks_48 : decode cX11_marks 48 = .ok (.aload_n 0, 1) := by decide +kernel
theorem dX11_marks_49 : decode cX11_marks 49 = .ok (.getfield 109, 3) := by decide +kernel
theorem dX11_marks_52 : decode cX11_marks 52 = .ok (.getfield 254, 3) := by decide +kernel
theorem dX11_marks_55 : decode cX11_marks 55 = .ok (.ireturn, 1) := by decide +kernel
theorem dX11_marks_56 : decode cX11_marks 56 = .ok (.aload_n 0, 1) := by decide +kernel
theorem dX11_marks_57 : decode cX11_marks 57 = .ok (.getfield 109, 3) := by decide +kernel
theorem dX11_marks_60 : decode cX11_marks 60 = .ok (.getfield 254, 3) := by decide +kernel
theorem dX11_marks_63 : decode cX11_marks 63 = .ok (.ifCond .ne 7, 3) := by decide +kernel
theorem dX11_marks_66 : decode cX11_marks 66 = .ok (.iconst (-1), 1) := by decide +kernel
theorem dX11_marks_67 : decode cX11_marks 67 = .ok (.goto 16, 3) := by decide +kernel
theorem dX11_marks_70 : decode cX11_marks 70 = .ok (.aload_n 0, 1) := by decide +kernel
theorem dX11_marks_71 : decode cX11_marks 71 = .ok (.getfield 109, 3) := by decide +kernel
theorem dX11_marks_74 : decode cX11_marks 74 = .ok (.getfield 259, 3) := by decide +kernel
theorem dX11_marks_77 : decode cX11_marks 77 = .ok (.iload_n 1, 1) := by decide +kernel
theorem dX11_marks_78 : decode cX11_marks 78 = .ok (.iload 4, 2) := by decide +kernel
theorem dX11_marks_80 : decode cX11_marks 80 = .ok (.invokestatic 262, 3) := by decide +kernel
theorem dX11_marks_83 : decode cX11_marks 83 = .ok (.ireturn, 1) := by decide +kernel
theorem dX11_game_0 : decode cX11_game 0 = .ok (.aload_n 0, 1) := by decide +kernel
theorem dX11_game_1 : decode cX11_game 1 = .ok (.getfield 14, 3) := by decide +kernel
theorem dX11_game_4 : decode cX11_game 4 = .ok (.invokevirtual 126, 3) := by decide +kernel
theorem dX11_game_7 : decode cX11_game 7 = .ok (.ifCond .eq 12, 3) := by decide +kernel
theorem dX11_game_10 : decode cX11_game 10 = .ok (.iload_n 1, 1) := by decide +kernel
theorem dX11_game_11 : decode cX11_game 11 = .ok (.ifCond .lt 8, 3) := by decide +kernel
theorem dX11_game_14 : decode cX11_game 14 = .ok (.iload_n 1, 1) := by decide +kernel
theorem dX11_game_15 : decode cX11_game 15 = .ok (.iconst 2, 1) := by decide +kernel
theorem dX11_game_16 : decode cX11_game 16 = .ok (.if_icmp .le 5, 3) := by decide +kernel
theorem dX11_game_19 : decode cX11_game 19 = .ok (.iconst (-1), 1) := by decide +kernel
theorem dX11_game_20 : decode cX11_game 20 = .ok (.ireturn, 1) := by decide +kernel
theorem dX11_game_21 : decode cX11_game 21 = .ok (.aload_n 0, 1) := by decide +kernel
theorem dX11_game_22 : decode cX11_game 22 = .ok (.getfield 102, 3) := by decide +kernel
theorem dX11_game_25 : decode cX11_game 25 = .ok (.invokevirtual 286, 3) := by decide +kernel
theorem dX11_game_28 : decode cX11_game 28 = .ok (.iload_n 1, 1) := by decide +kernel
theorem dX11_game_29 : decode cX11_game 29 = .ok (.ifCond .ne 19, 3) := by decide +kernel
theorem dX11_game_32 : decode cX11_game 32 = .ok (.aload_n 0, 1) := by decide +kernel
theorem dX11_game_33 : decode cX11_game 33 = .ok (.getfield 102, 3) := by decide +kernel
theorem dX11_game_36 : decode cX11_game 36 = .ok (.getfield 289, 3) := by decide +kernel
theorem dX11_game_39 : decode cX11_game 39 = .ok (.ifCond .le 7, 3) := by decide +kernel
theorem dX11_game_42 : decode cX11_game 42 = .ok (.iconst 1, 1) := by decide +kernel
theorem dX11_game_43 : decode cX11_game 43 = .ok (.goto 4, 3) := by decide +kernel
theorem dX11_game_46 : decode cX11_game 46 = .ok (.iconst 0, 1) := by decide +kernel
theorem dX11_game_47 : decode cX11_game 47 = .ok (.ireturn, 1) := by decide +kernel
theorem dX11_game_48 : decode cX11_game 48 = .ok (.iload_n 1, 1) := by decide +kernel
theorem dX11_game_49 : decode cX11_game 49 = .ok (.iconst 1, 1) := by decide +kernel
theorem dX11_game_50 : decode cX11_game 50 = .ok (.if_icmp .ne 13, 3) := by decide +kernel
theorem dX11_game_53 : decode cX11_game 53 = .ok (.aload_n 0, 1) := by decide +kernel
theorem dX11_game_54 : decode cX11_game 54 = .ok (.getfield 102, 3) := by decide +kernel
theorem dX11_game_57 : decode cX11_game 57 = .ok (.getfield 289, 3) := by decide +kernel
theorem dX11_game_60 : decode cX11_game 60 = .ok (.goto 10, 3) := by decide +kernel
theorem dX11_game_63 : decode cX11_game 63 = .ok (.aload_n 0, 1) := by decide +kernel
theorem dX11_game_64 : decode cX11_game 64 = .ok (.getfield 102, 3) := by decide +kernel
theorem dX11_game_67 : decode cX11_game 67 = .ok (.getfield 292, 3) := by decide +kernel
theorem dX11_game_70 : decode cX11_game 70 = .ok (.ireturn, 1) := by decide +kernel
theorem dX11_share_0 : decode cX11_share 0 = .ok (.aload_n 0, 1) := by decide +kernel
theorem dX11_share_1 : decode cX11_share 1 = .ok (.getfield 14, 3) := by decide +kernel
theorem dX11_share_4 : decode cX11_share 4 = .ok (.getfield 120, 3) := by decide +kernel
theorem dX11_share_7 : decode cX11_share 7 = .ok (.bipush 21, 2) := by decide +kernel
theorem dX11_share_9 : decode cX11_share 9 = .ok (.iaload, 1) := by decide +kernel
theorem dX11_share_10 : decode cX11_share 10 = .ok (.aload_n 0, 1) := by decide +kernel
theorem dX11_share_11 : decode cX11_share 11 = .ok (.getfield 14, 3) := by decide +kernel
theorem dX11_share_14 : decode cX11_share 14 = .ok (.getfield 120, 3) := by decide +kernel
theorem dX11_share_17 : decode cX11_share 17 = .ok (.bipush 22, 2) := by decide +kernel
theorem dX11_share_19 : decode cX11_share 19 = .ok (.iaload, 1) := by decide +kernel
theorem dX11_share_20 : decode cX11_share 20 = .ok (.iadd, 1) := by decide +kernel
theorem dX11_share_21 : decode cX11_share 21 = .ok (.istore_n 3, 1) := by decide +kernel
theorem dX11_share_22 : decode cX11_share 22 = .ok (.iload_n 1, 1) := by decide +kernel
theorem dX11_share_23 : decode cX11_share 23 = .ok (.ifCond .lt 21, 3) := by decide +kernel
theorem dX11_share_26 : decode cX11_share 26 = .ok (.iload_n 1, 1) := by decide +kernel
theorem dX11_share_27 : decode cX11_share 27 = .ok (.iconst 1, 1) := by decide +kernel
theorem dX11_share_28 : decode cX11_share 28 = .ok (.if_icmp .gt 16, 3) := by decide +kernel
theorem dX11_share_31 : decode cX11_share 31 = .ok (.iload_n 2, 1) := by decide +kernel
theorem dX11_share_32 : decode cX11_share 32 = .ok (.ifCond .lt 12, 3) := by decide +kernel
theorem dX11_share_35 : decode cX11_share 35 = .ok (.iload_n 2, 1) := by decide +kernel
theorem dX11_share_36 : decode cX11_share 36 = .ok (.iconst 1, 1) := by decide +kernel
theorem dX11_share_37 : decode cX11_share 37 = .ok (.if_icmp .gt 7, 3) := by decide +kernel
theorem dX11_share_40 : decode cX11_share 40 = .ok (.iload_n 3, 1) := by decide +kernel
theorem dX11_share_41 : decode cX11_share 41 = .ok (.ifCond .gt 5, 3) := by decide +kernel
theorem dX11_share_44 : decode cX11_share 44 = .ok (.iconst (-1), 1) := by decide +kernel
theorem dX11_share_45 : decode cX11_share 45 = .ok (.ireturn, 1) := by decide +kernel
theorem dX11_share_46 : decode cX11_share 46 = .ok (.aload_n 0, 1) := by decide +kernel
theorem dX11_share_47 : decode cX11_share 47 = .ok (.getfield 14, 3) := by decide +kernel
theorem dX11_share_50 : decode cX11_share 50 = .ok (.getfield 120, 3) := by decide +kernel
theorem dX11_share_53 : decode cX11_share 53 = .ok (.bipush 21, 2) := by decide +kernel
theorem dX11_share_55 : decode cX11_share 55 = .ok (.iload_n 1, 1) := by decide +kernel
theorem dX11_share_56 : decode cX11_share 56 = .ok (.iadd, 1) := by decide +kernel
theorem dX11_share_57 : decode cX11_share 57 = .ok (.iaload, 1) := by decide +kernel
theorem dX11_share_58 : decode cX11_share 58 = .ok (.istore 4, 2) := by decide +kernel
theorem dX11_share_60 : decode cX11_share 60 = .ok (.iload 4, 2) := by decide +kernel
theorem dX11_share_62 : decode cX11_share 62 = .ok (.iload_n 3, 1) := by decide +kernel
theorem dX11_share_63 : decode cX11_share 63 = .ok (.invokestatic 295, 3) := by decide +kernel
theorem dX11_share_66 : decode cX11_share 66 = .ok (.istore 5, 2) := by decide +kernel
theorem dX11_share_68 : decode cX11_share 68 = .ok (.iload 5, 2) := by decide +kernel
theorem dX11_share_70 : decode cX11_share 70 = .ok (.ifCond .ne 7, 3) := by decide +kernel
theorem dX11_share_73 : decode cX11_share 73 = .ok (.iconst (-1), 1) := by decide +kernel
theorem dX11_share_74 : decode cX11_share 74 = .ok (.goto 16, 3) := by decide +kernel
theorem dX11_share_77 : decode cX11_share 77 = .ok (.iload_n 2, 1) := by decide +kernel
theorem dX11_share_78 : decode cX11_share 78 = .ok (.ifCond .ne 8, 3) := by decide +kernel
theorem dX11_share_81 : decode cX11_share 81 = .ok (.iload 4, 2) := by decide +kernel
theorem dX11_share_83 : decode cX11_share 83 = .ok (.goto 4, 3) := by decide +kernel
theorem dX11_share_86 : decode cX11_share 86 = .ok (.iload_n 3, 1) := by decide +kernel
theorem dX11_share_87 : decode cX11_share 87 = .ok (.iload 5, 2) := by decide +kernel
theorem dX11_share_89 : decode cX11_share 89 = .ok (.idiv, 1) := by decide +kernel
theorem dX11_share_90 : decode cX11_share 90 = .ok (.ireturn, 1) := by decide +kernel
theorem dX11_season_0 : decode cX11_season 0 = .ok (.iload_n 1, 1) := by decide +kernel
theorem dX11_season_1 : decode cX11_season 1 = .ok (.ifCond .lt 21, 3) := by decide +kernel
theorem dX11_season_4 : decode cX11_season 4 = .ok (.iload_n 1, 1) := by decide +kernel
theorem dX11_season_5 : decode cX11_season 5 = .ok (.ldc_w 298, 3) := by decide +kernel
theorem dX11_season_8 : decode cX11_season 8 = .ok (.if_icmp .gt 14, 3) := by decide +kernel
theorem dX11_season_11 : decode cX11_season 11 = .ok (.iload_n 2, 1) := by decide +kernel
theorem dX11_season_12 : decode cX11_season 12 = .ok (.iconst 1, 1) := by decide +kernel
theorem dX11_season_13 : decode cX11_season 13 = .ok (.if_icmp .lt 9, 3) := by decide +kernel
theorem dX11_season_16 : decode cX11_season 16 = .ok (.iload_n 2, 1) := by decide +kernel
theorem dX11_season_17 : decode cX11_season 17 = .ok (.bipush 30, 2) := by decide +kernel
theorem dX11_season_19 : decode cX11_season 19 = .ok (.if_icmp .le 9, 3) := by decide +kernel
theorem dX11_season_22 : decode cX11_season 22 = .ok (.aload_n 0, 1) := by decide +kernel
theorem dX11_season_23 : decode cX11_season 23 = .ok (.iconst (-1), 1) := by decide +kernel
theorem dX11_season_24 : decode cX11_season 24 = .ok (.invokevirtual 116, 3) := by decide +kernel
theorem dX11_season_27 : decode cX11_season 27 = .ok (.ireturn, 1) := by decide +kernel
theorem dX11_season_28 : decode cX11_season 28 = .ok (.aload_n 0, 1) := by decide +kernel
theorem dX11_season_29 : decode cX11_season 29 = .ok (.aload_n 0, 1) := by decide +kernel
theorem dX11_season_30 : decode cX11_season 30 = .ok (.getfield 102, 3) := by decide +kernel
theorem dX11_season_33 : decode cX11_season 33 = .ok (.iload_n 1, 1) := by decide +kernel
theorem dX11_season_34 : decode cX11_season 34 = .ok (.iload_n 2, 1) := by decide +kernel
theorem dX11_season_35 : decode cX11_season 35 = .ok (.invokevirtual 299, 3) := by decide +kernel
theorem dX11_season_38 : decode cX11_season 38 = .ok (.invokevirtual 209, 3) := by decide +kernel
theorem dX11_season_41 : decode cX11_season 41 = .ok (.ireturn, 1) := by decide +kernel
theorem dX11_drawn_0 : decode cX11_drawn 0 = .ok (.aload_n 0, 1) := by decide +kernel
theorem dX11_drawn_1 : decode cX11_drawn 1 = .ok (.getfield 102, 3) := by decide +kernel
theorem dX11_drawn_4 : decode cX11_drawn 4 = .ok (.getfield 302, 3) := by decide +kernel
theorem dX11_drawn_7 : decode cX11_drawn 7 = .ok (.ifCond .eq 13, 3) := by decide +kernel
theorem dX11_drawn_10 : decode cX11_drawn 10 = .ok (.iload_n 1, 1) := by decide +kernel
theorem dX11_drawn_11 : decode cX11_drawn 11 = .ok (.ifCond .lt 9, 3) := by decide +kernel
theorem dX11_drawn_14 : decode cX11_drawn 14 = .ok (.iload_n 1, 1) := by decide +kernel
theorem dX11_drawn_15 : decode cX11_drawn 15 = .ok (.bipush 6, 2) := by decide +kernel
theorem dX11_drawn_17 : decode cX11_drawn 17 = .ok (.if_icmp .lt 5, 3) := by decide +kernel
theorem dX11_drawn_20 : decode cX11_drawn 20 = .ok (.iconst (-1), 1) := by decide +kernel
theorem dX11_drawn_21 : decode cX11_drawn 21 = .ok (.ireturn, 1) := by decide +kernel
theorem dX11_drawn_22 : decode cX11_drawn 22 = .ok (.aload_n 0, 1) := by decide +kernel
theorem dX11_drawn_23 : decode cX11_drawn 23 = .ok (.getfield 102, 3) := by decide +kernel
theorem dX11_drawn_26 : decode cX11_drawn 26 = .ok (.getfield 306, 3) := by decide +kernel
theorem dX11_drawn_29 : decode cX11_drawn 29 = .ok (.iload_n 1, 1) := by decide +kernel
theorem dX11_drawn_30 : decode cX11_drawn 30 = .ok (.iaload, 1) := by decide +kernel
theorem dX11_drawn_31 : decode cX11_drawn 31 = .ok (.ireturn, 1) := by decide +kernel
theorem dX11_image_0 : decode cX11_image 0 = .ok (.iload_n 1, 1) := by decide +kernel
theorem dX11_image_1 : decode cX11_image 1 = .ok (.ifCond .lt 8, 3) := by decide +kernel
theorem dX11_image_4 : decode cX11_image 4 = .ok (.iload_n 1, 1) := by decide +kernel
theorem dX11_image_5 : decode cX11_image 5 = .ok (.iconst 2, 1) := by decide +kernel
