theorem dX11_image_6 : decode cX11_image 6 = .ok (.if_icmp .lt 9, 3) := by decide +kernel
theorem dX11_image_9 : decode cX11_image 9 = .ok (.aload_n 0, 1) := by decide +kernel
theorem dX11_image_10 : decode cX11_image 10 = .ok (.iconst (-1), 1) := by decide +kernel
theorem dX11_image_11 : decode cX11_image 11 = .ok (.invokevirtual 116, 3) := by decide +kernel
theorem dX11_image_14 : decode cX11_image 14 = .ok (.ireturn, 1) := by decide +kernel
theorem dX11_image_15 : decode cX11_image 15 = .ok (.aload_n 0, 1) := by decide +kernel
theorem dX11_image_16 : decode cX11_image 16 = .ok (.getfield 39, 3) := by decide +kernel
theorem dX11_image_19 : decode cX11_image 19 = .ok (.iload_n 1, 1) := by decide +kernel
theorem dX11_image_20 : decode cX11_image 20 = .ok (.aaload, 1) := by decide +kernel
theorem dX11_image_21 : decode cX11_image 21 = .ok (.ifnull 12, 3) := by decide +kernel
theorem dX11_image_24 : decode cX11_image 24 = .ok (.aload_n 0, 1) := by decide +kernel
theorem dX11_image_25 : decode cX11_image 25 = .ok (.getfield 43, 3) := by decide +kernel
theorem dX11_image_28 : decode cX11_image 28 = .ok (.iload_n 1, 1) := by decide +kernel
theorem dX11_image_29 : decode cX11_image 29 = .ok (.aaload, 1) := by decide +kernel
theorem dX11_image_30 : decode cX11_image 30 = .ok (.ifnonnull 29, 3) := by decide +kernel
theorem dX11_image_33 : decode cX11_image 33 = .ok (.aload_n 0, 1) := by decide +kernel
theorem dX11_image_34 : decode cX11_image 34 = .ok (.getfield 39, 3) := by decide +kernel
theorem dX11_image_37 : decode cX11_image 37 = .ok (.iload_n 1, 1) := by decide +kernel
theorem dX11_image_38 : decode cX11_image 38 = .ok (.new 11, 3) := by decide +kernel
theorem dX11_image_41 : decode cX11_image 41 = .ok (.dup, 1) := by decide +kernel
theorem dX11_image_42 : decode cX11_image 42 = .ok (.invokespecial 13, 3) := by decide +kernel
theorem dX11_image_45 : decode cX11_image 45 = .ok (.aastore, 1) := by decide +kernel
theorem dX11_image_46 : decode cX11_image 46 = .ok (.aload_n 0, 1) := by decide +kernel
theorem dX11_image_47 : decode cX11_image 47 = .ok (.getfield 43, 3) := by decide +kernel
theorem dX11_image_50 : decode cX11_image 50 = .ok (.iload_n 1, 1) := by decide +kernel
theorem dX11_image_51 : decode cX11_image 51 = .ok (.new 18, 3) := by decide +kernel
theorem dX11_image_54 : decode cX11_image 54 = .ok (.dup, 1) := by decide +kernel
theorem dX11_image_55 : decode cX11_image 55 = .ok (.invokespecial 20, 3) := by decide +kernel
theorem dX11_image_58 : decode cX11_image 58 = .ok (.aastore, 1) := by decide +kernel
theorem dX11_image_59 : decode cX11_image 59 = .ok (.aload_n 0, 1) := by decide +kernel
theorem dX11_image_60 : decode cX11_image 60 = .ok (.getfield 39, 3) := by decide +kernel
theorem dX11_image_63 : decode cX11_image 63 = .ok (.iload_n 1, 1) := by decide +kernel
theorem dX11_image_64 : decode cX11_image 64 = .ok (.aaload, 1) := by decide +kernel
theorem dX11_image_65 : decode cX11_image 65 = .ok (.aload_n 0, 1) := by decide +kernel
theorem dX11_image_66 : decode cX11_image 66 = .ok (.getfield 14, 3) := by decide +kernel
theorem dX11_image_69 : decode cX11_image 69 = .ok (.invokevirtual 309, 3) := by decide +kernel
theorem dX11_image_72 : decode cX11_image 72 = .ok (.aload_n 0, 1) := by decide +kernel
theorem dX11_image_73 : decode cX11_image 73 = .ok (.getfield 43, 3) := by decide +kernel
theorem dX11_image_76 : decode cX11_image 76 = .ok (.iload_n 1, 1) := by decide +kernel
theorem dX11_image_77 : decode cX11_image 77 = .ok (.aaload, 1) := by decide +kernel
theorem dX11_image_78 : decode cX11_image 78 = .ok (.aload_n 0, 1) := by decide +kernel
theorem dX11_image_79 : decode cX11_image 79 = .ok (.getfield 21, 3) := by decide +kernel
theorem dX11_image_82 : decode cX11_image 82 = .ok (.invokevirtual 313, 3) := by decide +kernel
theorem dX11_image_85 : decode cX11_image 85 = .ok (.aload_n 0, 1) := by decide +kernel
theorem dX11_image_86 : decode cX11_image 86 = .ok (.iconst 0, 1) := by decide +kernel
theorem dX11_image_87 : decode cX11_image 87 = .ok (.invokevirtual 209, 3) := by decide +kernel
theorem dX11_image_90 : decode cX11_image 90 = .ok (.ireturn, 1) := by decide +kernel
theorem dX11_back_0 : decode cX11_back 0 = .ok (.iload_n 1, 1) := by decide +kernel
theorem dX11_back_1 : decode cX11_back 1 = .ok (.ifCond .lt 8, 3) := by decide +kernel
theorem dX11_back_4 : decode cX11_back 4 = .ok (.iload_n 1, 1) := by decide +kernel
theorem dX11_back_5 : decode cX11_back 5 = .ok (.iconst 2, 1) := by decide +kernel
theorem dX11_back_6 : decode cX11_back 6 = .ok (.if_icmp .lt 9, 3) := by decide +kernel
theorem dX11_back_9 : decode cX11_back 9 = .ok (.aload_n 0, 1) := by decide +kernel
theorem dX11_back_10 : decode cX11_back 10 = .ok (.iconst (-1), 1) := by decide +kernel
theorem dX11_back_11 : decode cX11_back 11 = .ok (.invokevirtual 116, 3) := by decide +kernel
theorem dX11_back_14 : decode cX11_back 14 = .ok (.ireturn, 1) := by decide +kernel
theorem dX11_back_15 : decode cX11_back 15 = .ok (.aload_n 0, 1) := by decide +kernel
theorem dX11_back_16 : decode cX11_back 16 = .ok (.getfield 39, 3) := by decide +kernel
theorem dX11_back_19 : decode cX11_back 19 = .ok (.iload_n 1, 1) := by decide +kernel
theorem dX11_back_20 : decode cX11_back 20 = .ok (.aaload, 1) := by decide +kernel
theorem dX11_back_21 : decode cX11_back 21 = .ok (.ifnull 12, 3) := by decide +kernel
theorem dX11_back_24 : decode cX11_back 24 = .ok (.aload_n 0, 1) := by decide +kernel
theorem dX11_back_25 : decode cX11_back 25 = .ok (.getfield 43, 3) := by decide +kernel
theorem dX11_back_28 : decode cX11_back 28 = .ok (.iload_n 1, 1) := by decide +kernel
theorem dX11_back_29 : decode cX11_back 29 = .ok (.aaload, 1) := by decide +kernel
theorem dX11_back_30 : decode cX11_back 30 = .ok (.ifnonnull 10, 3) := by decide +kernel
theorem dX11_back_33 : decode cX11_back 33 = .ok (.aload_n 0, 1) := by decide +kernel
theorem dX11_back_34 : decode cX11_back 34 = .ok (.bipush (-2), 2) := by decide +kernel
theorem dX11_back_36 : decode cX11_back 36 = .ok (.invokevirtual 116, 3) := by decide +kernel
theorem dX11_back_39 : decode cX11_back 39 = .ok (.ireturn, 1) := by decide +kernel
theorem dX11_back_40 : decode cX11_back 40 = .ok (.aload_n 0, 1) := by decide +kernel
theorem dX11_back_41 : decode cX11_back 41 = .ok (.getfield 14, 3) := by decide +kernel
theorem dX11_back_44 : decode cX11_back 44 = .ok (.aload_n 0, 1) := by decide +kernel
theorem dX11_back_45 : decode cX11_back 45 = .ok (.getfield 39, 3) := by decide +kernel
theorem dX11_back_48 : decode cX11_back 48 = .ok (.iload_n 1, 1) := by decide +kernel
theorem dX11_back_49 : decode cX11_back 49 = .ok (.aaload, 1) := by decide +kernel
theorem dX11_back_50 : decode cX11_back 50 = .ok (.invokevirtual 309, 3) := by decide +kernel
theorem dX11_back_53 : decode cX11_back 53 = .ok (.aload_n 0, 1) := by decide +kernel
theorem dX11_back_54 : decode cX11_back 54 = .ok (.getfield 21, 3) := by decide +kernel
theorem dX11_back_57 : decode cX11_back 57 = .ok (.aload_n 0, 1) := by decide +kernel
theorem dX11_back_58 : decode cX11_back 58 = .ok (.getfield 43, 3) := by decide +kernel
theorem dX11_back_61 : decode cX11_back 61 = .ok (.iload_n 1, 1) := by decide +kernel
theorem dX11_back_62 : decode cX11_back 62 = .ok (.aaload, 1) := by decide +kernel
theorem dX11_back_63 : decode cX11_back 63 = .ok (.invokevirtual 313, 3) := by decide +kernel
theorem dX11_back_66 : decode cX11_back 66 = .ok (.aload_n 0, 1) := by decide +kernel
theorem dX11_back_67 : decode cX11_back 67 = .ok (.iconst 0, 1) := by decide +kernel
theorem dX11_back_68 : decode cX11_back 68 = .ok (.invokevirtual 123, 3) := by decide +kernel
theorem dX11_back_71 : decode cX11_back 71 = .ok (.ireturn, 1) := by decide +kernel
theorem dX11_count_0 : decode cX11_count 0 = .ok (.iload_n 1, 1) := by decide +kernel
theorem dX11_count_1 : decode cX11_count 1 = .ok (.ifCond .lt 9, 3) := by decide +kernel
theorem dX11_count_4 : decode cX11_count 4 = .ok (.iload_n 1, 1) := by decide +kernel
theorem dX11_count_5 : decode cX11_count 5 = .ok (.bipush 19, 2) := by decide +kernel
theorem dX11_count_7 : decode cX11_count 7 = .ok (.if_icmp .le 5, 3) := by decide +kernel
theorem dX11_count_10 : decode cX11_count 10 = .ok (.iconst (-1), 1) := by decide +kernel
theorem dX11_count_11 : decode cX11_count 11 = .ok (.ireturn, 1) := by decide +kernel
theorem dX11_count_12 : decode cX11_count 12 = .ok (.iload_n 1, 1) := by decide +kernel
theorem dX11_count_13 : decode cX11_count 13 = .ok (.iconst 3, 1) := by decide +kernel
theorem dX11_count_14 : decode cX11_count 14 = .ok (.if_icmp .gt 16, 3) := by decide +kernel
theorem dX11_count_17 : decode cX11_count 17 = .ok (.aload_n 0, 1) := by decide +kernel
theorem dX11_count_18 : decode cX11_count 18 = .ok (.getfield 14, 3) := by decide +kernel
theorem dX11_count_21 : decode cX11_count 21 = .ok (.getfield 120, 3) := by decide +kernel
theorem dX11_count_24 : decode cX11_count 24 = .ok (.bipush 23, 2) := by decide +kernel
theorem dX11_count_26 : decode cX11_count 26 = .ok (.iload_n 1, 1) := by decide +kernel
theorem dX11_count_27 : decode cX11_count 27 = .ok (.iadd, 1) := by decide +kernel
theorem dX11_count_28 : decode cX11_count 28 = .ok (.iaload, 1) := by decide +kernel
theorem dX11_count_29 : decode cX11_count 29 = .ok (.ireturn, 1) := by decide +kernel
theorem dX11_count_30 : decode cX11_count 30 = .ok (.iload_n 1, 1) := by decide +kernel
theorem dX11_count_31 : decode cX11_count 31 = .ok (.bipush 18, 2) := by decide +kernel
theorem dX11_count_33 : decode cX11_count 33 = .ok (.if_icmp .lt 19, 3) := by decide +kernel
theorem dX11_count_36 : decode cX11_count 36 = .ok (.aload_n 0, 1) := by decide +kernel
theorem dX11_count_37 : decode cX11_count 37 = .ok (.getfield 14, 3) := by decide +kernel
theorem dX11_count_40 : decode cX11_count 40 = .ok (.getfield 120, 3) := by decide +kernel
theorem dX11_count_43 : decode cX11_count 43 = .ok (.bipush 21, 2) := by decide +kernel
theorem dX11_count_45 : decode cX11_count 45 = .ok (.iload_n 1, 1) := by decide +kernel
theorem dX11_count_46 : decode cX11_count 46 = .ok (.iadd, 1) := by decide +kernel
theorem dX11_count_47 : decode cX11_count 47 = .ok (.bipush 18, 2) := by decide +kernel
theorem dX11_count_49 : decode cX11_count 49 = .ok (.isub, 1) := by decide +kernel
theorem dX11_count_50 : decode cX11_count 50 = .ok (.iaload, 1) := by decide +kernel
theorem dX11_count_51 : decode cX11_count 51 = .ok (.ireturn, 1) := by decide +kernel
theorem dX11_count_52 : decode cX11_count 52 = .ok (.iload_n 1, 1) := by decide +kernel
theorem dX11_count_53 : decode cX11_count 53 = .ok (.bipush 13, 2) := by decide +kernel
theorem dX11_count_55 : decode cX11_count 55 = .ok (.if_icmp .lt 19, 3) := by decide +kernel
theorem dX11_count_58 : decode cX11_count 58 = .ok (.aload_n 0, 1) := by decide +kernel
theorem dX11_count_59 : decode cX11_count 59 = .ok (.getfield 14, 3) := by decide +kernel
theorem dX11_count_62 : decode cX11_count 62 = .ok (.getfield 120, 3) := by decide +kernel
theorem dX11_count_65 : decode cX11_count 65 = .ok (.bipush 16, 2) := by decide +kernel
theorem dX11_count_67 : decode cX11_count 67 = .ok (.iload_n 1, 1) := by decide +kernel
theorem dX11_count_68 : decode cX11_count 68 = .ok (.iadd, 1) := by decide +kernel
theorem dX11_count_69 : decode cX11_count 69 = .ok (.bipush 13, 2) := by decide +kernel
theorem dX11_count_71 : decode cX11_count 71 = .ok (.isub, 1) := by decide +kernel
theorem dX11_count_72 : decode cX11_count 72 = .ok (.iaload, 1) := by decide +kernel
theorem dX11_count_73 : decode cX11_count 73 = .ok (.ireturn, 1) := by decide +kernel
theorem dX11_count_74 : decode cX11_count 74 = .ok (.iload_n 1, 1) := by decide +kernel
theorem dX11_count_75 : decode cX11_count 75 = .ok (.bipush 7, 2) := by decide +kernel
theorem dX11_count_77 : decode cX11_count 77 = .ok (.if_icmp .lt 19, 3) := by decide +kernel
theorem dX11_count_80 : decode cX11_count 80 = .ok (.iload_n 1, 1) := by decide +kernel
theorem dX11_count_81 : decode cX11_count 81 = .ok (.bipush 11, 2) := by decide +kernel
theorem dX11_count_83 : decode cX11_count 83 = .ok (.if_icmp .gt 13, 3) := by decide +kernel
theorem dX11_count_86 : decode cX11_count 86 = .ok (.aload_n 0, 1) := by decide +kernel
theorem dX11_count_87 : decode cX11_count 87 = .ok (.getfield 47, 3) := by decide +kernel
theorem dX11_count_90 : decode cX11_count 90 = .ok (.iload_n 1, 1) := by decide +kernel
theorem dX11_count_91 : decode cX11_count 91 = .ok (.bipush 7, 2) := by decide +kernel
theorem dX11_count_93 : decode cX11_count 93 = .ok (.isub, 1) := by decide +kernel
theorem dX11_count_94 : decode cX11_count 94 = .ok (.iaload, 1) := by decide +kernel
theorem dX11_count_95 : decode cX11_count 95 = .ok (.ireturn, 1) := by decide +kernel
theorem dX11_count_96 : decode cX11_count 96 = .ok (.iload_n 1, 1) := by decide +kernel
theorem dX11_count_97 : decode cX11_count 97 = .ok (.tableswitch 51 4 6 #[27, 35, 43], 27) := by decide +kernel
theorem dX11_count_124 : decode cX11_count 124 = .ok (.aload_n 0, 1) := by decide +kernel
theorem dX11_count_125 : decode cX11_count 125 = .ok (.getfield 21, 3) := by decide +kernel
theorem dX11_count_128 : decode cX11_count 128 = .ok (.getfield 189, 3) := by decide +kernel
theorem dX11_count_131 : decode cX11_count 131 = .ok (.ireturn, 1) := by decide +kernel
theorem dX11_count_132 : decode cX11_count 132 = .ok (.aload_n 0, 1) := by decide +kernel
theorem dX11_count_133 : decode cX11_count 133 = .ok (.getfield 35, 3) := by decide +kernel
theorem dX11_count_136 : decode cX11_count 136 = .ok (.getfield 243, 3) := by decide +kernel
theorem dX11_count_139 : decode cX11_count 139 = .ok (.ireturn, 1) := by decide +kernel
theorem dX11_count_140 : decode cX11_count 140 = .ok (.aload_n 0, 1) := by decide +kernel
theorem dX11_count_141 : decode cX11_count 141 = .ok (.getfield 28, 3) := by decide +kernel
theorem dX11_count_144 : decode cX11_count 144 = .ok (.getfield 183, 3) := by decide +kernel
theorem dX11_count_147 : decode cX11_count 147 = .ok (.ireturn, 1) := by decide +kernel
theorem dX11_count_148 : decode cX11_count 148 = .ok (.aload_n 0, 1) := by decide +kernel
theorem dX11_count_149 : decode cX11_count 149 = .ok (.getfield 21, 3) := by decide +kernel
theorem dX11_count_152 : decode cX11_count 152 = .ok (.getfield 228, 3) := by decide +kernel
theorem dX11_count_155 : decode cX11_count 155 = .ok (.ireturn, 1) := by decide +kernel
theorem dX11_status_0 : decode cX11_status 0 = .ok (.aload_n 0, 1) := by decide +kernel
theorem dX11_status_1 : decode cX11_status 1 = .ok (.getfield 51, 3) := by decide +kernel
theorem dX11_status_4 : decode cX11_status 4 = .ok (.ireturn, 1) := by decide +kernel
theorem dX11_refuse_0 : decode cX11_refuse 0 = .ok (.aload_n 0, 1) := by decide +kernel
theorem dX11_refuse_1 : decode cX11_refuse 1 = .ok (.iload_n 1, 1) := by decide +kernel
theorem dX11_refuse_2 : decode cX11_refuse 2 = .ok (.putfield 51, 3) := by decide +kernel
theorem dX11_refuse_5 : decode cX11_refuse 5 = .ok (.aload_n 0, 1) := by decide +kernel
theorem dX11_refuse_6 : decode cX11_refuse 6 = .ok (.getfield 47, 3) := by decide +kernel
theorem dX11_refuse_9 : decode cX11_refuse 9 = .ok (.iload_n 1, 1) := by decide +kernel
theorem dX11_refuse_10 : decode cX11_refuse 10 = .ok (.bipush (-4), 2) := by decide +kernel
theorem dX11_refuse_12 : decode cX11_refuse 12 = .ok (.if_icmp .le 9, 3) := by decide +kernel
theorem dX11_refuse_15 : decode cX11_refuse 15 = .ok (.iconst (-1), 1) := by decide +kernel
theorem dX11_refuse_16 : decode cX11_refuse 16 = .ok (.iload_n 1, 1) := by decide +kernel
theorem dX11_refuse_17 : decode cX11_refuse 17 = .ok (.isub, 1) := by decide +kernel
theorem dX11_refuse_18 : decode cX11_refuse 18 = .ok (.goto 7, 3) := by decide +kernel
theorem dX11_refuse_21 : decode cX11_refuse 21 = .ok (.bipush (-2), 2) := by decide +kernel
theorem dX11_refuse_23 : decode cX11_refuse 23 = .ok (.iload_n 1, 1) := by decide +kernel
theorem dX11_refuse_24 : decode cX11_refuse 24 = .ok (.isub, 1) := by decide +kernel
theorem dX11_refuse_25 : decode cX11_refuse 25 = .ok (.dup2, 1) := by decide +kernel
theorem dX11_refuse_26 : decode cX11_refuse 26 = .ok (.iaload, 1) := by decide +kernel
theorem dX11_refuse_27 : decode cX11_refuse 27 = .ok (.iconst 1, 1) := by decide +kernel
theorem dX11_refuse_28 : decode cX11_refuse 28 = .ok (.iadd, 1) := by decide +kernel
theorem dX11_refuse_29 : decode cX11_refuse 29 = .ok (.iastore, 1) := by decide +kernel
theorem dX11_refuse_30 : decode cX11_refuse 30 = .ok (.iload_n 1, 1) := by decide +kernel
theorem dX11_refuse_31 : decode cX11_refuse 31 = .ok (.ireturn, 1) := by decide +kernel
theorem dX11_settle_0 : decode cX11_settle 0 = .ok (.aload_n 0, 1) := by decide +kernel
theorem dX11_settle_1 : decode cX11_settle 1 = .ok (.iconst 0, 1) := by decide +kernel
theorem dX11_settle_2 : decode cX11_settle 2 = .ok (.putfield 51, 3) := by decide +kernel
theorem dX11_settle_5 : decode cX11_settle 5 = .ok (.aload_n 0, 1) := by decide +kernel
theorem dX11_settle_6 : decode cX11_settle 6 = .ok (.getfield 109, 3) := by decide +kernel
theorem dX11_settle_9 : decode cX11_settle 9 = .ok (.invokevirtual 316, 3) := by decide +kernel
theorem dX11_settle_12 : decode cX11_settle 12 = .ok (.iload_n 1, 1) := by decide +kernel
theorem dX11_settle_13 : decode cX11_settle 13 = .ok (.ireturn, 1) := by decide +kernel
theorem dX11_settleAnew_0 : decode cX11_settleAnew 0 = .ok (.aload_n 0, 1) := by decide +kernel
theorem dX11_settleAnew_1 : decode cX11_settleAnew 1 = .ok (.getfield 35, 3) := by decide +kernel
theorem dX11_settleAnew_4 : decode cX11_settleAnew 4 = .ok (.invokevirtual 319, 3) := by decide +kernel
theorem dX11_settleAnew_7 : decode cX11_settleAnew 7 = .ok (.aload_n 0, 1) := by decide +kernel
theorem dX11_settleAnew_8 : decode cX11_settleAnew 8 = .ok (.iload_n 1, 1) := by decide +kernel
theorem dX11_settleAnew_9 : decode cX11_settleAnew 9 = .ok (.invokevirtual 209, 3) := by decide +kernel
theorem dX11_settleAnew_12 : decode cX11_settleAnew 12 = .ok (.ireturn, 1) := by decide +kernel
theorem dX11_settleDeed_0 : decode cX11_settleDeed 0 = .ok (.iload_n 1, 1) := by decide +kernel
theorem dX11_settleDeed_1 : decode cX11_settleDeed 1 = .ok (.ifCond .ge 11, 3) := by decide +kernel
theorem dX11_settleDeed_4 : decode cX11_settleDeed 4 = .ok (.aload_n 0, 1) := by decide +kernel
theorem dX11_settleDeed_5 : decode cX11_settleDeed 5 = .ok (.iload_n 1, 1) := by decide +kernel
theorem dX11_settleDeed_6 : decode cX11_settleDeed 6 = .ok (.invokevirtual 116, 3) := by decide +kernel
theorem dX11_settleDeed_9 : decode cX11_settleDeed 9 = .ok (.goto 8, 3) := by decide +kernel
theorem dX11_settleDeed_12 : decode cX11_settleDeed 12 = .ok (.aload_n 0, 1) := by decide +kernel
theorem dX11_settleDeed_13 : decode cX11_settleDeed 13 = .ok (.iload_n 1, 1) := by decide +kernel
theorem dX11_settleDeed_14 : decode cX11_settleDeed 14 = .ok (.invokevirtual 209, 3) := by decide +kernel
theorem dX11_settleDeed_17 : decode cX11_settleDeed 17 = .ok (.ireturn, 1) := by decide +kernel
theorem dX11_isPlace_0 : decode cX11_isPlace 0 = .ok (.iload_n 0, 1) := by decide +kernel
theorem dX11_isPlace_1 : decode cX11_isPlace 1 = .ok (.ifCond .lt 32, 3) := by decide +kernel
theorem dX11_isPlace_4 : decode cX11_isPlace 4 = .ok (.iload_n 0, 1) := by decide +kernel
theorem dX11_isPlace_5 : decode cX11_isPlace 5 = .ok (.iconst 3, 1) := by decide +kernel
theorem dX11_isPlace_6 : decode cX11_isPlace 6 = .ok (.if_icmp .gt 27, 3) := by decide +kernel
theorem dX11_isPlace_9 : decode cX11_isPlace 9 = .ok (.iload_n 1, 1) := by decide +kernel
theorem dX11_isPlace_10 : decode cX11_isPlace 10 = .ok (.ifCond .lt 23, 3) := by decide +kernel
theorem dX11_isPlace_13 : decode cX11_isPlace 13 = .ok (.iload_n 1, 1) := by decide +kernel
theorem dX11_isPlace_14 : decode cX11_isPlace 14 = .ok (.bipush 99, 2) := by decide +kernel
theorem dX11_isPlace_16 : decode cX11_isPlace 16 = .ok (.if_icmp .gt 17, 3) := by decide +kernel
theorem dX11_isPlace_19 : decode cX11_isPlace 19 = .ok (.iload_n 2, 1) := by decide +kernel
theorem dX11_isPlace_20 : decode cX11_isPlace 20 = .ok (.ifCond .lt 13, 3) := by decide +kernel
theorem dX11_isPlace_23 : decode cX11_isPlace 23 = .ok (.iload_n 2, 1) := by decide +kernel
theorem dX11_isPlace_24 : decode cX11_isPlace 24 = .ok (.bipush 20, 2) := by decide +kernel
theorem dX11_isPlace_26 : decode cX11_isPlace 26 = .ok (.if_icmp .gt 7, 3) := by decide +kernel
theorem dX11_isPlace_29 : decode cX11_isPlace 29 = .ok (.iconst 1, 1) := by decide +kernel
theorem dX11_isPlace_30 : decode cX11_isPlace 30 = .ok (.goto 4, 3) := by decide +kernel
theorem dX11_isPlace_33 : decode cX11_isPlace 33 = .ok (.iconst 0, 1) := by decide +kernel
theorem dX11_isPlace_34 : decode cX11_isPlace 34 = .ok (.ireturn, 1) := by decide +kernel
theorem dX11_canBeWeighed_0 : decode cX11_canBeWeighed 0 = .ok (.iload_n 0, 1) := by decide +kernel
theorem dX11_canBeWeighed_1 : decode cX11_canBeWeighed 1 = .ok (.ifCond .lt 24, 3) := by decide +kernel
theorem dX11_canBeWeighed_4 : decode cX11_canBeWeighed 4 = .ok (.iload_n 0, 1) := by decide +kernel
theorem dX11_canBeWeighed_5 : decode cX11_canBeWeighed 5 = .ok (.sipush 999, 3) := by decide +kernel
theorem dX11_canBeWeighed_8 : decode cX11_canBeWeighed 8 = .ok (.if_icmp .gt 17, 3) := by decide +kernel
theorem dX11_canBeWeighed_11 : decode cX11_canBeWeighed 11 = .ok (.iload_n 1, 1) := by decide +kernel
theorem dX11_canBeWeighed_12 : decode cX11_canBeWeighed 12 = .ok (.ifCond .lt 13, 3) := by decide +kernel
theorem dX11_canBeWeighed_15 : decode cX11_canBeWeighed 15 = .ok (.iload_n 1, 1) := by decide +kernel
theorem dX11_canBeWeighed_16 : decode cX11_canBeWeighed 16 = .ok (.bipush 99, 2) := by decide +kernel
theorem dX11_canBeWeighed_18 : decode cX11_canBeWeighed 18 = .ok (.if_icmp .gt 7, 3) := by decide +kernel
theorem dX11_canBeWeighed_21 : decode cX11_canBeWeighed 21 = .ok (.iconst 1, 1) := by decide +kernel
theorem dX11_canBeWeighed_22 : decode cX11_canBeWeighed 22 = .ok (.goto 4, 3) := by decide +kernel
theorem dX11_canBeWeighed_25 : decode cX11_canBeWeighed 25 = .ok (.iconst 0, 1) := by decide +kernel
theorem dX11_canBeWeighed_26 : decode cX11_canBeWeighed 26 = .ok (.ireturn, 1) := by decide +kernel
theorem dX11_placeFromTape_0 : decode cX11_placeFromTape 0 = .ok (.iload_n 1, 1) := by decide +kernel
theorem dX11_placeFromTape_1 : decode cX11_placeFromTape 1 = .ok (.iconst 3, 1) := by decide +kernel
theorem dX11_placeFromTape_2 : decode cX11_placeFromTape 2 = .ok (.iadd, 1) := by decide +kernel
theorem dX11_placeFromTape_3 : decode cX11_placeFromTape 3 = .ok (.aload_n 0, 1) := by decide +kernel
theorem dX11_placeFromTape_4 : decode cX11_placeFromTape 4 = .ok (.getfield 28, 3) := by decide +kernel
theorem dX11_placeFromTape_7 : decode cX11_placeFromTape 7 = .ok (.getfield 183, 3) := by decide +kernel
theorem dX11_placeFromTape_10 : decode cX11_placeFromTape 10 = .ok (.if_icmp .gt 18, 3) := by decide +kernel
theorem dX11_placeFromTape_13 : decode cX11_placeFromTape 13 = .ok (.aload_n 0, 1) := by decide +kernel
theorem dX11_placeFromTape_14 : decode cX11_placeFromTape 14 = .ok (.getfield 14, 3) := by decide +kernel
theorem dX11_placeFromTape_17 : decode cX11_placeFromTape 17 = .ok (.getfield 120, 3) := by decide +kernel
theorem dX11_placeFromTape_20 : decode cX11_placeFromTape 20 = .ok (.bipush 23, 2) := by decide +kernel
theorem dX11_placeFromTape_22 : decode cX11_placeFromTape 22 = .ok (.iaload, 1) := by decide +kernel
theorem dX11_placeFromTape_23 : decode cX11_placeFromTape 23 = .ok (.bipush 12, 2) := by decide +kernel
theorem dX11_placeFromTape_25 : decode cX11_placeFromTape 25 = .ok (.if_icmp .lt 5, 3) := by decide +kernel
theorem dX11_placeFromTape_28 : decode cX11_placeFromTape 28 = .ok (.iconst 0, 1) := by decide +kernel
theorem dX11_placeFromTape_29 : decode cX11_placeFromTape 29 = .ok (.ireturn, 1) := by decide +kernel
theorem dX11_placeFromTape_30 : decode cX11_placeFromTape 30 = .ok (.aload_n 0, 1) := by decide +kernel
theorem dX11_placeFromTape_31 : decode cX11_placeFromTape 31 = .ok (.getfield 28, 3) := by decide +kernel
theorem dX11_placeFromTape_34 : decode cX11_placeFromTape 34 = .ok (.getfield 322, 3) := by decide +kernel
theorem dX11_placeFromTape_37 : decode cX11_placeFromTape 37 = .ok (.iload_n 1, 1) := by decide +kernel
theorem dX11_placeFromTape_38 : decode cX11_placeFromTape 38 = .ok (.iaload, 1) := by decide +kernel
theorem dX11_placeFromTape_39 : decode cX11_placeFromTape 39 = .ok (.istore_n 2, 1) := by decide +kernel
theorem dX11_placeFromTape_40 : decode cX11_placeFromTape 40 = .ok (.aload_n 0, 1) := by decide +kernel
theorem dX11_placeFromTape_41 : decode cX11_placeFromTape 41 = .ok (.getfield 28, 3) := by decide +kernel
theorem dX11_placeFromTape_44 : decode cX11_placeFromTape 44 = .ok (.getfield 322, 3) := by decide +kernel
theorem dX11_placeFromTape_47 : decode cX11_placeFromTape 47 = .ok (.iload_n 1, 1) := by decide +kernel
theorem dX11_placeFromTape_48 : decode cX11_placeFromTape 48 = .ok (.iconst 1, 1) := by decide +kernel
theorem dX11_placeFromTape_49 : decode cX11_placeFromTape 49 = .ok (.iadd, 1) := by decide +kernel
theorem dX11_placeFromTape_50 : decode cX11_placeFromTape 50 = .ok (.iaload, 1) := by decide +kernel
theorem dX11_placeFromTape_51 : decode cX11_placeFromTape 51 = .ok (.istore_n 3, 1) := by decide +kernel
theorem dX11_placeFromTape_52 : decode cX11_placeFromTape 52 = .ok (.aload_n 0, 1) := by decide +kernel
theorem dX11_placeFromTape_53 : decode cX11_placeFromTape 53 = .ok (.getfield 28, 3) := by decide +kernel
theorem dX11_placeFromTape_56 : decode cX11_placeFromTape 56 = .ok (.getfield 322, 3) := by decide +kernel
theorem dX11_placeFromTape_59 : decode cX11_placeFromTape 59 = .ok (.iload_n 1, 1) := by decide +kernel
theorem dX11_placeFromTape_60 : decode cX11_placeFromTape 60 = .ok (.iconst 2, 1) := by decide +kernel
theorem dX11_placeFromTape_61 : decode cX11_placeFromTape 61 = .ok (.iadd, 1) := by decide +kernel
theorem dX11_placeFromTape_62 : decode cX11_placeFromTape 62 = .ok (.iaload, 1) := by decide +kernel
theorem dX11_placeFromTape_63 : decode cX11_placeFromTape 63 = .ok (.istore 4, 2) := by decide +kernel
theorem dX11_placeFromTape_65 : decode cX11_placeFromTape 65 = .ok (.iload_n 2, 1) := by decide +kernel
theorem dX11_placeFromTape_66 : decode cX11_placeFromTape 66 = .ok (.iload_n 3, 1) := by decide +kernel
theorem dX11_placeFromTape_67 : decode cX11_placeFromTape 67 = .ok (.iload 4, 2) := by decide +kernel
theorem dX11_placeFromTape_69 : decode cX11_placeFromTape 69 = .ok (.invokestatic 133, 3) := by decide +kernel
theorem dX11_placeFromTape_72 : decode cX11_placeFromTape 72 = .ok (.ifCond .ne 5, 3) := by decide +kernel
theorem dX11_placeFromTape_75 : decode cX11_placeFromTape 75 = .ok (.iconst 0, 1) := by decide +kernel
theorem dX11_placeFromTape_76 : decode cX11_placeFromTape 76 = .ok (.ireturn, 1) := by decide +kernel
theorem dX11_placeFromTape_77 : decode cX11_placeFromTape 77 = .ok (.aload_n 0, 1) := by decide +kernel
theorem dX11_placeFromTape_78 : decode cX11_placeFromTape 78 = .ok (.getfield 14, 3) := by decide +kernel
theorem dX11_placeFromTape_81 : decode cX11_placeFromTape 81 = .ok (.iload_n 2, 1) := by decide +kernel
theorem dX11_placeFromTape_82 : decode cX11_placeFromTape 82 = .ok (.iload_n 3, 1) := by decide +kernel
theorem dX11_placeFromTape_83 : decode cX11_placeFromTape 83 = .ok (.iload 4, 2) := by decide +kernel
theorem dX11_placeFromTape_85 : decode cX11_placeFromTape 85 = .ok (.invokevirtual 137, 3) := by decide +kernel
theorem dX11_placeFromTape_88 : decode cX11_placeFromTape 88 = .ok (.pop, 1) := by decide +kernel
theorem dX11_placeFromTape_89 : decode cX11_placeFromTape 89 = .ok (.iconst 1, 1) := by decide +kernel
theorem dX11_placeFromTape_90 : decode cX11_placeFromTape 90 = .ok (.ireturn, 1) := by decide +kernel
theorem dX11_commonDivisor_0 : decode cX11_commonDivisor 0 = .ok (.iload_n 1, 1) := by decide +kernel
theorem dX11_commonDivisor_1 : decode cX11_commonDivisor 1 = .ok (.istore_n 2, 1) := by decide +kernel
theorem dX11_commonDivisor_2 : decode cX11_commonDivisor 2 = .ok (.iload_n 0, 1) := by decide +kernel
theorem dX11_commonDivisor_3 : decode cX11_commonDivisor 3 = .ok (.istore_n 3, 1) := by decide +kernel
theorem dX11_commonDivisor_4 : decode cX11_commonDivisor 4 = .ok (.iconst 0, 1) := by decide +kernel
theorem dX11_commonDivisor_5 : decode cX11_commonDivisor 5 = .ok (.istore 4, 2) := by decide +kernel
theorem dX11_commonDivisor_7 : decode cX11_commonDivisor 7 = .ok (.iload 4, 2) := by decide +kernel
theorem dX11_commonDivisor_9 : decode cX11_commonDivisor 9 = .ok (.bipush 64, 2) := by decide +kernel
theorem dX11_commonDivisor_11 : decode cX11_commonDivisor 11 = .ok (.if_icmp .ge 23, 3) := by decide +kernel
theorem dX11_commonDivisor_14 : decode cX11_commonDivisor 14 = .ok (.iload_n 3, 1) := by decide +kernel
theorem dX11_commonDivisor_15 : decode cX11_commonDivisor 15 = .ok (.ifCond .eq 19, 3) := by decide +kernel
theorem dX11_commonDivisor_18 : decode cX11_commonDivisor 18 = .ok (.iload_n 2, 1) := by decide +kernel
theorem dX11_commonDivisor_19 : decode cX11_commonDivisor 19 = .ok (.iload_n 3, 1) := by decide +kernel
theorem dX11_commonDivisor_20 : decode cX11_commonDivisor 20 = .ok (.irem, 1) := by decide +kernel
theorem dX11_commonDivisor_21 : decode cX11_commonDivisor 21 = .ok (.istore 5, 2) := by decide +kernel
theorem dX11_commonDivisor_23 : decode cX11_commonDivisor 23 = .ok (.iload_n 3, 1) := by decide +kernel
theorem dX11_commonDivisor_24 : decode cX11_commonDivisor 24 = .ok (.istore_n 2, 1) := by decide +kernel
theorem dX11_commonDivisor_25 : decode cX11_commonDivisor 25 = .ok (.iload 5, 2) := by decide +kernel
theorem dX11_commonDivisor_27 : decode cX11_commonDivisor 27 = .ok (.istore_n 3, 1) := by decide +kernel
theorem dX11_commonDivisor_28 : decode cX11_commonDivisor 28 = .ok (.iinc 4 1, 3) := by decide +kernel
theorem dX11_commonDivisor_31 : decode cX11_commonDivisor 31 = .ok (.goto (-24), 3) := by decide +kernel
theorem dX11_commonDivisor_34 : decode cX11_commonDivisor 34 = .ok (.iload_n 2, 1) := by decide +kernel
theorem dX11_commonDivisor_35 : decode cX11_commonDivisor 35 = .ok (.ireturn, 1) := by decide +kernel
theorem dX12_init_0 : decode cX12_init 0 = .ok (.aload_n 0, 1) := by decide +kernel
theorem dX12_init_1 : decode cX12_init 1 = .ok (.invokespecial 1, 3) := by decide +kernel
theorem dX12_init_4 : decode cX12_init 4 = .ok (.aload_n 0, 1) := by decide +kernel
theorem dX12_init_5 : decode cX12_init 5 = .ok (.bipush 7, 2) := by decide +kernel
theorem dX12_init_7 : decode cX12_init 7 = .ok (.newarray .int, 2) := by decide +kernel
theorem dX12_init_9 : decode cX12_init 9 = .ok (.putfield 7, 3) := by decide +kernel
theorem dX12_init_12 : decode cX12_init 12 = .ok (.aload_n 0, 1) := by decide +kernel
theorem dX12_init_13 : decode cX12_init 13 = .ok (.sipush 5550, 3) := by decide +kernel
theorem dX12_init_16 : decode cX12_init 16 = .ok (.newarray .int, 2) := by decide +kernel
theorem dX12_init_18 : decode cX12_init 18 = .ok (.putfield 13, 3) := by decide +kernel
theorem dX12_init_21 : decode cX12_init 21 = .ok (.aload_n 0, 1) := by decide +kernel
theorem dX12_init_22 : decode cX12_init 22 = .ok (.sipush 11100, 3) := by decide +kernel
theorem dX12_init_25 : decode cX12_init 25 = .ok (.newarray .int, 2) := by decide +kernel
theorem dX12_init_27 : decode cX12_init 27 = .ok (.putfield 16, 3) := by decide +kernel
theorem dX12_init_30 : decode cX12_init 30 = .ok (.aload_n 0, 1) := by decide +kernel
theorem dX12_init_31 : decode cX12_init 31 = .ok (.iconst 2, 1) := by decide +kernel
theorem dX12_init_32 : decode cX12_init 32 = .ok (.newarray .boolean, 2) := by decide +kernel
theorem dX12_init_34 : decode cX12_init 34 = .ok (.putfield 19, 3) := by decide +kernel
theorem dX12_init_37 : decode cX12_init 37 = .ok (.aload_n 0, 1) := by decide +kernel
theorem dX12_init_38 : decode cX12_init 38 = .ok (.sipush 3150, 3) := by decide +kernel
theorem dX12_init_41 : decode cX12_init 41 = .ok (.newarray .int, 2) := by decide +kernel
theorem dX12_init_43 : decode cX12_init 43 = .ok (.putfield 23, 3) := by decide +kernel
theorem dX12_init_46 : decode cX12_init 46 = .ok (.aload_n 0, 1) := by decide +kernel
theorem dX12_init_47 : decode cX12_init 47 = .ok (.bipush 16, 2) := by decide +kernel
theorem dX12_init_49 : decode cX12_init 49 = .ok (.newarray .int, 2) := by decide +kernel
theorem dX12_init_51 : decode cX12_init 51 = .ok (.putfield 26, 3) := by decide +kernel
theorem dX12_init_54 : decode cX12_init 54 = .ok (.aload_n 0, 1) := by decide +kernel
theorem dX12_init_55 : decode cX12_init 55 = .ok (.sipush 2400, 3) := by decide +kernel
theorem dX12_init_58 : decode cX12_init 58 = .ok (.newarray .int, 2) := by decide +kernel
theorem dX12_init_60 : decode cX12_init 60 = .ok (.putfield 29, 3) := by decide +kernel
theorem dX12_init_63 : decode cX12_init 63 = .ok (.aload_n 0, 1) := by decide +kernel
theorem dX12_init_64 : decode cX12_init 64 = .ok (.bipush 16, 2) := by decide +kernel
theorem dX12_init_66 : decode cX12_init 66 = .ok (.newarray .int, 2) := by decide +kernel
theorem dX12_init_68 : decode cX12_init 68 = .ok (.putfield 32, 3) := by decide +kernel
theorem dX12_init_71 : decode cX12_init 71 = .ok (.aload_n 0, 1) := by decide +kernel
theorem dX12_init_72 : decode cX12_init 72 = .ok (.sipush 400, 3) := by decide +kernel
theorem dX12_init_75 : decode cX12_init 75 = .ok (.newarray .int, 2) := by decide +kernel
theorem dX12_init_77 : decode cX12_init 77 = .ok (.putfield 35, 3) := by decide +kernel
theorem dX12_init_80 : decode cX12_init 80 = .ok (.aload_n 0, 1) := by decide +kernel
theorem dX12_init_81 : decode cX12_init 81 = .ok (.iconst (-1), 1) := by decide +kernel
theorem dX12_init_82 : decode cX12_init 82 = .ok (.putfield 38, 3) := by decide +kernel
theorem dX12_init_85 : decode cX12_init 85 = .ok (.aload_n 0, 1) := by decide +kernel
theorem dX12_init_86 : decode cX12_init 86 = .ok (.bipush 96, 2) := by decide +kernel
theorem dX12_init_88 : decode cX12_init 88 = .ok (.newarray .int, 2) := by decide +kernel
theorem dX12_init_90 : decode cX12_init 90 = .ok (.putfield 42, 3) := by decide +kernel
theorem dX12_init_93 : decode cX12_init 93 = .ok (.aload_n 0, 1) := by decide +kernel
theorem dX12_init_94 : decode cX12_init 94 = .ok (.sipush 400, 3) := by decide +kernel
theorem dX12_init_97 : decode cX12_init 97 = .ok (.newarray .int, 2) := by decide +kernel
theorem dX12_init_99 : decode cX12_init 99 = .ok (.putfield 45, 3) := by decide +kernel
theorem dX12_init_102 : decode cX12_init 102 = .ok (.aload_n 0, 1) := by decide +kernel
theorem dX12_init_103 : decode cX12_init 103 = .ok (.sipush 400, 3) := by decide +kernel
theorem dX12_init_106 : decode cX12_init 106 = .ok (.newarray .int, 2) := by decide +kernel
theorem dX12_init_108 : decode cX12_init 108 = .ok (.putfield 48, 3) := by decide +kernel
theorem dX12_init_111 : decode cX12_init 111 = .ok (.aload_n 0, 1) := by decide +kernel
theorem dX12_init_112 : decode cX12_init 112 = .ok (.sipush 400, 3) := by decide +kernel
theorem dX12_init_115 : decode cX12_init 115 = .ok (.newarray .int, 2) := by decide +kernel
theorem dX12_init_117 : decode cX12_init 117 = .ok (.putfield 51, 3) := by decide +kernel
theorem dX12_init_120 : decode cX12_init 120 = .ok (.aload_n 0, 1) := by decide +kernel
theorem dX12_init_121 : decode cX12_init 121 = .ok (.sipush 400, 3) := by decide +kernel
theorem dX12_init_124 : decode cX12_init 124 = .ok (.newarray .int, 2) := by decide +kernel
theorem dX12_init_126 : decode cX12_init 126 = .ok (.putfield 54, 3) := by decide +kernel
theorem dX12_init_129 : decode cX12_init 129 = .ok (.aload_n 0, 1) := by decide +kernel
theorem dX12_init_130 : decode cX12_init 130 = .ok (.bipush 11, 2) := by decide +kernel
theorem dX12_init_132 : decode cX12_init 132 = .ok (.newarray .long, 2) := by decide +kernel
theorem dX12_init_134 : decode cX12_init 134 = .ok (.dup, 1) := by decide +kernel
theorem dX12_init_135 : decode cX12_init 135 = .ok (.iconst 0, 1) := by decide +kernel
theorem dX12_init_136 : decode cX12_init 136 = .ok (.ldc2_w 57, 3) := by decide +kernel
theorem dX12_init_139 : decode cX12_init 139 = .ok (.lastore, 1) := by decide +kernel
theorem dX12_init_140 : decode cX12_init 140 = .ok (.dup, 1) := by decide +kernel
theorem dX12_init_141 : decode cX12_init 141 = .ok (.iconst 1, 1) := by decide +kernel
theorem dX12_init_142 : decode cX12_init 142 = .ok (.ldc2_w 59, 3) := by decide +kernel
theorem dX12_init_145 : decode cX12_init 145 = .ok (.lastore, 1) := by decide +kernel
theorem dX12_init_146 : decode cX12_init 146 = .ok (.dup, 1) := by decide +kernel
theorem dX12_init_147 : decode cX12_init 147 = .ok (.iconst 2, 1) := by decide +kernel
theorem dX12_init_148 : decode cX12_init 148 = .ok (.ldc2_w 61, 3) := by decide +kernel
theorem dX12_init_151 : decode cX12_init 151 = .ok (.lastore, 1) := by decide +kernel
theorem dX12_init_152 : decode cX12_init 152 = .ok (.dup, 1) := by decide +kernel
theorem dX12_init_153 : decode cX12_init 153 = .ok (.iconst 3, 1) := by decide +kernel
theorem dX12_init_154 : decode cX12_init 154 = .ok (.ldc2_w 63, 3) := by decide +kernel
theorem dX12_init_157 : decode cX12_init 157 = .ok (.lastore, 1) := by decide +kernel
theorem dX12_init_158 : decode cX12_init 158 = .ok (.dup, 1) := by decide +kernel
theorem dX12_init_159 : decode cX12_init 159 = .ok (.iconst 4, 1) := by decide +kernel
theorem dX12_init_160 : decode cX12_init 160 = .ok (.ldc2_w 65, 3) := by decide +kernel
theorem dX12_init_163 : decode cX12_init 163 = .ok (.lastore, 1) := by decide +kernel
theorem dX12_init_164 : decode cX12_init 164 = .ok (.dup, 1) := by decide +kernel
theorem dX12_init_165 : decode cX12_init 165 = .ok (.iconst 5, 1) := by decide +kernel
theorem dX12_init_166 : decode cX12_init 166 = .ok (.ldc2_w 67, 3) := by decide +kernel
theorem dX12_init_169 : decode cX12_init 169 = .ok (.lastore, 1) := by decide +kernel
theorem dX12_init_170 : decode cX12_init 170 = .ok (.dup, 1) := by decide +kernel
theorem dX12_init_171 : decode cX12_init 171 = .ok (.bipush 6, 2) := by decide +kernel
theorem dX12_init_173 : decode cX12_init 173 = .ok (.ldc2_w 69, 3) := by decide +kernel
theorem dX12_init_176 : decode cX12_init 176 = .ok (.lastore, 1) := by decide +kernel
theorem dX12_init_177 : decode cX12_init 177 = .ok (.dup, 1) := by decide +kernel
theorem dX12_init_178 : decode cX12_init 178 = .ok (.bipush 7, 2) := by decide +kernel
theorem dX12_init_180 : decode cX12_init 180 = .ok (.ldc2_w 71, 3) := by decide +kernel
theorem dX12_init_183 : decode cX12_init 183 = .ok (.lastore, 1) := by decide +kernel
theorem dX12_init_184 : decode cX12_init 184 = .ok (.dup, 1) := by decide +kernel
theorem dX12_init_185 : decode cX12_init 185 = .ok (.bipush 8, 2) := by decide +kernel
theorem dX12_init_187 : decode cX12_init 187 = .ok (.ldc2_w 73, 3) := by decide +kernel
theorem dX12_init_190 : decode cX12_init 190 = .ok (.lastore, 1) := by decide +kernel
theorem dX12_init_191 : decode cX12_init 191 = .ok (.dup, 1) := by decide +kernel
theorem dX12_init_192 : decode cX12_init 192 = .ok (.bipush 9, 2) := by decide +kernel
theorem dX12_init_194 : decode cX12_init 194 = .ok (.ldc2_w 75, 3) := by decide +kernel
theorem dX12_init_197 : decode cX12_init 197 = .ok (.lastore, 1) := by decide +kernel
theorem dX12_init_198 : decode cX12_init 198 = .ok (.dup, 1) := by decide +kernel
theorem dX12_init_199 : decode cX12_init 199 = .ok (.bipush 10, 2) := by decide +kernel
theorem dX12_init_201 : decode cX12_init 201 = .ok (.ldc2_w 77, 3) := by decide +kernel
theorem dX12_init_204 : decode cX12_init 204 = .ok (.lastore, 1) := by decide +kernel
theorem dX12_init_205 : decode cX12_init 205 = .ok (.putfield 79, 3) := by decide +kernel
theorem dX12_init_208 : decode cX12_init 208 = .ok (.aload_n 0, 1) := by decide +kernel
theorem dX12_init_209 : decode cX12_init 209 = .ok (.bipush 8, 2) := by decide +kernel
theorem dX12_init_211 : decode cX12_init 211 = .ok (.newarray .long, 2) := by decide +kernel
theorem dX12_init_213 : decode cX12_init 213 = .ok (.dup, 1) := by decide +kernel
theorem dX12_init_214 : decode cX12_init 214 = .ok (.iconst 0, 1) := by decide +kernel
theorem dX12_init_215 : decode cX12_init 215 = .ok (.ldc2_w 83, 3) := by decide +kernel
theorem dX12_init_218 : decode cX12_init 218 = .ok (.lastore, 1) := by decide +kernel
theorem dX12_init_219 : decode cX12_init 219 = .ok (.dup, 1) := by decide +kernel
theorem dX12_init_220 : decode cX12_init 220 = .ok (.iconst 1, 1) := by decide +kernel
theorem dX12_init_221 : decode cX12_init 221 = .ok (.ldc2_w 69, 3) := by decide +kernel
theorem dX12_init_224 : decode cX12_init 224 = .ok (.lastore, 1) := by decide +kernel
theorem dX12_init_225 : decode cX12_init 225 = .ok (.dup, 1) := by decide +kernel
theorem dX12_init_226 : decode cX12_init 226 = .ok (.iconst 2, 1) := by decide +kernel
theorem dX12_init_227 : decode cX12_init 227 = .ok (.ldc2_w 71, 3) := by decide +kernel
theorem dX12_init_230 : decode cX12_init 230 = .ok (.lastore, 1) := by decide +kernel
theorem dX12_init_231 : decode cX12_init 231 = .ok (.dup, 1) := by decide +kernel
theorem dX12_init_232 : decode cX12_init 232 = .ok (.iconst 3, 1) := by decide +kernel
theorem dX12_init_233 : decode cX12_init 233 = .ok (.ldc2_w 73, 3) := by decide +kernel
theorem dX12_init_236 : decode cX12_init 236 = .ok (.lastore, 1) := by decide +kernel
theorem dX12_init_237 : decode cX12_init 237 = .ok (.dup, 1) := by decide +kernel
theorem dX12_init_238 : decode cX12_init 238 = .ok (.iconst 4, 1) := by decide +kernel
theorem dX12_init_239 : decode cX12_init 239 = .ok (.ldc2_w 85, 3) := by decide +kernel
theorem dX12_init_242 : decode cX12_init 242 = .ok (.lastore, 1) := by decide +kernel
theorem dX12_init_243 : decode cX12_init 243 = .ok (.dup, 1) := by decide +kernel
theorem dX12_init_244 : decode cX12_init 244 = .ok (.iconst 5, 1) := by decide +kernel
theorem dX12_init_245 : decode cX12_init 245 = .ok (.ldc2_w 87, 3) := by decide +kernel
theorem dX12_init_248 : decode cX12_init 248 = .ok (.lastore, 1) := by decide +kernel
theorem dX12_init_249 : decode cX12_init 249 = .ok (.dup, 1) := by decide +kernel
theorem dX12_init_250 : decode cX12_init 250 = .ok (.bipush 6, 2) := by decide +kernel
theorem dX12_init_252 : decode cX12_init 252 = .ok (.ldc2_w 89, 3) := by decide +kernel
theorem dX12_init_255 : decode cX12_init 255 = .ok (.lastore, 1) := by decide +kernel
theorem dX12_init_256 : decode cX12_init 256 = .ok (.dup, 1) := by decide +kernel
theorem dX12_init_257 : decode cX12_init 257 = .ok (.bipush 7, 2) := by decide +kernel
theorem dX12_init_259 : decode cX12_init 259 = .ok (.ldc2_w 67, 3) := by decide +kernel
theorem dX12_init_262 : decode cX12_init 262 = .ok (.lastore, 1) := by decide +kernel
theorem dX12_init_263 : decode cX12_init 263 = .ok (.putfield 91, 3) := by decide +kernel
theorem dX12_init_266 : decode cX12_init 266 = .ok (.aload_n 0, 1) := by decide +kernel
theorem dX12_init_267 : decode cX12_init 267 = .ok (.iconst 5, 1) := by decide +kernel
theorem dX12_init_268 : decode cX12_init 268 = .ok (.newarray .long, 2) := by decide +kernel
theorem dX12_init_270 : decode cX12_init 270 = .ok (.dup, 1) := by decide +kernel
theorem dX12_init_271 : decode cX12_init 271 = .ok (.iconst 0, 1) := by decide +kernel
theorem dX12_init_272 : decode cX12_init 272 = .ok (.ldc2_w 94, 3) := by decide +kernel
theorem dX12_init_275 : decode cX12_init 275 = .ok (.lastore, 1) := by decide +kernel
theorem dX12_init_276 : decode cX12_init 276 = .ok (.dup, 1) := by decide +kernel
theorem dX12_init_277 : decode cX12_init 277 = .ok (.iconst 1, 1) := by decide +kernel
theorem dX12_init_278 : decode cX12_init 278 = .ok (.ldc2_w 96, 3) := by decide +kernel
theorem dX12_init_281 : decode cX12_init 281 = .ok (.lastore, 1) := by decide +kernel
theorem dX12_init_282 : decode cX12_init 282 = .ok (.dup, 1) := by decide +kernel
theorem dX12_init_283 : decode cX12_init 283 = .ok (.iconst 2, 1) := by decide +kernel
theorem dX12_init_284 : decode cX12_init 284 = .ok (.ldc2_w 98, 3) := by decide +kernel
theorem dX12_init_287 : decode cX12_init 287 = .ok (.lastore, 1) := by decide +kernel
theorem dX12_init_288 : decode cX12_init 288 = .ok (.dup, 1) := by decide +kernel
theorem dX12_init_289 : decode cX12_init 289 = .ok (.iconst 3, 1) := by decide +kernel
theorem dX12_init_290 : decode cX12_init 290 = .ok (.ldc2_w 100, 3) := by decide +kernel
theorem dX12_init_293 : decode cX12_init 293 = .ok (.lastore, 1) := by decide +kernel
theorem dX12_init_294 : decode cX12_init 294 = .ok (.dup, 1) := by decide +kernel
theorem dX12_init_295 : decode cX12_init 295 = .ok (.iconst 4, 1) := by decide +kernel
theorem dX12_init_296 : decode cX12_init 296 = .ok (.ldc2_w 102, 3) := by decide +kernel
theorem dX12_init_299 : decode cX12_init 299 = .ok (.lastore, 1) := by decide +kernel
theorem dX12_init_300 : decode cX12_init 300 = .ok (.putfield 104, 3) := by decide +kernel
theorem dX12_init_303 : decode cX12_init 303 = .ok (.aload_n 0, 1) := by decide +kernel
theorem dX12_init_304 : decode cX12_init 304 = .ok (.bipush 13, 2) := by decide +kernel
theorem dX12_init_306 : decode cX12_init 306 = .ok (.newarray .long, 2) := by decide +kernel
theorem dX12_init_308 : decode cX12_init 308 = .ok (.putfield 107, 3) := by decide +kernel
theorem dX12_init_311 : decode cX12_init 311 = .ok (.aload_n 0, 1) := by decide +kernel
theorem dX12_init_312 : decode cX12_init 312 = .ok (.bipush 13, 2) := by decide +kernel
theorem dX12_init_314 : decode cX12_init 314 = .ok (.newarray .long, 2) := by decide +kernel
theorem dX12_init_316 : decode cX12_init 316 = .ok (.putfield 110, 3) := by decide +kernel
theorem dX12_init_319 : decode cX12_init 319 = .ok (.aload_n 0, 1) := by decide +kernel
theorem dX12_init_320 : decode cX12_init 320 = .ok (.sipush 400, 3) := by decide +kernel
theorem dX12_init_323 : decode cX12_init 323 = .ok (.newarray .long, 2) := by decide +kernel
theorem dX12_init_325 : decode cX12_init 325 = .ok (.putfield 113, 3) := by decide +kernel
theorem dX12_init_328 : decode cX12_init 328 = .ok (.aload_n 0, 1) := by decide +kernel
theorem dX12_init_329 : decode cX12_init 329 = .ok (.iconst 4, 1) := by decide +kernel
theorem dX12_init_330 : decode cX12_init 330 = .ok (.newarray .int, 2) := by decide +kernel
theorem dX12_init_332 : decode cX12_init 332 = .ok (.putfield 116, 3) := by decide +kernel
theorem dX12_init_335 : decode cX12_init 335 = .ok (.aload_n 0, 1) := by decide +kernel
theorem dX12_init_336 : decode cX12_init 336 = .ok (.bipush 7, 2) := by decide +kernel
theorem dX12_init_338 : decode cX12_init 338 = .ok (.newarray .int, 2) := by decide +kernel
theorem dX12_init_340 : decode cX12_init 340 = .ok (.putfield 119, 3) := by decide +kernel
theorem dX12_init_343 : decode cX12_init 343 = .ok (.aload_n 0, 1) := by decide +kernel
theorem dX12_init_344 : decode cX12_init 344 = .ok (.bipush 7, 2) := by decide +kernel
theorem dX12_init_346 : decode cX12_init 346 = .ok (.newarray .int, 2) := by decide +kernel
theorem dX12_init_348 : decode cX12_init 348 = .ok (.putfield 122, 3) := by decide +kernel
theorem dX12_init_351 : decode cX12_init 351 = .ok (.aload_n 0, 1) := by decide +kernel
theorem dX12_init_352 : decode cX12_init 352 = .ok (.bipush 7, 2) := by decide +kernel
theorem dX12_init_354 : decode cX12_init 354 = .ok (.newarray .int, 2) := by decide +kernel
theorem dX12_init_356 : decode cX12_init 356 = .ok (.putfield 125, 3) := by decide +kernel
theorem dX12_init_359 : decode cX12_init 359 = .ok (.aload_n 0, 1) := by decide +kernel
theorem dX12_init_360 : decode cX12_init 360 = .ok (.sipush 1200, 3) := by decide +kernel
theorem dX12_init_363 : decode cX12_init 363 = .ok (.newarray .int, 2) := by decide +kernel
theorem dX12_init_365 : decode cX12_init 365 = .ok (.putfield 128, 3) := by decide +kernel
theorem dX12_init_368 : decode cX12_init 368 = .ok (.aload_n 0, 1) := by decide +kernel
theorem dX12_init_369 : decode cX12_init 369 = .ok (.iconst 3, 1) := by decide +kernel
theorem dX12_init_370 : decode cX12_init 370 = .ok (.newarray .int, 2) := by decide +kernel
theorem dX12_init_372 : decode cX12_init 372 = .ok (.putfield 131, 3) := by decide +kernel
theorem dX12_init_375 : decode cX12_init 375 = .ok (.aload_n 0, 1) := by decide +kernel
theorem dX12_init_376 : decode cX12_init 376 = .ok (.iconst 3, 1) := by decide +kernel
theorem dX12_init_377 : decode cX12_init 377 = .ok (.newarray .int, 2) := by decide +kernel
theorem dX12_init_379 : decode cX12_init 379 = .ok (.putfield 134, 3) := by decide +kernel
theorem dX12_init_382 : decode cX12_init 382 = .ok (.aload_n 0, 1) := by decide +kernel
theorem dX12_init_383 : decode cX12_init 383 = .ok (.sipush 1000, 3) := by decide +kernel
theorem dX12_init_386 : decode cX12_init 386 = .ok (.newarray .boolean, 2) := by decide +kernel
theorem dX12_init_388 : decode cX12_init 388 = .ok (.putfield 137, 3) := by decide +kernel
theorem dX12_init_391 : decode cX12_init 391 = .ok (.aload_n 0, 1) := by decide +kernel
theorem dX12_init_392 : decode cX12_init 392 = .ok (.bipush 96, 2) := by decide +kernel
theorem dX12_init_394 : decode cX12_init 394 = .ok (.newarray .int, 2) := by decide +kernel
theorem dX12_init_396 : decode cX12_init 396 = .ok (.putfield 140, 3) := by decide +kernel
theorem dX12_init_399 : decode cX12_init 399 = .ok (.aload_n 0, 1) := by decide +kernel
theorem dX12_init_400 : decode cX12_init 400 = .ok (.iconst (-1), 1) := by decide +kernel
theorem dX12_init_401 : decode cX12_init 401 = .ok (.putfield 143, 3) := by decide +kernel
theorem dX12_init_404 : decode cX12_init 404 = .ok (.aload_n 0, 1) := by decide +kernel
theorem dX12_init_405 : decode cX12_init 405 = .ok (.bipush 6, 2) := by decide +kernel
theorem dX12_init_407 : decode cX12_init 407 = .ok (.newarray .int, 2) := by decide +kernel
theorem dX12_init_409 : decode cX12_init 409 = .ok (.putfield 146, 3) := by decide +kernel
theorem dX12_init_412 : decode cX12_init 412 = .ok (.aload_n 0, 1) := by decide +kernel
theorem dX12_init_413 : decode cX12_init 413 = .ok (.getfield 13, 3) := by decide +kernel
theorem dX12_init_416 : decode cX12_init 416 = .ok (.iconst 5, 1) := by decide +kernel
theorem dX12_init_417 : decode cX12_init 417 = .ok (.iconst (-1), 1) := by decide +kernel
theorem dX12_init_418 : decode cX12_init 418 = .ok (.iastore, 1) := by decide +kernel
theorem dX12_init_419 : decode cX12_init 419 = .ok (.aload_n 0, 1) := by decide +kernel
theorem dX12_init_420 : decode cX12_init 420 = .ok (.getfield 13, 3) := by decide +kernel
theorem dX12_init_423 : decode cX12_init 423 = .ok (.bipush 7, 2) := by decide +kernel
theorem dX12_init_425 : decode cX12_init 425 = .ok (.iconst 2, 1) := by decide +kernel
theorem dX12_init_426 : decode cX12_init 426 = .ok (.iastore, 1) := by decide +kernel
theorem dX12_init_427 : decode cX12_init 427 = .ok (.aload_n 0, 1) := by decide +kernel
theorem dX12_init_428 : decode cX12_init 428 = .ok (.getfield 13, 3) := by decide +kernel
theorem dX12_init_431 : decode cX12_init 431 = .ok (.bipush 8, 2) := by decide +kernel
theorem dX12_init_433 : decode cX12_init 433 = .ok (.bipush 20, 2) := by decide +kernel
theorem dX12_init_435 : decode cX12_init 435 = .ok (.iastore, 1) := by decide +kernel
theorem dX12_init_436 : decode cX12_init 436 = .ok (.aload_n 0, 1) := by decide +kernel
theorem dX12_init_437 : decode cX12_init 437 = .ok (.getfield 13, 3) := by decide +kernel
theorem dX12_init_440 : decode cX12_init 440 = .ok (.bipush 9, 2) := by decide +kernel
theorem dX12_init_442 : decode cX12_init 442 = .ok (.iconst 1, 1) := by decide +kernel
theorem dX12_init_443 : decode cX12_init 443 = .ok (.iastore, 1) := by decide +kernel
theorem dX12_init_444 : decode cX12_init 444 = .ok (.aload_n 0, 1) := by decide +kernel
theorem dX12_init_445 : decode cX12_init 445 = .ok (.getfield 13, 3) := by decide +kernel
theorem dX12_init_448 : decode cX12_init 448 = .ok (.bipush 11, 2) := by decide +kernel
theorem dX12_init_450 : decode cX12_init 450 = .ok (.bipush 100, 2) := by decide +kernel
theorem dX12_init_452 : decode cX12_init 452 = .ok (.iastore, 1) := by decide +kernel
theorem dX12_init_453 : decode cX12_init 453 = .ok (.return_, 1) := by decide +kernel
theorem dX12_in_0 : decode cX12_in 0 = .ok (.lload_n 0, 1) := by decide +kernel
theorem dX12_in_1 : decode cX12_in 1 = .ok (.lload_n 2, 1) := by decide +kernel
theorem dX12_in_2 : decode cX12_in 2 = .ok (.lcmp, 1) := by decide +kernel
theorem dX12_in_3 : decode cX12_in 3 = .ok (.ifCond .lt 14, 3) := by decide +kernel
theorem dX12_in_6 : decode cX12_in 6 = .ok (.lload_n 0, 1) := by decide +kernel
theorem dX12_in_7 : decode cX12_in 7 = .ok (.lload 4, 2) := by decide +kernel
theorem dX12_in_9 : decode cX12_in 9 = .ok (.lcmp, 1) := by decide +kernel
theorem dX12_in_10 : decode cX12_in 10 = .ok (.ifCond .gt 7, 3) := by decide +kernel
theorem dX12_in_13 : decode cX12_in 13 = .ok (.iconst 1, 1) := by decide +kernel
theorem dX12_in_14 : decode cX12_in 14 = .ok (.goto 4, 3) := by decide +kernel
theorem dX12_in_17 : decode cX12_in 17 = .ok (.iconst 0, 1) := by decide +kernel
theorem dX12_in_18 : decode cX12_in 18 = .ok (.ireturn, 1) := by decide +kernel
theorem dX12_is_0 : decode cX12_is 0 = .ok (.iload_n 0, 1) := by decide +kernel
theorem dX12_is_1 : decode cX12_is 1 = .ok (.iload_n 1, 1) := by decide +kernel
theorem dX12_is_2 : decode cX12_is 2 = .ok (.ishr, 1) := by decide +kernel
theorem dX12_is_3 : decode cX12_is 3 = .ok (.iconst 1, 1) := by decide +kernel
theorem dX12_is_4 : decode cX12_is 4 = .ok (.iand, 1) := by decide +kernel
theorem dX12_is_5 : decode cX12_is 5 = .ok (.iconst 1, 1) := by decide +kernel
theorem dX12_is_6 : decode cX12_is 6 = .ok (.if_icmp .ne 7, 3) := by decide +kernel
theorem dX12_is_9 : decode cX12_is 9 = .ok (.iconst 1, 1) := by decide +kernel
theorem dX12_is_10 : decode cX12_is 10 = .ok (.goto 4, 3) := by decide +kernel
theorem dX12_is_13 : decode cX12_is 13 = .ok (.iconst 0, 1) := by decide +kernel
theorem dX12_is_14 : decode cX12_is 14 = .ok (.ireturn, 1) := by decide +kernel
theorem dX12_within_0 : decode cX12_within 0 = .ok (.lload_n 0, 1) := by decide +kernel
theorem dX12_within_1 : decode cX12_within 1 = .ok (.iload_n 2, 1) := by decide +kernel
theorem dX12_within_2 : decode cX12_within 2 = .ok (.i2l, 1) := by decide +kernel
theorem dX12_within_3 : decode cX12_within 3 = .ok (.lcmp, 1) := by decide +kernel
theorem dX12_within_4 : decode cX12_within 4 = .ok (.ifCond .ge 7, 3) := by decide +kernel
theorem dX12_within_7 : decode cX12_within 7 = .ok (.iload_n 2, 1) := by decide +kernel
theorem dX12_within_8 : decode cX12_within 8 = .ok (.goto 16, 3) := by decide +kernel
theorem dX12_within_11 : decode cX12_within 11 = .ok (.lload_n 0, 1) := by decide +kernel
theorem dX12_within_12 : decode cX12_within 12 = .ok (.iload_n 3, 1) := by decide +kernel
theorem dX12_within_13 : decode cX12_within 13 = .ok (.i2l, 1) := by decide +kernel
theorem dX12_within_14 : decode cX12_within 14 = .ok (.lcmp, 1) := by decide +kernel
theorem dX12_within_15 : decode cX12_within 15 = .ok (.ifCond .le 7, 3) := by decide +kernel
theorem dX12_within_18 : decode cX12_within 18 = .ok (.iload_n 3, 1) := by decide +kernel
theorem dX12_within_19 : decode cX12_within 19 = .ok (.goto 5, 3) := by decide +kernel
theorem dX12_within_22 : decode cX12_within 22 = .ok (.lload_n 0, 1) := by decide +kernel
theorem dX12_within_23 : decode cX12_within 23 = .ok (.l2i, 1) := by decide +kernel
theorem dX12_within_24 : decode cX12_within 24 = .ok (.ireturn, 1) := by decide +kernel
theorem dX12_ones_0 : decode cX12_ones 0 = .ok (.iconst 0, 1) := by decide +kernel
theorem dX12_ones_1 : decode cX12_ones 1 = .ok (.istore_n 1, 1) := by decide +kernel
theorem dX12_ones_2 : decode cX12_ones 2 = .ok (.iconst 0, 1) := by decide +kernel
theorem dX12_ones_3 : decode cX12_ones 3 = .ok (.istore_n 2, 1) := by decide +kernel
theorem dX12_ones_4 : decode cX12_ones 4 = .ok (.iload_n 2, 1) := by decide +kernel
theorem dX12_ones_5 : decode cX12_ones 5 = .ok (.bipush 12, 2) := by decide +kernel
theorem dX12_ones_7 : decode cX12_ones 7 = .ok (.if_icmp .ge 17, 3) := by decide +kernel
theorem dX12_ones_10 : decode cX12_ones 10 = .ok (.iload_n 1, 1) := by decide +kernel
theorem dX12_ones_11 : decode cX12_ones 11 = .ok (.iload_n 0, 1) := by decide +kernel
theorem dX12_ones_12 : decode cX12_ones 12 = .ok (.iload_n 2, 1) := by decide +kernel
theorem dX12_ones_13 : decode cX12_ones 13 = .ok (.ishr, 1) := by decide +kernel
theorem dX12_ones_14 : decode cX12_ones 14 = .ok (.iconst 1, 1) := by decide +kernel
theorem dX12_ones_15 : decode cX12_ones 15 = .ok (.iand, 1) := by decide +kernel
theorem dX12_ones_16 : decode cX12_ones 16 = .ok (.iadd, 1) := by decide +kernel
theorem dX12_ones_17 : decode cX12_ones 17 = .ok (.istore_n 1, 1) := by decide +kernel
theorem dX12_ones_18 : decode cX12_ones 18 = .ok (.iinc 2 1, 3) := by decide +kernel
theorem dX12_ones_21 : decode cX12_ones 21 = .ok (.goto (-17), 3) := by decide +kernel
theorem dX12_ones_24 : decode cX12_ones 24 = .ok (.iload_n 1, 1) := by decide +kernel
theorem dX12_ones_25 : decode cX12_ones 25 = .ok (.ireturn, 1) := by decide +kernel
theorem dX12_tell_0 : decode cX12_tell 0 = .ok (.aload_n 0, 1) := by decide +kernel
theorem dX12_tell_1 : decode cX12_tell 1 = .ok (.iload_n 1, 1) := by decide +kernel
theorem dX12_tell_2 : decode cX12_tell 2 = .ok (.ifCond .ge 7, 3) := by decide +kernel
theorem dX12_tell_5 : decode cX12_tell 5 = .ok (.iload_n 1, 1) := by decide +kernel
theorem dX12_tell_6 : decode cX12_tell 6 = .ok (.goto 4, 3) := by decide +kernel
theorem dX12_tell_9 : decode cX12_tell 9 = .ok (.iconst 0, 1) := by decide +kernel
theorem dX12_tell_10 : decode cX12_tell 10 = .ok (.putfield 152, 3) := by decide +kernel
theorem dX12_tell_13 : decode cX12_tell 13 = .ok (.iload_n 1, 1) := by decide +kernel
theorem dX12_tell_14 : decode cX12_tell 14 = .ok (.ifCond .ge 14, 3) := by decide +kernel
theorem dX12_tell_17 : decode cX12_tell 17 = .ok (.aload_n 0, 1) := by decide +kernel
theorem dX12_tell_18 : decode cX12_tell 18 = .ok (.getfield 7, 3) := by decide +kernel
theorem dX12_tell_21 : decode cX12_tell 21 = .ok (.iload_n 1, 1) := by decide +kernel
theorem dX12_tell_22 : decode cX12_tell 22 = .ok (.ineg, 1) := by decide +kernel
theorem dX12_tell_23 : decode cX12_tell 23 = .ok (.dup2, 1) := by decide +kernel
theorem dX12_tell_24 : decode cX12_tell 24 = .ok (.iaload, 1) := by decide +kernel
theorem dX12_tell_25 : decode cX12_tell 25 = .ok (.iconst 1, 1) := by decide +kernel
theorem dX12_tell_26 : decode cX12_tell 26 = .ok (.iadd, 1) := by decide +kernel
theorem dX12_tell_27 : decode cX12_tell 27 = .ok (.iastore, 1) := by decide +kernel
theorem dX12_tell_28 : decode cX12_tell 28 = .ok (.iload_n 1, 1) := by decide +kernel
theorem dX12_tell_29 : decode cX12_tell 29 = .ok (.ireturn, 1) := by decide +kernel
theorem dX12_change_0 : decode cX12_change 0 = .ok (.aload_n 0, 1) := by decide +kernel
theorem dX12_change_1 : decode cX12_change 1 = .ok (.getfield 13, 3) := by decide +kernel
theorem dX12_change_4 : decode cX12_change 4 = .ok (.iload_n 1, 1) := by decide +kernel
theorem dX12_change_5 : decode cX12_change 5 = .ok (.iaload, 1) := by decide +kernel
theorem dX12_change_6 : decode cX12_change 6 = .ok (.istore_n 3, 1) := by decide +kernel
theorem dX12_change_7 : decode cX12_change 7 = .ok (.aload_n 0, 1) := by decide +kernel
theorem dX12_change_8 : decode cX12_change 8 = .ok (.getfield 13, 3) := by decide +kernel
theorem dX12_change_11 : decode cX12_change 11 = .ok (.iload_n 1, 1) := by decide +kernel
theorem dX12_change_12 : decode cX12_change 12 = .ok (.iload_n 2, 1) := by decide +kernel
theorem dX12_change_13 : decode cX12_change 13 = .ok (.iastore, 1) := by decide +kernel
theorem dX12_change_14 : decode cX12_change 14 = .ok (.aload_n 0, 1) := by decide +kernel
theorem dX12_change_15 : decode cX12_change 15 = .ok (.iconst 0, 1) := by decide +kernel
theorem dX12_change_16 : decode cX12_change 16 = .ok (.putfield 152, 3) := by decide +kernel
theorem dX12_change_19 : decode cX12_change 19 = .ok (.iload_n 3, 1) := by decide +kernel
theorem dX12_change_20 : decode cX12_change 20 = .ok (.ireturn, 1) := by decide +kernel
theorem dX12_settled_0 : decode cX12_settled 0 = .ok (.aload_n 0, 1) := by decide +kernel
theorem dX12_settled_1 : decode cX12_settled 1 = .ok (.iload_n 1, 1) := by decide +kernel
theorem dX12_settled_2 : decode cX12_settled 2 = .ok (.ifCond .ge 10, 3) := by decide +kernel
theorem dX12_settled_5 : decode cX12_settled 5 = .ok (.aload_n 0, 1) := by decide +kernel
theorem dX12_settled_6 : decode cX12_settled 6 = .ok (.getfield 155, 3) := by decide +kernel
theorem dX12_settled_9 : decode cX12_settled 9 = .ok (.goto 4, 3) := by decide +kernel
theorem dX12_settled_12 : decode cX12_settled 12 = .ok (.iconst 0, 1) := by decide +kernel
theorem dX12_settled_13 : decode cX12_settled 13 = .ok (.putfield 155, 3) := by decide +kernel
theorem dX12_settled_16 : decode cX12_settled 16 = .ok (.aload_n 0, 1) := by decide +kernel
theorem dX12_settled_17 : decode cX12_settled 17 = .ok (.iload_n 1, 1) := by decide +kernel
theorem dX12_settled_18 : decode cX12_settled 18 = .ok (.invokevirtual 158, 3) := by decide +kernel
theorem dX12_settled_21 : decode cX12_settled 21 = .ok (.ireturn, 1) := by decide +kernel
theorem dX12_keepAll_0 : decode cX12_keepAll 0 = .ok (.iconst 0, 1) := by decide +kernel
theorem dX12_keepAll_1 : decode cX12_keepAll 1 = .ok (.istore_n 2, 1) := by decide +kernel
theorem dX12_keepAll_2 : decode cX12_keepAll 2 = .ok (.iload_n 2, 1) := by decide +kernel
theorem dX12_keepAll_3 : decode cX12_keepAll 3 = .ok (.sipush 150, 3) := by decide +kernel
theorem dX12_keepAll_6 : decode cX12_keepAll 6 = .ok (.if_icmp .ge 27, 3) := by decide +kernel
theorem dX12_keepAll_9 : decode cX12_keepAll 9 = .ok (.aload_n 0, 1) := by decide +kernel
theorem dX12_keepAll_10 : decode cX12_keepAll 10 = .ok (.getfield 23, 3) := by decide +kernel
theorem dX12_keepAll_13 : decode cX12_keepAll 13 = .ok (.sipush 150, 3) := by decide +kernel
theorem dX12_keepAll_16 : decode cX12_keepAll 16 = .ok (.iload_n 1, 1) := by decide +kernel
theorem dX12_keepAll_17 : decode cX12_keepAll 17 = .ok (.imul, 1) := by decide +kernel
theorem dX12_keepAll_18 : decode cX12_keepAll 18 = .ok (.iload_n 2, 1) := by decide +kernel
theorem dX12_keepAll_19 : decode cX12_keepAll 19 = .ok (.iadd, 1) := by decide +kernel
theorem dX12_keepAll_20 : decode cX12_keepAll 20 = .ok (.aload_n 0, 1) := by decide +kernel
theorem dX12_keepAll_21 : decode cX12_keepAll 21 = .ok (.getfield 13, 3) := by decide +kernel
theorem dX12_keepAll_24 : decode cX12_keepAll 24 = .ok (.iload_n 2, 1) := by decide +kernel
theorem dX12_keepAll_25 : decode cX12_keepAll 25 = .ok (.iaload, 1) := by decide +kernel
theorem dX12_keepAll_26 : decode cX12_keepAll 26 = .ok (.iastore, 1) := by decide +kernel
theorem dX12_keepAll_27 : decode cX12_keepAll 27 = .ok (.iinc 2 1, 3) := by decide +kernel
theorem dX12_keepAll_30 : decode cX12_keepAll 30 = .ok (.goto (-28), 3) := by decide +kernel
theorem dX12_keepAll_33 : decode cX12_keepAll 33 = .ok (.return_, 1) := by decide +kernel
theorem dX12_putBack_0 : decode cX12_putBack 0 = .ok (.iconst 0, 1) := by decide +kernel
theorem dX12_putBack_1 : decode cX12_putBack 1 = .ok (.istore_n 2, 1) := by decide +kernel
theorem dX12_putBack_2 : decode cX12_putBack 2 = .ok (.iload_n 2, 1) := by decide +kernel
theorem dX12_putBack_3 : decode cX12_putBack 3 = .ok (.sipush 150, 3) := by decide +kernel
theorem dX12_putBack_6 : decode cX12_putBack 6 = .ok (.if_icmp .ge 46, 3) := by decide +kernel
theorem dX12_putBack_9 : decode cX12_putBack 9 = .ok (.aload_n 0, 1) := by decide +kernel
theorem dX12_putBack_10 : decode cX12_putBack 10 = .ok (.getfield 13, 3) := by decide +kernel
theorem dX12_putBack_13 : decode cX12_putBack 13 = .ok (.iload_n 2, 1) := by decide +kernel
theorem dX12_putBack_14 : decode cX12_putBack 14 = .ok (.iload_n 2, 1) := by decide +kernel
theorem dX12_putBack_15 : decode cX12_putBack 15 = .ok (.iconst 4, 1) := by decide +kernel
theorem dX12_putBack_16 : decode cX12_putBack 16 = .ok (.if_icmp .eq 8, 3) := by decide +kernel
theorem dX12_putBack_19 : decode cX12_putBack 19 = .ok (.iload_n 2, 1) := by decide +kernel
theorem dX12_putBack_20 : decode cX12_putBack 20 = .ok (.iconst 5, 1) := by decide +kernel
theorem dX12_putBack_21 : decode cX12_putBack 21 = .ok (.if_icmp .ne 12, 3) := by decide +kernel
theorem dX12_putBack_24 : decode cX12_putBack 24 = .ok (.aload_n 0, 1) := by decide +kernel
theorem dX12_putBack_25 : decode cX12_putBack 25 = .ok (.getfield 13, 3) := by decide +kernel
theorem dX12_putBack_28 : decode cX12_putBack 28 = .ok (.iload_n 2, 1) := by decide +kernel
theorem dX12_putBack_29 : decode cX12_putBack 29 = .ok (.iaload, 1) := by decide +kernel
theorem dX12_putBack_30 : decode cX12_putBack 30 = .ok (.goto 15, 3) := by decide +kernel
theorem dX12_putBack_33 : decode cX12_putBack 33 = .ok (.aload_n 0, 1) := by decide +kernel
theorem dX12_putBack_34 : decode cX12_putBack 34 = .ok (.getfield 23, 3) := by decide +kernel
theorem dX12_putBack_37 : decode cX12_putBack 37 = .ok (.sipush 150, 3) := by decide +kernel
theorem dX12_putBack_40 : decode cX12_putBack 40 = .ok (.iload_n 1, 1) := by decide +kernel
theorem dX12_putBack_41 : decode cX12_putBack 41 = .ok (.imul, 1) := by decide +kernel
theorem dX12_putBack_42 : decode cX12_putBack 42 = .ok (.iload_n 2, 1) := by decide +kernel
theorem dX12_putBack_43 : decode cX12_putBack 43 = .ok (.iadd, 1) := by decide +kernel
theorem dX12_putBack_44 : decode cX12_putBack 44 = .ok (.iaload, 1) := by decide +kernel
theorem dX12_putBack_45 : decode cX12_putBack 45 = .ok (.iastore, 1) := by decide +kernel
theorem dX12_putBack_46 : decode cX12_putBack 46 = .ok (.iinc 2 1, 3) := by decide +kernel
theorem dX12_putBack_49 : decode cX12_putBack 49 = .ok (.goto (-47), 3) := by decide +kernel
theorem dX12_putBack_52 : decode cX12_putBack 52 = .ok (.return_, 1) := by decide +kernel
theorem dX12_remember_0 : decode cX12_remember 0 = .ok (.aload_n 0, 1) := by decide +kernel
theorem dX12_remember_1 : decode cX12_remember 1 = .ok (.getfield 155, 3) := by decide +kernel
theorem dX12_remember_4 : decode cX12_remember 4 = .ok (.bipush 16, 2) := by decide +kernel
theorem dX12_remember_6 : decode cX12_remember 6 = .ok (.if_icmp .ne 72, 3) := by decide +kernel
theorem dX12_remember_9 : decode cX12_remember 9 = .ok (.iconst 0, 1) := by decide +kernel
theorem dX12_remember_10 : decode cX12_remember 10 = .ok (.istore_n 2, 1) := by decide +kernel
theorem dX12_remember_11 : decode cX12_remember 11 = .ok (.iload_n 2, 1) := by decide +kernel
theorem dX12_remember_12 : decode cX12_remember 12 = .ok (.sipush 2250, 3) := by decide +kernel
theorem dX12_remember_15 : decode cX12_remember 15 = .ok (.if_icmp .ge 25, 3) := by decide +kernel
theorem dX12_remember_18 : decode cX12_remember 18 = .ok (.aload_n 0, 1) := by decide +kernel
theorem dX12_remember_19 : decode cX12_remember 19 = .ok (.getfield 23, 3) := by decide +kernel
theorem dX12_remember_22 : decode cX12_remember 22 = .ok (.iload_n 2, 1) := by decide +kernel
theorem dX12_remember_23 : decode cX12_remember 23 = .ok (.aload_n 0, 1) := by decide +kernel
theorem dX12_remember_24 : decode cX12_remember 24 = .ok (.getfield 23, 3) := by decide +kernel
theorem dX12_remember_27 : decode cX12_remember 27 = .ok (.iload_n 2, 1) := by decide +kernel
theorem dX12_remember_28 : decode cX12_remember 28 = .ok (.sipush 150, 3) := by decide +kernel
theorem dX12_remember_31 : decode cX12_remember 31 = .ok (.iadd, 1) := by decide +kernel
theorem dX12_remember_32 : decode cX12_remember 32 = .ok (.iaload, 1) := by decide +kernel
theorem dX12_remember_33 : decode cX12_remember 33 = .ok (.iastore, 1) := by decide +kernel
theorem dX12_remember_34 : decode cX12_remember 34 = .ok (.iinc 2 1, 3) := by decide +kernel
theorem dX12_remember_37 : decode cX12_remember 37 = .ok (.goto (-26), 3) := by decide +kernel
theorem dX12_remember_40 : decode cX12_remember 40 = .ok (.iconst 0, 1) := by decide +kernel
theorem dX12_remember_41 : decode cX12_remember 41 = .ok (.istore_n 2, 1) := by decide +kernel
theorem dX12_remember_42 : decode cX12_remember 42 = .ok (.iload_n 2, 1) := by decide +kernel
theorem dX12_remember_43 : decode cX12_remember 43 = .ok (.bipush 15, 2) := by decide +kernel
theorem dX12_remember_45 : decode cX12_remember 45 = .ok (.if_icmp .ge 23, 3) := by decide +kernel
theorem dX12_remember_48 : decode cX12_remember 48 = .ok (.aload_n 0, 1) := by decide +kernel
theorem dX12_remember_49 : decode cX12_remember 49 = .ok (.getfield 26, 3) := by decide +kernel
theorem dX12_remember_52 : decode cX12_remember 52 = .ok (.iload_n 2, 1) := by decide +kernel
theorem dX12_remember_53 : decode cX12_remember 53 = .ok (.aload_n 0, 1) := by decide +kernel
theorem dX12_remember_54 : decode cX12_remember 54 = .ok (.getfield 26, 3) := by decide +kernel
theorem dX12_remember_57 : decode cX12_remember 57 = .ok (.iload_n 2, 1) := by decide +kernel
theorem dX12_remember_58 : decode cX12_remember 58 = .ok (.iconst 1, 1) := by decide +kernel
theorem dX12_remember_59 : decode cX12_remember 59 = .ok (.iadd, 1) := by decide +kernel
theorem dX12_remember_60 : decode cX12_remember 60 = .ok (.iaload, 1) := by decide +kernel
theorem dX12_remember_61 : decode cX12_remember 61 = .ok (.iastore, 1) := by decide +kernel
theorem dX12_remember_62 : decode cX12_remember 62 = .ok (.iinc 2 1, 3) := by decide +kernel
theorem dX12_remember_65 : decode cX12_remember 65 = .ok (.goto (-23), 3) := by decide +kernel
theorem dX12_remember_68 : decode cX12_remember 68 = .ok (.aload_n 0, 1) := by decide +kernel
theorem dX12_remember_69 : decode cX12_remember 69 = .ok (.dup, 1) := by decide +kernel
theorem dX12_remember_70 : decode cX12_remember 70 = .ok (.getfield 155, 3) := by decide +kernel
theorem dX12_remember_73 : decode cX12_remember 73 = .ok (.iconst 1, 1) := by decide +kernel
theorem dX12_remember_74 : decode cX12_remember 74 = .ok (.isub, 1) := by decide +kernel
theorem dX12_remember_75 : decode cX12_remember 75 = .ok (.putfield 155, 3) := by decide +kernel
theorem dX12_remember_78 : decode cX12_remember 78 = .ok (.aload_n 0, 1) := by decide +kernel
theorem dX12_remember_79 : decode cX12_remember 79 = .ok (.aload_n 0, 1) := by decide +kernel
theorem dX12_remember_80 : decode cX12_remember 80 = .ok (.getfield 155, 3) := by decide +kernel
theorem dX12_remember_83 : decode cX12_remember 83 = .ok (.invokevirtual 162, 3) := by decide +kernel
theorem dX12_remember_86 : decode cX12_remember 86 = .ok (.aload_n 0, 1) := by decide +kernel
theorem dX12_remember_87 : decode cX12_remember 87 = .ok (.getfield 26, 3) := by decide +kernel
theorem dX12_remember_90 : decode cX12_remember 90 = .ok (.aload_n 0, 1) := by decide +kernel
theorem dX12_remember_91 : decode cX12_remember 91 = .ok (.getfield 155, 3) := by decide +kernel
theorem dX12_remember_94 : decode cX12_remember 94 = .ok (.iload_n 1, 1) := by decide +kernel
theorem dX12_remember_95 : decode cX12_remember 95 = .ok (.iastore, 1) := by decide +kernel
theorem dX12_remember_96 : decode cX12_remember 96 = .ok (.aload_n 0, 1) := by decide +kernel
theorem dX12_remember_97 : decode cX12_remember 97 = .ok (.dup, 1) := by decide +kernel
theorem dX12_remember_98 : decode cX12_remember 98 = .ok (.getfield 155, 3) := by decide +kernel
theorem dX12_remember_101 : decode cX12_remember 101 = .ok (.iconst 1, 1) := by decide +kernel
theorem dX12_remember_102 : decode cX12_remember 102 = .ok (.iadd, 1) := by decide +kernel
theorem dX12_remember_103 : decode cX12_remember 103 = .ok (.putfield 155, 3) := by decide +kernel
theorem dX12_remember_106 : decode cX12_remember 106 = .ok (.return_, 1) := by decide +kernel
theorem dX12_undo_0 : decode cX12_undo 0 = .ok (.aload_n 0, 1) := by decide +kernel
theorem dX12_undo_1 : decode cX12_undo 1 = .ok (.iconst 0, 1) := by decide +kernel
theorem dX12_undo_2 : decode cX12_undo 2 = .ok (.putfield 149, 3) := by decide +kernel
theorem dX12_undo_5 : decode cX12_undo 5 = .ok (.aload_n 0, 1) := by decide +kernel
theorem dX12_undo_6 : decode cX12_undo 6 = .ok (.getfield 155, 3) := by decide +kernel
theorem dX12_undo_9 : decode cX12_undo 9 = .ok (.ifCond .ne 10, 3) := by decide +kernel
theorem dX12_undo_12 : decode cX12_undo 12 = .ok (.aload_n 0, 1) := by decide +kernel
theorem dX12_undo_13 : decode cX12_undo 13 = .ok (.bipush (-3), 2) := by decide +kernel
theorem dX12_undo_15 : decode cX12_undo 15 = .ok (.invokevirtual 158, 3) := by decide +kernel
