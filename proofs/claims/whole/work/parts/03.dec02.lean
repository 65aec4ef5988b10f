theorem dX5_readTimes_7 : decode cX5_readTimes 7 = .ok (.invokevirtual 68, 3) := by decide +kernel
theorem dX5_readTimes_10 : decode cX5_readTimes 10 = .ok (.aload_n 0, 1) := by decide +kernel
theorem dX5_readTimes_11 : decode cX5_readTimes 11 = .ok (.ldc 88, 2) := by decide +kernel
theorem dX5_readTimes_13 : decode cX5_readTimes 13 = .ok (.invokevirtual 64, 3) := by decide +kernel
theorem dX5_readTimes_16 : decode cX5_readTimes 16 = .ok (.iconst (-1), 1) := by decide +kernel
theorem dX5_readTimes_17 : decode cX5_readTimes 17 = .ok (.if_icmp .ne 5, 3) := by decide +kernel
theorem dX5_readTimes_20 : decode cX5_readTimes 20 = .ok (.iconst 1, 1) := by decide +kernel
theorem dX5_readTimes_21 : decode cX5_readTimes 21 = .ok (.ireturn, 1) := by decide +kernel
theorem dX5_readTimes_22 : decode cX5_readTimes 22 = .ok (.aload_n 0, 1) := by decide +kernel
theorem dX5_readTimes_23 : decode cX5_readTimes 23 = .ok (.invokevirtual 42, 3) := by decide +kernel
theorem dX5_readTimes_26 : decode cX5_readTimes 26 = .ok (.aload_n 0, 1) := by decide +kernel
theorem dX5_readTimes_27 : decode cX5_readTimes 27 = .ok (.getfield 55, 3) := by decide +kernel
theorem dX5_readTimes_30 : decode cX5_readTimes 30 = .ok (.iconst 2, 1) := by decide +kernel
theorem dX5_readTimes_31 : decode cX5_readTimes 31 = .ok (.if_icmp .ne 20, 3) := by decide +kernel
theorem dX5_readTimes_34 : decode cX5_readTimes 34 = .ok (.aload_n 0, 1) := by decide +kernel
theorem dX5_readTimes_35 : decode cX5_readTimes 35 = .ok (.getfield 90, 3) := by decide +kernel
theorem dX5_readTimes_38 : decode cX5_readTimes 38 = .ok (.iconst 1, 1) := by decide +kernel
theorem dX5_readTimes_39 : decode cX5_readTimes 39 = .ok (.if_icmp .lt 12, 3) := by decide +kernel
theorem dX5_readTimes_42 : decode cX5_readTimes 42 = .ok (.aload_n 0, 1) := by decide +kernel
theorem dX5_readTimes_43 : decode cX5_readTimes 43 = .ok (.getfield 90, 3) := by decide +kernel
theorem dX5_readTimes_46 : decode cX5_readTimes 46 = .ok (.bipush 20, 2) := by decide +kernel
theorem dX5_readTimes_48 : decode cX5_readTimes 48 = .ok (.if_icmp .le 5, 3) := by decide +kernel
theorem dX5_readTimes_51 : decode cX5_readTimes 51 = .ok (.iconst 0, 1) := by decide +kernel
theorem dX5_readTimes_52 : decode cX5_readTimes 52 = .ok (.ireturn, 1) := by decide +kernel
theorem dX5_readTimes_53 : decode cX5_readTimes 53 = .ok (.aload_n 0, 1) := by decide +kernel
theorem dX5_readTimes_54 : decode cX5_readTimes 54 = .ok (.getfield 12, 3) := by decide +kernel
theorem dX5_readTimes_57 : decode cX5_readTimes 57 = .ok (.iload_n 1, 1) := by decide +kernel
theorem dX5_readTimes_58 : decode cX5_readTimes 58 = .ok (.iconst 1, 1) := by decide +kernel
theorem dX5_readTimes_59 : decode cX5_readTimes 59 = .ok (.aload_n 0, 1) := by decide +kernel
theorem dX5_readTimes_60 : decode cX5_readTimes 60 = .ok (.getfield 90, 3) := by decide +kernel
theorem dX5_readTimes_63 : decode cX5_readTimes 63 = .ok (.invokevirtual 68, 3) := by decide +kernel
theorem dX5_readTimes_66 : decode cX5_readTimes 66 = .ok (.aload_n 0, 1) := by decide +kernel
theorem dX5_readTimes_67 : decode cX5_readTimes 67 = .ok (.invokevirtual 42, 3) := by decide +kernel
theorem dX5_readTimes_70 : decode cX5_readTimes 70 = .ok (.iconst 1, 1) := by decide +kernel
theorem dX5_readTimes_71 : decode cX5_readTimes 71 = .ok (.ireturn, 1) := by decide +kernel
theorem dX5_readIf_0 : decode cX5_readIf 0 = .ok (.aload_n 0, 1) := by decide +kernel
theorem dX5_readIf_1 : decode cX5_readIf 1 = .ok (.getfield 12, 3) := by decide +kernel
theorem dX5_readIf_4 : decode cX5_readIf 4 = .ok (.iload_n 1, 1) := by decide +kernel
theorem dX5_readIf_5 : decode cX5_readIf 5 = .ok (.iconst 4, 1) := by decide +kernel
theorem dX5_readIf_6 : decode cX5_readIf 6 = .ok (.aload_n 0, 1) := by decide +kernel
theorem dX5_readIf_7 : decode cX5_readIf 7 = .ok (.getfield 12, 3) := by decide +kernel
theorem dX5_readIf_10 : decode cX5_readIf 10 = .ok (.getfield 26, 3) := by decide +kernel
theorem dX5_readIf_13 : decode cX5_readIf 13 = .ok (.invokevirtual 68, 3) := by decide +kernel
theorem dX5_readIf_16 : decode cX5_readIf 16 = .ok (.iconst 1, 1) := by decide +kernel
theorem dX5_readIf_17 : decode cX5_readIf 17 = .ok (.istore_n 2, 1) := by decide +kernel
theorem dX5_readIf_18 : decode cX5_readIf 18 = .ok (.aload_n 0, 1) := by decide +kernel
theorem dX5_readIf_19 : decode cX5_readIf 19 = .ok (.ldc 93, 2) := by decide +kernel
theorem dX5_readIf_21 : decode cX5_readIf 21 = .ok (.invokevirtual 64, 3) := by decide +kernel
theorem dX5_readIf_24 : decode cX5_readIf 24 = .ok (.iconst (-1), 1) := by decide +kernel
theorem dX5_readIf_25 : decode cX5_readIf 25 = .ok (.if_icmp .eq 12, 3) := by decide +kernel
theorem dX5_readIf_28 : decode cX5_readIf 28 = .ok (.aload_n 0, 1) := by decide +kernel
theorem dX5_readIf_29 : decode cX5_readIf 29 = .ok (.invokevirtual 42, 3) := by decide +kernel
theorem dX5_readIf_32 : decode cX5_readIf 32 = .ok (.aload_n 0, 1) := by decide +kernel
theorem dX5_readIf_33 : decode cX5_readIf 33 = .ok (.invokevirtual 95, 3) := by decide +kernel
theorem dX5_readIf_36 : decode cX5_readIf 36 = .ok (.istore_n 2, 1) := by decide +kernel
theorem dX5_readIf_37 : decode cX5_readIf 37 = .ok (.aload_n 0, 1) := by decide +kernel
theorem dX5_readIf_38 : decode cX5_readIf 38 = .ok (.getfield 12, 3) := by decide +kernel
theorem dX5_readIf_41 : decode cX5_readIf 41 = .ok (.iload_n 1, 1) := by decide +kernel
theorem dX5_readIf_42 : decode cX5_readIf 42 = .ok (.iconst 5, 1) := by decide +kernel
theorem dX5_readIf_43 : decode cX5_readIf 43 = .ok (.aload_n 0, 1) := by decide +kernel
theorem dX5_readIf_44 : decode cX5_readIf 44 = .ok (.getfield 12, 3) := by decide +kernel
theorem dX5_readIf_47 : decode cX5_readIf 47 = .ok (.getfield 26, 3) := by decide +kernel
theorem dX5_readIf_50 : decode cX5_readIf 50 = .ok (.invokevirtual 68, 3) := by decide +kernel
theorem dX5_readIf_53 : decode cX5_readIf 53 = .ok (.iload_n 2, 1) := by decide +kernel
theorem dX5_readIf_54 : decode cX5_readIf 54 = .ok (.ireturn, 1) := by decide +kernel
theorem dX5_readTest_0 : decode cX5_readTest 0 = .ok (.aload_n 0, 1) := by decide +kernel
theorem dX5_readTest_1 : decode cX5_readTest 1 = .ok (.invokevirtual 98, 3) := by decide +kernel
theorem dX5_readTest_4 : decode cX5_readTest 4 = .ok (.ifCond .ne 5, 3) := by decide +kernel
theorem dX5_readTest_7 : decode cX5_readTest 7 = .ok (.iconst 0, 1) := by decide +kernel
theorem dX5_readTest_8 : decode cX5_readTest 8 = .ok (.ireturn, 1) := by decide +kernel
theorem dX5_readTest_9 : decode cX5_readTest 9 = .ok (.iconst 0, 1) := by decide +kernel
theorem dX5_readTest_10 : decode cX5_readTest 10 = .ok (.istore_n 1, 1) := by decide +kernel
theorem dX5_readTest_11 : decode cX5_readTest 11 = .ok (.iload_n 1, 1) := by decide +kernel
theorem dX5_readTest_12 : decode cX5_readTest 12 = .ok (.sipush 400, 3) := by decide +kernel
theorem dX5_readTest_15 : decode cX5_readTest 15 = .ok (.if_icmp .ge 57, 3) := by decide +kernel
theorem dX5_readTest_18 : decode cX5_readTest 18 = .ok (.aload_n 0, 1) := by decide +kernel
theorem dX5_readTest_19 : decode cX5_readTest 19 = .ok (.ldc 101, 2) := by decide +kernel
theorem dX5_readTest_21 : decode cX5_readTest 21 = .ok (.invokevirtual 64, 3) := by decide +kernel
theorem dX5_readTest_24 : decode cX5_readTest 24 = .ok (.iconst (-1), 1) := by decide +kernel
theorem dX5_readTest_25 : decode cX5_readTest 25 = .ok (.if_icmp .eq 47, 3) := by decide +kernel
theorem dX5_readTest_28 : decode cX5_readTest 28 = .ok (.aload_n 0, 1) := by decide +kernel
theorem dX5_readTest_29 : decode cX5_readTest 29 = .ok (.getfield 12, 3) := by decide +kernel
theorem dX5_readTest_32 : decode cX5_readTest 32 = .ok (.getfield 26, 3) := by decide +kernel
theorem dX5_readTest_35 : decode cX5_readTest 35 = .ok (.istore_n 2, 1) := by decide +kernel
theorem dX5_readTest_36 : decode cX5_readTest 36 = .ok (.aload_n 0, 1) := by decide +kernel
theorem dX5_readTest_37 : decode cX5_readTest 37 = .ok (.getfield 12, 3) := by decide +kernel
theorem dX5_readTest_40 : decode cX5_readTest 40 = .ok (.bipush 11, 2) := by decide +kernel
theorem dX5_readTest_42 : decode cX5_readTest 42 = .ok (.iconst 0, 1) := by decide +kernel
theorem dX5_readTest_43 : decode cX5_readTest 43 = .ok (.invokevirtual 103, 3) := by decide +kernel
theorem dX5_readTest_46 : decode cX5_readTest 46 = .ok (.aload_n 0, 1) := by decide +kernel
theorem dX5_readTest_47 : decode cX5_readTest 47 = .ok (.invokevirtual 42, 3) := by decide +kernel
theorem dX5_readTest_50 : decode cX5_readTest 50 = .ok (.aload_n 0, 1) := by decide +kernel
theorem dX5_readTest_51 : decode cX5_readTest 51 = .ok (.invokevirtual 98, 3) := by decide +kernel
theorem dX5_readTest_54 : decode cX5_readTest 54 = .ok (.ifCond .ne 5, 3) := by decide +kernel
theorem dX5_readTest_57 : decode cX5_readTest 57 = .ok (.iconst 0, 1) := by decide +kernel
theorem dX5_readTest_58 : decode cX5_readTest 58 = .ok (.ireturn, 1) := by decide +kernel
theorem dX5_readTest_59 : decode cX5_readTest 59 = .ok (.aload_n 0, 1) := by decide +kernel
theorem dX5_readTest_60 : decode cX5_readTest 60 = .ok (.iload_n 2, 1) := by decide +kernel
theorem dX5_readTest_61 : decode cX5_readTest 61 = .ok (.bipush 11, 2) := by decide +kernel
theorem dX5_readTest_63 : decode cX5_readTest 63 = .ok (.invokevirtual 107, 3) := by decide +kernel
theorem dX5_readTest_66 : decode cX5_readTest 66 = .ok (.iinc 1 1, 3) := by decide +kernel
theorem dX5_readTest_69 : decode cX5_readTest 69 = .ok (.goto (-58), 3) := by decide +kernel
theorem dX5_readTest_72 : decode cX5_readTest 72 = .ok (.iconst 1, 1) := by decide +kernel
theorem dX5_readTest_73 : decode cX5_readTest 73 = .ok (.ireturn, 1) := by decide +kernel
theorem dX5_readBoth_0 : decode cX5_readBoth 0 = .ok (.aload_n 0, 1) := by decide +kernel
theorem dX5_readBoth_1 : decode cX5_readBoth 1 = .ok (.invokevirtual 110, 3) := by decide +kernel
theorem dX5_readBoth_4 : decode cX5_readBoth 4 = .ok (.ifCond .ne 5, 3) := by decide +kernel
theorem dX5_readBoth_7 : decode cX5_readBoth 7 = .ok (.iconst 0, 1) := by decide +kernel
theorem dX5_readBoth_8 : decode cX5_readBoth 8 = .ok (.ireturn, 1) := by decide +kernel
theorem dX5_readBoth_9 : decode cX5_readBoth 9 = .ok (.iconst 0, 1) := by decide +kernel
theorem dX5_readBoth_10 : decode cX5_readBoth 10 = .ok (.istore_n 1, 1) := by decide +kernel
theorem dX5_readBoth_11 : decode cX5_readBoth 11 = .ok (.iload_n 1, 1) := by decide +kernel
theorem dX5_readBoth_12 : decode cX5_readBoth 12 = .ok (.sipush 400, 3) := by decide +kernel
theorem dX5_readBoth_15 : decode cX5_readBoth 15 = .ok (.if_icmp .ge 57, 3) := by decide +kernel
theorem dX5_readBoth_18 : decode cX5_readBoth 18 = .ok (.aload_n 0, 1) := by decide +kernel
theorem dX5_readBoth_19 : decode cX5_readBoth 19 = .ok (.ldc 113, 2) := by decide +kernel
theorem dX5_readBoth_21 : decode cX5_readBoth 21 = .ok (.invokevirtual 64, 3) := by decide +kernel
theorem dX5_readBoth_24 : decode cX5_readBoth 24 = .ok (.iconst (-1), 1) := by decide +kernel
theorem dX5_readBoth_25 : decode cX5_readBoth 25 = .ok (.if_icmp .eq 47, 3) := by decide +kernel
theorem dX5_readBoth_28 : decode cX5_readBoth 28 = .ok (.aload_n 0, 1) := by decide +kernel
theorem dX5_readBoth_29 : decode cX5_readBoth 29 = .ok (.getfield 12, 3) := by decide +kernel
theorem dX5_readBoth_32 : decode cX5_readBoth 32 = .ok (.getfield 26, 3) := by decide +kernel
theorem dX5_readBoth_35 : decode cX5_readBoth 35 = .ok (.istore_n 2, 1) := by decide +kernel
theorem dX5_readBoth_36 : decode cX5_readBoth 36 = .ok (.aload_n 0, 1) := by decide +kernel
theorem dX5_readBoth_37 : decode cX5_readBoth 37 = .ok (.getfield 12, 3) := by decide +kernel
theorem dX5_readBoth_40 : decode cX5_readBoth 40 = .ok (.bipush 12, 2) := by decide +kernel
theorem dX5_readBoth_42 : decode cX5_readBoth 42 = .ok (.iconst 0, 1) := by decide +kernel
theorem dX5_readBoth_43 : decode cX5_readBoth 43 = .ok (.invokevirtual 103, 3) := by decide +kernel
theorem dX5_readBoth_46 : decode cX5_readBoth 46 = .ok (.aload_n 0, 1) := by decide +kernel
theorem dX5_readBoth_47 : decode cX5_readBoth 47 = .ok (.invokevirtual 42, 3) := by decide +kernel
theorem dX5_readBoth_50 : decode cX5_readBoth 50 = .ok (.aload_n 0, 1) := by decide +kernel
theorem dX5_readBoth_51 : decode cX5_readBoth 51 = .ok (.invokevirtual 110, 3) := by decide +kernel
theorem dX5_readBoth_54 : decode cX5_readBoth 54 = .ok (.ifCond .ne 5, 3) := by decide +kernel
theorem dX5_readBoth_57 : decode cX5_readBoth 57 = .ok (.iconst 0, 1) := by decide +kernel
theorem dX5_readBoth_58 : decode cX5_readBoth 58 = .ok (.ireturn, 1) := by decide +kernel
theorem dX5_readBoth_59 : decode cX5_readBoth 59 = .ok (.aload_n 0, 1) := by decide +kernel
theorem dX5_readBoth_60 : decode cX5_readBoth 60 = .ok (.iload_n 2, 1) := by decide +kernel
theorem dX5_readBoth_61 : decode cX5_readBoth 61 = .ok (.bipush 12, 2) := by decide +kernel
theorem dX5_readBoth_63 : decode cX5_readBoth 63 = .ok (.invokevirtual 107, 3) := by decide +kernel
theorem dX5_readBoth_66 : decode cX5_readBoth 66 = .ok (.iinc 1 1, 3) := by decide +kernel
theorem dX5_readBoth_69 : decode cX5_readBoth 69 = .ok (.goto (-58), 3) := by decide +kernel
theorem dX5_readBoth_72 : decode cX5_readBoth 72 = .ok (.iconst 1, 1) := by decide +kernel
theorem dX5_readBoth_73 : decode cX5_readBoth 73 = .ok (.ireturn, 1) := by decide +kernel
theorem dX5_aimJump_0 : decode cX5_aimJump 0 = .ok (.iload_n 1, 1) := by decide +kernel
theorem dX5_aimJump_1 : decode cX5_aimJump 1 = .ok (.aload_n 0, 1) := by decide +kernel
theorem dX5_aimJump_2 : decode cX5_aimJump 2 = .ok (.getfield 12, 3) := by decide +kernel
theorem dX5_aimJump_5 : decode cX5_aimJump 5 = .ok (.getfield 26, 3) := by decide +kernel
theorem dX5_aimJump_8 : decode cX5_aimJump 8 = .ok (.if_icmp .ge 23, 3) := by decide +kernel
theorem dX5_aimJump_11 : decode cX5_aimJump 11 = .ok (.aload_n 0, 1) := by decide +kernel
theorem dX5_aimJump_12 : decode cX5_aimJump 12 = .ok (.getfield 12, 3) := by decide +kernel
theorem dX5_aimJump_15 : decode cX5_aimJump 15 = .ok (.getfield 115, 3) := by decide +kernel
theorem dX5_aimJump_18 : decode cX5_aimJump 18 = .ok (.iload_n 1, 1) := by decide +kernel
theorem dX5_aimJump_19 : decode cX5_aimJump 19 = .ok (.aload_n 0, 1) := by decide +kernel
theorem dX5_aimJump_20 : decode cX5_aimJump 20 = .ok (.getfield 12, 3) := by decide +kernel
theorem dX5_aimJump_23 : decode cX5_aimJump 23 = .ok (.getfield 26, 3) := by decide +kernel
theorem dX5_aimJump_26 : decode cX5_aimJump 26 = .ok (.iconst 4, 1) := by decide +kernel
theorem dX5_aimJump_27 : decode cX5_aimJump 27 = .ok (.ishl, 1) := by decide +kernel
theorem dX5_aimJump_28 : decode cX5_aimJump 28 = .ok (.iload_n 2, 1) := by decide +kernel
theorem dX5_aimJump_29 : decode cX5_aimJump 29 = .ok (.ior, 1) := by decide +kernel
theorem dX5_aimJump_30 : decode cX5_aimJump 30 = .ok (.iastore, 1) := by decide +kernel
theorem dX5_aimJump_31 : decode cX5_aimJump 31 = .ok (.return_, 1) := by decide +kernel
theorem dX5_readPlain_0 : decode cX5_readPlain 0 = .ok (.iconst 0, 1) := by decide +kernel
theorem dX5_readPlain_1 : decode cX5_readPlain 1 = .ok (.istore_n 1, 1) := by decide +kernel
theorem dX5_readPlain_2 : decode cX5_readPlain 2 = .ok (.iconst 0, 1) := by decide +kernel
theorem dX5_readPlain_3 : decode cX5_readPlain 3 = .ok (.istore_n 2, 1) := by decide +kernel
theorem dX5_readPlain_4 : decode cX5_readPlain 4 = .ok (.iload_n 2, 1) := by decide +kernel
theorem dX5_readPlain_5 : decode cX5_readPlain 5 = .ok (.sipush 400, 3) := by decide +kernel
theorem dX5_readPlain_8 : decode cX5_readPlain 8 = .ok (.if_icmp .ge 33, 3) := by decide +kernel
theorem dX5_readPlain_11 : decode cX5_readPlain 11 = .ok (.aload_n 0, 1) := by decide +kernel
theorem dX5_readPlain_12 : decode cX5_readPlain 12 = .ok (.ldc 119, 2) := by decide +kernel
theorem dX5_readPlain_14 : decode cX5_readPlain 14 = .ok (.invokevirtual 64, 3) := by decide +kernel
theorem dX5_readPlain_17 : decode cX5_readPlain 17 = .ok (.iconst (-1), 1) := by decide +kernel
theorem dX5_readPlain_18 : decode cX5_readPlain 18 = .ok (.if_icmp .eq 23, 3) := by decide +kernel
theorem dX5_readPlain_21 : decode cX5_readPlain 21 = .ok (.iload_n 1, 1) := by decide +kernel
theorem dX5_readPlain_22 : decode cX5_readPlain 22 = .ok (.ifCond .ne 7, 3) := by decide +kernel
theorem dX5_readPlain_25 : decode cX5_readPlain 25 = .ok (.iconst 1, 1) := by decide +kernel
theorem dX5_readPlain_26 : decode cX5_readPlain 26 = .ok (.goto 4, 3) := by decide +kernel
theorem dX5_readPlain_29 : decode cX5_readPlain 29 = .ok (.iconst 0, 1) := by decide +kernel
theorem dX5_readPlain_30 : decode cX5_readPlain 30 = .ok (.istore_n 1, 1) := by decide +kernel
theorem dX5_readPlain_31 : decode cX5_readPlain 31 = .ok (.aload_n 0, 1) := by decide +kernel
theorem dX5_readPlain_32 : decode cX5_readPlain 32 = .ok (.invokevirtual 42, 3) := by decide +kernel
theorem dX5_readPlain_35 : decode cX5_readPlain 35 = .ok (.iinc 2 1, 3) := by decide +kernel
theorem dX5_readPlain_38 : decode cX5_readPlain 38 = .ok (.goto (-34), 3) := by decide +kernel
theorem dX5_readPlain_41 : decode cX5_readPlain 41 = .ok (.aload_n 0, 1) := by decide +kernel
theorem dX5_readPlain_42 : decode cX5_readPlain 42 = .ok (.bipush 40, 2) := by decide +kernel
theorem dX5_readPlain_44 : decode cX5_readPlain 44 = .ok (.invokevirtual 58, 3) := by decide +kernel
theorem dX5_readPlain_47 : decode cX5_readPlain 47 = .ok (.ifCond .eq 12, 3) := by decide +kernel
theorem dX5_readPlain_50 : decode cX5_readPlain 50 = .ok (.aload_n 0, 1) := by decide +kernel
theorem dX5_readPlain_51 : decode cX5_readPlain 51 = .ok (.invokevirtual 121, 3) := by decide +kernel
theorem dX5_readPlain_54 : decode cX5_readPlain 54 = .ok (.ifCond .ne 87, 3) := by decide +kernel
theorem dX5_readPlain_57 : decode cX5_readPlain 57 = .ok (.iconst 0, 1) := by decide +kernel
theorem dX5_readPlain_58 : decode cX5_readPlain 58 = .ok (.ireturn, 1) := by decide +kernel
theorem dX5_readPlain_59 : decode cX5_readPlain 59 = .ok (.aload_n 0, 1) := by decide +kernel
theorem dX5_readPlain_60 : decode cX5_readPlain 60 = .ok (.invokevirtual 72, 3) := by decide +kernel
theorem dX5_readPlain_63 : decode cX5_readPlain 63 = .ok (.ifCond .ne 5, 3) := by decide +kernel
theorem dX5_readPlain_66 : decode cX5_readPlain 66 = .ok (.iconst 0, 1) := by decide +kernel
theorem dX5_readPlain_67 : decode cX5_readPlain 67 = .ok (.ireturn, 1) := by decide +kernel
theorem dX5_readPlain_68 : decode cX5_readPlain 68 = .ok (.aload_n 0, 1) := by decide +kernel
theorem dX5_readPlain_69 : decode cX5_readPlain 69 = .ok (.bipush 60, 2) := by decide +kernel
theorem dX5_readPlain_71 : decode cX5_readPlain 71 = .ok (.invokevirtual 58, 3) := by decide +kernel
theorem dX5_readPlain_74 : decode cX5_readPlain 74 = .ok (.ifCond .eq 8, 3) := by decide +kernel
theorem dX5_readPlain_77 : decode cX5_readPlain 77 = .ok (.bipush 7, 2) := by decide +kernel
theorem dX5_readPlain_79 : decode cX5_readPlain 79 = .ok (.goto 32, 3) := by decide +kernel
theorem dX5_readPlain_82 : decode cX5_readPlain 82 = .ok (.aload_n 0, 1) := by decide +kernel
theorem dX5_readPlain_83 : decode cX5_readPlain 83 = .ok (.bipush 62, 2) := by decide +kernel
theorem dX5_readPlain_85 : decode cX5_readPlain 85 = .ok (.invokevirtual 58, 3) := by decide +kernel
theorem dX5_readPlain_88 : decode cX5_readPlain 88 = .ok (.ifCond .eq 8, 3) := by decide +kernel
theorem dX5_readPlain_91 : decode cX5_readPlain 91 = .ok (.bipush 8, 2) := by decide +kernel
theorem dX5_readPlain_93 : decode cX5_readPlain 93 = .ok (.goto 18, 3) := by decide +kernel
theorem dX5_readPlain_96 : decode cX5_readPlain 96 = .ok (.aload_n 0, 1) := by decide +kernel
theorem dX5_readPlain_97 : decode cX5_readPlain 97 = .ok (.bipush 61, 2) := by decide +kernel
theorem dX5_readPlain_99 : decode cX5_readPlain 99 = .ok (.invokevirtual 58, 3) := by decide +kernel
theorem dX5_readPlain_102 : decode cX5_readPlain 102 = .ok (.ifCond .eq 8, 3) := by decide +kernel
theorem dX5_readPlain_105 : decode cX5_readPlain 105 = .ok (.bipush 9, 2) := by decide +kernel
theorem dX5_readPlain_107 : decode cX5_readPlain 107 = .ok (.goto 4, 3) := by decide +kernel
theorem dX5_readPlain_110 : decode cX5_readPlain 110 = .ok (.iconst (-1), 1) := by decide +kernel
theorem dX5_readPlain_111 : decode cX5_readPlain 111 = .ok (.istore_n 2, 1) := by decide +kernel
theorem dX5_readPlain_112 : decode cX5_readPlain 112 = .ok (.iload_n 2, 1) := by decide +kernel
theorem dX5_readPlain_113 : decode cX5_readPlain 113 = .ok (.iconst (-1), 1) := by decide +kernel
theorem dX5_readPlain_114 : decode cX5_readPlain 114 = .ok (.if_icmp .ne 5, 3) := by decide +kernel
theorem dX5_readPlain_117 : decode cX5_readPlain 117 = .ok (.iconst 0, 1) := by decide +kernel
theorem dX5_readPlain_118 : decode cX5_readPlain 118 = .ok (.ireturn, 1) := by decide +kernel
theorem dX5_readPlain_119 : decode cX5_readPlain 119 = .ok (.aload_n 0, 1) := by decide +kernel
theorem dX5_readPlain_120 : decode cX5_readPlain 120 = .ok (.invokevirtual 42, 3) := by decide +kernel
theorem dX5_readPlain_123 : decode cX5_readPlain 123 = .ok (.aload_n 0, 1) := by decide +kernel
theorem dX5_readPlain_124 : decode cX5_readPlain 124 = .ok (.invokevirtual 72, 3) := by decide +kernel
theorem dX5_readPlain_127 : decode cX5_readPlain 127 = .ok (.ifCond .ne 5, 3) := by decide +kernel
theorem dX5_readPlain_130 : decode cX5_readPlain 130 = .ok (.iconst 0, 1) := by decide +kernel
theorem dX5_readPlain_131 : decode cX5_readPlain 131 = .ok (.ireturn, 1) := by decide +kernel
theorem dX5_readPlain_132 : decode cX5_readPlain 132 = .ok (.aload_n 0, 1) := by decide +kernel
theorem dX5_readPlain_133 : decode cX5_readPlain 133 = .ok (.getfield 12, 3) := by decide +kernel
theorem dX5_readPlain_136 : decode cX5_readPlain 136 = .ok (.iload_n 2, 1) := by decide +kernel
theorem dX5_readPlain_137 : decode cX5_readPlain 137 = .ok (.iconst 0, 1) := by decide +kernel
theorem dX5_readPlain_138 : decode cX5_readPlain 138 = .ok (.invokevirtual 103, 3) := by decide +kernel
theorem dX5_readPlain_141 : decode cX5_readPlain 141 = .ok (.iload_n 1, 1) := by decide +kernel
theorem dX5_readPlain_142 : decode cX5_readPlain 142 = .ok (.ifCond .eq 13, 3) := by decide +kernel
theorem dX5_readPlain_145 : decode cX5_readPlain 145 = .ok (.aload_n 0, 1) := by decide +kernel
theorem dX5_readPlain_146 : decode cX5_readPlain 146 = .ok (.getfield 12, 3) := by decide +kernel
theorem dX5_readPlain_149 : decode cX5_readPlain 149 = .ok (.bipush 10, 2) := by decide +kernel
theorem dX5_readPlain_151 : decode cX5_readPlain 151 = .ok (.iconst 0, 1) := by decide +kernel
theorem dX5_readPlain_152 : decode cX5_readPlain 152 = .ok (.invokevirtual 103, 3) := by decide +kernel
theorem dX5_readPlain_155 : decode cX5_readPlain 155 = .ok (.iconst 1, 1) := by decide +kernel
theorem dX5_readPlain_156 : decode cX5_readPlain 156 = .ok (.ireturn, 1) := by decide +kernel
theorem dX5_readBracketedTest_0 : decode cX5_readBracketedTest 0 = .ok (.aload_n 0, 1) := by decide +kernel
theorem dX5_readBracketedTest_1 : decode cX5_readBracketedTest 1 = .ok (.getfield 39, 3) := by decide +kernel
theorem dX5_readBracketedTest_4 : decode cX5_readBracketedTest 4 = .ok (.bipush 8, 2) := by decide +kernel
theorem dX5_readBracketedTest_6 : decode cX5_readBracketedTest 6 = .ok (.if_icmp .lt 5, 3) := by decide +kernel
theorem dX5_readBracketedTest_9 : decode cX5_readBracketedTest 9 = .ok (.iconst 0, 1) := by decide +kernel
theorem dX5_readBracketedTest_10 : decode cX5_readBracketedTest 10 = .ok (.ireturn, 1) := by decide +kernel
theorem dX5_readBracketedTest_11 : decode cX5_readBracketedTest 11 = .ok (.aload_n 0, 1) := by decide +kernel
theorem dX5_readBracketedTest_12 : decode cX5_readBracketedTest 12 = .ok (.dup, 1) := by decide +kernel
theorem dX5_readBracketedTest_13 : decode cX5_readBracketedTest 13 = .ok (.getfield 39, 3) := by decide +kernel
theorem dX5_readBracketedTest_16 : decode cX5_readBracketedTest 16 = .ok (.iconst 1, 1) := by decide +kernel
theorem dX5_readBracketedTest_17 : decode cX5_readBracketedTest 17 = .ok (.iadd, 1) := by decide +kernel
theorem dX5_readBracketedTest_18 : decode cX5_readBracketedTest 18 = .ok (.putfield 39, 3) := by decide +kernel
theorem dX5_readBracketedTest_21 : decode cX5_readBracketedTest 21 = .ok (.aload_n 0, 1) := by decide +kernel
theorem dX5_readBracketedTest_22 : decode cX5_readBracketedTest 22 = .ok (.invokevirtual 42, 3) := by decide +kernel
theorem dX5_readBracketedTest_25 : decode cX5_readBracketedTest 25 = .ok (.aload_n 0, 1) := by decide +kernel
theorem dX5_readBracketedTest_26 : decode cX5_readBracketedTest 26 = .ok (.invokevirtual 95, 3) := by decide +kernel
theorem dX5_readBracketedTest_29 : decode cX5_readBracketedTest 29 = .ok (.ifCond .eq 12, 3) := by decide +kernel
theorem dX5_readBracketedTest_32 : decode cX5_readBracketedTest 32 = .ok (.aload_n 0, 1) := by decide +kernel
theorem dX5_readBracketedTest_33 : decode cX5_readBracketedTest 33 = .ok (.bipush 41, 2) := by decide +kernel
theorem dX5_readBracketedTest_35 : decode cX5_readBracketedTest 35 = .ok (.invokevirtual 58, 3) := by decide +kernel
theorem dX5_readBracketedTest_38 : decode cX5_readBracketedTest 38 = .ok (.ifCond .ne 5, 3) := by decide +kernel
theorem dX5_readBracketedTest_41 : decode cX5_readBracketedTest 41 = .ok (.iconst 0, 1) := by decide +kernel
theorem dX5_readBracketedTest_42 : decode cX5_readBracketedTest 42 = .ok (.ireturn, 1) := by decide +kernel
theorem dX5_readBracketedTest_43 : decode cX5_readBracketedTest 43 = .ok (.aload_n 0, 1) := by decide +kernel
theorem dX5_readBracketedTest_44 : decode cX5_readBracketedTest 44 = .ok (.dup, 1) := by decide +kernel
theorem dX5_readBracketedTest_45 : decode cX5_readBracketedTest 45 = .ok (.getfield 39, 3) := by decide +kernel
theorem dX5_readBracketedTest_48 : decode cX5_readBracketedTest 48 = .ok (.iconst 1, 1) := by decide +kernel
theorem dX5_readBracketedTest_49 : decode cX5_readBracketedTest 49 = .ok (.isub, 1) := by decide +kernel
theorem dX5_readBracketedTest_50 : decode cX5_readBracketedTest 50 = .ok (.putfield 39, 3) := by decide +kernel
theorem dX5_readBracketedTest_53 : decode cX5_readBracketedTest 53 = .ok (.aload_n 0, 1) := by decide +kernel
theorem dX5_readBracketedTest_54 : decode cX5_readBracketedTest 54 = .ok (.invokevirtual 42, 3) := by decide +kernel
theorem dX5_readBracketedTest_57 : decode cX5_readBracketedTest 57 = .ok (.iconst 1, 1) := by decide +kernel
theorem dX5_readBracketedTest_58 : decode cX5_readBracketedTest 58 = .ok (.ireturn, 1) := by decide +kernel
theorem dX5_readSum_0 : decode cX5_readSum 0 = .ok (.aload_n 0, 1) := by decide +kernel
theorem dX5_readSum_1 : decode cX5_readSum 1 = .ok (.invokevirtual 124, 3) := by decide +kernel
theorem dX5_readSum_4 : decode cX5_readSum 4 = .ok (.ifCond .ne 5, 3) := by decide +kernel
theorem dX5_readSum_7 : decode cX5_readSum 7 = .ok (.iconst 0, 1) := by decide +kernel
theorem dX5_readSum_8 : decode cX5_readSum 8 = .ok (.ireturn, 1) := by decide +kernel
theorem dX5_readSum_9 : decode cX5_readSum 9 = .ok (.iconst 0, 1) := by decide +kernel
theorem dX5_readSum_10 : decode cX5_readSum 10 = .ok (.istore_n 1, 1) := by decide +kernel
theorem dX5_readSum_11 : decode cX5_readSum 11 = .ok (.iload_n 1, 1) := by decide +kernel
theorem dX5_readSum_12 : decode cX5_readSum 12 = .ok (.sipush 400, 3) := by decide +kernel
theorem dX5_readSum_15 : decode cX5_readSum 15 = .ok (.if_icmp .ge 64, 3) := by decide +kernel
theorem dX5_readSum_18 : decode cX5_readSum 18 = .ok (.aload_n 0, 1) := by decide +kernel
theorem dX5_readSum_19 : decode cX5_readSum 19 = .ok (.bipush 43, 2) := by decide +kernel
theorem dX5_readSum_21 : decode cX5_readSum 21 = .ok (.invokevirtual 58, 3) := by decide +kernel
theorem dX5_readSum_24 : decode cX5_readSum 24 = .ok (.ifCond .ne 12, 3) := by decide +kernel
theorem dX5_readSum_27 : decode cX5_readSum 27 = .ok (.aload_n 0, 1) := by decide +kernel
theorem dX5_readSum_28 : decode cX5_readSum 28 = .ok (.bipush 45, 2) := by decide +kernel
theorem dX5_readSum_30 : decode cX5_readSum 30 = .ok (.invokevirtual 58, 3) := by decide +kernel
theorem dX5_readSum_33 : decode cX5_readSum 33 = .ok (.ifCond .eq 46, 3) := by decide +kernel
theorem dX5_readSum_36 : decode cX5_readSum 36 = .ok (.aload_n 0, 1) := by decide +kernel
theorem dX5_readSum_37 : decode cX5_readSum 37 = .ok (.bipush 43, 2) := by decide +kernel
theorem dX5_readSum_39 : decode cX5_readSum 39 = .ok (.invokevirtual 58, 3) := by decide +kernel
theorem dX5_readSum_42 : decode cX5_readSum 42 = .ok (.ifCond .eq 7, 3) := by decide +kernel
theorem dX5_readSum_45 : decode cX5_readSum 45 = .ok (.iconst 2, 1) := by decide +kernel
theorem dX5_readSum_46 : decode cX5_readSum 46 = .ok (.goto 4, 3) := by decide +kernel
theorem dX5_readSum_49 : decode cX5_readSum 49 = .ok (.iconst 3, 1) := by decide +kernel
theorem dX5_readSum_50 : decode cX5_readSum 50 = .ok (.istore_n 2, 1) := by decide +kernel
theorem dX5_readSum_51 : decode cX5_readSum 51 = .ok (.aload_n 0, 1) := by decide +kernel
theorem dX5_readSum_52 : decode cX5_readSum 52 = .ok (.invokevirtual 42, 3) := by decide +kernel
theorem dX5_readSum_55 : decode cX5_readSum 55 = .ok (.aload_n 0, 1) := by decide +kernel
theorem dX5_readSum_56 : decode cX5_readSum 56 = .ok (.invokevirtual 124, 3) := by decide +kernel
theorem dX5_readSum_59 : decode cX5_readSum 59 = .ok (.ifCond .ne 5, 3) := by decide +kernel
theorem dX5_readSum_62 : decode cX5_readSum 62 = .ok (.iconst 0, 1) := by decide +kernel
theorem dX5_readSum_63 : decode cX5_readSum 63 = .ok (.ireturn, 1) := by decide +kernel
theorem dX5_readSum_64 : decode cX5_readSum 64 = .ok (.aload_n 0, 1) := by decide +kernel
theorem dX5_readSum_65 : decode cX5_readSum 65 = .ok (.getfield 12, 3) := by decide +kernel
theorem dX5_readSum_68 : decode cX5_readSum 68 = .ok (.iload_n 2, 1) := by decide +kernel
theorem dX5_readSum_69 : decode cX5_readSum 69 = .ok (.iconst 0, 1) := by decide +kernel
theorem dX5_readSum_70 : decode cX5_readSum 70 = .ok (.invokevirtual 103, 3) := by decide +kernel
theorem dX5_readSum_73 : decode cX5_readSum 73 = .ok (.iinc 1 1, 3) := by decide +kernel
theorem dX5_readSum_76 : decode cX5_readSum 76 = .ok (.goto (-65), 3) := by decide +kernel
theorem dX5_readSum_79 : decode cX5_readSum 79 = .ok (.iconst 1, 1) := by decide +kernel
theorem dX5_readSum_80 : decode cX5_readSum 80 = .ok (.ireturn, 1) := by decide +kernel
theorem dX5_readTerm_0 : decode cX5_readTerm 0 = .ok (.aload_n 0, 1) := by decide +kernel
theorem dX5_readTerm_1 : decode cX5_readTerm 1 = .ok (.invokevirtual 127, 3) := by decide +kernel
theorem dX5_readTerm_4 : decode cX5_readTerm 4 = .ok (.ifCond .ne 5, 3) := by decide +kernel
theorem dX5_readTerm_7 : decode cX5_readTerm 7 = .ok (.iconst 0, 1) := by decide +kernel
theorem dX5_readTerm_8 : decode cX5_readTerm 8 = .ok (.ireturn, 1) := by decide +kernel
theorem dX5_readTerm_9 : decode cX5_readTerm 9 = .ok (.iconst 0, 1) := by decide +kernel
theorem dX5_readTerm_10 : decode cX5_readTerm 10 = .ok (.istore_n 1, 1) := by decide +kernel
theorem dX5_readTerm_11 : decode cX5_readTerm 11 = .ok (.iload_n 1, 1) := by decide +kernel
theorem dX5_readTerm_12 : decode cX5_readTerm 12 = .ok (.sipush 400, 3) := by decide +kernel
theorem dX5_readTerm_15 : decode cX5_readTerm 15 = .ok (.if_icmp .ge 87, 3) := by decide +kernel
theorem dX5_readTerm_18 : decode cX5_readTerm 18 = .ok (.aload_n 0, 1) := by decide +kernel
theorem dX5_readTerm_19 : decode cX5_readTerm 19 = .ok (.bipush 42, 2) := by decide +kernel
theorem dX5_readTerm_21 : decode cX5_readTerm 21 = .ok (.invokevirtual 58, 3) := by decide +kernel
theorem dX5_readTerm_24 : decode cX5_readTerm 24 = .ok (.ifCond .ne 21, 3) := by decide +kernel
theorem dX5_readTerm_27 : decode cX5_readTerm 27 = .ok (.aload_n 0, 1) := by decide +kernel
theorem dX5_readTerm_28 : decode cX5_readTerm 28 = .ok (.bipush 47, 2) := by decide +kernel
theorem dX5_readTerm_30 : decode cX5_readTerm 30 = .ok (.invokevirtual 58, 3) := by decide +kernel
theorem dX5_readTerm_33 : decode cX5_readTerm 33 = .ok (.ifCond .ne 12, 3) := by decide +kernel
theorem dX5_readTerm_36 : decode cX5_readTerm 36 = .ok (.aload_n 0, 1) := by decide +kernel
theorem dX5_readTerm_37 : decode cX5_readTerm 37 = .ok (.bipush 37, 2) := by decide +kernel
theorem dX5_readTerm_39 : decode cX5_readTerm 39 = .ok (.invokevirtual 58, 3) := by decide +kernel
theorem dX5_readTerm_42 : decode cX5_readTerm 42 = .ok (.ifCond .eq 60, 3) := by decide +kernel
theorem dX5_readTerm_45 : decode cX5_readTerm 45 = .ok (.aload_n 0, 1) := by decide +kernel
theorem dX5_readTerm_46 : decode cX5_readTerm 46 = .ok (.bipush 42, 2) := by decide +kernel
theorem dX5_readTerm_48 : decode cX5_readTerm 48 = .ok (.invokevirtual 58, 3) := by decide +kernel
theorem dX5_readTerm_51 : decode cX5_readTerm 51 = .ok (.ifCond .eq 7, 3) := by decide +kernel
theorem dX5_readTerm_54 : decode cX5_readTerm 54 = .ok (.iconst 4, 1) := by decide +kernel
theorem dX5_readTerm_55 : decode cX5_readTerm 55 = .ok (.goto 18, 3) := by decide +kernel
theorem dX5_readTerm_58 : decode cX5_readTerm 58 = .ok (.aload_n 0, 1) := by decide +kernel
theorem dX5_readTerm_59 : decode cX5_readTerm 59 = .ok (.bipush 47, 2) := by decide +kernel
theorem dX5_readTerm_61 : decode cX5_readTerm 61 = .ok (.invokevirtual 58, 3) := by decide +kernel
theorem dX5_readTerm_64 : decode cX5_readTerm 64 = .ok (.ifCond .eq 7, 3) := by decide +kernel
theorem dX5_readTerm_67 : decode cX5_readTerm 67 = .ok (.iconst 5, 1) := by decide +kernel
theorem dX5_readTerm_68 : decode cX5_readTerm 68 = .ok (.goto 5, 3) := by decide +kernel
theorem dX5_readTerm_71 : decode cX5_readTerm 71 = .ok (.bipush 6, 2) := by decide +kernel
theorem dX5_readTerm_73 : decode cX5_readTerm 73 = .ok (.istore_n 2, 1) := by decide +kernel
theorem dX5_readTerm_74 : decode cX5_readTerm 74 = .ok (.aload_n 0, 1) := by decide +kernel
theorem dX5_readTerm_75 : decode cX5_readTerm 75 = .ok (.invokevirtual 42, 3) := by decide +kernel
theorem dX5_readTerm_78 : decode cX5_readTerm 78 = .ok (.aload_n 0, 1) := by decide +kernel
theorem dX5_readTerm_79 : decode cX5_readTerm 79 = .ok (.invokevirtual 127, 3) := by decide +kernel
theorem dX5_readTerm_82 : decode cX5_readTerm 82 = .ok (.ifCond .ne 5, 3) := by decide +kernel
theorem dX5_readTerm_85 : decode cX5_readTerm 85 = .ok (.iconst 0, 1) := by decide +kernel
theorem dX5_readTerm_86 : decode cX5_readTerm 86 = .ok (.ireturn, 1) := by decide +kernel
theorem dX5_readTerm_87 : decode cX5_readTerm 87 = .ok (.aload_n 0, 1) := by decide +kernel
theorem dX5_readTerm_88 : decode cX5_readTerm 88 = .ok (.getfield 12, 3) := by decide +kernel
theorem dX5_readTerm_91 : decode cX5_readTerm 91 = .ok (.iload_n 2, 1) := by decide +kernel
theorem dX5_readTerm_92 : decode cX5_readTerm 92 = .ok (.iconst 0, 1) := by decide +kernel
theorem dX5_readTerm_93 : decode cX5_readTerm 93 = .ok (.invokevirtual 103, 3) := by decide +kernel
theorem dX5_readTerm_96 : decode cX5_readTerm 96 = .ok (.iinc 1 1, 3) := by decide +kernel
theorem dX5_readTerm_99 : decode cX5_readTerm 99 = .ok (.goto (-88), 3) := by decide +kernel
theorem dX5_readTerm_102 : decode cX5_readTerm 102 = .ok (.iconst 1, 1) := by decide +kernel
theorem dX5_readTerm_103 : decode cX5_readTerm 103 = .ok (.ireturn, 1) := by decide +kernel
theorem dX5_readPart_0 : decode cX5_readPart 0 = .ok (.aload_n 0, 1) := by decide +kernel
theorem dX5_readPart_1 : decode cX5_readPart 1 = .ok (.bipush 91, 2) := by decide +kernel
theorem dX5_readPart_3 : decode cX5_readPart 3 = .ok (.invokevirtual 58, 3) := by decide +kernel
theorem dX5_readPart_6 : decode cX5_readPart 6 = .ok (.ifCond .eq 8, 3) := by decide +kernel
theorem dX5_readPart_9 : decode cX5_readPart 9 = .ok (.aload_n 0, 1) := by decide +kernel
theorem dX5_readPart_10 : decode cX5_readPart 10 = .ok (.invokevirtual 130, 3) := by decide +kernel
theorem dX5_readPart_13 : decode cX5_readPart 13 = .ok (.ireturn, 1) := by decide +kernel
theorem dX5_readPart_14 : decode cX5_readPart 14 = .ok (.aload_n 0, 1) := by decide +kernel
theorem dX5_readPart_15 : decode cX5_readPart 15 = .ok (.getfield 36, 3) := by decide +kernel
theorem dX5_readPart_18 : decode cX5_readPart 18 = .ok (.bipush 50, 2) := by decide +kernel
theorem dX5_readPart_20 : decode cX5_readPart 20 = .ok (.if_icmp .lt 5, 3) := by decide +kernel
theorem dX5_readPart_23 : decode cX5_readPart 23 = .ok (.iconst 0, 1) := by decide +kernel
theorem dX5_readPart_24 : decode cX5_readPart 24 = .ok (.ireturn, 1) := by decide +kernel
theorem dX5_readPart_25 : decode cX5_readPart 25 = .ok (.aload_n 0, 1) := by decide +kernel
theorem dX5_readPart_26 : decode cX5_readPart 26 = .ok (.dup, 1) := by decide +kernel
theorem dX5_readPart_27 : decode cX5_readPart 27 = .ok (.getfield 36, 3) := by decide +kernel
theorem dX5_readPart_30 : decode cX5_readPart 30 = .ok (.iconst 1, 1) := by decide +kernel
theorem dX5_readPart_31 : decode cX5_readPart 31 = .ok (.iadd, 1) := by decide +kernel
theorem dX5_readPart_32 : decode cX5_readPart 32 = .ok (.putfield 36, 3) := by decide +kernel
theorem dX5_readPart_35 : decode cX5_readPart 35 = .ok (.aload_n 0, 1) := by decide +kernel
theorem dX5_readPart_36 : decode cX5_readPart 36 = .ok (.aload_n 0, 1) := by decide +kernel
theorem dX5_readPart_37 : decode cX5_readPart 37 = .ok (.getfield 22, 3) := by decide +kernel
theorem dX5_readPart_40 : decode cX5_readPart 40 = .ok (.ifCond .eq 8, 3) := by decide +kernel
theorem dX5_readPart_43 : decode cX5_readPart 43 = .ok (.ldc 133, 2) := by decide +kernel
theorem dX5_readPart_45 : decode cX5_readPart 45 = .ok (.goto 5, 3) := by decide +kernel
theorem dX5_readPart_48 : decode cX5_readPart 48 = .ok (.ldc 135, 2) := by decide +kernel
theorem dX5_readPart_50 : decode cX5_readPart 50 = .ok (.invokevirtual 64, 3) := by decide +kernel
theorem dX5_readPart_53 : decode cX5_readPart 53 = .ok (.istore_n 1, 1) := by decide +kernel
theorem dX5_readPart_54 : decode cX5_readPart 54 = .ok (.aload_n 0, 1) := by decide +kernel
theorem dX5_readPart_55 : decode cX5_readPart 55 = .ok (.getfield 55, 3) := by decide +kernel
theorem dX5_readPart_58 : decode cX5_readPart 58 = .ok (.iconst 2, 1) := by decide +kernel
theorem dX5_readPart_59 : decode cX5_readPart 59 = .ok (.if_icmp .ne 17, 3) := by decide +kernel
theorem dX5_readPart_62 : decode cX5_readPart 62 = .ok (.aload_n 0, 1) := by decide +kernel
theorem dX5_readPart_63 : decode cX5_readPart 63 = .ok (.getfield 90, 3) := by decide +kernel
theorem dX5_readPart_66 : decode cX5_readPart 66 = .ok (.sipush 1000, 3) := by decide +kernel
theorem dX5_readPart_69 : decode cX5_readPart 69 = .ok (.if_icmp .gt 7, 3) := by decide +kernel
theorem dX5_readPart_72 : decode cX5_readPart 72 = .ok (.iconst 1, 1) := by decide +kernel
theorem dX5_readPart_73 : decode cX5_readPart 73 = .ok (.goto 4, 3) := by decide +kernel
theorem dX5_readPart_76 : decode cX5_readPart 76 = .ok (.iconst 0, 1) := by decide +kernel
theorem dX5_readPart_77 : decode cX5_readPart 77 = .ok (.istore_n 2, 1) := by decide +kernel
theorem dX5_readPart_78 : decode cX5_readPart 78 = .ok (.iload_n 2, 1) := by decide +kernel
theorem dX5_readPart_79 : decode cX5_readPart 79 = .ok (.ifCond .ne 10, 3) := by decide +kernel
theorem dX5_readPart_82 : decode cX5_readPart 82 = .ok (.iload_n 1, 1) := by decide +kernel
theorem dX5_readPart_83 : decode cX5_readPart 83 = .ok (.iconst (-1), 1) := by decide +kernel
theorem dX5_readPart_84 : decode cX5_readPart 84 = .ok (.if_icmp .ne 5, 3) := by decide +kernel
theorem dX5_readPart_87 : decode cX5_readPart 87 = .ok (.iconst 0, 1) := by decide +kernel
theorem dX5_readPart_88 : decode cX5_readPart 88 = .ok (.ireturn, 1) := by decide +kernel
theorem dX5_readPart_89 : decode cX5_readPart 89 = .ok (.iload_n 2, 1) := by decide +kernel
theorem dX5_readPart_90 : decode cX5_readPart 90 = .ok (.ifCond .eq 10, 3) := by decide +kernel
theorem dX5_readPart_93 : decode cX5_readPart 93 = .ok (.aload_n 0, 1) := by decide +kernel
theorem dX5_readPart_94 : decode cX5_readPart 94 = .ok (.getfield 90, 3) := by decide +kernel
theorem dX5_readPart_97 : decode cX5_readPart 97 = .ok (.goto 4, 3) := by decide +kernel
theorem dX5_readPart_100 : decode cX5_readPart 100 = .ok (.iload_n 1, 1) := by decide +kernel
theorem dX5_readPart_101 : decode cX5_readPart 101 = .ok (.istore_n 3, 1) := by decide +kernel
theorem dX5_readPart_102 : decode cX5_readPart 102 = .ok (.aload_n 0, 1) := by decide +kernel
theorem dX5_readPart_103 : decode cX5_readPart 103 = .ok (.invokevirtual 42, 3) := by decide +kernel
theorem dX5_readPart_106 : decode cX5_readPart 106 = .ok (.aload_n 0, 1) := by decide +kernel
theorem dX5_readPart_107 : decode cX5_readPart 107 = .ok (.getfield 22, 3) := by decide +kernel
theorem dX5_readPart_110 : decode cX5_readPart 110 = .ok (.ifCond .eq 62, 3) := by decide +kernel
theorem dX5_readPart_113 : decode cX5_readPart 113 = .ok (.iload_n 1, 1) := by decide +kernel
theorem dX5_readPart_114 : decode cX5_readPart 114 = .ok (.bipush 6, 2) := by decide +kernel
theorem dX5_readPart_116 : decode cX5_readPart 116 = .ok (.if_icmp .lt 56, 3) := by decide +kernel
theorem dX5_readPart_119 : decode cX5_readPart 119 = .ok (.aload_n 0, 1) := by decide +kernel
theorem dX5_readPart_120 : decode cX5_readPart 120 = .ok (.getfield 55, 3) := by decide +kernel
theorem dX5_readPart_123 : decode cX5_readPart 123 = .ok (.iconst 2, 1) := by decide +kernel
theorem dX5_readPart_124 : decode cX5_readPart 124 = .ok (.if_icmp .ne 23, 3) := by decide +kernel
theorem dX5_readPart_127 : decode cX5_readPart 127 = .ok (.aload_n 0, 1) := by decide +kernel
theorem dX5_readPart_128 : decode cX5_readPart 128 = .ok (.getfield 90, 3) := by decide +kernel
theorem dX5_readPart_131 : decode cX5_readPart 131 = .ok (.iload_n 1, 1) := by decide +kernel
theorem dX5_readPart_132 : decode cX5_readPart 132 = .ok (.bipush 6, 2) := by decide +kernel
theorem dX5_readPart_134 : decode cX5_readPart 134 = .ok (.if_icmp .ne 8, 3) := by decide +kernel
theorem dX5_readPart_137 : decode cX5_readPart 137 = .ok (.bipush 10, 2) := by decide +kernel
theorem dX5_readPart_139 : decode cX5_readPart 139 = .ok (.goto 5, 3) := by decide +kernel
theorem dX5_readPart_142 : decode cX5_readPart 142 = .ok (.bipush 12, 2) := by decide +kernel
theorem dX5_readPart_144 : decode cX5_readPart 144 = .ok (.if_icmp .lt 5, 3) := by decide +kernel
theorem dX5_readPart_147 : decode cX5_readPart 147 = .ok (.iconst 0, 1) := by decide +kernel
theorem dX5_readPart_148 : decode cX5_readPart 148 = .ok (.ireturn, 1) := by decide +kernel
theorem dX5_readPart_149 : decode cX5_readPart 149 = .ok (.iload_n 1, 1) := by decide +kernel
theorem dX5_readPart_150 : decode cX5_readPart 150 = .ok (.bipush 6, 2) := by decide +kernel
theorem dX5_readPart_152 : decode cX5_readPart 152 = .ok (.if_icmp .ne 8, 3) := by decide +kernel
theorem dX5_readPart_155 : decode cX5_readPart 155 = .ok (.bipush 6, 2) := by decide +kernel
theorem dX5_readPart_157 : decode cX5_readPart 157 = .ok (.goto 5, 3) := by decide +kernel
theorem dX5_readPart_160 : decode cX5_readPart 160 = .ok (.bipush 16, 2) := by decide +kernel
theorem dX5_readPart_162 : decode cX5_readPart 162 = .ok (.aload_n 0, 1) := by decide +kernel
theorem dX5_readPart_163 : decode cX5_readPart 163 = .ok (.getfield 90, 3) := by decide +kernel
theorem dX5_readPart_166 : decode cX5_readPart 166 = .ok (.iadd, 1) := by decide +kernel
theorem dX5_readPart_167 : decode cX5_readPart 167 = .ok (.istore_n 3, 1) := by decide +kernel
theorem dX5_readPart_168 : decode cX5_readPart 168 = .ok (.aload_n 0, 1) := by decide +kernel
theorem dX5_readPart_169 : decode cX5_readPart 169 = .ok (.invokevirtual 42, 3) := by decide +kernel
theorem dX5_readPart_172 : decode cX5_readPart 172 = .ok (.aload_n 0, 1) := by decide +kernel
theorem dX5_readPart_173 : decode cX5_readPart 173 = .ok (.getfield 12, 3) := by decide +kernel
theorem dX5_readPart_176 : decode cX5_readPart 176 = .ok (.iload_n 2, 1) := by decide +kernel
theorem dX5_readPart_177 : decode cX5_readPart 177 = .ok (.ifCond .eq 7, 3) := by decide +kernel
theorem dX5_readPart_180 : decode cX5_readPart 180 = .ok (.iconst 0, 1) := by decide +kernel
theorem dX5_readPart_181 : decode cX5_readPart 181 = .ok (.goto 4, 3) := by decide +kernel
theorem dX5_readPart_184 : decode cX5_readPart 184 = .ok (.iconst 1, 1) := by decide +kernel
theorem dX5_readPart_185 : decode cX5_readPart 185 = .ok (.iload_n 3, 1) := by decide +kernel
theorem dX5_readPart_186 : decode cX5_readPart 186 = .ok (.invokevirtual 103, 3) := by decide +kernel
theorem dX5_readPart_189 : decode cX5_readPart 189 = .ok (.iconst 1, 1) := by decide +kernel
theorem dX5_readPart_190 : decode cX5_readPart 190 = .ok (.ireturn, 1) := by decide +kernel
theorem dX5_readBracketedSum_0 : decode cX5_readBracketedSum 0 = .ok (.aload_n 0, 1) := by decide +kernel
theorem dX5_readBracketedSum_1 : decode cX5_readBracketedSum 1 = .ok (.getfield 39, 3) := by decide +kernel
theorem dX5_readBracketedSum_4 : decode cX5_readBracketedSum 4 = .ok (.bipush 8, 2) := by decide +kernel
theorem dX5_readBracketedSum_6 : decode cX5_readBracketedSum 6 = .ok (.if_icmp .lt 5, 3) := by decide +kernel
theorem dX5_readBracketedSum_9 : decode cX5_readBracketedSum 9 = .ok (.iconst 0, 1) := by decide +kernel
theorem dX5_readBracketedSum_10 : decode cX5_readBracketedSum 10 = .ok (.ireturn, 1) := by decide +kernel
theorem dX5_readBracketedSum_11 : decode cX5_readBracketedSum 11 = .ok (.aload_n 0, 1) := by decide +kernel
theorem dX5_readBracketedSum_12 : decode cX5_readBracketedSum 12 = .ok (.dup, 1) := by decide +kernel
theorem dX5_readBracketedSum_13 : decode cX5_readBracketedSum 13 = .ok (.getfield 39, 3) := by decide +kernel
theorem dX5_readBracketedSum_16 : decode cX5_readBracketedSum 16 = .ok (.iconst 1, 1) := by decide +kernel
theorem dX5_readBracketedSum_17 : decode cX5_readBracketedSum 17 = .ok (.iadd, 1) := by decide +kernel
theorem dX5_readBracketedSum_18 : decode cX5_readBracketedSum 18 = .ok (.putfield 39, 3) := by decide +kernel
theorem dX5_readBracketedSum_21 : decode cX5_readBracketedSum 21 = .ok (.aload_n 0, 1) := by decide +kernel
theorem dX5_readBracketedSum_22 : decode cX5_readBracketedSum 22 = .ok (.invokevirtual 42, 3) := by decide +kernel
theorem dX5_readBracketedSum_25 : decode cX5_readBracketedSum 25 = .ok (.aload_n 0, 1) := by decide +kernel
theorem dX5_readBracketedSum_26 : decode cX5_readBracketedSum 26 = .ok (.invokevirtual 72, 3) := by decide +kernel
theorem dX5_readBracketedSum_29 : decode cX5_readBracketedSum 29 = .ok (.ifCond .eq 12, 3) := by decide +kernel
theorem dX5_readBracketedSum_32 : decode cX5_readBracketedSum 32 = .ok (.aload_n 0, 1) := by decide +kernel
theorem dX5_readBracketedSum_33 : decode cX5_readBracketedSum 33 = .ok (.bipush 93, 2) := by decide +kernel
theorem dX5_readBracketedSum_35 : decode cX5_readBracketedSum 35 = .ok (.invokevirtual 58, 3) := by decide +kernel
theorem dX5_readBracketedSum_38 : decode cX5_readBracketedSum 38 = .ok (.ifCond .ne 5, 3) := by decide +kernel
theorem dX5_readBracketedSum_41 : decode cX5_readBracketedSum 41 = .ok (.iconst 0, 1) := by decide +kernel
theorem dX5_readBracketedSum_42 : decode cX5_readBracketedSum 42 = .ok (.ireturn, 1) := by decide +kernel
theorem dX5_readBracketedSum_43 : decode cX5_readBracketedSum 43 = .ok (.aload_n 0, 1) := by decide +kernel
theorem dX5_readBracketedSum_44 : decode cX5_readBracketedSum 44 = .ok (.dup, 1) := by decide +kernel
theorem dX5_readBracketedSum_45 : decode cX5_readBracketedSum 45 = .ok (.getfield 39, 3) := by decide +kernel
theorem dX5_readBracketedSum_48 : decode cX5_readBracketedSum 48 = .ok (.iconst 1, 1) := by decide +kernel
theorem dX5_readBracketedSum_49 : decode cX5_readBracketedSum 49 = .ok (.isub, 1) := by decide +kernel
theorem dX5_readBracketedSum_50 : decode cX5_readBracketedSum 50 = .ok (.putfield 39, 3) := by decide +kernel
theorem dX5_readBracketedSum_53 : decode cX5_readBracketedSum 53 = .ok (.aload_n 0, 1) := by decide +kernel
theorem dX5_readBracketedSum_54 : decode cX5_readBracketedSum 54 = .ok (.invokevirtual 42, 3) := by decide +kernel
theorem dX5_readBracketedSum_57 : decode cX5_readBracketedSum 57 = .ok (.iconst 1, 1) := by decide +kernel
theorem dX5_readBracketedSum_58 : decode cX5_readBracketedSum 58 = .ok (.ireturn, 1) := by decide +kernel
theorem dX5_isSign_0 : decode cX5_isSign 0 = .ok (.aload_n 0, 1) := by decide +kernel
theorem dX5_isSign_1 : decode cX5_isSign 1 = .ok (.getfield 55, 3) := by decide +kernel
theorem dX5_isSign_4 : decode cX5_isSign 4 = .ok (.iconst 3, 1) := by decide +kernel
theorem dX5_isSign_5 : decode cX5_isSign 5 = .ok (.if_icmp .ne 23, 3) := by decide +kernel
theorem dX5_isSign_8 : decode cX5_isSign 8 = .ok (.aload_n 0, 1) := by decide +kernel
theorem dX5_isSign_9 : decode cX5_isSign 9 = .ok (.getfield 18, 3) := by decide +kernel
theorem dX5_isSign_12 : decode cX5_isSign 12 = .ok (.getfield 137, 3) := by decide +kernel
theorem dX5_isSign_15 : decode cX5_isSign 15 = .ok (.aload_n 0, 1) := by decide +kernel
theorem dX5_isSign_16 : decode cX5_isSign 16 = .ok (.getfield 52, 3) := by decide +kernel
theorem dX5_isSign_19 : decode cX5_isSign 19 = .ok (.iaload, 1) := by decide +kernel
theorem dX5_isSign_20 : decode cX5_isSign 20 = .ok (.iload_n 1, 1) := by decide +kernel
theorem dX5_isSign_21 : decode cX5_isSign 21 = .ok (.if_icmp .ne 7, 3) := by decide +kernel
theorem dX5_isSign_24 : decode cX5_isSign 24 = .ok (.iconst 1, 1) := by decide +kernel
theorem dX5_isSign_25 : decode cX5_isSign 25 = .ok (.goto 4, 3) := by decide +kernel
theorem dX5_isSign_28 : decode cX5_isSign 28 = .ok (.iconst 0, 1) := by decide +kernel
theorem dX5_isSign_29 : decode cX5_isSign 29 = .ok (.ireturn, 1) := by decide +kernel
theorem dX5_wordAmong_0 : decode cX5_wordAmong 0 = .ok (.aload_n 0, 1) := by decide +kernel
theorem dX5_wordAmong_1 : decode cX5_wordAmong 1 = .ok (.getfield 55, 3) := by decide +kernel
theorem dX5_wordAmong_4 : decode cX5_wordAmong 4 = .ok (.iconst 1, 1) := by decide +kernel
theorem dX5_wordAmong_5 : decode cX5_wordAmong 5 = .ok (.if_icmp .eq 5, 3) := by decide +kernel
theorem dX5_wordAmong_8 : decode cX5_wordAmong 8 = .ok (.iconst (-1), 1) := by decide +kernel
theorem dX5_wordAmong_9 : decode cX5_wordAmong 9 = .ok (.ireturn, 1) := by decide +kernel
theorem dX5_wordAmong_10 : decode cX5_wordAmong 10 = .ok (.iconst 0, 1) := by decide +kernel
theorem dX5_wordAmong_11 : decode cX5_wordAmong 11 = .ok (.istore_n 2, 1) := by decide +kernel
theorem dX5_wordAmong_12 : decode cX5_wordAmong 12 = .ok (.aload_n 0, 1) := by decide +kernel
theorem dX5_wordAmong_13 : decode cX5_wordAmong 13 = .ok (.getfield 52, 3) := by decide +kernel
theorem dX5_wordAmong_16 : decode cX5_wordAmong 16 = .ok (.istore_n 3, 1) := by decide +kernel
theorem dX5_wordAmong_17 : decode cX5_wordAmong 17 = .ok (.iconst 1, 1) := by decide +kernel
theorem dX5_wordAmong_18 : decode cX5_wordAmong 18 = .ok (.istore 4, 2) := by decide +kernel
theorem dX5_wordAmong_20 : decode cX5_wordAmong 20 = .ok (.iconst 0, 1) := by decide +kernel
theorem dX5_wordAmong_21 : decode cX5_wordAmong 21 = .ok (.istore 5, 2) := by decide +kernel
theorem dX5_wordAmong_23 : decode cX5_wordAmong 23 = .ok (.iload 5, 2) := by decide +kernel
theorem dX5_wordAmong_25 : decode cX5_wordAmong 25 = .ok (.aload_n 1, 1) := by decide +kernel
theorem dX5_wordAmong_26 : decode cX5_wordAmong 26 = .ok (.invokevirtual 142, 3) := by decide +kernel
theorem dX5_wordAmong_29 : decode cX5_wordAmong 29 = .ok (.if_icmp .gt 99, 3) := by decide +kernel
theorem dX5_wordAmong_32 : decode cX5_wordAmong 32 = .ok (.iload 5, 2) := by decide +kernel
theorem dX5_wordAmong_34 : decode cX5_wordAmong 34 = .ok (.aload_n 1, 1) := by decide +kernel
theorem dX5_wordAmong_35 : decode cX5_wordAmong 35 = .ok (.invokevirtual 142, 3) := by decide +kernel
theorem dX5_wordAmong_38 : decode cX5_wordAmong 38 = .ok (.if_icmp .ge 58, 3) := by decide +kernel
theorem dX5_wordAmong_41 : decode cX5_wordAmong 41 = .ok (.aload_n 1, 1) := by decide +kernel
theorem dX5_wordAmong_42 : decode cX5_wordAmong 42 = .ok (.iload 5, 2) := by decide +kernel
theorem dX5_wordAmong_44 : decode cX5_wordAmong 44 = .ok (.invokevirtual 147, 3) := by decide +kernel
theorem dX5_wordAmong_47 : decode cX5_wordAmong 47 = .ok (.bipush 32, 2) := by decide +kernel
theorem dX5_wordAmong_49 : decode cX5_wordAmong 49 = .ok (.if_icmp .eq 47, 3) := by decide +kernel
theorem dX5_wordAmong_52 : decode cX5_wordAmong 52 = .ok (.iload 4, 2) := by decide +kernel
theorem dX5_wordAmong_54 : decode cX5_wordAmong 54 = .ok (.ifCond .eq 33, 3) := by decide +kernel
theorem dX5_wordAmong_57 : decode cX5_wordAmong 57 = .ok (.iload_n 3, 1) := by decide +kernel
theorem dX5_wordAmong_58 : decode cX5_wordAmong 58 = .ok (.aload_n 0, 1) := by decide +kernel
theorem dX5_wordAmong_59 : decode cX5_wordAmong 59 = .ok (.getfield 33, 3) := by decide +kernel
theorem dX5_wordAmong_62 : decode cX5_wordAmong 62 = .ok (.if_icmp .ge 25, 3) := by decide +kernel
theorem dX5_wordAmong_65 : decode cX5_wordAmong 65 = .ok (.aload_n 0, 1) := by decide +kernel
theorem dX5_wordAmong_66 : decode cX5_wordAmong 66 = .ok (.getfield 18, 3) := by decide +kernel
theorem dX5_wordAmong_69 : decode cX5_wordAmong 69 = .ok (.getfield 137, 3) := by decide +kernel
theorem dX5_wordAmong_72 : decode cX5_wordAmong 72 = .ok (.iload_n 3, 1) := by decide +kernel
theorem dX5_wordAmong_73 : decode cX5_wordAmong 73 = .ok (.iaload, 1) := by decide +kernel
theorem dX5_wordAmong_74 : decode cX5_wordAmong 74 = .ok (.aload_n 1, 1) := by decide +kernel
theorem dX5_wordAmong_75 : decode cX5_wordAmong 75 = .ok (.iload 5, 2) := by decide +kernel
theorem dX5_wordAmong_77 : decode cX5_wordAmong 77 = .ok (.invokevirtual 147, 3) := by decide +kernel
theorem dX5_wordAmong_80 : decode cX5_wordAmong 80 = .ok (.if_icmp .ne 7, 3) := by decide +kernel
theorem dX5_wordAmong_83 : decode cX5_wordAmong 83 = .ok (.iconst 1, 1) := by decide +kernel
theorem dX5_wordAmong_84 : decode cX5_wordAmong 84 = .ok (.goto 4, 3) := by decide +kernel
theorem dX5_wordAmong_87 : decode cX5_wordAmong 87 = .ok (.iconst 0, 1) := by decide +kernel
theorem dX5_wordAmong_88 : decode cX5_wordAmong 88 = .ok (.istore 4, 2) := by decide +kernel
theorem dX5_wordAmong_90 : decode cX5_wordAmong 90 = .ok (.iinc 3 1, 3) := by decide +kernel
theorem dX5_wordAmong_93 : decode cX5_wordAmong 93 = .ok (.goto 29, 3) := by decide +kernel
theorem dX5_wordAmong_96 : decode cX5_wordAmong 96 = .ok (.iload 4, 2) := by decide +kernel
theorem dX5_wordAmong_98 : decode cX5_wordAmong 98 = .ok (.ifCond .eq 13, 3) := by decide +kernel
theorem dX5_wordAmong_101 : decode cX5_wordAmong 101 = .ok (.iload_n 3, 1) := by decide +kernel
theorem dX5_wordAmong_102 : decode cX5_wordAmong 102 = .ok (.aload_n 0, 1) := by decide +kernel
theorem dX5_wordAmong_103 : decode cX5_wordAmong 103 = .ok (.getfield 33, 3) := by decide +kernel
theorem dX5_wordAmong_106 : decode cX5_wordAmong 106 = .ok (.if_icmp .ne 5, 3) := by decide +kernel
theorem dX5_wordAmong_109 : decode cX5_wordAmong 109 = .ok (.iload_n 2, 1) := by decide +kernel
theorem dX5_wordAmong_110 : decode cX5_wordAmong 110 = .ok (.ireturn, 1) := by decide +kernel
theorem dX5_wordAmong_111 : decode cX5_wordAmong 111 = .ok (.iinc 2 1, 3) := by decide +kernel
theorem dX5_wordAmong_114 : decode cX5_wordAmong 114 = .ok (.aload_n 0, 1) := by decide +kernel
theorem dX5_wordAmong_115 : decode cX5_wordAmong 115 = .ok (.getfield 52, 3) := by decide +kernel
theorem dX5_wordAmong_118 : decode cX5_wordAmong 118 = .ok (.istore_n 3, 1) := by decide +kernel
theorem dX5_wordAmong_119 : decode cX5_wordAmong 119 = .ok (.iconst 1, 1) := by decide +kernel
theorem dX5_wordAmong_120 : decode cX5_wordAmong 120 = .ok (.istore 4, 2) := by decide +kernel
theorem dX5_wordAmong_122 : decode cX5_wordAmong 122 = .ok (.iinc 5 1, 3) := by decide +kernel
theorem dX5_wordAmong_125 : decode cX5_wordAmong 125 = .ok (.goto (-102), 3) := by decide +kernel
theorem dX5_wordAmong_128 : decode cX5_wordAmong 128 = .ok (.iconst (-1), 1) := by decide +kernel
theorem dX5_wordAmong_129 : decode cX5_wordAmong 129 = .ok (.ireturn, 1) := by decide +kernel
theorem dX5_nextToken_0 : decode cX5_nextToken 0 = .ok (.aload_n 0, 1) := by decide +kernel
theorem dX5_nextToken_1 : decode cX5_nextToken 1 = .ok (.getfield 33, 3) := by decide +kernel
theorem dX5_nextToken_4 : decode cX5_nextToken 4 = .ok (.istore_n 1, 1) := by decide +kernel
theorem dX5_nextToken_5 : decode cX5_nextToken 5 = .ok (.iload_n 1, 1) := by decide +kernel
theorem dX5_nextToken_6 : decode cX5_nextToken 6 = .ok (.aload_n 0, 1) := by decide +kernel
theorem dX5_nextToken_7 : decode cX5_nextToken 7 = .ok (.getfield 18, 3) := by decide +kernel
theorem dX5_nextToken_10 : decode cX5_nextToken 10 = .ok (.getfield 151, 3) := by decide +kernel
theorem dX5_nextToken_13 : decode cX5_nextToken 13 = .ok (.if_icmp .ge 23, 3) := by decide +kernel
theorem dX5_nextToken_16 : decode cX5_nextToken 16 = .ok (.aload_n 0, 1) := by decide +kernel
theorem dX5_nextToken_17 : decode cX5_nextToken 17 = .ok (.getfield 18, 3) := by decide +kernel
theorem dX5_nextToken_20 : decode cX5_nextToken 20 = .ok (.getfield 137, 3) := by decide +kernel
theorem dX5_nextToken_23 : decode cX5_nextToken 23 = .ok (.iload_n 1, 1) := by decide +kernel
theorem dX5_nextToken_24 : decode cX5_nextToken 24 = .ok (.iaload, 1) := by decide +kernel
theorem dX5_nextToken_25 : decode cX5_nextToken 25 = .ok (.bipush 32, 2) := by decide +kernel
theorem dX5_nextToken_27 : decode cX5_nextToken 27 = .ok (.if_icmp .ne 9, 3) := by decide +kernel
theorem dX5_nextToken_30 : decode cX5_nextToken 30 = .ok (.iinc 1 1, 3) := by decide +kernel
theorem dX5_nextToken_33 : decode cX5_nextToken 33 = .ok (.goto (-28), 3) := by decide +kernel
theorem dX5_nextToken_36 : decode cX5_nextToken 36 = .ok (.aload_n 0, 1) := by decide +kernel
theorem dX5_nextToken_37 : decode cX5_nextToken 37 = .ok (.iload_n 1, 1) := by decide +kernel
theorem dX5_nextToken_38 : decode cX5_nextToken 38 = .ok (.putfield 52, 3) := by decide +kernel
theorem dX5_nextToken_41 : decode cX5_nextToken 41 = .ok (.aload_n 0, 1) := by decide +kernel
theorem dX5_nextToken_42 : decode cX5_nextToken 42 = .ok (.aload_n 0, 1) := by decide +kernel
theorem dX5_nextToken_43 : decode cX5_nextToken 43 = .ok (.iload_n 1, 1) := by decide +kernel
theorem dX5_nextToken_44 : decode cX5_nextToken 44 = .ok (.invokevirtual 152, 3) := by decide +kernel
theorem dX5_nextToken_47 : decode cX5_nextToken 47 = .ok (.putfield 55, 3) := by decide +kernel
theorem dX5_nextToken_50 : decode cX5_nextToken 50 = .ok (.aload_n 0, 1) := by decide +kernel
theorem dX5_nextToken_51 : decode cX5_nextToken 51 = .ok (.iconst 0, 1) := by decide +kernel
theorem dX5_nextToken_52 : decode cX5_nextToken 52 = .ok (.putfield 90, 3) := by decide +kernel
theorem dX5_nextToken_55 : decode cX5_nextToken 55 = .ok (.aload_n 0, 1) := by decide +kernel
theorem dX5_nextToken_56 : decode cX5_nextToken 56 = .ok (.getfield 55, 3) := by decide +kernel
theorem dX5_nextToken_59 : decode cX5_nextToken 59 = .ok (.ifCond .eq 7, 3) := by decide +kernel
theorem dX5_nextToken_62 : decode cX5_nextToken 62 = .ok (.iconst 1, 1) := by decide +kernel
theorem dX5_nextToken_63 : decode cX5_nextToken 63 = .ok (.goto 4, 3) := by decide +kernel
theorem dX5_nextToken_66 : decode cX5_nextToken 66 = .ok (.iconst 0, 1) := by decide +kernel
theorem dX5_nextToken_67 : decode cX5_nextToken 67 = .ok (.istore_n 2, 1) := by decide +kernel
theorem dX5_nextToken_68 : decode cX5_nextToken 68 = .ok (.iload_n 1, 1) := by decide +kernel
theorem dX5_nextToken_69 : decode cX5_nextToken 69 = .ok (.aload_n 0, 1) := by decide +kernel
theorem dX5_nextToken_70 : decode cX5_nextToken 70 = .ok (.getfield 18, 3) := by decide +kernel
theorem dX5_nextToken_73 : decode cX5_nextToken 73 = .ok (.getfield 151, 3) := by decide +kernel
theorem dX5_nextToken_76 : decode cX5_nextToken 76 = .ok (.if_icmp .ge 81, 3) := by decide +kernel
theorem dX5_nextToken_79 : decode cX5_nextToken 79 = .ok (.iload_n 2, 1) := by decide +kernel
theorem dX5_nextToken_80 : decode cX5_nextToken 80 = .ok (.ifCond .eq 77, 3) := by decide +kernel
theorem dX5_nextToken_83 : decode cX5_nextToken 83 = .ok (.aload_n 0, 1) := by decide +kernel
theorem dX5_nextToken_84 : decode cX5_nextToken 84 = .ok (.getfield 55, 3) := by decide +kernel
theorem dX5_nextToken_87 : decode cX5_nextToken 87 = .ok (.iconst 2, 1) := by decide +kernel
theorem dX5_nextToken_88 : decode cX5_nextToken 88 = .ok (.if_icmp .ne 37, 3) := by decide +kernel
theorem dX5_nextToken_91 : decode cX5_nextToken 91 = .ok (.aload_n 0, 1) := by decide +kernel
theorem dX5_nextToken_92 : decode cX5_nextToken 92 = .ok (.getfield 90, 3) := by decide +kernel
theorem dX5_nextToken_95 : decode cX5_nextToken 95 = .ok (.sipush 1000, 3) := by decide +kernel
theorem dX5_nextToken_98 : decode cX5_nextToken 98 = .ok (.if_icmp .gt 27, 3) := by decide +kernel
theorem dX5_nextToken_101 : decode cX5_nextToken 101 = .ok (.aload_n 0, 1) := by decide +kernel
theorem dX5_nextToken_102 : decode cX5_nextToken 102 = .ok (.aload_n 0, 1) := by decide +kernel
theorem dX5_nextToken_103 : decode cX5_nextToken 103 = .ok (.getfield 90, 3) := by decide +kernel
theorem dX5_nextToken_106 : decode cX5_nextToken 106 = .ok (.bipush 10, 2) := by decide +kernel
theorem dX5_nextToken_108 : decode cX5_nextToken 108 = .ok (.imul, 1) := by decide +kernel
theorem dX5_nextToken_109 : decode cX5_nextToken 109 = .ok (.aload_n 0, 1) := by decide +kernel
theorem dX5_nextToken_110 : decode cX5_nextToken 110 = .ok (.getfield 18, 3) := by decide +kernel
theorem dX5_nextToken_113 : decode cX5_nextToken 113 = .ok (.getfield 137, 3) := by decide +kernel
theorem dX5_nextToken_116 : decode cX5_nextToken 116 = .ok (.iload_n 1, 1) := by decide +kernel
theorem dX5_nextToken_117 : decode cX5_nextToken 117 = .ok (.iaload, 1) := by decide +kernel
theorem dX5_nextToken_118 : decode cX5_nextToken 118 = .ok (.iadd, 1) := by decide +kernel
theorem dX5_nextToken_119 : decode cX5_nextToken 119 = .ok (.bipush 48, 2) := by decide +kernel
theorem dX5_nextToken_121 : decode cX5_nextToken 121 = .ok (.isub, 1) := by decide +kernel
theorem dX5_nextToken_122 : decode cX5_nextToken 122 = .ok (.putfield 90, 3) := by decide +kernel
theorem dX5_nextToken_125 : decode cX5_nextToken 125 = .ok (.iinc 1 1, 3) := by decide +kernel
theorem dX5_nextToken_128 : decode cX5_nextToken 128 = .ok (.aload_n 0, 1) := by decide +kernel
theorem dX5_nextToken_129 : decode cX5_nextToken 129 = .ok (.getfield 55, 3) := by decide +kernel
theorem dX5_nextToken_132 : decode cX5_nextToken 132 = .ok (.iconst 3, 1) := by decide +kernel
theorem dX5_nextToken_133 : decode cX5_nextToken 133 = .ok (.if_icmp .eq 19, 3) := by decide +kernel
theorem dX5_nextToken_136 : decode cX5_nextToken 136 = .ok (.aload_n 0, 1) := by decide +kernel
theorem dX5_nextToken_137 : decode cX5_nextToken 137 = .ok (.iload_n 1, 1) := by decide +kernel
theorem dX5_nextToken_138 : decode cX5_nextToken 138 = .ok (.invokevirtual 152, 3) := by decide +kernel
theorem dX5_nextToken_141 : decode cX5_nextToken 141 = .ok (.aload_n 0, 1) := by decide +kernel
theorem dX5_nextToken_142 : decode cX5_nextToken 142 = .ok (.getfield 55, 3) := by decide +kernel
theorem dX5_nextToken_145 : decode cX5_nextToken 145 = .ok (.if_icmp .ne 7, 3) := by decide +kernel
theorem dX5_nextToken_148 : decode cX5_nextToken 148 = .ok (.iconst 1, 1) := by decide +kernel
theorem dX5_nextToken_149 : decode cX5_nextToken 149 = .ok (.goto 4, 3) := by decide +kernel
theorem dX5_nextToken_152 : decode cX5_nextToken 152 = .ok (.iconst 0, 1) := by decide +kernel
theorem dX5_nextToken_153 : decode cX5_nextToken 153 = .ok (.istore_n 2, 1) := by decide +kernel
theorem dX5_nextToken_154 : decode cX5_nextToken 154 = .ok (.goto (-86), 3) := by decide +kernel
theorem dX5_nextToken_157 : decode cX5_nextToken 157 = .ok (.aload_n 0, 1) := by decide +kernel
theorem dX5_nextToken_158 : decode cX5_nextToken 158 = .ok (.iload_n 1, 1) := by decide +kernel
theorem dX5_nextToken_159 : decode cX5_nextToken 159 = .ok (.putfield 33, 3) := by decide +kernel
theorem dX5_nextToken_162 : decode cX5_nextToken 162 = .ok (.return_, 1) := by decide +kernel
theorem dX5_kindAt_0 : decode cX5_kindAt 0 = .ok (.iload_n 1, 1) := by decide +kernel
theorem dX5_kindAt_1 : decode cX5_kindAt 1 = .ok (.aload_n 0, 1) := by decide +kernel
theorem dX5_kindAt_2 : decode cX5_kindAt 2 = .ok (.getfield 18, 3) := by decide +kernel
theorem dX5_kindAt_5 : decode cX5_kindAt 5 = .ok (.getfield 151, 3) := by decide +kernel
theorem dX5_kindAt_8 : decode cX5_kindAt 8 = .ok (.if_icmp .lt 5, 3) := by decide +kernel
theorem dX5_kindAt_11 : decode cX5_kindAt 11 = .ok (.iconst 0, 1) := by decide +kernel
theorem dX5_kindAt_12 : decode cX5_kindAt 12 = .ok (.ireturn, 1) := by decide +kernel
theorem dX5_kindAt_13 : decode cX5_kindAt 13 = .ok (.aload_n 0, 1) := by decide +kernel
theorem dX5_kindAt_14 : decode cX5_kindAt 14 = .ok (.getfield 18, 3) := by decide +kernel
theorem dX5_kindAt_17 : decode cX5_kindAt 17 = .ok (.getfield 137, 3) := by decide +kernel
theorem dX5_kindAt_20 : decode cX5_kindAt 20 = .ok (.iload_n 1, 1) := by decide +kernel
theorem dX5_kindAt_21 : decode cX5_kindAt 21 = .ok (.iaload, 1) := by decide +kernel
theorem dX5_kindAt_22 : decode cX5_kindAt 22 = .ok (.istore_n 2, 1) := by decide +kernel
theorem dX5_kindAt_23 : decode cX5_kindAt 23 = .ok (.iload_n 2, 1) := by decide +kernel
theorem dX5_kindAt_24 : decode cX5_kindAt 24 = .ok (.bipush 97, 2) := by decide +kernel
theorem dX5_kindAt_26 : decode cX5_kindAt 26 = .ok (.if_icmp .lt 11, 3) := by decide +kernel
theorem dX5_kindAt_29 : decode cX5_kindAt 29 = .ok (.iload_n 2, 1) := by decide +kernel
theorem dX5_kindAt_30 : decode cX5_kindAt 30 = .ok (.bipush 122, 2) := by decide +kernel
theorem dX5_kindAt_32 : decode cX5_kindAt 32 = .ok (.if_icmp .gt 5, 3) := by decide +kernel
theorem dX5_kindAt_35 : decode cX5_kindAt 35 = .ok (.iconst 1, 1) := by decide +kernel
theorem dX5_kindAt_36 : decode cX5_kindAt 36 = .ok (.ireturn, 1) := by decide +kernel
theorem dX5_kindAt_37 : decode cX5_kindAt 37 = .ok (.iload_n 2, 1) := by decide +kernel
theorem dX5_kindAt_38 : decode cX5_kindAt 38 = .ok (.bipush 48, 2) := by decide +kernel
theorem dX5_kindAt_40 : decode cX5_kindAt 40 = .ok (.if_icmp .lt 13, 3) := by decide +kernel
theorem dX5_kindAt_43 : decode cX5_kindAt 43 = .ok (.iload_n 2, 1) := by decide +kernel
theorem dX5_kindAt_44 : decode cX5_kindAt 44 = .ok (.bipush 57, 2) := by decide +kernel
theorem dX5_kindAt_46 : decode cX5_kindAt 46 = .ok (.if_icmp .gt 7, 3) := by decide +kernel
theorem dX5_kindAt_49 : decode cX5_kindAt 49 = .ok (.iconst 2, 1) := by decide +kernel
theorem dX5_kindAt_50 : decode cX5_kindAt 50 = .ok (.goto 4, 3) := by decide +kernel
theorem dX5_kindAt_53 : decode cX5_kindAt 53 = .ok (.iconst 3, 1) := by decide +kernel
theorem dX5_kindAt_54 : decode cX5_kindAt 54 = .ok (.ireturn, 1) := by decide +kernel
theorem dX6_init_0 : decode cX6_init 0 = .ok (.aload_n 0, 1) := by decide +kernel
theorem dX6_init_1 : decode cX6_init 1 = .ok (.invokespecial 3, 3) := by decide +kernel
theorem dX6_init_4 : decode cX6_init 4 = .ok (.aload_n 0, 1) := by decide +kernel
theorem dX6_init_5 : decode cX6_init 5 = .ok (.bipush 51, 2) := by decide +kernel
theorem dX6_init_7 : decode cX6_init 7 = .ok (.newarray .int, 2) := by decide +kernel
theorem dX6_init_9 : decode cX6_init 9 = .ok (.putfield 9, 3) := by decide +kernel
theorem dX6_init_12 : decode cX6_init 12 = .ok (.return_, 1) := by decide +kernel
theorem dX6_reckon_0 : decode cX6_reckon 0 = .ok (.iload_n 2, 1) := by decide +kernel
theorem dX6_reckon_1 : decode cX6_reckon 1 = .ok (.iload_n 3, 1) := by decide +kernel
theorem dX6_reckon_2 : decode cX6_reckon 2 = .ok (.if_icmp .lt 5, 3) := by decide +kernel
theorem dX6_reckon_5 : decode cX6_reckon 5 = .ok (.iconst 1, 1) := by decide +kernel
theorem dX6_reckon_6 : decode cX6_reckon 6 = .ok (.ireturn, 1) := by decide +kernel
theorem dX6_reckon_7 : decode cX6_reckon 7 = .ok (.aload_n 1, 1) := by decide +kernel
theorem dX6_reckon_8 : decode cX6_reckon 8 = .ok (.getfield 15, 3) := by decide +kernel
theorem dX6_reckon_11 : decode cX6_reckon 11 = .ok (.astore 5, 2) := by decide +kernel
theorem dX6_reckon_13 : decode cX6_reckon 13 = .ok (.iconst 0, 1) := by decide +kernel
theorem dX6_reckon_14 : decode cX6_reckon 14 = .ok (.istore 6, 2) := by decide +kernel
theorem dX6_reckon_16 : decode cX6_reckon 16 = .ok (.iload_n 2, 1) := by decide +kernel
theorem dX6_reckon_17 : decode cX6_reckon 17 = .ok (.istore 7, 2) := by decide +kernel
theorem dX6_reckon_19 : decode cX6_reckon 19 = .ok (.iload 7, 2) := by decide +kernel
theorem dX6_reckon_21 : decode cX6_reckon 21 = .ok (.iload_n 3, 1) := by decide +kernel
theorem dX6_reckon_22 : decode cX6_reckon 22 = .ok (.if_icmp .ge 286, 3) := by decide +kernel
theorem dX6_reckon_25 : decode cX6_reckon 25 = .ok (.iload 7, 2) := by decide +kernel
theorem dX6_reckon_27 : decode cX6_reckon 27 = .ok (.aload 5, 2) := by decide +kernel
theorem dX6_reckon_29 : decode cX6_reckon 29 = .ok (.arraylength, 1) := by decide +kernel
theorem dX6_reckon_30 : decode cX6_reckon 30 = .ok (.if_icmp .ge 278, 3) := by decide +kernel
theorem dX6_reckon_33 : decode cX6_reckon 33 = .ok (.aload 5, 2) := by decide +kernel
theorem dX6_reckon_35 : decode cX6_reckon 35 = .ok (.iload 7, 2) := by decide +kernel
theorem dX6_reckon_37 : decode cX6_reckon 37 = .ok (.iaload, 1) := by decide +kernel
theorem dX6_reckon_38 : decode cX6_reckon 38 = .ok (.bipush 15, 2) := by decide +kernel
theorem dX6_reckon_40 : decode cX6_reckon 40 = .ok (.iand, 1) := by decide +kernel
theorem dX6_reckon_41 : decode cX6_reckon 41 = .ok (.istore 8, 2) := by decide +kernel
theorem dX6_reckon_43 : decode cX6_reckon 43 = .ok (.aload 5, 2) := by decide +kernel
theorem dX6_reckon_45 : decode cX6_reckon 45 = .ok (.iload 7, 2) := by decide +kernel
theorem dX6_reckon_47 : decode cX6_reckon 47 = .ok (.iaload, 1) := by decide +kernel
theorem dX6_reckon_48 : decode cX6_reckon 48 = .ok (.iconst 4, 1) := by decide +kernel
theorem dX6_reckon_49 : decode cX6_reckon 49 = .ok (.ishr, 1) := by decide +kernel
theorem dX6_reckon_50 : decode cX6_reckon 50 = .ok (.istore 9, 2) := by decide +kernel
theorem dX6_reckon_52 : decode cX6_reckon 52 = .ok (.iload 8, 2) := by decide +kernel
theorem dX6_reckon_54 : decode cX6_reckon 54 = .ok (.iconst 1, 1) := by decide +kernel
theorem dX6_reckon_55 : decode cX6_reckon 55 = .ok (.if_icmp .gt 58, 3) := by decide +kernel
theorem dX6_reckon_58 : decode cX6_reckon 58 = .ok (.iload 6, 2) := by decide +kernel
theorem dX6_reckon_60 : decode cX6_reckon 60 = .ok (.aload_n 0, 1) := by decide +kernel
theorem dX6_reckon_61 : decode cX6_reckon 61 = .ok (.getfield 9, 3) := by decide +kernel
theorem dX6_reckon_64 : decode cX6_reckon 64 = .ok (.arraylength, 1) := by decide +kernel
theorem dX6_reckon_65 : decode cX6_reckon 65 = .ok (.if_icmp .ge 17, 3) := by decide +kernel
theorem dX6_reckon_68 : decode cX6_reckon 68 = .ok (.iload 8, 2) := by decide +kernel
theorem dX6_reckon_70 : decode cX6_reckon 70 = .ok (.iconst 1, 1) := by decide +kernel
theorem dX6_reckon_71 : decode cX6_reckon 71 = .ok (.if_icmp .ne 14, 3) := by decide +kernel
theorem dX6_reckon_74 : decode cX6_reckon 74 = .ok (.iload 9, 2) := by decide +kernel
theorem dX6_reckon_76 : decode cX6_reckon 76 = .ok (.aload 4, 2) := by decide +kernel
theorem dX6_reckon_78 : decode cX6_reckon 78 = .ok (.arraylength, 1) := by decide +kernel
theorem dX6_reckon_79 : decode cX6_reckon 79 = .ok (.if_icmp .lt 6, 3) := by decide +kernel
theorem dX6_reckon_82 : decode cX6_reckon 82 = .ok (.ldc 20, 2) := by decide +kernel
theorem dX6_reckon_84 : decode cX6_reckon 84 = .ok (.ireturn, 1) := by decide +kernel
theorem dX6_reckon_85 : decode cX6_reckon 85 = .ok (.aload_n 0, 1) := by decide +kernel
theorem dX6_reckon_86 : decode cX6_reckon 86 = .ok (.getfield 9, 3) := by decide +kernel
theorem dX6_reckon_89 : decode cX6_reckon 89 = .ok (.iload 6, 2) := by decide +kernel
theorem dX6_reckon_91 : decode cX6_reckon 91 = .ok (.iload 8, 2) := by decide +kernel
theorem dX6_reckon_93 : decode cX6_reckon 93 = .ok (.ifCond .ne 8, 3) := by decide +kernel
theorem dX6_reckon_96 : decode cX6_reckon 96 = .ok (.iload 9, 2) := by decide +kernel
theorem dX6_reckon_98 : decode cX6_reckon 98 = .ok (.goto 8, 3) := by decide +kernel
theorem dX6_reckon_101 : decode cX6_reckon 101 = .ok (.aload 4, 2) := by decide +kernel
theorem dX6_reckon_103 : decode cX6_reckon 103 = .ok (.iload 9, 2) := by decide +kernel
theorem dX6_reckon_105 : decode cX6_reckon 105 = .ok (.iaload, 1) := by decide +kernel
theorem dX6_reckon_106 : decode cX6_reckon 106 = .ok (.iastore, 1) := by decide +kernel
theorem dX6_reckon_107 : decode cX6_reckon 107 = .ok (.iinc 6 1, 3) := by decide +kernel
theorem dX6_reckon_110 : decode cX6_reckon 110 = .ok (.goto 192, 3) := by decide +kernel
theorem dX6_reckon_113 : decode cX6_reckon 113 = .ok (.iload 6, 2) := by decide +kernel
theorem dX6_reckon_115 : decode cX6_reckon 115 = .ok (.iconst 1, 1) := by decide +kernel
theorem dX6_reckon_116 : decode cX6_reckon 116 = .ok (.if_icmp .ge 6, 3) := by decide +kernel
theorem dX6_reckon_119 : decode cX6_reckon 119 = .ok (.ldc 20, 2) := by decide +kernel
theorem dX6_reckon_121 : decode cX6_reckon 121 = .ok (.ireturn, 1) := by decide +kernel
theorem dX6_reckon_122 : decode cX6_reckon 122 = .ok (.iload 8, 2) := by decide +kernel
theorem dX6_reckon_124 : decode cX6_reckon 124 = .ok (.bipush 10, 2) := by decide +kernel
theorem dX6_reckon_126 : decode cX6_reckon 126 = .ok (.if_icmp .ne 26, 3) := by decide +kernel
theorem dX6_reckon_129 : decode cX6_reckon 129 = .ok (.aload_n 0, 1) := by decide +kernel
theorem dX6_reckon_130 : decode cX6_reckon 130 = .ok (.getfield 9, 3) := by decide +kernel
theorem dX6_reckon_133 : decode cX6_reckon 133 = .ok (.iload 6, 2) := by decide +kernel
theorem dX6_reckon_135 : decode cX6_reckon 135 = .ok (.iconst 1, 1) := by decide +kernel
theorem dX6_reckon_136 : decode cX6_reckon 136 = .ok (.isub, 1) := by decide +kernel
theorem dX6_reckon_137 : decode cX6_reckon 137 = .ok (.iconst 1, 1) := by decide +kernel
theorem dX6_reckon_138 : decode cX6_reckon 138 = .ok (.aload_n 0, 1) := by decide +kernel
theorem dX6_reckon_139 : decode cX6_reckon 139 = .ok (.getfield 9, 3) := by decide +kernel
theorem dX6_reckon_142 : decode cX6_reckon 142 = .ok (.iload 6, 2) := by decide +kernel
theorem dX6_reckon_144 : decode cX6_reckon 144 = .ok (.iconst 1, 1) := by decide +kernel
theorem dX6_reckon_145 : decode cX6_reckon 145 = .ok (.isub, 1) := by decide +kernel
theorem dX6_reckon_146 : decode cX6_reckon 146 = .ok (.iaload, 1) := by decide +kernel
theorem dX6_reckon_147 : decode cX6_reckon 147 = .ok (.isub, 1) := by decide +kernel
theorem dX6_reckon_148 : decode cX6_reckon 148 = .ok (.iastore, 1) := by decide +kernel
theorem dX6_reckon_149 : decode cX6_reckon 149 = .ok (.goto 153, 3) := by decide +kernel
theorem dX6_reckon_152 : decode cX6_reckon 152 = .ok (.iload 8, 2) := by decide +kernel
theorem dX6_reckon_154 : decode cX6_reckon 154 = .ok (.bipush 11, 2) := by decide +kernel
theorem dX6_reckon_156 : decode cX6_reckon 156 = .ok (.if_icmp .eq 10, 3) := by decide +kernel
theorem dX6_reckon_159 : decode cX6_reckon 159 = .ok (.iload 8, 2) := by decide +kernel
theorem dX6_reckon_161 : decode cX6_reckon 161 = .ok (.bipush 12, 2) := by decide +kernel
theorem dX6_reckon_163 : decode cX6_reckon 163 = .ok (.if_icmp .ne 69, 3) := by decide +kernel
theorem dX6_reckon_166 : decode cX6_reckon 166 = .ok (.aload_n 0, 1) := by decide +kernel
theorem dX6_reckon_167 : decode cX6_reckon 167 = .ok (.getfield 9, 3) := by decide +kernel
