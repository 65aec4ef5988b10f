theorem dX0_init_0 : decode cX0_init 0 = .ok (.aload_n 0, 1) := by decide +kernel
theorem dX0_init_1 : decode cX0_init 1 = .ok (.invokespecial 3, 3) := by decide +kernel
theorem dX0_init_4 : decode cX0_init 4 = .ok (.aload_n 0, 1) := by decide +kernel
theorem dX0_init_5 : decode cX0_init 5 = .ok (.bipush 6, 2) := by decide +kernel
theorem dX0_init_7 : decode cX0_init 7 = .ok (.anewarray 9, 3) := by decide +kernel
theorem dX0_init_10 : decode cX0_init 10 = .ok (.putfield 11, 3) := by decide +kernel
theorem dX0_init_13 : decode cX0_init 13 = .ok (.aload_n 0, 1) := by decide +kernel
theorem dX0_init_14 : decode cX0_init 14 = .ok (.iconst 0, 1) := by decide +kernel
theorem dX0_init_15 : decode cX0_init 15 = .ok (.putfield 17, 3) := by decide +kernel
theorem dX0_init_18 : decode cX0_init 18 = .ok (.aload_n 0, 1) := by decide +kernel
theorem dX0_init_19 : decode cX0_init 19 = .ok (.iconst (-1), 1) := by decide +kernel
theorem dX0_init_20 : decode cX0_init 20 = .ok (.putfield 21, 3) := by decide +kernel
theorem dX0_init_23 : decode cX0_init 23 = .ok (.return_, 1) := by decide +kernel
theorem dX0_add_0 : decode cX0_add 0 = .ok (.aload_n 0, 1) := by decide +kernel
theorem dX0_add_1 : decode cX0_add 1 = .ok (.getfield 17, 3) := by decide +kernel
theorem dX0_add_4 : decode cX0_add 4 = .ok (.bipush 6, 2) := by decide +kernel
theorem dX0_add_6 : decode cX0_add 6 = .ok (.if_icmp .lt 5, 3) := by decide +kernel
theorem dX0_add_9 : decode cX0_add 9 = .ok (.iconst (-1), 1) := by decide +kernel
theorem dX0_add_10 : decode cX0_add 10 = .ok (.ireturn, 1) := by decide +kernel
theorem dX0_add_11 : decode cX0_add 11 = .ok (.aload_n 0, 1) := by decide +kernel
theorem dX0_add_12 : decode cX0_add 12 = .ok (.getfield 11, 3) := by decide +kernel
theorem dX0_add_15 : decode cX0_add 15 = .ok (.aload_n 0, 1) := by decide +kernel
theorem dX0_add_16 : decode cX0_add 16 = .ok (.getfield 17, 3) := by decide +kernel
theorem dX0_add_19 : decode cX0_add 19 = .ok (.aload_n 1, 1) := by decide +kernel
theorem dX0_add_20 : decode cX0_add 20 = .ok (.aastore, 1) := by decide +kernel
theorem dX0_add_21 : decode cX0_add 21 = .ok (.aload_n 0, 1) := by decide +kernel
theorem dX0_add_22 : decode cX0_add 22 = .ok (.dup, 1) := by decide +kernel
theorem dX0_add_23 : decode cX0_add 23 = .ok (.getfield 17, 3) := by decide +kernel
theorem dX0_add_26 : decode cX0_add 26 = .ok (.iconst 1, 1) := by decide +kernel
theorem dX0_add_27 : decode cX0_add 27 = .ok (.iadd, 1) := by decide +kernel
theorem dX0_add_28 : decode cX0_add 28 = .ok (.putfield 17, 3) := by decide +kernel
theorem dX0_add_31 : decode cX0_add 31 = .ok (.aload_n 0, 1) := by decide +kernel
theorem dX0_add_32 : decode cX0_add 32 = .ok (.getfield 17, 3) := by decide +kernel
theorem dX0_add_35 : decode cX0_add 35 = .ok (.iconst 1, 1) := by decide +kernel
theorem dX0_add_36 : decode cX0_add 36 = .ok (.isub, 1) := by decide +kernel
theorem dX0_add_37 : decode cX0_add 37 = .ok (.ireturn, 1) := by decide +kernel
theorem dX0_lawInForce_0 : decode cX0_lawInForce 0 = .ok (.aload_n 0, 1) := by decide +kernel
theorem dX0_lawInForce_1 : decode cX0_lawInForce 1 = .ok (.getfield 21, 3) := by decide +kernel
theorem dX0_lawInForce_4 : decode cX0_lawInForce 4 = .ok (.ifCond .lt 26, 3) := by decide +kernel
theorem dX0_lawInForce_7 : decode cX0_lawInForce 7 = .ok (.aload_n 0, 1) := by decide +kernel
theorem dX0_lawInForce_8 : decode cX0_lawInForce 8 = .ok (.getfield 21, 3) := by decide +kernel
theorem dX0_lawInForce_11 : decode cX0_lawInForce 11 = .ok (.aload_n 0, 1) := by decide +kernel
theorem dX0_lawInForce_12 : decode cX0_lawInForce 12 = .ok (.getfield 17, 3) := by decide +kernel
theorem dX0_lawInForce_15 : decode cX0_lawInForce 15 = .ok (.if_icmp .ge 15, 3) := by decide +kernel
theorem dX0_lawInForce_18 : decode cX0_lawInForce 18 = .ok (.aload_n 0, 1) := by decide +kernel
theorem dX0_lawInForce_19 : decode cX0_lawInForce 19 = .ok (.getfield 11, 3) := by decide +kernel
theorem dX0_lawInForce_22 : decode cX0_lawInForce 22 = .ok (.aload_n 0, 1) := by decide +kernel
theorem dX0_lawInForce_23 : decode cX0_lawInForce 23 = .ok (.getfield 21, 3) := by decide +kernel
theorem dX0_lawInForce_26 : decode cX0_lawInForce 26 = .ok (.aaload, 1) := by decide +kernel
theorem dX0_lawInForce_27 : decode cX0_lawInForce 27 = .ok (.goto 4, 3) := by decide +kernel
theorem dX0_lawInForce_30 : decode cX0_lawInForce 30 = .ok (.aconst_null, 1) := by decide +kernel
theorem dX0_lawInForce_31 : decode cX0_lawInForce 31 = .ok (.areturn, 1) := by decide +kernel
theorem dX0_copy_0 : decode cX0_copy 0 = .ok (.iconst 0, 1) := by decide +kernel
theorem dX0_copy_1 : decode cX0_copy 1 = .ok (.istore_n 2, 1) := by decide +kernel
theorem dX0_copy_2 : decode cX0_copy 2 = .ok (.iload_n 2, 1) := by decide +kernel
theorem dX0_copy_3 : decode cX0_copy 3 = .ok (.bipush 6, 2) := by decide +kernel
theorem dX0_copy_5 : decode cX0_copy 5 = .ok (.if_icmp .ge 21, 3) := by decide +kernel
theorem dX0_copy_8 : decode cX0_copy 8 = .ok (.aload_n 0, 1) := by decide +kernel
theorem dX0_copy_9 : decode cX0_copy 9 = .ok (.getfield 11, 3) := by decide +kernel
theorem dX0_copy_12 : decode cX0_copy 12 = .ok (.iload_n 2, 1) := by decide +kernel
theorem dX0_copy_13 : decode cX0_copy 13 = .ok (.aload_n 1, 1) := by decide +kernel
theorem dX0_copy_14 : decode cX0_copy 14 = .ok (.getfield 11, 3) := by decide +kernel
theorem dX0_copy_17 : decode cX0_copy 17 = .ok (.iload_n 2, 1) := by decide +kernel
theorem dX0_copy_18 : decode cX0_copy 18 = .ok (.aaload, 1) := by decide +kernel
theorem dX0_copy_19 : decode cX0_copy 19 = .ok (.aastore, 1) := by decide +kernel
theorem dX0_copy_20 : decode cX0_copy 20 = .ok (.iinc 2 1, 3) := by decide +kernel
theorem dX0_copy_23 : decode cX0_copy 23 = .ok (.goto (-21), 3) := by decide +kernel
theorem dX0_copy_26 : decode cX0_copy 26 = .ok (.aload_n 0, 1) := by decide +kernel
theorem dX0_copy_27 : decode cX0_copy 27 = .ok (.aload_n 1, 1) := by decide +kernel
theorem dX0_copy_28 : decode cX0_copy 28 = .ok (.getfield 17, 3) := by decide +kernel
theorem dX0_copy_31 : decode cX0_copy 31 = .ok (.putfield 17, 3) := by decide +kernel
theorem dX0_copy_34 : decode cX0_copy 34 = .ok (.aload_n 0, 1) := by decide +kernel
theorem dX0_copy_35 : decode cX0_copy 35 = .ok (.aload_n 1, 1) := by decide +kernel
theorem dX0_copy_36 : decode cX0_copy 36 = .ok (.getfield 21, 3) := by decide +kernel
theorem dX0_copy_39 : decode cX0_copy 39 = .ok (.putfield 21, 3) := by decide +kernel
theorem dX0_copy_42 : decode cX0_copy 42 = .ok (.return_, 1) := by decide +kernel
theorem dX1_init_0 : decode cX1_init 0 = .ok (.aload_n 0, 1) := by decide +kernel
theorem dX1_init_1 : decode cX1_init 1 = .ok (.invokespecial 3, 3) := by decide +kernel
theorem dX1_init_4 : decode cX1_init 4 = .ok (.aload_n 0, 1) := by decide +kernel
theorem dX1_init_5 : decode cX1_init 5 = .ok (.new 9, 3) := by decide +kernel
theorem dX1_init_8 : decode cX1_init 8 = .ok (.dup, 1) := by decide +kernel
theorem dX1_init_9 : decode cX1_init 9 = .ok (.invokespecial 11, 3) := by decide +kernel
theorem dX1_init_12 : decode cX1_init 12 = .ok (.putfield 12, 3) := by decide +kernel
theorem dX1_init_15 : decode cX1_init 15 = .ok (.aload_n 0, 1) := by decide +kernel
theorem dX1_init_16 : decode cX1_init 16 = .ok (.new 18, 3) := by decide +kernel
theorem dX1_init_19 : decode cX1_init 19 = .ok (.dup, 1) := by decide +kernel
theorem dX1_init_20 : decode cX1_init 20 = .ok (.invokespecial 20, 3) := by decide +kernel
theorem dX1_init_23 : decode cX1_init 23 = .ok (.putfield 21, 3) := by decide +kernel
theorem dX1_init_26 : decode cX1_init 26 = .ok (.aload_n 0, 1) := by decide +kernel
theorem dX1_init_27 : decode cX1_init 27 = .ok (.bipush 28, 2) := by decide +kernel
theorem dX1_init_29 : decode cX1_init 29 = .ok (.newarray .int, 2) := by decide +kernel
theorem dX1_init_31 : decode cX1_init 31 = .ok (.putfield 25, 3) := by decide +kernel
theorem dX1_init_34 : decode cX1_init 34 = .ok (.aload_n 0, 1) := by decide +kernel
theorem dX1_init_35 : decode cX1_init 35 = .ok (.aload_n 1, 1) := by decide +kernel
theorem dX1_init_36 : decode cX1_init 36 = .ok (.putfield 29, 3) := by decide +kernel
theorem dX1_init_39 : decode cX1_init 39 = .ok (.aload_n 0, 1) := by decide +kernel
theorem dX1_init_40 : decode cX1_init 40 = .ok (.aload_n 2, 1) := by decide +kernel
theorem dX1_init_41 : decode cX1_init 41 = .ok (.putfield 32, 3) := by decide +kernel
theorem dX1_init_44 : decode cX1_init 44 = .ok (.aload_n 0, 1) := by decide +kernel
theorem dX1_init_45 : decode cX1_init 45 = .ok (.aload_n 3, 1) := by decide +kernel
theorem dX1_init_46 : decode cX1_init 46 = .ok (.putfield 36, 3) := by decide +kernel
theorem dX1_init_49 : decode cX1_init 49 = .ok (.aload_n 0, 1) := by decide +kernel
theorem dX1_init_50 : decode cX1_init 50 = .ok (.aload 4, 2) := by decide +kernel
theorem dX1_init_52 : decode cX1_init 52 = .ok (.putfield 39, 3) := by decide +kernel
theorem dX1_init_55 : decode cX1_init 55 = .ok (.return_, 1) := by decide +kernel
theorem dX1_tryFire_0 : decode cX1_tryFire 0 = .ok (.aload_n 0, 1) := by decide +kernel
theorem dX1_tryFire_1 : decode cX1_tryFire 1 = .ok (.getfield 29, 3) := by decide +kernel
theorem dX1_tryFire_4 : decode cX1_tryFire 4 = .ok (.iload_n 1, 1) := by decide +kernel
theorem dX1_tryFire_5 : decode cX1_tryFire 5 = .ok (.invokevirtual 43, 3) := by decide +kernel
theorem dX1_tryFire_8 : decode cX1_tryFire 8 = .ok (.ifCond .eq 14, 3) := by decide +kernel
theorem dX1_tryFire_11 : decode cX1_tryFire 11 = .ok (.aload_n 0, 1) := by decide +kernel
theorem dX1_tryFire_12 : decode cX1_tryFire 12 = .ok (.getfield 29, 3) := by decide +kernel
theorem dX1_tryFire_15 : decode cX1_tryFire 15 = .ok (.iload_n 2, 1) := by decide +kernel
theorem dX1_tryFire_16 : decode cX1_tryFire 16 = .ok (.invokevirtual 47, 3) := by decide +kernel
theorem dX1_tryFire_19 : decode cX1_tryFire 19 = .ok (.ifCond .ne 6, 3) := by decide +kernel
theorem dX1_tryFire_22 : decode cX1_tryFire 22 = .ok (.bipush (-2), 2) := by decide +kernel
theorem dX1_tryFire_24 : decode cX1_tryFire 24 = .ok (.ireturn, 1) := by decide +kernel
theorem dX1_tryFire_25 : decode cX1_tryFire 25 = .ok (.aload_n 0, 1) := by decide +kernel
theorem dX1_tryFire_26 : decode cX1_tryFire 26 = .ok (.getfield 29, 3) := by decide +kernel
theorem dX1_tryFire_29 : decode cX1_tryFire 29 = .ok (.invokevirtual 50, 3) := by decide +kernel
theorem dX1_tryFire_32 : decode cX1_tryFire 32 = .ok (.ifCond .eq 31, 3) := by decide +kernel
theorem dX1_tryFire_35 : decode cX1_tryFire 35 = .ok (.aload_n 0, 1) := by decide +kernel
theorem dX1_tryFire_36 : decode cX1_tryFire 36 = .ok (.getfield 29, 3) := by decide +kernel
theorem dX1_tryFire_39 : decode cX1_tryFire 39 = .ok (.iload_n 1, 1) := by decide +kernel
theorem dX1_tryFire_40 : decode cX1_tryFire 40 = .ok (.invokevirtual 54, 3) := by decide +kernel
theorem dX1_tryFire_43 : decode cX1_tryFire 43 = .ok (.ifCond .ne 20, 3) := by decide +kernel
theorem dX1_tryFire_46 : decode cX1_tryFire 46 = .ok (.aload_n 0, 1) := by decide +kernel
theorem dX1_tryFire_47 : decode cX1_tryFire 47 = .ok (.getfield 32, 3) := by decide +kernel
theorem dX1_tryFire_50 : decode cX1_tryFire 50 = .ok (.aload_n 0, 1) := by decide +kernel
theorem dX1_tryFire_51 : decode cX1_tryFire 51 = .ok (.getfield 29, 3) := by decide +kernel
theorem dX1_tryFire_54 : decode cX1_tryFire 54 = .ok (.iconst 4, 1) := by decide +kernel
theorem dX1_tryFire_55 : decode cX1_tryFire 55 = .ok (.iload_n 1, 1) := by decide +kernel
theorem dX1_tryFire_56 : decode cX1_tryFire 56 = .ok (.iload_n 2, 1) := by decide +kernel
theorem dX1_tryFire_57 : decode cX1_tryFire 57 = .ok (.invokevirtual 57, 3) := by decide +kernel
theorem dX1_tryFire_60 : decode cX1_tryFire 60 = .ok (.ifCond .eq 6, 3) := by decide +kernel
theorem dX1_tryFire_63 : decode cX1_tryFire 63 = .ok (.bipush (-3), 2) := by decide +kernel
theorem dX1_tryFire_65 : decode cX1_tryFire 65 = .ok (.ireturn, 1) := by decide +kernel
theorem dX1_tryFire_66 : decode cX1_tryFire 66 = .ok (.aload_n 0, 1) := by decide +kernel
theorem dX1_tryFire_67 : decode cX1_tryFire 67 = .ok (.getfield 36, 3) := by decide +kernel
theorem dX1_tryFire_70 : decode cX1_tryFire 70 = .ok (.iconst 0, 1) := by decide +kernel
theorem dX1_tryFire_71 : decode cX1_tryFire 71 = .ok (.aload_n 0, 1) := by decide +kernel
theorem dX1_tryFire_72 : decode cX1_tryFire 72 = .ok (.getfield 29, 3) := by decide +kernel
theorem dX1_tryFire_75 : decode cX1_tryFire 75 = .ok (.invokevirtual 63, 3) := by decide +kernel
theorem dX1_tryFire_78 : decode cX1_tryFire 78 = .ok (.aload_n 0, 1) := by decide +kernel
theorem dX1_tryFire_79 : decode cX1_tryFire 79 = .ok (.getfield 32, 3) := by decide +kernel
theorem dX1_tryFire_82 : decode cX1_tryFire 82 = .ok (.aload_n 0, 1) := by decide +kernel
theorem dX1_tryFire_83 : decode cX1_tryFire 83 = .ok (.getfield 29, 3) := by decide +kernel
theorem dX1_tryFire_86 : decode cX1_tryFire 86 = .ok (.iload_n 1, 1) := by decide +kernel
theorem dX1_tryFire_87 : decode cX1_tryFire 87 = .ok (.iload_n 2, 1) := by decide +kernel
theorem dX1_tryFire_88 : decode cX1_tryFire 88 = .ok (.invokevirtual 67, 3) := by decide +kernel
theorem dX1_tryFire_91 : decode cX1_tryFire 91 = .ok (.aload_n 0, 1) := by decide +kernel
theorem dX1_tryFire_92 : decode cX1_tryFire 92 = .ok (.getfield 29, 3) := by decide +kernel
theorem dX1_tryFire_95 : decode cX1_tryFire 95 = .ok (.getfield 71, 3) := by decide +kernel
theorem dX1_tryFire_98 : decode cX1_tryFire 98 = .ok (.iconst 0, 1) := by decide +kernel
theorem dX1_tryFire_99 : decode cX1_tryFire 99 = .ok (.iaload, 1) := by decide +kernel
theorem dX1_tryFire_100 : decode cX1_tryFire 100 = .ok (.ireturn, 1) := by decide +kernel
theorem dX1_tryDuel_0 : decode cX1_tryDuel 0 = .ok (.iload_n 2, 1) := by decide +kernel
theorem dX1_tryDuel_1 : decode cX1_tryDuel 1 = .ok (.ifCond .lt 9, 3) := by decide +kernel
theorem dX1_tryDuel_4 : decode cX1_tryDuel 4 = .ok (.iload_n 2, 1) := by decide +kernel
theorem dX1_tryDuel_5 : decode cX1_tryDuel 5 = .ok (.ldc 74, 2) := by decide +kernel
theorem dX1_tryDuel_7 : decode cX1_tryDuel 7 = .ok (.if_icmp .le 5, 3) := by decide +kernel
theorem dX1_tryDuel_10 : decode cX1_tryDuel 10 = .ok (.iconst (-1), 1) := by decide +kernel
theorem dX1_tryDuel_11 : decode cX1_tryDuel 11 = .ok (.ireturn, 1) := by decide +kernel
theorem dX1_tryDuel_12 : decode cX1_tryDuel 12 = .ok (.aload_n 0, 1) := by decide +kernel
theorem dX1_tryDuel_13 : decode cX1_tryDuel 13 = .ok (.getfield 29, 3) := by decide +kernel
theorem dX1_tryDuel_16 : decode cX1_tryDuel 16 = .ok (.iload_n 1, 1) := by decide +kernel
theorem dX1_tryDuel_17 : decode cX1_tryDuel 17 = .ok (.invokevirtual 75, 3) := by decide +kernel
theorem dX1_tryDuel_20 : decode cX1_tryDuel 20 = .ok (.ifCond .ne 6, 3) := by decide +kernel
theorem dX1_tryDuel_23 : decode cX1_tryDuel 23 = .ok (.bipush (-2), 2) := by decide +kernel
theorem dX1_tryDuel_25 : decode cX1_tryDuel 25 = .ok (.ireturn, 1) := by decide +kernel
theorem dX1_tryDuel_26 : decode cX1_tryDuel 26 = .ok (.aload_n 0, 1) := by decide +kernel
theorem dX1_tryDuel_27 : decode cX1_tryDuel 27 = .ok (.getfield 32, 3) := by decide +kernel
theorem dX1_tryDuel_30 : decode cX1_tryDuel 30 = .ok (.aload_n 0, 1) := by decide +kernel
theorem dX1_tryDuel_31 : decode cX1_tryDuel 31 = .ok (.getfield 29, 3) := by decide +kernel
theorem dX1_tryDuel_34 : decode cX1_tryDuel 34 = .ok (.iload_n 1, 1) := by decide +kernel
theorem dX1_tryDuel_35 : decode cX1_tryDuel 35 = .ok (.invokevirtual 78, 3) := by decide +kernel
theorem dX1_tryDuel_38 : decode cX1_tryDuel 38 = .ok (.ifCond .ne 6, 3) := by decide +kernel
theorem dX1_tryDuel_41 : decode cX1_tryDuel 41 = .ok (.bipush (-3), 2) := by decide +kernel
theorem dX1_tryDuel_43 : decode cX1_tryDuel 43 = .ok (.ireturn, 1) := by decide +kernel
theorem dX1_tryDuel_44 : decode cX1_tryDuel 44 = .ok (.aload_n 0, 1) := by decide +kernel
theorem dX1_tryDuel_45 : decode cX1_tryDuel 45 = .ok (.getfield 36, 3) := by decide +kernel
theorem dX1_tryDuel_48 : decode cX1_tryDuel 48 = .ok (.iconst 1, 1) := by decide +kernel
theorem dX1_tryDuel_49 : decode cX1_tryDuel 49 = .ok (.aload_n 0, 1) := by decide +kernel
theorem dX1_tryDuel_50 : decode cX1_tryDuel 50 = .ok (.getfield 29, 3) := by decide +kernel
theorem dX1_tryDuel_53 : decode cX1_tryDuel 53 = .ok (.invokevirtual 63, 3) := by decide +kernel
theorem dX1_tryDuel_56 : decode cX1_tryDuel 56 = .ok (.aload_n 0, 1) := by decide +kernel
theorem dX1_tryDuel_57 : decode cX1_tryDuel 57 = .ok (.getfield 32, 3) := by decide +kernel
theorem dX1_tryDuel_60 : decode cX1_tryDuel 60 = .ok (.iload_n 2, 1) := by decide +kernel
theorem dX1_tryDuel_61 : decode cX1_tryDuel 61 = .ok (.putfield 82, 3) := by decide +kernel
theorem dX1_tryDuel_64 : decode cX1_tryDuel 64 = .ok (.aload_n 0, 1) := by decide +kernel
theorem dX1_tryDuel_65 : decode cX1_tryDuel 65 = .ok (.getfield 32, 3) := by decide +kernel
theorem dX1_tryDuel_68 : decode cX1_tryDuel 68 = .ok (.aload_n 0, 1) := by decide +kernel
theorem dX1_tryDuel_69 : decode cX1_tryDuel 69 = .ok (.getfield 29, 3) := by decide +kernel
theorem dX1_tryDuel_72 : decode cX1_tryDuel 72 = .ok (.iload_n 1, 1) := by decide +kernel
theorem dX1_tryDuel_73 : decode cX1_tryDuel 73 = .ok (.invokevirtual 86, 3) := by decide +kernel
theorem dX1_tryDuel_76 : decode cX1_tryDuel 76 = .ok (.ireturn, 1) := by decide +kernel
theorem dX1_tryRest_0 : decode cX1_tryRest 0 = .ok (.iload_n 1, 1) := by decide +kernel
theorem dX1_tryRest_1 : decode cX1_tryRest 1 = .ok (.iconst 1, 1) := by decide +kernel
theorem dX1_tryRest_2 : decode cX1_tryRest 2 = .ok (.if_icmp .lt 9, 3) := by decide +kernel
theorem dX1_tryRest_5 : decode cX1_tryRest 5 = .ok (.iload_n 1, 1) := by decide +kernel
theorem dX1_tryRest_6 : decode cX1_tryRest 6 = .ok (.bipush 99, 2) := by decide +kernel
theorem dX1_tryRest_8 : decode cX1_tryRest 8 = .ok (.if_icmp .le 5, 3) := by decide +kernel
theorem dX1_tryRest_11 : decode cX1_tryRest 11 = .ok (.iconst (-1), 1) := by decide +kernel
theorem dX1_tryRest_12 : decode cX1_tryRest 12 = .ok (.ireturn, 1) := by decide +kernel
theorem dX1_tryRest_13 : decode cX1_tryRest 13 = .ok (.aload_n 0, 1) := by decide +kernel
theorem dX1_tryRest_14 : decode cX1_tryRest 14 = .ok (.getfield 36, 3) := by decide +kernel
theorem dX1_tryRest_17 : decode cX1_tryRest 17 = .ok (.iconst 2, 1) := by decide +kernel
theorem dX1_tryRest_18 : decode cX1_tryRest 18 = .ok (.aload_n 0, 1) := by decide +kernel
theorem dX1_tryRest_19 : decode cX1_tryRest 19 = .ok (.getfield 29, 3) := by decide +kernel
theorem dX1_tryRest_22 : decode cX1_tryRest 22 = .ok (.invokevirtual 63, 3) := by decide +kernel
theorem dX1_tryRest_25 : decode cX1_tryRest 25 = .ok (.aload_n 0, 1) := by decide +kernel
theorem dX1_tryRest_26 : decode cX1_tryRest 26 = .ok (.getfield 29, 3) := by decide +kernel
theorem dX1_tryRest_29 : decode cX1_tryRest 29 = .ok (.iload_n 1, 1) := by decide +kernel
theorem dX1_tryRest_30 : decode cX1_tryRest 30 = .ok (.invokevirtual 90, 3) := by decide +kernel
theorem dX1_tryRest_33 : decode cX1_tryRest 33 = .ok (.aload_n 0, 1) := by decide +kernel
theorem dX1_tryRest_34 : decode cX1_tryRest 34 = .ok (.getfield 29, 3) := by decide +kernel
theorem dX1_tryRest_37 : decode cX1_tryRest 37 = .ok (.getfield 71, 3) := by decide +kernel
theorem dX1_tryRest_40 : decode cX1_tryRest 40 = .ok (.bipush 16, 2) := by decide +kernel
theorem dX1_tryRest_42 : decode cX1_tryRest 42 = .ok (.iaload, 1) := by decide +kernel
theorem dX1_tryRest_43 : decode cX1_tryRest 43 = .ok (.ireturn, 1) := by decide +kernel
theorem dX1_begin_0 : decode cX1_begin 0 = .ok (.aload_n 0, 1) := by decide +kernel
theorem dX1_begin_1 : decode cX1_begin 1 = .ok (.getfield 12, 3) := by decide +kernel
theorem dX1_begin_4 : decode cX1_begin 4 = .ok (.aload_n 0, 1) := by decide +kernel
theorem dX1_begin_5 : decode cX1_begin 5 = .ok (.getfield 29, 3) := by decide +kernel
theorem dX1_begin_8 : decode cX1_begin 8 = .ok (.invokevirtual 94, 3) := by decide +kernel
theorem dX1_begin_11 : decode cX1_begin 11 = .ok (.aload_n 0, 1) := by decide +kernel
theorem dX1_begin_12 : decode cX1_begin 12 = .ok (.getfield 21, 3) := by decide +kernel
theorem dX1_begin_15 : decode cX1_begin 15 = .ok (.aload_n 0, 1) := by decide +kernel
theorem dX1_begin_16 : decode cX1_begin 16 = .ok (.getfield 36, 3) := by decide +kernel
theorem dX1_begin_19 : decode cX1_begin 19 = .ok (.invokevirtual 98, 3) := by decide +kernel
theorem dX1_begin_22 : decode cX1_begin 22 = .ok (.aload_n 0, 1) := by decide +kernel
theorem dX1_begin_23 : decode cX1_begin 23 = .ok (.iconst 0, 1) := by decide +kernel
theorem dX1_begin_24 : decode cX1_begin 24 = .ok (.putfield 101, 3) := by decide +kernel
theorem dX1_begin_27 : decode cX1_begin 27 = .ok (.aload_n 0, 1) := by decide +kernel
theorem dX1_begin_28 : decode cX1_begin 28 = .ok (.iconst (-1), 1) := by decide +kernel
theorem dX1_begin_29 : decode cX1_begin 29 = .ok (.putfield 104, 3) := by decide +kernel
theorem dX1_begin_32 : decode cX1_begin 32 = .ok (.return_, 1) := by decide +kernel
theorem dX1_giveUp_0 : decode cX1_giveUp 0 = .ok (.aload_n 0, 1) := by decide +kernel
theorem dX1_giveUp_1 : decode cX1_giveUp 1 = .ok (.getfield 29, 3) := by decide +kernel
theorem dX1_giveUp_4 : decode cX1_giveUp 4 = .ok (.aload_n 0, 1) := by decide +kernel
theorem dX1_giveUp_5 : decode cX1_giveUp 5 = .ok (.getfield 12, 3) := by decide +kernel
theorem dX1_giveUp_8 : decode cX1_giveUp 8 = .ok (.invokevirtual 94, 3) := by decide +kernel
theorem dX1_giveUp_11 : decode cX1_giveUp 11 = .ok (.aload_n 0, 1) := by decide +kernel
theorem dX1_giveUp_12 : decode cX1_giveUp 12 = .ok (.getfield 36, 3) := by decide +kernel
theorem dX1_giveUp_15 : decode cX1_giveUp 15 = .ok (.aload_n 0, 1) := by decide +kernel
theorem dX1_giveUp_16 : decode cX1_giveUp 16 = .ok (.getfield 21, 3) := by decide +kernel
theorem dX1_giveUp_19 : decode cX1_giveUp 19 = .ok (.invokevirtual 98, 3) := by decide +kernel
theorem dX1_giveUp_22 : decode cX1_giveUp 22 = .ok (.return_, 1) := by decide +kernel
theorem dX1_runClause_0 : decode cX1_runClause 0 = .ok (.aload_n 1, 1) := by decide +kernel
theorem dX1_runClause_1 : decode cX1_runClause 1 = .ok (.iload_n 2, 1) := by decide +kernel
theorem dX1_runClause_2 : decode cX1_runClause 2 = .ok (.iconst 1, 1) := by decide +kernel
theorem dX1_runClause_3 : decode cX1_runClause 3 = .ok (.invokevirtual 107, 3) := by decide +kernel
theorem dX1_runClause_6 : decode cX1_runClause 6 = .ok (.istore_n 3, 1) := by decide +kernel
theorem dX1_runClause_7 : decode cX1_runClause 7 = .ok (.iconst 0, 1) := by decide +kernel
theorem dX1_runClause_8 : decode cX1_runClause 8 = .ok (.istore 4, 2) := by decide +kernel
theorem dX1_runClause_10 : decode cX1_runClause 10 = .ok (.iload 4, 2) := by decide +kernel
theorem dX1_runClause_12 : decode cX1_runClause 12 = .ok (.iload_n 3, 1) := by decide +kernel
theorem dX1_runClause_13 : decode cX1_runClause 13 = .ok (.if_icmp .ge 193, 3) := by decide +kernel
theorem dX1_runClause_16 : decode cX1_runClause 16 = .ok (.aload_n 0, 1) := by decide +kernel
theorem dX1_runClause_17 : decode cX1_runClause 17 = .ok (.invokevirtual 113, 3) := by decide +kernel
theorem dX1_runClause_20 : decode cX1_runClause 20 = .ok (.aload_n 0, 1) := by decide +kernel
theorem dX1_runClause_21 : decode cX1_runClause 21 = .ok (.getfield 39, 3) := by decide +kernel
theorem dX1_runClause_24 : decode cX1_runClause 24 = .ok (.aload_n 1, 1) := by decide +kernel
theorem dX1_runClause_25 : decode cX1_runClause 25 = .ok (.aload_n 1, 1) := by decide +kernel
theorem dX1_runClause_26 : decode cX1_runClause 26 = .ok (.iload_n 2, 1) := by decide +kernel
theorem dX1_runClause_27 : decode cX1_runClause 27 = .ok (.iconst 4, 1) := by decide +kernel
theorem dX1_runClause_28 : decode cX1_runClause 28 = .ok (.invokevirtual 107, 3) := by decide +kernel
theorem dX1_runClause_31 : decode cX1_runClause 31 = .ok (.aload_n 1, 1) := by decide +kernel
theorem dX1_runClause_32 : decode cX1_runClause 32 = .ok (.iload_n 2, 1) := by decide +kernel
theorem dX1_runClause_33 : decode cX1_runClause 33 = .ok (.iconst 5, 1) := by decide +kernel
theorem dX1_runClause_34 : decode cX1_runClause 34 = .ok (.invokevirtual 107, 3) := by decide +kernel
theorem dX1_runClause_37 : decode cX1_runClause 37 = .ok (.aload_n 0, 1) := by decide +kernel
theorem dX1_runClause_38 : decode cX1_runClause 38 = .ok (.getfield 25, 3) := by decide +kernel
theorem dX1_runClause_41 : decode cX1_runClause 41 = .ok (.invokevirtual 116, 3) := by decide +kernel
theorem dX1_runClause_44 : decode cX1_runClause 44 = .ok (.ifCond .le 156, 3) := by decide +kernel
theorem dX1_runClause_47 : decode cX1_runClause 47 = .ok (.aload_n 1, 1) := by decide +kernel
theorem dX1_runClause_48 : decode cX1_runClause 48 = .ok (.iload_n 2, 1) := by decide +kernel
theorem dX1_runClause_49 : decode cX1_runClause 49 = .ok (.iconst 0, 1) := by decide +kernel
theorem dX1_runClause_50 : decode cX1_runClause 50 = .ok (.invokevirtual 107, 3) := by decide +kernel
theorem dX1_runClause_53 : decode cX1_runClause 53 = .ok (.istore 5, 2) := by decide +kernel
theorem dX1_runClause_55 : decode cX1_runClause 55 = .ok (.aload_n 0, 1) := by decide +kernel
theorem dX1_runClause_56 : decode cX1_runClause 56 = .ok (.getfield 39, 3) := by decide +kernel
theorem dX1_runClause_59 : decode cX1_runClause 59 = .ok (.aload_n 1, 1) := by decide +kernel
theorem dX1_runClause_60 : decode cX1_runClause 60 = .ok (.aload_n 1, 1) := by decide +kernel
theorem dX1_runClause_61 : decode cX1_runClause 61 = .ok (.iload_n 2, 1) := by decide +kernel
theorem dX1_runClause_62 : decode cX1_runClause 62 = .ok (.iconst 2, 1) := by decide +kernel
theorem dX1_runClause_63 : decode cX1_runClause 63 = .ok (.invokevirtual 107, 3) := by decide +kernel
theorem dX1_runClause_66 : decode cX1_runClause 66 = .ok (.aload_n 1, 1) := by decide +kernel
theorem dX1_runClause_67 : decode cX1_runClause 67 = .ok (.iload_n 2, 1) := by decide +kernel
theorem dX1_runClause_68 : decode cX1_runClause 68 = .ok (.iconst 3, 1) := by decide +kernel
theorem dX1_runClause_69 : decode cX1_runClause 69 = .ok (.invokevirtual 107, 3) := by decide +kernel
theorem dX1_runClause_72 : decode cX1_runClause 72 = .ok (.aload_n 0, 1) := by decide +kernel
theorem dX1_runClause_73 : decode cX1_runClause 73 = .ok (.getfield 25, 3) := by decide +kernel
theorem dX1_runClause_76 : decode cX1_runClause 76 = .ok (.invokevirtual 116, 3) := by decide +kernel
theorem dX1_runClause_79 : decode cX1_runClause 79 = .ok (.istore 6, 2) := by decide +kernel
theorem dX1_runClause_81 : decode cX1_runClause 81 = .ok (.aload_n 0, 1) := by decide +kernel
theorem dX1_runClause_82 : decode cX1_runClause 82 = .ok (.getfield 39, 3) := by decide +kernel
theorem dX1_runClause_85 : decode cX1_runClause 85 = .ok (.aload_n 1, 1) := by decide +kernel
theorem dX1_runClause_86 : decode cX1_runClause 86 = .ok (.aload_n 1, 1) := by decide +kernel
theorem dX1_runClause_87 : decode cX1_runClause 87 = .ok (.iload_n 2, 1) := by decide +kernel
theorem dX1_runClause_88 : decode cX1_runClause 88 = .ok (.iconst 3, 1) := by decide +kernel
theorem dX1_runClause_89 : decode cX1_runClause 89 = .ok (.invokevirtual 107, 3) := by decide +kernel
theorem dX1_runClause_92 : decode cX1_runClause 92 = .ok (.aload_n 1, 1) := by decide +kernel
theorem dX1_runClause_93 : decode cX1_runClause 93 = .ok (.iload_n 2, 1) := by decide +kernel
theorem dX1_runClause_94 : decode cX1_runClause 94 = .ok (.iconst 4, 1) := by decide +kernel
theorem dX1_runClause_95 : decode cX1_runClause 95 = .ok (.invokevirtual 107, 3) := by decide +kernel
theorem dX1_runClause_98 : decode cX1_runClause 98 = .ok (.aload_n 0, 1) := by decide +kernel
theorem dX1_runClause_99 : decode cX1_runClause 99 = .ok (.getfield 25, 3) := by decide +kernel
theorem dX1_runClause_102 : decode cX1_runClause 102 = .ok (.invokevirtual 116, 3) := by decide +kernel
theorem dX1_runClause_105 : decode cX1_runClause 105 = .ok (.istore 7, 2) := by decide +kernel
theorem dX1_runClause_107 : decode cX1_runClause 107 = .ok (.iload 6, 2) := by decide +kernel
theorem dX1_runClause_109 : decode cX1_runClause 109 = .ok (.ldc 122, 2) := by decide +kernel
theorem dX1_runClause_111 : decode cX1_runClause 111 = .ok (.if_icmp .eq 10, 3) := by decide +kernel
theorem dX1_runClause_114 : decode cX1_runClause 114 = .ok (.iload 7, 2) := by decide +kernel
theorem dX1_runClause_116 : decode cX1_runClause 116 = .ok (.ldc 122, 2) := by decide +kernel
theorem dX1_runClause_118 : decode cX1_runClause 118 = .ok (.if_icmp .ne 5, 3) := by decide +kernel
theorem dX1_runClause_121 : decode cX1_runClause 121 = .ok (.iconst 0, 1) := by decide +kernel
theorem dX1_runClause_122 : decode cX1_runClause 122 = .ok (.ireturn, 1) := by decide +kernel
theorem dX1_runClause_123 : decode cX1_runClause 123 = .ok (.iload 5, 2) := by decide +kernel
theorem dX1_runClause_125 : decode cX1_runClause 125 = .ok (.ifCond .ne 14, 3) := by decide +kernel
theorem dX1_runClause_128 : decode cX1_runClause 128 = .ok (.aload_n 0, 1) := by decide +kernel
theorem dX1_runClause_129 : decode cX1_runClause 129 = .ok (.iload 6, 2) := by decide +kernel
theorem dX1_runClause_131 : decode cX1_runClause 131 = .ok (.iload 7, 2) := by decide +kernel
theorem dX1_runClause_133 : decode cX1_runClause 133 = .ok (.invokevirtual 123, 3) := by decide +kernel
theorem dX1_runClause_136 : decode cX1_runClause 136 = .ok (.goto 26, 3) := by decide +kernel
theorem dX1_runClause_139 : decode cX1_runClause 139 = .ok (.iload 5, 2) := by decide +kernel
theorem dX1_runClause_141 : decode cX1_runClause 141 = .ok (.iconst 1, 1) := by decide +kernel
theorem dX1_runClause_142 : decode cX1_runClause 142 = .ok (.if_icmp .ne 14, 3) := by decide +kernel
theorem dX1_runClause_145 : decode cX1_runClause 145 = .ok (.aload_n 0, 1) := by decide +kernel
theorem dX1_runClause_146 : decode cX1_runClause 146 = .ok (.iload 6, 2) := by decide +kernel
theorem dX1_runClause_148 : decode cX1_runClause 148 = .ok (.iload 7, 2) := by decide +kernel
theorem dX1_runClause_150 : decode cX1_runClause 150 = .ok (.invokevirtual 126, 3) := by decide +kernel
theorem dX1_runClause_153 : decode cX1_runClause 153 = .ok (.goto 9, 3) := by decide +kernel
theorem dX1_runClause_156 : decode cX1_runClause 156 = .ok (.aload_n 0, 1) := by decide +kernel
theorem dX1_runClause_157 : decode cX1_runClause 157 = .ok (.iload 6, 2) := by decide +kernel
theorem dX1_runClause_159 : decode cX1_runClause 159 = .ok (.invokevirtual 129, 3) := by decide +kernel
theorem dX1_runClause_162 : decode cX1_runClause 162 = .ok (.istore 8, 2) := by decide +kernel
theorem dX1_runClause_164 : decode cX1_runClause 164 = .ok (.iload 8, 2) := by decide +kernel
theorem dX1_runClause_166 : decode cX1_runClause 166 = .ok (.ifCond .ge 5, 3) := by decide +kernel
theorem dX1_runClause_169 : decode cX1_runClause 169 = .ok (.iconst 0, 1) := by decide +kernel
theorem dX1_runClause_170 : decode cX1_runClause 170 = .ok (.ireturn, 1) := by decide +kernel
theorem dX1_runClause_171 : decode cX1_runClause 171 = .ok (.aload_n 0, 1) := by decide +kernel
theorem dX1_runClause_172 : decode cX1_runClause 172 = .ok (.iload 5, 2) := by decide +kernel
theorem dX1_runClause_174 : decode cX1_runClause 174 = .ok (.iconst 1, 1) := by decide +kernel
theorem dX1_runClause_175 : decode cX1_runClause 175 = .ok (.if_icmp .ne 8, 3) := by decide +kernel
theorem dX1_runClause_178 : decode cX1_runClause 178 = .ok (.iload 8, 2) := by decide +kernel
theorem dX1_runClause_180 : decode cX1_runClause 180 = .ok (.goto 7, 3) := by decide +kernel
theorem dX1_runClause_183 : decode cX1_runClause 183 = .ok (.aload_n 0, 1) := by decide +kernel
theorem dX1_runClause_184 : decode cX1_runClause 184 = .ok (.getfield 104, 3) := by decide +kernel
theorem dX1_runClause_187 : decode cX1_runClause 187 = .ok (.putfield 104, 3) := by decide +kernel
theorem dX1_runClause_190 : decode cX1_runClause 190 = .ok (.aload_n 0, 1) := by decide +kernel
theorem dX1_runClause_191 : decode cX1_runClause 191 = .ok (.dup, 1) := by decide +kernel
theorem dX1_runClause_192 : decode cX1_runClause 192 = .ok (.getfield 101, 3) := by decide +kernel
theorem dX1_runClause_195 : decode cX1_runClause 195 = .ok (.iconst 1, 1) := by decide +kernel
theorem dX1_runClause_196 : decode cX1_runClause 196 = .ok (.iadd, 1) := by decide +kernel
theorem dX1_runClause_197 : decode cX1_runClause 197 = .ok (.putfield 101, 3) := by decide +kernel
theorem dX1_runClause_200 : decode cX1_runClause 200 = .ok (.iinc 4 1, 3) := by decide +kernel
theorem dX1_runClause_203 : decode cX1_runClause 203 = .ok (.goto (-193), 3) := by decide +kernel
theorem dX1_runClause_206 : decode cX1_runClause 206 = .ok (.iconst 1, 1) := by decide +kernel
theorem dX1_runClause_207 : decode cX1_runClause 207 = .ok (.ireturn, 1) := by decide +kernel
theorem dX1_setWords_0 : decode cX1_setWords 0 = .ok (.aload_n 0, 1) := by decide +kernel
theorem dX1_setWords_1 : decode cX1_setWords 1 = .ok (.getfield 25, 3) := by decide +kernel
theorem dX1_setWords_4 : decode cX1_setWords 4 = .ok (.iconst 0, 1) := by decide +kernel
theorem dX1_setWords_5 : decode cX1_setWords 5 = .ok (.aload_n 0, 1) := by decide +kernel
theorem dX1_setWords_6 : decode cX1_setWords 6 = .ok (.getfield 29, 3) := by decide +kernel
theorem dX1_setWords_9 : decode cX1_setWords 9 = .ok (.getfield 71, 3) := by decide +kernel
theorem dX1_setWords_12 : decode cX1_setWords 12 = .ok (.bipush 16, 2) := by decide +kernel
theorem dX1_setWords_14 : decode cX1_setWords 14 = .ok (.iaload, 1) := by decide +kernel
theorem dX1_setWords_15 : decode cX1_setWords 15 = .ok (.iastore, 1) := by decide +kernel
theorem dX1_setWords_16 : decode cX1_setWords 16 = .ok (.aload_n 0, 1) := by decide +kernel
theorem dX1_setWords_17 : decode cX1_setWords 17 = .ok (.getfield 25, 3) := by decide +kernel
theorem dX1_setWords_20 : decode cX1_setWords 20 = .ok (.iconst 1, 1) := by decide +kernel
theorem dX1_setWords_21 : decode cX1_setWords 21 = .ok (.aload_n 0, 1) := by decide +kernel
theorem dX1_setWords_22 : decode cX1_setWords 22 = .ok (.getfield 29, 3) := by decide +kernel
theorem dX1_setWords_25 : decode cX1_setWords 25 = .ok (.getfield 71, 3) := by decide +kernel
theorem dX1_setWords_28 : decode cX1_setWords 28 = .ok (.iconst 0, 1) := by decide +kernel
theorem dX1_setWords_29 : decode cX1_setWords 29 = .ok (.iaload, 1) := by decide +kernel
theorem dX1_setWords_30 : decode cX1_setWords 30 = .ok (.iastore, 1) := by decide +kernel
theorem dX1_setWords_31 : decode cX1_setWords 31 = .ok (.aload_n 0, 1) := by decide +kernel
theorem dX1_setWords_32 : decode cX1_setWords 32 = .ok (.getfield 25, 3) := by decide +kernel
theorem dX1_setWords_35 : decode cX1_setWords 35 = .ok (.iconst 2, 1) := by decide +kernel
theorem dX1_setWords_36 : decode cX1_setWords 36 = .ok (.aload_n 0, 1) := by decide +kernel
theorem dX1_setWords_37 : decode cX1_setWords 37 = .ok (.getfield 29, 3) := by decide +kernel
theorem dX1_setWords_40 : decode cX1_setWords 40 = .ok (.getfield 71, 3) := by decide +kernel
theorem dX1_setWords_43 : decode cX1_setWords 43 = .ok (.iconst 1, 1) := by decide +kernel
theorem dX1_setWords_44 : decode cX1_setWords 44 = .ok (.iaload, 1) := by decide +kernel
theorem dX1_setWords_45 : decode cX1_setWords 45 = .ok (.iastore, 1) := by decide +kernel
theorem dX1_setWords_46 : decode cX1_setWords 46 = .ok (.aload_n 0, 1) := by decide +kernel
theorem dX1_setWords_47 : decode cX1_setWords 47 = .ok (.getfield 25, 3) := by decide +kernel
theorem dX1_setWords_50 : decode cX1_setWords 50 = .ok (.iconst 3, 1) := by decide +kernel
theorem dX1_setWords_51 : decode cX1_setWords 51 = .ok (.aload_n 0, 1) := by decide +kernel
theorem dX1_setWords_52 : decode cX1_setWords 52 = .ok (.getfield 29, 3) := by decide +kernel
theorem dX1_setWords_55 : decode cX1_setWords 55 = .ok (.getfield 71, 3) := by decide +kernel
theorem dX1_setWords_58 : decode cX1_setWords 58 = .ok (.iconst 2, 1) := by decide +kernel
theorem dX1_setWords_59 : decode cX1_setWords 59 = .ok (.iaload, 1) := by decide +kernel
theorem dX1_setWords_60 : decode cX1_setWords 60 = .ok (.iastore, 1) := by decide +kernel
theorem dX1_setWords_61 : decode cX1_setWords 61 = .ok (.aload_n 0, 1) := by decide +kernel
theorem dX1_setWords_62 : decode cX1_setWords 62 = .ok (.getfield 25, 3) := by decide +kernel
theorem dX1_setWords_65 : decode cX1_setWords 65 = .ok (.iconst 4, 1) := by decide +kernel
theorem dX1_setWords_66 : decode cX1_setWords 66 = .ok (.aload_n 0, 1) := by decide +kernel
theorem dX1_setWords_67 : decode cX1_setWords 67 = .ok (.getfield 101, 3) := by decide +kernel
theorem dX1_setWords_70 : decode cX1_setWords 70 = .ok (.iastore, 1) := by decide +kernel
theorem dX1_setWords_71 : decode cX1_setWords 71 = .ok (.aload_n 0, 1) := by decide +kernel
theorem dX1_setWords_72 : decode cX1_setWords 72 = .ok (.getfield 25, 3) := by decide +kernel
theorem dX1_setWords_75 : decode cX1_setWords 75 = .ok (.iconst 5, 1) := by decide +kernel
theorem dX1_setWords_76 : decode cX1_setWords 76 = .ok (.aload_n 0, 1) := by decide +kernel
theorem dX1_setWords_77 : decode cX1_setWords 77 = .ok (.getfield 104, 3) := by decide +kernel
theorem dX1_setWords_80 : decode cX1_setWords 80 = .ok (.iastore, 1) := by decide +kernel
theorem dX1_setWords_81 : decode cX1_setWords 81 = .ok (.iconst 0, 1) := by decide +kernel
theorem dX1_setWords_82 : decode cX1_setWords 82 = .ok (.istore_n 1, 1) := by decide +kernel
theorem dX1_setWords_83 : decode cX1_setWords 83 = .ok (.iload_n 1, 1) := by decide +kernel
theorem dX1_setWords_84 : decode cX1_setWords 84 = .ok (.bipush 10, 2) := by decide +kernel
theorem dX1_setWords_86 : decode cX1_setWords 86 = .ok (.if_icmp .ge 45, 3) := by decide +kernel
theorem dX1_setWords_89 : decode cX1_setWords 89 = .ok (.aload_n 0, 1) := by decide +kernel
theorem dX1_setWords_90 : decode cX1_setWords 90 = .ok (.getfield 25, 3) := by decide +kernel
theorem dX1_setWords_93 : decode cX1_setWords 93 = .ok (.bipush 6, 2) := by decide +kernel
theorem dX1_setWords_95 : decode cX1_setWords 95 = .ok (.iload_n 1, 1) := by decide +kernel
theorem dX1_setWords_96 : decode cX1_setWords 96 = .ok (.iadd, 1) := by decide +kernel
theorem dX1_setWords_97 : decode cX1_setWords 97 = .ok (.aload_n 0, 1) := by decide +kernel
theorem dX1_setWords_98 : decode cX1_setWords 98 = .ok (.getfield 29, 3) := by decide +kernel
theorem dX1_setWords_101 : decode cX1_setWords 101 = .ok (.iload_n 1, 1) := by decide +kernel
theorem dX1_setWords_102 : decode cX1_setWords 102 = .ok (.invokevirtual 43, 3) := by decide +kernel
theorem dX1_setWords_105 : decode cX1_setWords 105 = .ok (.ifCond .eq 18, 3) := by decide +kernel
theorem dX1_setWords_108 : decode cX1_setWords 108 = .ok (.aload_n 0, 1) := by decide +kernel
theorem dX1_setWords_109 : decode cX1_setWords 109 = .ok (.getfield 29, 3) := by decide +kernel
theorem dX1_setWords_112 : decode cX1_setWords 112 = .ok (.getfield 71, 3) := by decide +kernel
theorem dX1_setWords_115 : decode cX1_setWords 115 = .ok (.bipush 83, 2) := by decide +kernel
theorem dX1_setWords_117 : decode cX1_setWords 117 = .ok (.iload_n 1, 1) := by decide +kernel
theorem dX1_setWords_118 : decode cX1_setWords 118 = .ok (.iadd, 1) := by decide +kernel
theorem dX1_setWords_119 : decode cX1_setWords 119 = .ok (.iaload, 1) := by decide +kernel
theorem dX1_setWords_120 : decode cX1_setWords 120 = .ok (.goto 4, 3) := by decide +kernel
theorem dX1_setWords_123 : decode cX1_setWords 123 = .ok (.iconst (-1), 1) := by decide +kernel
theorem dX1_setWords_124 : decode cX1_setWords 124 = .ok (.iastore, 1) := by decide +kernel
theorem dX1_setWords_125 : decode cX1_setWords 125 = .ok (.iinc 1 1, 3) := by decide +kernel
theorem dX1_setWords_128 : decode cX1_setWords 128 = .ok (.goto (-45), 3) := by decide +kernel
theorem dX1_setWords_131 : decode cX1_setWords 131 = .ok (.iconst 0, 1) := by decide +kernel
theorem dX1_setWords_132 : decode cX1_setWords 132 = .ok (.istore_n 1, 1) := by decide +kernel
theorem dX1_setWords_133 : decode cX1_setWords 133 = .ok (.iload_n 1, 1) := by decide +kernel
theorem dX1_setWords_134 : decode cX1_setWords 134 = .ok (.bipush 12, 2) := by decide +kernel
theorem dX1_setWords_136 : decode cX1_setWords 136 = .ok (.if_icmp .ge 44, 3) := by decide +kernel
theorem dX1_setWords_139 : decode cX1_setWords 139 = .ok (.aload_n 0, 1) := by decide +kernel
theorem dX1_setWords_140 : decode cX1_setWords 140 = .ok (.getfield 25, 3) := by decide +kernel
theorem dX1_setWords_143 : decode cX1_setWords 143 = .ok (.bipush 16, 2) := by decide +kernel
theorem dX1_setWords_145 : decode cX1_setWords 145 = .ok (.iload_n 1, 1) := by decide +kernel
theorem dX1_setWords_146 : decode cX1_setWords 146 = .ok (.iadd, 1) := by decide +kernel
theorem dX1_setWords_147 : decode cX1_setWords 147 = .ok (.aload_n 0, 1) := by decide +kernel
theorem dX1_setWords_148 : decode cX1_setWords 148 = .ok (.getfield 29, 3) := by decide +kernel
theorem dX1_setWords_151 : decode cX1_setWords 151 = .ok (.iload_n 1, 1) := by decide +kernel
theorem dX1_setWords_152 : decode cX1_setWords 152 = .ok (.invokevirtual 47, 3) := by decide +kernel
theorem dX1_setWords_155 : decode cX1_setWords 155 = .ok (.ifCond .eq 17, 3) := by decide +kernel
theorem dX1_setWords_158 : decode cX1_setWords 158 = .ok (.aload_n 0, 1) := by decide +kernel
theorem dX1_setWords_159 : decode cX1_setWords 159 = .ok (.getfield 29, 3) := by decide +kernel
theorem dX1_setWords_162 : decode cX1_setWords 162 = .ok (.getfield 71, 3) := by decide +kernel
theorem dX1_setWords_165 : decode cX1_setWords 165 = .ok (.iconst 4, 1) := by decide +kernel
theorem dX1_setWords_166 : decode cX1_setWords 166 = .ok (.iload_n 1, 1) := by decide +kernel
theorem dX1_setWords_167 : decode cX1_setWords 167 = .ok (.iadd, 1) := by decide +kernel
theorem dX1_setWords_168 : decode cX1_setWords 168 = .ok (.iaload, 1) := by decide +kernel
theorem dX1_setWords_169 : decode cX1_setWords 169 = .ok (.goto 4, 3) := by decide +kernel
theorem dX1_setWords_172 : decode cX1_setWords 172 = .ok (.iconst (-1), 1) := by decide +kernel
theorem dX1_setWords_173 : decode cX1_setWords 173 = .ok (.iastore, 1) := by decide +kernel
theorem dX1_setWords_174 : decode cX1_setWords 174 = .ok (.iinc 1 1, 3) := by decide +kernel
theorem dX1_setWords_177 : decode cX1_setWords 177 = .ok (.goto (-44), 3) := by decide +kernel
theorem dX1_setWords_180 : decode cX1_setWords 180 = .ok (.return_, 1) := by decide +kernel
theorem dX2_init_0 : decode cX2_init 0 = .ok (.aload_n 0, 1) := by decide +kernel
theorem dX2_init_1 : decode cX2_init 1 = .ok (.invokespecial 3, 3) := by decide +kernel
theorem dX2_init_4 : decode cX2_init 4 = .ok (.aload_n 0, 1) := by decide +kernel
theorem dX2_init_5 : decode cX2_init 5 = .ok (.bipush 6, 2) := by decide +kernel
theorem dX2_init_7 : decode cX2_init 7 = .ok (.newarray .int, 2) := by decide +kernel
theorem dX2_init_9 : decode cX2_init 9 = .ok (.putfield 9, 3) := by decide +kernel
theorem dX2_init_12 : decode cX2_init 12 = .ok (.aload_n 0, 1) := by decide +kernel
theorem dX2_init_13 : decode cX2_init 13 = .ok (.iconst 0, 1) := by decide +kernel
theorem dX2_init_14 : decode cX2_init 14 = .ok (.putfield 15, 3) := by decide +kernel
theorem dX2_init_17 : decode cX2_init 17 = .ok (.aload_n 0, 1) := by decide +kernel
theorem dX2_init_18 : decode cX2_init 18 = .ok (.new 19, 3) := by decide +kernel
theorem dX2_init_21 : decode cX2_init 21 = .ok (.dup, 1) := by decide +kernel
theorem dX2_init_22 : decode cX2_init 22 = .ok (.invokespecial 21, 3) := by decide +kernel
theorem dX2_init_25 : decode cX2_init 25 = .ok (.putfield 22, 3) := by decide +kernel
theorem dX2_init_28 : decode cX2_init 28 = .ok (.aload_n 0, 1) := by decide +kernel
theorem dX2_init_29 : decode cX2_init 29 = .ok (.iconst 4, 1) := by decide +kernel
theorem dX2_init_30 : decode cX2_init 30 = .ok (.newarray .int, 2) := by decide +kernel
theorem dX2_init_32 : decode cX2_init 32 = .ok (.putfield 26, 3) := by decide +kernel
theorem dX2_init_35 : decode cX2_init 35 = .ok (.aload_n 0, 1) := by decide +kernel
theorem dX2_init_36 : decode cX2_init 36 = .ok (.sipush 1000, 3) := by decide +kernel
theorem dX2_init_39 : decode cX2_init 39 = .ok (.newarray .boolean, 2) := by decide +kernel
theorem dX2_init_41 : decode cX2_init 41 = .ok (.putfield 29, 3) := by decide +kernel
theorem dX2_init_44 : decode cX2_init 44 = .ok (.aload_n 0, 1) := by decide +kernel
theorem dX2_init_45 : decode cX2_init 45 = .ok (.aload_n 1, 1) := by decide +kernel
theorem dX2_init_46 : decode cX2_init 46 = .ok (.putfield 33, 3) := by decide +kernel
theorem dX2_init_49 : decode cX2_init 49 = .ok (.aload_n 0, 1) := by decide +kernel
theorem dX2_init_50 : decode cX2_init 50 = .ok (.aload_n 2, 1) := by decide +kernel
theorem dX2_init_51 : decode cX2_init 51 = .ok (.putfield 36, 3) := by decide +kernel
theorem dX2_init_54 : decode cX2_init 54 = .ok (.return_, 1) := by decide +kernel
theorem dX2_oddsOf_0 : decode cX2_oddsOf 0 = .ok (.aload_n 0, 1) := by decide +kernel
theorem dX2_oddsOf_1 : decode cX2_oddsOf 1 = .ok (.getfield 22, 3) := by decide +kernel
theorem dX2_oddsOf_4 : decode cX2_oddsOf 4 = .ok (.aload_n 0, 1) := by decide +kernel
theorem dX2_oddsOf_5 : decode cX2_oddsOf 5 = .ok (.getfield 33, 3) := by decide +kernel
theorem dX2_oddsOf_8 : decode cX2_oddsOf 8 = .ok (.invokevirtual 40, 3) := by decide +kernel
theorem dX2_oddsOf_11 : decode cX2_oddsOf 11 = .ok (.aload_n 0, 1) := by decide +kernel
theorem dX2_oddsOf_12 : decode cX2_oddsOf 12 = .ok (.getfield 22, 3) := by decide +kernel
theorem dX2_oddsOf_15 : decode cX2_oddsOf 15 = .ok (.getfield 44, 3) := by decide +kernel
theorem dX2_oddsOf_18 : decode cX2_oddsOf 18 = .ok (.bipush 107, 2) := by decide +kernel
theorem dX2_oddsOf_20 : decode cX2_oddsOf 20 = .ok (.iload_n 1, 1) := by decide +kernel
theorem dX2_oddsOf_21 : decode cX2_oddsOf 21 = .ok (.iadd, 1) := by decide +kernel
theorem dX2_oddsOf_22 : decode cX2_oddsOf 22 = .ok (.iaload, 1) := by decide +kernel
theorem dX2_oddsOf_23 : decode cX2_oddsOf 23 = .ok (.istore_n 3, 1) := by decide +kernel
theorem dX2_oddsOf_24 : decode cX2_oddsOf 24 = .ok (.ldc 47, 2) := by decide +kernel
theorem dX2_oddsOf_26 : decode cX2_oddsOf 26 = .ok (.istore 4, 2) := by decide +kernel
theorem dX2_oddsOf_28 : decode cX2_oddsOf 28 = .ok (.aload_n 0, 1) := by decide +kernel
theorem dX2_oddsOf_29 : decode cX2_oddsOf 29 = .ok (.getfield 26, 3) := by decide +kernel
theorem dX2_oddsOf_32 : decode cX2_oddsOf 32 = .ok (.iconst 1, 1) := by decide +kernel
theorem dX2_oddsOf_33 : decode cX2_oddsOf 33 = .ok (.iconst 0, 1) := by decide +kernel
theorem dX2_oddsOf_34 : decode cX2_oddsOf 34 = .ok (.iastore, 1) := by decide +kernel
theorem dX2_oddsOf_35 : decode cX2_oddsOf 35 = .ok (.aload_n 0, 1) := by decide +kernel
theorem dX2_oddsOf_36 : decode cX2_oddsOf 36 = .ok (.getfield 26, 3) := by decide +kernel
theorem dX2_oddsOf_39 : decode cX2_oddsOf 39 = .ok (.iconst 2, 1) := by decide +kernel
theorem dX2_oddsOf_40 : decode cX2_oddsOf 40 = .ok (.iconst 0, 1) := by decide +kernel
theorem dX2_oddsOf_41 : decode cX2_oddsOf 41 = .ok (.iastore, 1) := by decide +kernel
theorem dX2_oddsOf_42 : decode cX2_oddsOf 42 = .ok (.aload_n 0, 1) := by decide +kernel
theorem dX2_oddsOf_43 : decode cX2_oddsOf 43 = .ok (.getfield 26, 3) := by decide +kernel
theorem dX2_oddsOf_46 : decode cX2_oddsOf 46 = .ok (.iconst 3, 1) := by decide +kernel
theorem dX2_oddsOf_47 : decode cX2_oddsOf 47 = .ok (.iconst 0, 1) := by decide +kernel
theorem dX2_oddsOf_48 : decode cX2_oddsOf 48 = .ok (.iastore, 1) := by decide +kernel
theorem dX2_oddsOf_49 : decode cX2_oddsOf 49 = .ok (.iconst 0, 1) := by decide +kernel
theorem dX2_oddsOf_50 : decode cX2_oddsOf 50 = .ok (.istore 5, 2) := by decide +kernel
theorem dX2_oddsOf_52 : decode cX2_oddsOf 52 = .ok (.iload 5, 2) := by decide +kernel
theorem dX2_oddsOf_54 : decode cX2_oddsOf 54 = .ok (.iconst 2, 1) := by decide +kernel
theorem dX2_oddsOf_55 : decode cX2_oddsOf 55 = .ok (.aload_n 0, 1) := by decide +kernel
theorem dX2_oddsOf_56 : decode cX2_oddsOf 56 = .ok (.getfield 22, 3) := by decide +kernel
theorem dX2_oddsOf_59 : decode cX2_oddsOf 59 = .ok (.getfield 44, 3) := by decide +kernel
theorem dX2_oddsOf_62 : decode cX2_oddsOf 62 = .ok (.bipush 17, 2) := by decide +kernel
theorem dX2_oddsOf_64 : decode cX2_oddsOf 64 = .ok (.iaload, 1) := by decide +kernel
theorem dX2_oddsOf_65 : decode cX2_oddsOf 65 = .ok (.imul, 1) := by decide +kernel
theorem dX2_oddsOf_66 : decode cX2_oddsOf 66 = .ok (.if_icmp .ge 123, 3) := by decide +kernel
theorem dX2_oddsOf_69 : decode cX2_oddsOf 69 = .ok (.iload 4, 2) := by decide +kernel
theorem dX2_oddsOf_71 : decode cX2_oddsOf 71 = .ok (.ifCond .le 118, 3) := by decide +kernel
theorem dX2_oddsOf_74 : decode cX2_oddsOf 74 = .ok (.aload_n 0, 1) := by decide +kernel
theorem dX2_oddsOf_75 : decode cX2_oddsOf 75 = .ok (.getfield 22, 3) := by decide +kernel
theorem dX2_oddsOf_78 : decode cX2_oddsOf 78 = .ok (.invokevirtual 48, 3) := by decide +kernel
theorem dX2_oddsOf_81 : decode cX2_oddsOf 81 = .ok (.ifCond .ne 17, 3) := by decide +kernel
theorem dX2_oddsOf_84 : decode cX2_oddsOf 84 = .ok (.aload_n 0, 1) := by decide +kernel
theorem dX2_oddsOf_85 : decode cX2_oddsOf 85 = .ok (.getfield 26, 3) := by decide +kernel
theorem dX2_oddsOf_88 : decode cX2_oddsOf 88 = .ok (.iconst 3, 1) := by decide +kernel
theorem dX2_oddsOf_89 : decode cX2_oddsOf 89 = .ok (.iload 4, 2) := by decide +kernel
theorem dX2_oddsOf_91 : decode cX2_oddsOf 91 = .ok (.iastore, 1) := by decide +kernel
theorem dX2_oddsOf_92 : decode cX2_oddsOf 92 = .ok (.iconst 0, 1) := by decide +kernel
theorem dX2_oddsOf_93 : decode cX2_oddsOf 93 = .ok (.istore 4, 2) := by decide +kernel
theorem dX2_oddsOf_95 : decode cX2_oddsOf 95 = .ok (.goto 88, 3) := by decide +kernel
theorem dX2_oddsOf_98 : decode cX2_oddsOf 98 = .ok (.aload_n 0, 1) := by decide +kernel
theorem dX2_oddsOf_99 : decode cX2_oddsOf 99 = .ok (.getfield 22, 3) := by decide +kernel
theorem dX2_oddsOf_102 : decode cX2_oddsOf 102 = .ok (.getfield 44, 3) := by decide +kernel
theorem dX2_oddsOf_105 : decode cX2_oddsOf 105 = .ok (.iload 5, 2) := by decide +kernel
theorem dX2_oddsOf_107 : decode cX2_oddsOf 107 = .ok (.iconst 2, 1) := by decide +kernel
theorem dX2_oddsOf_108 : decode cX2_oddsOf 108 = .ok (.irem, 1) := by decide +kernel
theorem dX2_oddsOf_109 : decode cX2_oddsOf 109 = .ok (.ifCond .ne 8, 3) := by decide +kernel
theorem dX2_oddsOf_112 : decode cX2_oddsOf 112 = .ok (.bipush 93, 2) := by decide +kernel
theorem dX2_oddsOf_114 : decode cX2_oddsOf 114 = .ok (.goto 5, 3) := by decide +kernel
theorem dX2_oddsOf_117 : decode cX2_oddsOf 117 = .ok (.bipush 100, 2) := by decide +kernel
theorem dX2_oddsOf_119 : decode cX2_oddsOf 119 = .ok (.iload_n 1, 1) := by decide +kernel
theorem dX2_oddsOf_120 : decode cX2_oddsOf 120 = .ok (.iadd, 1) := by decide +kernel
theorem dX2_oddsOf_121 : decode cX2_oddsOf 121 = .ok (.iaload, 1) := by decide +kernel
theorem dX2_oddsOf_122 : decode cX2_oddsOf 122 = .ok (.istore 6, 2) := by decide +kernel
theorem dX2_oddsOf_124 : decode cX2_oddsOf 124 = .ok (.iload 4, 2) := by decide +kernel
theorem dX2_oddsOf_126 : decode cX2_oddsOf 126 = .ok (.bipush 10, 2) := by decide +kernel
theorem dX2_oddsOf_128 : decode cX2_oddsOf 128 = .ok (.idiv, 1) := by decide +kernel
theorem dX2_oddsOf_129 : decode cX2_oddsOf 129 = .ok (.aload_n 0, 1) := by decide +kernel
theorem dX2_oddsOf_130 : decode cX2_oddsOf 130 = .ok (.getfield 36, 3) := by decide +kernel
theorem dX2_oddsOf_133 : decode cX2_oddsOf 133 = .ok (.aload_n 0, 1) := by decide +kernel
theorem dX2_oddsOf_134 : decode cX2_oddsOf 134 = .ok (.getfield 22, 3) := by decide +kernel
theorem dX2_oddsOf_137 : decode cX2_oddsOf 137 = .ok (.iconst 0, 1) := by decide +kernel
theorem dX2_oddsOf_138 : decode cX2_oddsOf 138 = .ok (.iload 6, 2) := by decide +kernel
theorem dX2_oddsOf_140 : decode cX2_oddsOf 140 = .ok (.iload_n 3, 1) := by decide +kernel
theorem dX2_oddsOf_141 : decode cX2_oddsOf 141 = .ok (.invokevirtual 52, 3) := by decide +kernel
theorem dX2_oddsOf_144 : decode cX2_oddsOf 144 = .ok (.imul, 1) := by decide +kernel
theorem dX2_oddsOf_145 : decode cX2_oddsOf 145 = .ok (.istore 7, 2) := by decide +kernel
theorem dX2_oddsOf_147 : decode cX2_oddsOf 147 = .ok (.aload_n 0, 1) := by decide +kernel
theorem dX2_oddsOf_148 : decode cX2_oddsOf 148 = .ok (.getfield 26, 3) := by decide +kernel
theorem dX2_oddsOf_151 : decode cX2_oddsOf 151 = .ok (.iconst 1, 1) := by decide +kernel
theorem dX2_oddsOf_152 : decode cX2_oddsOf 152 = .ok (.iload 5, 2) := by decide +kernel
theorem dX2_oddsOf_154 : decode cX2_oddsOf 154 = .ok (.iconst 2, 1) := by decide +kernel
theorem dX2_oddsOf_155 : decode cX2_oddsOf 155 = .ok (.irem, 1) := by decide +kernel
theorem dX2_oddsOf_156 : decode cX2_oddsOf 156 = .ok (.iadd, 1) := by decide +kernel
theorem dX2_oddsOf_157 : decode cX2_oddsOf 157 = .ok (.dup2, 1) := by decide +kernel
theorem dX2_oddsOf_158 : decode cX2_oddsOf 158 = .ok (.iaload, 1) := by decide +kernel
theorem dX2_oddsOf_159 : decode cX2_oddsOf 159 = .ok (.iload 7, 2) := by decide +kernel
theorem dX2_oddsOf_161 : decode cX2_oddsOf 161 = .ok (.iadd, 1) := by decide +kernel
theorem dX2_oddsOf_162 : decode cX2_oddsOf 162 = .ok (.iastore, 1) := by decide +kernel
theorem dX2_oddsOf_163 : decode cX2_oddsOf 163 = .ok (.iload 4, 2) := by decide +kernel
theorem dX2_oddsOf_165 : decode cX2_oddsOf 165 = .ok (.iload 7, 2) := by decide +kernel
theorem dX2_oddsOf_167 : decode cX2_oddsOf 167 = .ok (.isub, 1) := by decide +kernel
theorem dX2_oddsOf_168 : decode cX2_oddsOf 168 = .ok (.istore 4, 2) := by decide +kernel
theorem dX2_oddsOf_170 : decode cX2_oddsOf 170 = .ok (.aload_n 0, 1) := by decide +kernel
theorem dX2_oddsOf_171 : decode cX2_oddsOf 171 = .ok (.getfield 36, 3) := by decide +kernel
theorem dX2_oddsOf_174 : decode cX2_oddsOf 174 = .ok (.aload_n 0, 1) := by decide +kernel
theorem dX2_oddsOf_175 : decode cX2_oddsOf 175 = .ok (.getfield 22, 3) := by decide +kernel
theorem dX2_oddsOf_178 : decode cX2_oddsOf 178 = .ok (.iconst (-1), 1) := by decide +kernel
theorem dX2_oddsOf_179 : decode cX2_oddsOf 179 = .ok (.iload_n 3, 1) := by decide +kernel
theorem dX2_oddsOf_180 : decode cX2_oddsOf 180 = .ok (.invokevirtual 58, 3) := by decide +kernel
theorem dX2_oddsOf_183 : decode cX2_oddsOf 183 = .ok (.iinc 5 1, 3) := by decide +kernel
theorem dX2_oddsOf_186 : decode cX2_oddsOf 186 = .ok (.goto (-134), 3) := by decide +kernel
theorem dX2_oddsOf_189 : decode cX2_oddsOf 189 = .ok (.aload_n 0, 1) := by decide +kernel
theorem dX2_oddsOf_190 : decode cX2_oddsOf 190 = .ok (.getfield 26, 3) := by decide +kernel
theorem dX2_oddsOf_193 : decode cX2_oddsOf 193 = .ok (.iconst 0, 1) := by decide +kernel
theorem dX2_oddsOf_194 : decode cX2_oddsOf 194 = .ok (.iload 4, 2) := by decide +kernel
theorem dX2_oddsOf_196 : decode cX2_oddsOf 196 = .ok (.iastore, 1) := by decide +kernel
theorem dX2_oddsOf_197 : decode cX2_oddsOf 197 = .ok (.aload_n 0, 1) := by decide +kernel
theorem dX2_oddsOf_198 : decode cX2_oddsOf 198 = .ok (.getfield 26, 3) := by decide +kernel
theorem dX2_oddsOf_201 : decode cX2_oddsOf 201 = .ok (.iload_n 2, 1) := by decide +kernel
theorem dX2_oddsOf_202 : decode cX2_oddsOf 202 = .ok (.iaload, 1) := by decide +kernel
theorem dX2_oddsOf_203 : decode cX2_oddsOf 203 = .ok (.ireturn, 1) := by decide +kernel
theorem dX2_freeQuarrels_0 : decode cX2_freeQuarrels 0 = .ok (.iconst 0, 1) := by decide +kernel
theorem dX2_freeQuarrels_1 : decode cX2_freeQuarrels 1 = .ok (.istore_n 1, 1) := by decide +kernel
theorem dX2_freeQuarrels_2 : decode cX2_freeQuarrels 2 = .ok (.iconst 1, 1) := by decide +kernel
theorem dX2_freeQuarrels_3 : decode cX2_freeQuarrels 3 = .ok (.istore_n 2, 1) := by decide +kernel
theorem dX2_freeQuarrels_4 : decode cX2_freeQuarrels 4 = .ok (.iload_n 2, 1) := by decide +kernel
theorem dX2_freeQuarrels_5 : decode cX2_freeQuarrels 5 = .ok (.iconst 1, 1) := by decide +kernel
theorem dX2_freeQuarrels_6 : decode cX2_freeQuarrels 6 = .ok (.aload_n 0, 1) := by decide +kernel
theorem dX2_freeQuarrels_7 : decode cX2_freeQuarrels 7 = .ok (.getfield 33, 3) := by decide +kernel
theorem dX2_freeQuarrels_10 : decode cX2_freeQuarrels 10 = .ok (.getfield 44, 3) := by decide +kernel
theorem dX2_freeQuarrels_13 : decode cX2_freeQuarrels 13 = .ok (.bipush 25, 2) := by decide +kernel
theorem dX2_freeQuarrels_15 : decode cX2_freeQuarrels 15 = .ok (.iaload, 1) := by decide +kernel
theorem dX2_freeQuarrels_16 : decode cX2_freeQuarrels 16 = .ok (.ishl, 1) := by decide +kernel
theorem dX2_freeQuarrels_17 : decode cX2_freeQuarrels 17 = .ok (.if_icmp .ge 30, 3) := by decide +kernel
theorem dX2_freeQuarrels_20 : decode cX2_freeQuarrels 20 = .ok (.iload_n 2, 1) := by decide +kernel
theorem dX2_freeQuarrels_21 : decode cX2_freeQuarrels 21 = .ok (.invokestatic 62, 3) := by decide +kernel
theorem dX2_freeQuarrels_24 : decode cX2_freeQuarrels 24 = .ok (.iload_n 1, 1) := by decide +kernel
theorem dX2_freeQuarrels_25 : decode cX2_freeQuarrels 25 = .ok (.invokestatic 62, 3) := by decide +kernel
theorem dX2_freeQuarrels_28 : decode cX2_freeQuarrels 28 = .ok (.if_icmp .le 13, 3) := by decide +kernel
theorem dX2_freeQuarrels_31 : decode cX2_freeQuarrels 31 = .ok (.aload_n 0, 1) := by decide +kernel
theorem dX2_freeQuarrels_32 : decode cX2_freeQuarrels 32 = .ok (.iload_n 2, 1) := by decide +kernel
theorem dX2_freeQuarrels_33 : decode cX2_freeQuarrels 33 = .ok (.invokevirtual 68, 3) := by decide +kernel
theorem dX2_freeQuarrels_36 : decode cX2_freeQuarrels 36 = .ok (.ifCond .eq 5, 3) := by decide +kernel
theorem dX2_freeQuarrels_39 : decode cX2_freeQuarrels 39 = .ok (.iload_n 2, 1) := by decide +kernel
theorem dX2_freeQuarrels_40 : decode cX2_freeQuarrels 40 = .ok (.istore_n 1, 1) := by decide +kernel
theorem dX2_freeQuarrels_41 : decode cX2_freeQuarrels 41 = .ok (.iinc 2 1, 3) := by decide +kernel
theorem dX2_freeQuarrels_44 : decode cX2_freeQuarrels 44 = .ok (.goto (-40), 3) := by decide +kernel
theorem dX2_freeQuarrels_47 : decode cX2_freeQuarrels 47 = .ok (.iload_n 1, 1) := by decide +kernel
theorem dX2_freeQuarrels_48 : decode cX2_freeQuarrels 48 = .ok (.ireturn, 1) := by decide +kernel
theorem dX2_areFree_0 : decode cX2_areFree 0 = .ok (.iconst 0, 1) := by decide +kernel
theorem dX2_areFree_1 : decode cX2_areFree 1 = .ok (.istore_n 2, 1) := by decide +kernel
theorem dX2_areFree_2 : decode cX2_areFree 2 = .ok (.iconst 0, 1) := by decide +kernel
theorem dX2_areFree_3 : decode cX2_areFree 3 = .ok (.istore_n 3, 1) := by decide +kernel
theorem dX2_areFree_4 : decode cX2_areFree 4 = .ok (.iload_n 3, 1) := by decide +kernel
theorem dX2_areFree_5 : decode cX2_areFree 5 = .ok (.aload_n 0, 1) := by decide +kernel
theorem dX2_areFree_6 : decode cX2_areFree 6 = .ok (.getfield 33, 3) := by decide +kernel
theorem dX2_areFree_9 : decode cX2_areFree 9 = .ok (.getfield 44, 3) := by decide +kernel
theorem dX2_areFree_12 : decode cX2_areFree 12 = .ok (.bipush 25, 2) := by decide +kernel
theorem dX2_areFree_14 : decode cX2_areFree 14 = .ok (.iaload, 1) := by decide +kernel
theorem dX2_areFree_15 : decode cX2_areFree 15 = .ok (.if_icmp .ge 62, 3) := by decide +kernel
theorem dX2_areFree_18 : decode cX2_areFree 18 = .ok (.iload_n 1, 1) := by decide +kernel
theorem dX2_areFree_19 : decode cX2_areFree 19 = .ok (.iload_n 3, 1) := by decide +kernel
theorem dX2_areFree_20 : decode cX2_areFree 20 = .ok (.ishr, 1) := by decide +kernel
theorem dX2_areFree_21 : decode cX2_areFree 21 = .ok (.iconst 1, 1) := by decide +kernel
theorem dX2_areFree_22 : decode cX2_areFree 22 = .ok (.iand, 1) := by decide +kernel
theorem dX2_areFree_23 : decode cX2_areFree 23 = .ok (.ifCond .eq 48, 3) := by decide +kernel
theorem dX2_areFree_26 : decode cX2_areFree 26 = .ok (.iconst 1, 1) := by decide +kernel
theorem dX2_areFree_27 : decode cX2_areFree 27 = .ok (.aload_n 0, 1) := by decide +kernel
theorem dX2_areFree_28 : decode cX2_areFree 28 = .ok (.getfield 33, 3) := by decide +kernel
theorem dX2_areFree_31 : decode cX2_areFree 31 = .ok (.getfield 44, 3) := by decide +kernel
theorem dX2_areFree_34 : decode cX2_areFree 34 = .ok (.bipush 93, 2) := by decide +kernel
theorem dX2_areFree_36 : decode cX2_areFree 36 = .ok (.iload_n 3, 1) := by decide +kernel
theorem dX2_areFree_37 : decode cX2_areFree 37 = .ok (.iadd, 1) := by decide +kernel
theorem dX2_areFree_38 : decode cX2_areFree 38 = .ok (.iaload, 1) := by decide +kernel
theorem dX2_areFree_39 : decode cX2_areFree 39 = .ok (.ishl, 1) := by decide +kernel
theorem dX2_areFree_40 : decode cX2_areFree 40 = .ok (.iconst 1, 1) := by decide +kernel
theorem dX2_areFree_41 : decode cX2_areFree 41 = .ok (.aload_n 0, 1) := by decide +kernel
theorem dX2_areFree_42 : decode cX2_areFree 42 = .ok (.getfield 33, 3) := by decide +kernel
theorem dX2_areFree_45 : decode cX2_areFree 45 = .ok (.getfield 44, 3) := by decide +kernel
theorem dX2_areFree_48 : decode cX2_areFree 48 = .ok (.bipush 100, 2) := by decide +kernel
theorem dX2_areFree_50 : decode cX2_areFree 50 = .ok (.iload_n 3, 1) := by decide +kernel
theorem dX2_areFree_51 : decode cX2_areFree 51 = .ok (.iadd, 1) := by decide +kernel
theorem dX2_areFree_52 : decode cX2_areFree 52 = .ok (.iaload, 1) := by decide +kernel
theorem dX2_areFree_53 : decode cX2_areFree 53 = .ok (.ishl, 1) := by decide +kernel
theorem dX2_areFree_54 : decode cX2_areFree 54 = .ok (.ior, 1) := by decide +kernel
theorem dX2_areFree_55 : decode cX2_areFree 55 = .ok (.istore 4, 2) := by decide +kernel
theorem dX2_areFree_57 : decode cX2_areFree 57 = .ok (.iload_n 2, 1) := by decide +kernel
theorem dX2_areFree_58 : decode cX2_areFree 58 = .ok (.iload 4, 2) := by decide +kernel
theorem dX2_areFree_60 : decode cX2_areFree 60 = .ok (.iand, 1) := by decide +kernel
theorem dX2_areFree_61 : decode cX2_areFree 61 = .ok (.ifCond .eq 5, 3) := by decide +kernel
theorem dX2_areFree_64 : decode cX2_areFree 64 = .ok (.iconst 0, 1) := by decide +kernel
theorem dX2_areFree_65 : decode cX2_areFree 65 = .ok (.ireturn, 1) := by decide +kernel
theorem dX2_areFree_66 : decode cX2_areFree 66 = .ok (.iload_n 2, 1) := by decide +kernel
theorem dX2_areFree_67 : decode cX2_areFree 67 = .ok (.iload 4, 2) := by decide +kernel
theorem dX2_areFree_69 : decode cX2_areFree 69 = .ok (.ior, 1) := by decide +kernel
theorem dX2_areFree_70 : decode cX2_areFree 70 = .ok (.istore_n 2, 1) := by decide +kernel
theorem dX2_areFree_71 : decode cX2_areFree 71 = .ok (.iinc 3 1, 3) := by decide +kernel
theorem dX2_areFree_74 : decode cX2_areFree 74 = .ok (.goto (-70), 3) := by decide +kernel
theorem dX2_areFree_77 : decode cX2_areFree 77 = .ok (.iconst 1, 1) := by decide +kernel
theorem dX2_areFree_78 : decode cX2_areFree 78 = .ok (.ireturn, 1) := by decide +kernel
theorem dX2_play_0 : decode cX2_play 0 = .ok (.aload_n 0, 1) := by decide +kernel
theorem dX2_play_1 : decode cX2_play 1 = .ok (.getfield 22, 3) := by decide +kernel
theorem dX2_play_4 : decode cX2_play 4 = .ok (.aload_n 0, 1) := by decide +kernel
theorem dX2_play_5 : decode cX2_play 5 = .ok (.getfield 33, 3) := by decide +kernel
theorem dX2_play_8 : decode cX2_play 8 = .ok (.invokevirtual 40, 3) := by decide +kernel
theorem dX2_play_11 : decode cX2_play 11 = .ok (.aload_n 0, 1) := by decide +kernel
theorem dX2_play_12 : decode cX2_play 12 = .ok (.getfield 33, 3) := by decide +kernel
theorem dX2_play_15 : decode cX2_play 15 = .ok (.getfield 44, 3) := by decide +kernel
theorem dX2_play_18 : decode cX2_play 18 = .ok (.iconst 0, 1) := by decide +kernel
theorem dX2_play_19 : decode cX2_play 19 = .ok (.iaload, 1) := by decide +kernel
theorem dX2_play_20 : decode cX2_play 20 = .ok (.istore_n 1, 1) := by decide +kernel
theorem dX2_play_21 : decode cX2_play 21 = .ok (.aload_n 0, 1) := by decide +kernel
theorem dX2_play_22 : decode cX2_play 22 = .ok (.getfield 33, 3) := by decide +kernel
theorem dX2_play_25 : decode cX2_play 25 = .ok (.getfield 44, 3) := by decide +kernel
theorem dX2_play_28 : decode cX2_play 28 = .ok (.bipush 18, 2) := by decide +kernel
theorem dX2_play_30 : decode cX2_play 30 = .ok (.iaload, 1) := by decide +kernel
theorem dX2_play_31 : decode cX2_play 31 = .ok (.istore_n 2, 1) := by decide +kernel
theorem dX2_play_32 : decode cX2_play 32 = .ok (.iload_n 2, 1) := by decide +kernel
theorem dX2_play_33 : decode cX2_play 33 = .ok (.iload_n 1, 1) := by decide +kernel
theorem dX2_play_34 : decode cX2_play 34 = .ok (.if_icmp .gt 126, 3) := by decide +kernel
theorem dX2_play_37 : decode cX2_play 37 = .ok (.iload_n 2, 1) := by decide +kernel
theorem dX2_play_38 : decode cX2_play 38 = .ok (.sipush 999, 3) := by decide +kernel
theorem dX2_play_41 : decode cX2_play 41 = .ok (.if_icmp .gt 119, 3) := by decide +kernel
theorem dX2_play_44 : decode cX2_play 44 = .ok (.aload_n 0, 1) := by decide +kernel
theorem dX2_play_45 : decode cX2_play 45 = .ok (.getfield 22, 3) := by decide +kernel
theorem dX2_play_48 : decode cX2_play 48 = .ok (.getfield 44, 3) := by decide +kernel
theorem dX2_play_51 : decode cX2_play 51 = .ok (.iconst 0, 1) := by decide +kernel
theorem dX2_play_52 : decode cX2_play 52 = .ok (.iload_n 2, 1) := by decide +kernel
theorem dX2_play_53 : decode cX2_play 53 = .ok (.iastore, 1) := by decide +kernel
theorem dX2_play_54 : decode cX2_play 54 = .ok (.aload_n 0, 1) := by decide +kernel
theorem dX2_play_55 : decode cX2_play 55 = .ok (.iconst 0, 1) := by decide +kernel
theorem dX2_play_56 : decode cX2_play 56 = .ok (.putfield 72, 3) := by decide +kernel
theorem dX2_play_59 : decode cX2_play 59 = .ok (.aload_n 0, 1) := by decide +kernel
theorem dX2_play_60 : decode cX2_play 60 = .ok (.iconst (-1), 1) := by decide +kernel
theorem dX2_play_61 : decode cX2_play 61 = .ok (.putfield 76, 3) := by decide +kernel
theorem dX2_play_64 : decode cX2_play 64 = .ok (.iconst 0, 1) := by decide +kernel
theorem dX2_play_65 : decode cX2_play 65 = .ok (.istore_n 3, 1) := by decide +kernel
theorem dX2_play_66 : decode cX2_play 66 = .ok (.iload_n 3, 1) := by decide +kernel
theorem dX2_play_67 : decode cX2_play 67 = .ok (.aload_n 0, 1) := by decide +kernel
theorem dX2_play_68 : decode cX2_play 68 = .ok (.getfield 33, 3) := by decide +kernel
theorem dX2_play_71 : decode cX2_play 71 = .ok (.getfield 44, 3) := by decide +kernel
theorem dX2_play_74 : decode cX2_play 74 = .ok (.bipush 23, 2) := by decide +kernel
theorem dX2_play_76 : decode cX2_play 76 = .ok (.iaload, 1) := by decide +kernel
theorem dX2_play_77 : decode cX2_play 77 = .ok (.if_icmp .ge 59, 3) := by decide +kernel
theorem dX2_play_80 : decode cX2_play 80 = .ok (.aload_n 0, 1) := by decide +kernel
theorem dX2_play_81 : decode cX2_play 81 = .ok (.getfield 72, 3) := by decide +kernel
theorem dX2_play_84 : decode cX2_play 84 = .ok (.ifCond .eq 8, 3) := by decide +kernel
theorem dX2_play_87 : decode cX2_play 87 = .ok (.iload_n 2, 1) := by decide +kernel
theorem dX2_play_88 : decode cX2_play 88 = .ok (.iload_n 1, 1) := by decide +kernel
theorem dX2_play_89 : decode cX2_play 89 = .ok (.if_icmp .ne 47, 3) := by decide +kernel
theorem dX2_play_92 : decode cX2_play 92 = .ok (.aload_n 0, 1) := by decide +kernel
theorem dX2_play_93 : decode cX2_play 93 = .ok (.iload_n 3, 1) := by decide +kernel
theorem dX2_play_94 : decode cX2_play 94 = .ok (.invokevirtual 79, 3) := by decide +kernel
theorem dX2_play_97 : decode cX2_play 97 = .ok (.ifCond .eq 33, 3) := by decide +kernel
theorem dX2_play_100 : decode cX2_play 100 = .ok (.aload_n 0, 1) := by decide +kernel
theorem dX2_play_101 : decode cX2_play 101 = .ok (.dup, 1) := by decide +kernel
theorem dX2_play_102 : decode cX2_play 102 = .ok (.getfield 72, 3) := by decide +kernel
theorem dX2_play_105 : decode cX2_play 105 = .ok (.iconst 1, 1) := by decide +kernel
theorem dX2_play_106 : decode cX2_play 106 = .ok (.iadd, 1) := by decide +kernel
theorem dX2_play_107 : decode cX2_play 107 = .ok (.putfield 72, 3) := by decide +kernel
theorem dX2_play_110 : decode cX2_play 110 = .ok (.aload_n 0, 1) := by decide +kernel
theorem dX2_play_111 : decode cX2_play 111 = .ok (.aload_n 0, 1) := by decide +kernel
theorem dX2_play_112 : decode cX2_play 112 = .ok (.getfield 76, 3) := by decide +kernel
theorem dX2_play_115 : decode cX2_play 115 = .ok (.iconst (-1), 1) := by decide +kernel
theorem dX2_play_116 : decode cX2_play 116 = .ok (.if_icmp .ne 7, 3) := by decide +kernel
theorem dX2_play_119 : decode cX2_play 119 = .ok (.iload_n 3, 1) := by decide +kernel
theorem dX2_play_120 : decode cX2_play 120 = .ok (.goto 7, 3) := by decide +kernel
theorem dX2_play_123 : decode cX2_play 123 = .ok (.aload_n 0, 1) := by decide +kernel
theorem dX2_play_124 : decode cX2_play 124 = .ok (.getfield 76, 3) := by decide +kernel
theorem dX2_play_127 : decode cX2_play 127 = .ok (.putfield 76, 3) := by decide +kernel
theorem dX2_play_130 : decode cX2_play 130 = .ok (.iinc 3 1, 3) := by decide +kernel
theorem dX2_play_133 : decode cX2_play 133 = .ok (.goto (-67), 3) := by decide +kernel
theorem dX2_play_136 : decode cX2_play 136 = .ok (.aload_n 0, 1) := by decide +kernel
theorem dX2_play_137 : decode cX2_play 137 = .ok (.getfield 29, 3) := by decide +kernel
theorem dX2_play_140 : decode cX2_play 140 = .ok (.iload_n 2, 1) := by decide +kernel
theorem dX2_play_141 : decode cX2_play 141 = .ok (.aload_n 0, 1) := by decide +kernel
theorem dX2_play_142 : decode cX2_play 142 = .ok (.getfield 72, 3) := by decide +kernel
theorem dX2_play_145 : decode cX2_play 145 = .ok (.ifCond .le 7, 3) := by decide +kernel
theorem dX2_play_148 : decode cX2_play 148 = .ok (.iconst 1, 1) := by decide +kernel
theorem dX2_play_149 : decode cX2_play 149 = .ok (.goto 4, 3) := by decide +kernel
theorem dX2_play_152 : decode cX2_play 152 = .ok (.iconst 0, 1) := by decide +kernel
theorem dX2_play_153 : decode cX2_play 153 = .ok (.bastore, 1) := by decide +kernel
theorem dX2_play_154 : decode cX2_play 154 = .ok (.iinc 2 1, 3) := by decide +kernel
theorem dX2_play_157 : decode cX2_play 157 = .ok (.goto (-125), 3) := by decide +kernel
theorem dX2_play_160 : decode cX2_play 160 = .ok (.return_, 1) := by decide +kernel
theorem dX2_winsInto_0 : decode cX2_winsInto 0 = .ok (.aload_n 0, 1) := by decide +kernel
theorem dX2_winsInto_1 : decode cX2_winsInto 1 = .ok (.getfield 22, 3) := by decide +kernel
theorem dX2_winsInto_4 : decode cX2_winsInto 4 = .ok (.getfield 44, 3) := by decide +kernel
theorem dX2_winsInto_7 : decode cX2_winsInto 7 = .ok (.bipush 27, 2) := by decide +kernel
theorem dX2_winsInto_9 : decode cX2_winsInto 9 = .ok (.iload_n 1, 1) := by decide +kernel
theorem dX2_winsInto_10 : decode cX2_winsInto 10 = .ok (.iadd, 1) := by decide +kernel
theorem dX2_winsInto_11 : decode cX2_winsInto 11 = .ok (.iaload, 1) := by decide +kernel
theorem dX2_winsInto_12 : decode cX2_winsInto 12 = .ok (.iconst 2, 1) := by decide +kernel
theorem dX2_winsInto_13 : decode cX2_winsInto 13 = .ok (.if_icmp .ne 5, 3) := by decide +kernel
theorem dX2_winsInto_16 : decode cX2_winsInto 16 = .ok (.iconst 0, 1) := by decide +kernel
theorem dX2_winsInto_17 : decode cX2_winsInto 17 = .ok (.ireturn, 1) := by decide +kernel
theorem dX2_winsInto_18 : decode cX2_winsInto 18 = .ok (.aload_n 0, 1) := by decide +kernel
theorem dX2_winsInto_19 : decode cX2_winsInto 19 = .ok (.getfield 36, 3) := by decide +kernel
theorem dX2_winsInto_22 : decode cX2_winsInto 22 = .ok (.aload_n 0, 1) := by decide +kernel
theorem dX2_winsInto_23 : decode cX2_winsInto 23 = .ok (.getfield 22, 3) := by decide +kernel
theorem dX2_winsInto_26 : decode cX2_winsInto 26 = .ok (.iconst 1, 1) := by decide +kernel
theorem dX2_winsInto_27 : decode cX2_winsInto 27 = .ok (.iconst (-1), 1) := by decide +kernel
theorem dX2_winsInto_28 : decode cX2_winsInto 28 = .ok (.iload_n 1, 1) := by decide +kernel
theorem dX2_winsInto_29 : decode cX2_winsInto 29 = .ok (.invokevirtual 52, 3) := by decide +kernel
theorem dX2_winsInto_32 : decode cX2_winsInto 32 = .ok (.istore_n 2, 1) := by decide +kernel
theorem dX2_winsInto_33 : decode cX2_winsInto 33 = .ok (.aload_n 0, 1) := by decide +kernel
theorem dX2_winsInto_34 : decode cX2_winsInto 34 = .ok (.getfield 22, 3) := by decide +kernel
theorem dX2_winsInto_37 : decode cX2_winsInto 37 = .ok (.getfield 44, 3) := by decide +kernel
theorem dX2_winsInto_40 : decode cX2_winsInto 40 = .ok (.iconst 0, 1) := by decide +kernel
theorem dX2_winsInto_41 : decode cX2_winsInto 41 = .ok (.iaload, 1) := by decide +kernel
theorem dX2_winsInto_42 : decode cX2_winsInto 42 = .ok (.iload_n 2, 1) := by decide +kernel
theorem dX2_winsInto_43 : decode cX2_winsInto 43 = .ok (.isub, 1) := by decide +kernel
