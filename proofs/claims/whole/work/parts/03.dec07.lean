theorem dX12_undo_18 : decode cX12_undo 18 = .ok (.ireturn, 1) := by decide +kernel
theorem dX12_undo_19 : decode cX12_undo 19 = .ok (.aload_n 0, 1) := by decide +kernel
theorem dX12_undo_20 : decode cX12_undo 20 = .ok (.dup, 1) := by decide +kernel
theorem dX12_undo_21 : decode cX12_undo 21 = .ok (.getfield 155, 3) := by decide +kernel
theorem dX12_undo_24 : decode cX12_undo 24 = .ok (.iconst 1, 1) := by decide +kernel
theorem dX12_undo_25 : decode cX12_undo 25 = .ok (.isub, 1) := by decide +kernel
theorem dX12_undo_26 : decode cX12_undo 26 = .ok (.putfield 155, 3) := by decide +kernel
theorem dX12_undo_29 : decode cX12_undo 29 = .ok (.aload_n 0, 1) := by decide +kernel
theorem dX12_undo_30 : decode cX12_undo 30 = .ok (.aload_n 0, 1) := by decide +kernel
theorem dX12_undo_31 : decode cX12_undo 31 = .ok (.getfield 155, 3) := by decide +kernel
theorem dX12_undo_34 : decode cX12_undo 34 = .ok (.invokevirtual 166, 3) := by decide +kernel
theorem dX12_undo_37 : decode cX12_undo 37 = .ok (.aload_n 0, 1) := by decide +kernel
theorem dX12_undo_38 : decode cX12_undo 38 = .ok (.aload_n 0, 1) := by decide +kernel
theorem dX12_undo_39 : decode cX12_undo 39 = .ok (.getfield 26, 3) := by decide +kernel
theorem dX12_undo_42 : decode cX12_undo 42 = .ok (.aload_n 0, 1) := by decide +kernel
theorem dX12_undo_43 : decode cX12_undo 43 = .ok (.getfield 155, 3) := by decide +kernel
theorem dX12_undo_46 : decode cX12_undo 46 = .ok (.iaload, 1) := by decide +kernel
theorem dX12_undo_47 : decode cX12_undo 47 = .ok (.invokevirtual 158, 3) := by decide +kernel
theorem dX12_undo_50 : decode cX12_undo 50 = .ok (.ireturn, 1) := by decide +kernel
theorem dX12_image_0 : decode cX12_image 0 = .ok (.aload_n 0, 1) := by decide +kernel
theorem dX12_image_1 : decode cX12_image 1 = .ok (.iconst 0, 1) := by decide +kernel
theorem dX12_image_2 : decode cX12_image 2 = .ok (.putfield 149, 3) := by decide +kernel
theorem dX12_image_5 : decode cX12_image 5 = .ok (.iload_n 1, 1) := by decide +kernel
theorem dX12_image_6 : decode cX12_image 6 = .ok (.i2l, 1) := by decide +kernel
theorem dX12_image_7 : decode cX12_image 7 = .ok (.lconst 0, 1) := by decide +kernel
theorem dX12_image_8 : decode cX12_image 8 = .ok (.lconst 1, 1) := by decide +kernel
theorem dX12_image_9 : decode cX12_image 9 = .ok (.invokestatic 169, 3) := by decide +kernel
theorem dX12_image_12 : decode cX12_image 12 = .ok (.ifCond .ne 9, 3) := by decide +kernel
theorem dX12_image_15 : decode cX12_image 15 = .ok (.aload_n 0, 1) := by decide +kernel
theorem dX12_image_16 : decode cX12_image 16 = .ok (.iconst (-1), 1) := by decide +kernel
theorem dX12_image_17 : decode cX12_image 17 = .ok (.invokevirtual 158, 3) := by decide +kernel
theorem dX12_image_20 : decode cX12_image 20 = .ok (.ireturn, 1) := by decide +kernel
theorem dX12_image_21 : decode cX12_image 21 = .ok (.iconst 0, 1) := by decide +kernel
theorem dX12_image_22 : decode cX12_image 22 = .ok (.istore_n 2, 1) := by decide +kernel
theorem dX12_image_23 : decode cX12_image 23 = .ok (.iload_n 2, 1) := by decide +kernel
theorem dX12_image_24 : decode cX12_image 24 = .ok (.sipush 5550, 3) := by decide +kernel
theorem dX12_image_27 : decode cX12_image 27 = .ok (.if_icmp .ge 27, 3) := by decide +kernel
theorem dX12_image_30 : decode cX12_image 30 = .ok (.aload_n 0, 1) := by decide +kernel
theorem dX12_image_31 : decode cX12_image 31 = .ok (.getfield 16, 3) := by decide +kernel
theorem dX12_image_34 : decode cX12_image 34 = .ok (.sipush 5550, 3) := by decide +kernel
theorem dX12_image_37 : decode cX12_image 37 = .ok (.iload_n 1, 1) := by decide +kernel
theorem dX12_image_38 : decode cX12_image 38 = .ok (.imul, 1) := by decide +kernel
theorem dX12_image_39 : decode cX12_image 39 = .ok (.iload_n 2, 1) := by decide +kernel
theorem dX12_image_40 : decode cX12_image 40 = .ok (.iadd, 1) := by decide +kernel
theorem dX12_image_41 : decode cX12_image 41 = .ok (.aload_n 0, 1) := by decide +kernel
theorem dX12_image_42 : decode cX12_image 42 = .ok (.getfield 13, 3) := by decide +kernel
theorem dX12_image_45 : decode cX12_image 45 = .ok (.iload_n 2, 1) := by decide +kernel
theorem dX12_image_46 : decode cX12_image 46 = .ok (.iaload, 1) := by decide +kernel
theorem dX12_image_47 : decode cX12_image 47 = .ok (.iastore, 1) := by decide +kernel
theorem dX12_image_48 : decode cX12_image 48 = .ok (.iinc 2 1, 3) := by decide +kernel
theorem dX12_image_51 : decode cX12_image 51 = .ok (.goto (-28), 3) := by decide +kernel
theorem dX12_image_54 : decode cX12_image 54 = .ok (.aload_n 0, 1) := by decide +kernel
theorem dX12_image_55 : decode cX12_image 55 = .ok (.getfield 19, 3) := by decide +kernel
theorem dX12_image_58 : decode cX12_image 58 = .ok (.iload_n 1, 1) := by decide +kernel
theorem dX12_image_59 : decode cX12_image 59 = .ok (.iconst 1, 1) := by decide +kernel
theorem dX12_image_60 : decode cX12_image 60 = .ok (.bastore, 1) := by decide +kernel
theorem dX12_image_61 : decode cX12_image 61 = .ok (.aload_n 0, 1) := by decide +kernel
theorem dX12_image_62 : decode cX12_image 62 = .ok (.iconst 0, 1) := by decide +kernel
theorem dX12_image_63 : decode cX12_image 63 = .ok (.invokevirtual 158, 3) := by decide +kernel
theorem dX12_image_66 : decode cX12_image 66 = .ok (.ireturn, 1) := by decide +kernel
theorem dX12_back_0 : decode cX12_back 0 = .ok (.aload_n 0, 1) := by decide +kernel
theorem dX12_back_1 : decode cX12_back 1 = .ok (.iconst 0, 1) := by decide +kernel
theorem dX12_back_2 : decode cX12_back 2 = .ok (.putfield 149, 3) := by decide +kernel
theorem dX12_back_5 : decode cX12_back 5 = .ok (.iload_n 1, 1) := by decide +kernel
theorem dX12_back_6 : decode cX12_back 6 = .ok (.i2l, 1) := by decide +kernel
theorem dX12_back_7 : decode cX12_back 7 = .ok (.lconst 0, 1) := by decide +kernel
theorem dX12_back_8 : decode cX12_back 8 = .ok (.lconst 1, 1) := by decide +kernel
theorem dX12_back_9 : decode cX12_back 9 = .ok (.invokestatic 169, 3) := by decide +kernel
theorem dX12_back_12 : decode cX12_back 12 = .ok (.ifCond .ne 9, 3) := by decide +kernel
theorem dX12_back_15 : decode cX12_back 15 = .ok (.aload_n 0, 1) := by decide +kernel
theorem dX12_back_16 : decode cX12_back 16 = .ok (.iconst (-1), 1) := by decide +kernel
theorem dX12_back_17 : decode cX12_back 17 = .ok (.invokevirtual 158, 3) := by decide +kernel
theorem dX12_back_20 : decode cX12_back 20 = .ok (.ireturn, 1) := by decide +kernel
theorem dX12_back_21 : decode cX12_back 21 = .ok (.aload_n 0, 1) := by decide +kernel
theorem dX12_back_22 : decode cX12_back 22 = .ok (.getfield 19, 3) := by decide +kernel
theorem dX12_back_25 : decode cX12_back 25 = .ok (.iload_n 1, 1) := by decide +kernel
theorem dX12_back_26 : decode cX12_back 26 = .ok (.baload, 1) := by decide +kernel
theorem dX12_back_27 : decode cX12_back 27 = .ok (.ifCond .ne 10, 3) := by decide +kernel
theorem dX12_back_30 : decode cX12_back 30 = .ok (.aload_n 0, 1) := by decide +kernel
theorem dX12_back_31 : decode cX12_back 31 = .ok (.bipush (-2), 2) := by decide +kernel
theorem dX12_back_33 : decode cX12_back 33 = .ok (.invokevirtual 158, 3) := by decide +kernel
theorem dX12_back_36 : decode cX12_back 36 = .ok (.ireturn, 1) := by decide +kernel
theorem dX12_back_37 : decode cX12_back 37 = .ok (.iconst 0, 1) := by decide +kernel
theorem dX12_back_38 : decode cX12_back 38 = .ok (.istore_n 2, 1) := by decide +kernel
theorem dX12_back_39 : decode cX12_back 39 = .ok (.iload_n 2, 1) := by decide +kernel
theorem dX12_back_40 : decode cX12_back 40 = .ok (.sipush 5550, 3) := by decide +kernel
theorem dX12_back_43 : decode cX12_back 43 = .ok (.if_icmp .ge 27, 3) := by decide +kernel
theorem dX12_back_46 : decode cX12_back 46 = .ok (.aload_n 0, 1) := by decide +kernel
theorem dX12_back_47 : decode cX12_back 47 = .ok (.getfield 13, 3) := by decide +kernel
theorem dX12_back_50 : decode cX12_back 50 = .ok (.iload_n 2, 1) := by decide +kernel
theorem dX12_back_51 : decode cX12_back 51 = .ok (.aload_n 0, 1) := by decide +kernel
theorem dX12_back_52 : decode cX12_back 52 = .ok (.getfield 16, 3) := by decide +kernel
theorem dX12_back_55 : decode cX12_back 55 = .ok (.sipush 5550, 3) := by decide +kernel
theorem dX12_back_58 : decode cX12_back 58 = .ok (.iload_n 1, 1) := by decide +kernel
theorem dX12_back_59 : decode cX12_back 59 = .ok (.imul, 1) := by decide +kernel
theorem dX12_back_60 : decode cX12_back 60 = .ok (.iload_n 2, 1) := by decide +kernel
theorem dX12_back_61 : decode cX12_back 61 = .ok (.iadd, 1) := by decide +kernel
theorem dX12_back_62 : decode cX12_back 62 = .ok (.iaload, 1) := by decide +kernel
theorem dX12_back_63 : decode cX12_back 63 = .ok (.iastore, 1) := by decide +kernel
theorem dX12_back_64 : decode cX12_back 64 = .ok (.iinc 2 1, 3) := by decide +kernel
theorem dX12_back_67 : decode cX12_back 67 = .ok (.goto (-28), 3) := by decide +kernel
theorem dX12_back_70 : decode cX12_back 70 = .ok (.aload_n 0, 1) := by decide +kernel
theorem dX12_back_71 : decode cX12_back 71 = .ok (.iconst 0, 1) := by decide +kernel
theorem dX12_back_72 : decode cX12_back 72 = .ok (.invokevirtual 173, 3) := by decide +kernel
theorem dX12_back_75 : decode cX12_back 75 = .ok (.ireturn, 1) := by decide +kernel
theorem dX12_term_0 : decode cX12_term 0 = .ok (.aload_n 0, 1) := by decide +kernel
theorem dX12_term_1 : decode cX12_term 1 = .ok (.getfield 13, 3) := by decide +kernel
theorem dX12_term_4 : decode cX12_term 4 = .ok (.bipush 6, 2) := by decide +kernel
theorem dX12_term_6 : decode cX12_term 6 = .ok (.iload_n 1, 1) := by decide +kernel
theorem dX12_term_7 : decode cX12_term 7 = .ok (.iadd, 1) := by decide +kernel
theorem dX12_term_8 : decode cX12_term 8 = .ok (.iaload, 1) := by decide +kernel
theorem dX12_term_9 : decode cX12_term 9 = .ok (.ireturn, 1) := by decide +kernel
theorem dX12_bulletOf_0 : decode cX12_bulletOf 0 = .ok (.aload_n 0, 1) := by decide +kernel
theorem dX12_bulletOf_1 : decode cX12_bulletOf 1 = .ok (.getfield 13, 3) := by decide +kernel
theorem dX12_bulletOf_4 : decode cX12_bulletOf 4 = .ok (.bipush 11, 2) := by decide +kernel
theorem dX12_bulletOf_6 : decode cX12_bulletOf 6 = .ok (.iload_n 1, 1) := by decide +kernel
theorem dX12_bulletOf_7 : decode cX12_bulletOf 7 = .ok (.iadd, 1) := by decide +kernel
theorem dX12_bulletOf_8 : decode cX12_bulletOf 8 = .ok (.iaload, 1) := by decide +kernel
theorem dX12_bulletOf_9 : decode cX12_bulletOf 9 = .ok (.ireturn, 1) := by decide +kernel
theorem dX12_ofPlace_0 : decode cX12_ofPlace 0 = .ok (.aload_n 0, 1) := by decide +kernel
theorem dX12_ofPlace_1 : decode cX12_ofPlace 1 = .ok (.getfield 13, 3) := by decide +kernel
theorem dX12_ofPlace_4 : decode cX12_ofPlace 4 = .ok (.bipush 17, 2) := by decide +kernel
theorem dX12_ofPlace_6 : decode cX12_ofPlace 6 = .ok (.iconst 4, 1) := by decide +kernel
theorem dX12_ofPlace_7 : decode cX12_ofPlace 7 = .ok (.iload_n 1, 1) := by decide +kernel
theorem dX12_ofPlace_8 : decode cX12_ofPlace 8 = .ok (.imul, 1) := by decide +kernel
theorem dX12_ofPlace_9 : decode cX12_ofPlace 9 = .ok (.iadd, 1) := by decide +kernel
theorem dX12_ofPlace_10 : decode cX12_ofPlace 10 = .ok (.iload_n 2, 1) := by decide +kernel
theorem dX12_ofPlace_11 : decode cX12_ofPlace 11 = .ok (.iadd, 1) := by decide +kernel
theorem dX12_ofPlace_12 : decode cX12_ofPlace 12 = .ok (.iaload, 1) := by decide +kernel
theorem dX12_ofPlace_13 : decode cX12_ofPlace 13 = .ok (.ireturn, 1) := by decide +kernel
theorem dX12_ofPerson_0 : decode cX12_ofPerson 0 = .ok (.aload_n 0, 1) := by decide +kernel
theorem dX12_ofPerson_1 : decode cX12_ofPerson 1 = .ok (.getfield 13, 3) := by decide +kernel
theorem dX12_ofPerson_4 : decode cX12_ofPerson 4 = .ok (.bipush 65, 2) := by decide +kernel
theorem dX12_ofPerson_6 : decode cX12_ofPerson 6 = .ok (.iconst 3, 1) := by decide +kernel
theorem dX12_ofPerson_7 : decode cX12_ofPerson 7 = .ok (.iload_n 1, 1) := by decide +kernel
theorem dX12_ofPerson_8 : decode cX12_ofPerson 8 = .ok (.imul, 1) := by decide +kernel
theorem dX12_ofPerson_9 : decode cX12_ofPerson 9 = .ok (.iadd, 1) := by decide +kernel
theorem dX12_ofPerson_10 : decode cX12_ofPerson 10 = .ok (.iload_n 2, 1) := by decide +kernel
theorem dX12_ofPerson_11 : decode cX12_ofPerson 11 = .ok (.iadd, 1) := by decide +kernel
theorem dX12_ofPerson_12 : decode cX12_ofPerson 12 = .ok (.iaload, 1) := by decide +kernel
theorem dX12_ofPerson_13 : decode cX12_ofPerson 13 = .ok (.ireturn, 1) := by decide +kernel
theorem dX12_ofQuarrel_0 : decode cX12_ofQuarrel 0 = .ok (.aload_n 0, 1) := by decide +kernel
theorem dX12_ofQuarrel_1 : decode cX12_ofQuarrel 1 = .ok (.getfield 13, 3) := by decide +kernel
theorem dX12_ofQuarrel_4 : decode cX12_ofQuarrel 4 = .ok (.bipush 95, 2) := by decide +kernel
theorem dX12_ofQuarrel_6 : decode cX12_ofQuarrel 6 = .ok (.iconst 4, 1) := by decide +kernel
theorem dX12_ofQuarrel_7 : decode cX12_ofQuarrel 7 = .ok (.iload_n 1, 1) := by decide +kernel
theorem dX12_ofQuarrel_8 : decode cX12_ofQuarrel 8 = .ok (.imul, 1) := by decide +kernel
theorem dX12_ofQuarrel_9 : decode cX12_ofQuarrel 9 = .ok (.iadd, 1) := by decide +kernel
theorem dX12_ofQuarrel_10 : decode cX12_ofQuarrel 10 = .ok (.iload_n 2, 1) := by decide +kernel
theorem dX12_ofQuarrel_11 : decode cX12_ofQuarrel 11 = .ok (.iadd, 1) := by decide +kernel
theorem dX12_ofQuarrel_12 : decode cX12_ofQuarrel 12 = .ok (.iaload, 1) := by decide +kernel
theorem dX12_ofQuarrel_13 : decode cX12_ofQuarrel 13 = .ok (.ireturn, 1) := by decide +kernel
theorem dX12_isPlace_0 : decode cX12_isPlace 0 = .ok (.iload_n 1, 1) := by decide +kernel
theorem dX12_isPlace_1 : decode cX12_isPlace 1 = .ok (.i2l, 1) := by decide +kernel
theorem dX12_isPlace_2 : decode cX12_isPlace 2 = .ok (.lconst 0, 1) := by decide +kernel
theorem dX12_isPlace_3 : decode cX12_isPlace 3 = .ok (.aload_n 0, 1) := by decide +kernel
theorem dX12_isPlace_4 : decode cX12_isPlace 4 = .ok (.getfield 13, 3) := by decide +kernel
theorem dX12_isPlace_7 : decode cX12_isPlace 7 = .ok (.iconst 0, 1) := by decide +kernel
theorem dX12_isPlace_8 : decode cX12_isPlace 8 = .ok (.iaload, 1) := by decide +kernel
theorem dX12_isPlace_9 : decode cX12_isPlace 9 = .ok (.i2l, 1) := by decide +kernel
theorem dX12_isPlace_10 : decode cX12_isPlace 10 = .ok (.lconst 1, 1) := by decide +kernel
theorem dX12_isPlace_11 : decode cX12_isPlace 11 = .ok (.lsub, 1) := by decide +kernel
theorem dX12_isPlace_12 : decode cX12_isPlace 12 = .ok (.invokestatic 169, 3) := by decide +kernel
theorem dX12_isPlace_15 : decode cX12_isPlace 15 = .ok (.ireturn, 1) := by decide +kernel
theorem dX12_isPerson_0 : decode cX12_isPerson 0 = .ok (.iload_n 1, 1) := by decide +kernel
theorem dX12_isPerson_1 : decode cX12_isPerson 1 = .ok (.i2l, 1) := by decide +kernel
theorem dX12_isPerson_2 : decode cX12_isPerson 2 = .ok (.lconst 0, 1) := by decide +kernel
theorem dX12_isPerson_3 : decode cX12_isPerson 3 = .ok (.aload_n 0, 1) := by decide +kernel
theorem dX12_isPerson_4 : decode cX12_isPerson 4 = .ok (.getfield 13, 3) := by decide +kernel
theorem dX12_isPerson_7 : decode cX12_isPerson 7 = .ok (.iconst 1, 1) := by decide +kernel
theorem dX12_isPerson_8 : decode cX12_isPerson 8 = .ok (.iaload, 1) := by decide +kernel
theorem dX12_isPerson_9 : decode cX12_isPerson 9 = .ok (.i2l, 1) := by decide +kernel
theorem dX12_isPerson_10 : decode cX12_isPerson 10 = .ok (.lconst 1, 1) := by decide +kernel
theorem dX12_isPerson_11 : decode cX12_isPerson 11 = .ok (.lsub, 1) := by decide +kernel
theorem dX12_isPerson_12 : decode cX12_isPerson 12 = .ok (.invokestatic 169, 3) := by decide +kernel
theorem dX12_isPerson_15 : decode cX12_isPerson 15 = .ok (.ireturn, 1) := by decide +kernel
theorem dX12_isQuarrel_0 : decode cX12_isQuarrel 0 = .ok (.iload_n 1, 1) := by decide +kernel
theorem dX12_isQuarrel_1 : decode cX12_isQuarrel 1 = .ok (.i2l, 1) := by decide +kernel
theorem dX12_isQuarrel_2 : decode cX12_isQuarrel 2 = .ok (.lconst 0, 1) := by decide +kernel
theorem dX12_isQuarrel_3 : decode cX12_isQuarrel 3 = .ok (.aload_n 0, 1) := by decide +kernel
theorem dX12_isQuarrel_4 : decode cX12_isQuarrel 4 = .ok (.getfield 13, 3) := by decide +kernel
theorem dX12_isQuarrel_7 : decode cX12_isQuarrel 7 = .ok (.iconst 2, 1) := by decide +kernel
theorem dX12_isQuarrel_8 : decode cX12_isQuarrel 8 = .ok (.iaload, 1) := by decide +kernel
theorem dX12_isQuarrel_9 : decode cX12_isQuarrel 9 = .ok (.i2l, 1) := by decide +kernel
theorem dX12_isQuarrel_10 : decode cX12_isQuarrel 10 = .ok (.lconst 1, 1) := by decide +kernel
theorem dX12_isQuarrel_11 : decode cX12_isQuarrel 11 = .ok (.lsub, 1) := by decide +kernel
theorem dX12_isQuarrel_12 : decode cX12_isQuarrel 12 = .ok (.invokestatic 169, 3) := by decide +kernel
theorem dX12_isQuarrel_15 : decode cX12_isQuarrel 15 = .ok (.ireturn, 1) := by decide +kernel
theorem dX12_put_0 : decode cX12_put 0 = .ok (.aload_n 0, 1) := by decide +kernel
theorem dX12_put_1 : decode cX12_put 1 = .ok (.iconst 0, 1) := by decide +kernel
theorem dX12_put_2 : decode cX12_put 2 = .ok (.putfield 149, 3) := by decide +kernel
theorem dX12_put_5 : decode cX12_put 5 = .ok (.iload_n 1, 1) := by decide +kernel
theorem dX12_put_6 : decode cX12_put 6 = .ok (.i2l, 1) := by decide +kernel
theorem dX12_put_7 : decode cX12_put 7 = .ok (.lconst 0, 1) := by decide +kernel
theorem dX12_put_8 : decode cX12_put 8 = .ok (.ldc2_w 176, 3) := by decide +kernel
theorem dX12_put_11 : decode cX12_put 11 = .ok (.invokestatic 169, 3) := by decide +kernel
theorem dX12_put_14 : decode cX12_put 14 = .ok (.ifCond .eq 25, 3) := by decide +kernel
theorem dX12_put_17 : decode cX12_put 17 = .ok (.iload_n 2, 1) := by decide +kernel
theorem dX12_put_18 : decode cX12_put 18 = .ok (.i2l, 1) := by decide +kernel
theorem dX12_put_19 : decode cX12_put 19 = .ok (.lconst 0, 1) := by decide +kernel
theorem dX12_put_20 : decode cX12_put 20 = .ok (.iload_n 1, 1) := by decide +kernel
theorem dX12_put_21 : decode cX12_put 21 = .ok (.ifCond .ne 9, 3) := by decide +kernel
theorem dX12_put_24 : decode cX12_put 24 = .ok (.ldc2_w 178, 3) := by decide +kernel
theorem dX12_put_27 : decode cX12_put 27 = .ok (.goto 6, 3) := by decide +kernel
theorem dX12_put_30 : decode cX12_put 30 = .ok (.ldc2_w 180, 3) := by decide +kernel
theorem dX12_put_33 : decode cX12_put 33 = .ok (.invokestatic 169, 3) := by decide +kernel
theorem dX12_put_36 : decode cX12_put 36 = .ok (.ifCond .ne 9, 3) := by decide +kernel
theorem dX12_put_39 : decode cX12_put 39 = .ok (.aload_n 0, 1) := by decide +kernel
theorem dX12_put_40 : decode cX12_put 40 = .ok (.iconst (-1), 1) := by decide +kernel
theorem dX12_put_41 : decode cX12_put 41 = .ok (.invokevirtual 158, 3) := by decide +kernel
theorem dX12_put_44 : decode cX12_put 44 = .ok (.ireturn, 1) := by decide +kernel
theorem dX12_put_45 : decode cX12_put 45 = .ok (.aload_n 0, 1) := by decide +kernel
theorem dX12_put_46 : decode cX12_put 46 = .ok (.iconst 0, 1) := by decide +kernel
theorem dX12_put_47 : decode cX12_put 47 = .ok (.putfield 155, 3) := by decide +kernel
theorem dX12_put_50 : decode cX12_put 50 = .ok (.aload_n 0, 1) := by decide +kernel
theorem dX12_put_51 : decode cX12_put 51 = .ok (.bipush 11, 2) := by decide +kernel
theorem dX12_put_53 : decode cX12_put 53 = .ok (.iload_n 1, 1) := by decide +kernel
theorem dX12_put_54 : decode cX12_put 54 = .ok (.iadd, 1) := by decide +kernel
theorem dX12_put_55 : decode cX12_put 55 = .ok (.iload_n 2, 1) := by decide +kernel
theorem dX12_put_56 : decode cX12_put 56 = .ok (.invokevirtual 182, 3) := by decide +kernel
theorem dX12_put_59 : decode cX12_put 59 = .ok (.ireturn, 1) := by decide +kernel
theorem dX12_canFire_0 : decode cX12_canFire 0 = .ok (.aload_n 0, 1) := by decide +kernel
theorem dX12_canFire_1 : decode cX12_canFire 1 = .ok (.iconst 3, 1) := by decide +kernel
theorem dX12_canFire_2 : decode cX12_canFire 2 = .ok (.invokevirtual 186, 3) := by decide +kernel
theorem dX12_canFire_5 : decode cX12_canFire 5 = .ok (.ifCond .ne 20, 3) := by decide +kernel
theorem dX12_canFire_8 : decode cX12_canFire 8 = .ok (.aload_n 0, 1) := by decide +kernel
theorem dX12_canFire_9 : decode cX12_canFire 9 = .ok (.iconst 0, 1) := by decide +kernel
theorem dX12_canFire_10 : decode cX12_canFire 10 = .ok (.invokevirtual 186, 3) := by decide +kernel
theorem dX12_canFire_13 : decode cX12_canFire 13 = .ok (.aload_n 0, 1) := by decide +kernel
theorem dX12_canFire_14 : decode cX12_canFire 14 = .ok (.iconst 2, 1) := by decide +kernel
theorem dX12_canFire_15 : decode cX12_canFire 15 = .ok (.invokevirtual 189, 3) := by decide +kernel
theorem dX12_canFire_18 : decode cX12_canFire 18 = .ok (.if_icmp .lt 7, 3) := by decide +kernel
theorem dX12_canFire_21 : decode cX12_canFire 21 = .ok (.iconst 1, 1) := by decide +kernel
theorem dX12_canFire_22 : decode cX12_canFire 22 = .ok (.goto 4, 3) := by decide +kernel
theorem dX12_canFire_25 : decode cX12_canFire 25 = .ok (.iconst 0, 1) := by decide +kernel
theorem dX12_canFire_26 : decode cX12_canFire 26 = .ok (.ireturn, 1) := by decide +kernel
theorem dX12_bullet_0 : decode cX12_bullet 0 = .ok (.aload_n 0, 1) := by decide +kernel
theorem dX12_bullet_1 : decode cX12_bullet 1 = .ok (.iconst 0, 1) := by decide +kernel
theorem dX12_bullet_2 : decode cX12_bullet 2 = .ok (.putfield 149, 3) := by decide +kernel
theorem dX12_bullet_5 : decode cX12_bullet 5 = .ok (.iload_n 1, 1) := by decide +kernel
theorem dX12_bullet_6 : decode cX12_bullet 6 = .ok (.i2l, 1) := by decide +kernel
theorem dX12_bullet_7 : decode cX12_bullet 7 = .ok (.lconst 0, 1) := by decide +kernel
theorem dX12_bullet_8 : decode cX12_bullet 8 = .ok (.ldc2_w 192, 3) := by decide +kernel
theorem dX12_bullet_11 : decode cX12_bullet 11 = .ok (.invokestatic 169, 3) := by decide +kernel
theorem dX12_bullet_14 : decode cX12_bullet 14 = .ok (.ifCond .ne 5, 3) := by decide +kernel
theorem dX12_bullet_17 : decode cX12_bullet 17 = .ok (.iconst (-1), 1) := by decide +kernel
theorem dX12_bullet_18 : decode cX12_bullet 18 = .ok (.ireturn, 1) := by decide +kernel
theorem dX12_bullet_19 : decode cX12_bullet 19 = .ok (.iload_n 1, 1) := by decide +kernel
theorem dX12_bullet_20 : decode cX12_bullet 20 = .ok (.iconst 4, 1) := by decide +kernel
theorem dX12_bullet_21 : decode cX12_bullet 21 = .ok (.if_icmp .ge 9, 3) := by decide +kernel
theorem dX12_bullet_24 : decode cX12_bullet 24 = .ok (.aload_n 0, 1) := by decide +kernel
theorem dX12_bullet_25 : decode cX12_bullet 25 = .ok (.iload_n 1, 1) := by decide +kernel
theorem dX12_bullet_26 : decode cX12_bullet 26 = .ok (.invokevirtual 186, 3) := by decide +kernel
theorem dX12_bullet_29 : decode cX12_bullet 29 = .ok (.ireturn, 1) := by decide +kernel
theorem dX12_bullet_30 : decode cX12_bullet 30 = .ok (.iload_n 1, 1) := by decide +kernel
theorem dX12_bullet_31 : decode cX12_bullet 31 = .ok (.iconst 4, 1) := by decide +kernel
theorem dX12_bullet_32 : decode cX12_bullet 32 = .ok (.if_icmp .ne 18, 3) := by decide +kernel
theorem dX12_bullet_35 : decode cX12_bullet 35 = .ok (.aload_n 0, 1) := by decide +kernel
theorem dX12_bullet_36 : decode cX12_bullet 36 = .ok (.invokevirtual 194, 3) := by decide +kernel
theorem dX12_bullet_39 : decode cX12_bullet 39 = .ok (.ifCond .eq 7, 3) := by decide +kernel
theorem dX12_bullet_42 : decode cX12_bullet 42 = .ok (.iconst 1, 1) := by decide +kernel
theorem dX12_bullet_43 : decode cX12_bullet 43 = .ok (.goto 36, 3) := by decide +kernel
theorem dX12_bullet_46 : decode cX12_bullet 46 = .ok (.iconst 0, 1) := by decide +kernel
theorem dX12_bullet_47 : decode cX12_bullet 47 = .ok (.goto 32, 3) := by decide +kernel
theorem dX12_bullet_50 : decode cX12_bullet 50 = .ok (.aload_n 0, 1) := by decide +kernel
theorem dX12_bullet_51 : decode cX12_bullet 51 = .ok (.getfield 13, 3) := by decide +kernel
theorem dX12_bullet_54 : decode cX12_bullet 54 = .ok (.iconst 3, 1) := by decide +kernel
theorem dX12_bullet_55 : decode cX12_bullet 55 = .ok (.iaload, 1) := by decide +kernel
theorem dX12_bullet_56 : decode cX12_bullet 56 = .ok (.ifCond .ne 7, 3) := by decide +kernel
theorem dX12_bullet_59 : decode cX12_bullet 59 = .ok (.iconst (-1), 1) := by decide +kernel
theorem dX12_bullet_60 : decode cX12_bullet 60 = .ok (.goto 19, 3) := by decide +kernel
theorem dX12_bullet_63 : decode cX12_bullet 63 = .ok (.aload_n 0, 1) := by decide +kernel
theorem dX12_bullet_64 : decode cX12_bullet 64 = .ok (.getfield 13, 3) := by decide +kernel
theorem dX12_bullet_67 : decode cX12_bullet 67 = .ok (.bipush 123, 2) := by decide +kernel
theorem dX12_bullet_69 : decode cX12_bullet 69 = .ok (.aload_n 0, 1) := by decide +kernel
theorem dX12_bullet_70 : decode cX12_bullet 70 = .ok (.getfield 13, 3) := by decide +kernel
theorem dX12_bullet_73 : decode cX12_bullet 73 = .ok (.iconst 3, 1) := by decide +kernel
theorem dX12_bullet_74 : decode cX12_bullet 74 = .ok (.iaload, 1) := by decide +kernel
theorem dX12_bullet_75 : decode cX12_bullet 75 = .ok (.iadd, 1) := by decide +kernel
theorem dX12_bullet_76 : decode cX12_bullet 76 = .ok (.iconst 1, 1) := by decide +kernel
theorem dX12_bullet_77 : decode cX12_bullet 77 = .ok (.isub, 1) := by decide +kernel
theorem dX12_bullet_78 : decode cX12_bullet 78 = .ok (.iaload, 1) := by decide +kernel
theorem dX12_bullet_79 : decode cX12_bullet 79 = .ok (.ireturn, 1) := by decide +kernel
theorem dX12_place1_0 : decode cX12_place1 0 = .ok (.iload_n 1, 1) := by decide +kernel
theorem dX12_place1_1 : decode cX12_place1 1 = .ok (.i2l, 1) := by decide +kernel
theorem dX12_place1_2 : decode cX12_place1 2 = .ok (.lconst 0, 1) := by decide +kernel
theorem dX12_place1_3 : decode cX12_place1 3 = .ok (.ldc2_w 198, 3) := by decide +kernel
theorem dX12_place1_6 : decode cX12_place1 6 = .ok (.invokestatic 169, 3) := by decide +kernel
theorem dX12_place1_9 : decode cX12_place1 9 = .ok (.ifCond .eq 27, 3) := by decide +kernel
theorem dX12_place1_12 : decode cX12_place1 12 = .ok (.iload_n 2, 1) := by decide +kernel
theorem dX12_place1_13 : decode cX12_place1 13 = .ok (.i2l, 1) := by decide +kernel
theorem dX12_place1_14 : decode cX12_place1 14 = .ok (.lconst 0, 1) := by decide +kernel
theorem dX12_place1_15 : decode cX12_place1 15 = .ok (.ldc2_w 180, 3) := by decide +kernel
theorem dX12_place1_18 : decode cX12_place1 18 = .ok (.invokestatic 169, 3) := by decide +kernel
theorem dX12_place1_21 : decode cX12_place1 21 = .ok (.ifCond .eq 15, 3) := by decide +kernel
theorem dX12_place1_24 : decode cX12_place1 24 = .ok (.iload_n 3, 1) := by decide +kernel
theorem dX12_place1_25 : decode cX12_place1 25 = .ok (.i2l, 1) := by decide +kernel
theorem dX12_place1_26 : decode cX12_place1 26 = .ok (.lconst 0, 1) := by decide +kernel
theorem dX12_place1_27 : decode cX12_place1 27 = .ok (.ldc2_w 200, 3) := by decide +kernel
theorem dX12_place1_30 : decode cX12_place1 30 = .ok (.invokestatic 169, 3) := by decide +kernel
theorem dX12_place1_33 : decode cX12_place1 33 = .ok (.ifCond .ne 5, 3) := by decide +kernel
theorem dX12_place1_36 : decode cX12_place1 36 = .ok (.iconst (-1), 1) := by decide +kernel
theorem dX12_place1_37 : decode cX12_place1 37 = .ok (.ireturn, 1) := by decide +kernel
theorem dX12_place1_38 : decode cX12_place1 38 = .ok (.aload_n 0, 1) := by decide +kernel
theorem dX12_place1_39 : decode cX12_place1 39 = .ok (.getfield 13, 3) := by decide +kernel
theorem dX12_place1_42 : decode cX12_place1 42 = .ok (.iconst 0, 1) := by decide +kernel
theorem dX12_place1_43 : decode cX12_place1 43 = .ok (.iaload, 1) := by decide +kernel
theorem dX12_place1_44 : decode cX12_place1 44 = .ok (.istore 4, 2) := by decide +kernel
theorem dX12_place1_46 : decode cX12_place1 46 = .ok (.iload 4, 2) := by decide +kernel
theorem dX12_place1_48 : decode cX12_place1 48 = .ok (.bipush 12, 2) := by decide +kernel
theorem dX12_place1_50 : decode cX12_place1 50 = .ok (.if_icmp .ne 6, 3) := by decide +kernel
theorem dX12_place1_53 : decode cX12_place1 53 = .ok (.bipush (-5), 2) := by decide +kernel
theorem dX12_place1_55 : decode cX12_place1 55 = .ok (.ireturn, 1) := by decide +kernel
theorem dX12_place1_56 : decode cX12_place1 56 = .ok (.bipush 17, 2) := by decide +kernel
theorem dX12_place1_58 : decode cX12_place1 58 = .ok (.iconst 4, 1) := by decide +kernel
theorem dX12_place1_59 : decode cX12_place1 59 = .ok (.iload 4, 2) := by decide +kernel
theorem dX12_place1_61 : decode cX12_place1 61 = .ok (.imul, 1) := by decide +kernel
theorem dX12_place1_62 : decode cX12_place1 62 = .ok (.iadd, 1) := by decide +kernel
theorem dX12_place1_63 : decode cX12_place1 63 = .ok (.istore 5, 2) := by decide +kernel
theorem dX12_place1_65 : decode cX12_place1 65 = .ok (.aload_n 0, 1) := by decide +kernel
theorem dX12_place1_66 : decode cX12_place1 66 = .ok (.getfield 13, 3) := by decide +kernel
theorem dX12_place1_69 : decode cX12_place1 69 = .ok (.iload 5, 2) := by decide +kernel
theorem dX12_place1_71 : decode cX12_place1 71 = .ok (.iload_n 1, 1) := by decide +kernel
theorem dX12_place1_72 : decode cX12_place1 72 = .ok (.iastore, 1) := by decide +kernel
theorem dX12_place1_73 : decode cX12_place1 73 = .ok (.aload_n 0, 1) := by decide +kernel
theorem dX12_place1_74 : decode cX12_place1 74 = .ok (.getfield 13, 3) := by decide +kernel
theorem dX12_place1_77 : decode cX12_place1 77 = .ok (.iload 5, 2) := by decide +kernel
theorem dX12_place1_79 : decode cX12_place1 79 = .ok (.iconst 1, 1) := by decide +kernel
theorem dX12_place1_80 : decode cX12_place1 80 = .ok (.iadd, 1) := by decide +kernel
theorem dX12_place1_81 : decode cX12_place1 81 = .ok (.iload_n 2, 1) := by decide +kernel
theorem dX12_place1_82 : decode cX12_place1 82 = .ok (.iastore, 1) := by decide +kernel
theorem dX12_place1_83 : decode cX12_place1 83 = .ok (.aload_n 0, 1) := by decide +kernel
theorem dX12_place1_84 : decode cX12_place1 84 = .ok (.getfield 13, 3) := by decide +kernel
theorem dX12_place1_87 : decode cX12_place1 87 = .ok (.iload 5, 2) := by decide +kernel
theorem dX12_place1_89 : decode cX12_place1 89 = .ok (.iconst 2, 1) := by decide +kernel
theorem dX12_place1_90 : decode cX12_place1 90 = .ok (.iadd, 1) := by decide +kernel
theorem dX12_place1_91 : decode cX12_place1 91 = .ok (.iload_n 3, 1) := by decide +kernel
theorem dX12_place1_92 : decode cX12_place1 92 = .ok (.iastore, 1) := by decide +kernel
theorem dX12_place1_93 : decode cX12_place1 93 = .ok (.aload_n 0, 1) := by decide +kernel
theorem dX12_place1_94 : decode cX12_place1 94 = .ok (.getfield 13, 3) := by decide +kernel
theorem dX12_place1_97 : decode cX12_place1 97 = .ok (.iload 5, 2) := by decide +kernel
theorem dX12_place1_99 : decode cX12_place1 99 = .ok (.iconst 3, 1) := by decide +kernel
theorem dX12_place1_100 : decode cX12_place1 100 = .ok (.iadd, 1) := by decide +kernel
theorem dX12_place1_101 : decode cX12_place1 101 = .ok (.iconst 0, 1) := by decide +kernel
theorem dX12_place1_102 : decode cX12_place1 102 = .ok (.iastore, 1) := by decide +kernel
theorem dX12_place1_103 : decode cX12_place1 103 = .ok (.aload_n 0, 1) := by decide +kernel
theorem dX12_place1_104 : decode cX12_place1 104 = .ok (.getfield 13, 3) := by decide +kernel
theorem dX12_place1_107 : decode cX12_place1 107 = .ok (.iconst 0, 1) := by decide +kernel
theorem dX12_place1_108 : decode cX12_place1 108 = .ok (.dup2, 1) := by decide +kernel
theorem dX12_place1_109 : decode cX12_place1 109 = .ok (.iaload, 1) := by decide +kernel
theorem dX12_place1_110 : decode cX12_place1 110 = .ok (.iconst 1, 1) := by decide +kernel
theorem dX12_place1_111 : decode cX12_place1 111 = .ok (.iadd, 1) := by decide +kernel
theorem dX12_place1_112 : decode cX12_place1 112 = .ok (.iastore, 1) := by decide +kernel
theorem dX12_place1_113 : decode cX12_place1 113 = .ok (.iload 4, 2) := by decide +kernel
theorem dX12_place1_115 : decode cX12_place1 115 = .ok (.ireturn, 1) := by decide +kernel
theorem dX12_place_0 : decode cX12_place 0 = .ok (.aload_n 0, 1) := by decide +kernel
theorem dX12_place_1 : decode cX12_place 1 = .ok (.iconst 0, 1) := by decide +kernel
theorem dX12_place_2 : decode cX12_place 2 = .ok (.putfield 149, 3) := by decide +kernel
theorem dX12_place_5 : decode cX12_place 5 = .ok (.aload_n 0, 1) := by decide +kernel
theorem dX12_place_6 : decode cX12_place 6 = .ok (.aload_n 0, 1) := by decide +kernel
theorem dX12_place_7 : decode cX12_place 7 = .ok (.iload_n 1, 1) := by decide +kernel
theorem dX12_place_8 : decode cX12_place 8 = .ok (.iload_n 2, 1) := by decide +kernel
theorem dX12_place_9 : decode cX12_place 9 = .ok (.iload_n 3, 1) := by decide +kernel
theorem dX12_place_10 : decode cX12_place 10 = .ok (.invokevirtual 202, 3) := by decide +kernel
theorem dX12_place_13 : decode cX12_place 13 = .ok (.invokevirtual 173, 3) := by decide +kernel
theorem dX12_place_16 : decode cX12_place 16 = .ok (.ireturn, 1) := by decide +kernel
theorem dX12_at_0 : decode cX12_at 0 = .ok (.aload_n 0, 1) := by decide +kernel
theorem dX12_at_1 : decode cX12_at 1 = .ok (.iconst 0, 1) := by decide +kernel
theorem dX12_at_2 : decode cX12_at 2 = .ok (.putfield 149, 3) := by decide +kernel
theorem dX12_at_5 : decode cX12_at 5 = .ok (.aload_n 0, 1) := by decide +kernel
theorem dX12_at_6 : decode cX12_at 6 = .ok (.iload_n 1, 1) := by decide +kernel
theorem dX12_at_7 : decode cX12_at 7 = .ok (.invokevirtual 206, 3) := by decide +kernel
theorem dX12_at_10 : decode cX12_at 10 = .ok (.ifCond .eq 15, 3) := by decide +kernel
theorem dX12_at_13 : decode cX12_at 13 = .ok (.iload_n 2, 1) := by decide +kernel
theorem dX12_at_14 : decode cX12_at 14 = .ok (.i2l, 1) := by decide +kernel
theorem dX12_at_15 : decode cX12_at 15 = .ok (.lconst 0, 1) := by decide +kernel
theorem dX12_at_16 : decode cX12_at 16 = .ok (.ldc2_w 210, 3) := by decide +kernel
theorem dX12_at_19 : decode cX12_at 19 = .ok (.invokestatic 169, 3) := by decide +kernel
theorem dX12_at_22 : decode cX12_at 22 = .ok (.ifCond .ne 5, 3) := by decide +kernel
theorem dX12_at_25 : decode cX12_at 25 = .ok (.iconst (-1), 1) := by decide +kernel
theorem dX12_at_26 : decode cX12_at 26 = .ok (.ireturn, 1) := by decide +kernel
theorem dX12_at_27 : decode cX12_at 27 = .ok (.iload_n 2, 1) := by decide +kernel
theorem dX12_at_28 : decode cX12_at 28 = .ok (.tableswitch 51 4 6 #[28, 39, 45], 28) := by decide +kernel
theorem dX12_at_56 : decode cX12_at 56 = .ok (.aload_n 0, 1) := by decide +kernel
theorem dX12_at_57 : decode cX12_at 57 = .ok (.iload_n 1, 1) := by decide +kernel
theorem dX12_at_58 : decode cX12_at 58 = .ok (.aload_n 0, 1) := by decide +kernel
theorem dX12_at_59 : decode cX12_at 59 = .ok (.iconst 0, 1) := by decide +kernel
theorem dX12_at_60 : decode cX12_at 60 = .ok (.invokevirtual 186, 3) := by decide +kernel
theorem dX12_at_63 : decode cX12_at 63 = .ok (.invokevirtual 212, 3) := by decide +kernel
theorem dX12_at_66 : decode cX12_at 66 = .ok (.ireturn, 1) := by decide +kernel
theorem dX12_at_67 : decode cX12_at 67 = .ok (.aload_n 0, 1) := by decide +kernel
theorem dX12_at_68 : decode cX12_at 68 = .ok (.iload_n 1, 1) := by decide +kernel
theorem dX12_at_69 : decode cX12_at 69 = .ok (.invokevirtual 215, 3) := by decide +kernel
theorem dX12_at_72 : decode cX12_at 72 = .ok (.ireturn, 1) := by decide +kernel
theorem dX12_at_73 : decode cX12_at 73 = .ok (.aload_n 0, 1) := by decide +kernel
theorem dX12_at_74 : decode cX12_at 74 = .ok (.iload_n 1, 1) := by decide +kernel
theorem dX12_at_75 : decode cX12_at 75 = .ok (.invokevirtual 218, 3) := by decide +kernel
theorem dX12_at_78 : decode cX12_at 78 = .ok (.ireturn, 1) := by decide +kernel
theorem dX12_at_79 : decode cX12_at 79 = .ok (.aload_n 0, 1) := by decide +kernel
theorem dX12_at_80 : decode cX12_at 80 = .ok (.iload_n 1, 1) := by decide +kernel
theorem dX12_at_81 : decode cX12_at 81 = .ok (.iload_n 2, 1) := by decide +kernel
theorem dX12_at_82 : decode cX12_at 82 = .ok (.invokevirtual 221, 3) := by decide +kernel
theorem dX12_at_85 : decode cX12_at 85 = .ok (.ireturn, 1) := by decide +kernel
theorem dX12_person_0 : decode cX12_person 0 = .ok (.aload_n 0, 1) := by decide +kernel
theorem dX12_person_1 : decode cX12_person 1 = .ok (.iconst 0, 1) := by decide +kernel
theorem dX12_person_2 : decode cX12_person 2 = .ok (.putfield 149, 3) := by decide +kernel
theorem dX12_person_5 : decode cX12_person 5 = .ok (.iload_n 1, 1) := by decide +kernel
theorem dX12_person_6 : decode cX12_person 6 = .ok (.i2l, 1) := by decide +kernel
theorem dX12_person_7 : decode cX12_person 7 = .ok (.lconst 0, 1) := by decide +kernel
theorem dX12_person_8 : decode cX12_person 8 = .ok (.ldc2_w 224, 3) := by decide +kernel
theorem dX12_person_11 : decode cX12_person 11 = .ok (.invokestatic 169, 3) := by decide +kernel
theorem dX12_person_14 : decode cX12_person 14 = .ok (.ifCond .eq 13, 3) := by decide +kernel
theorem dX12_person_17 : decode cX12_person 17 = .ok (.iload_n 2, 1) := by decide +kernel
theorem dX12_person_18 : decode cX12_person 18 = .ok (.i2l, 1) := by decide +kernel
theorem dX12_person_19 : decode cX12_person 19 = .ok (.lconst 0, 1) := by decide +kernel
theorem dX12_person_20 : decode cX12_person 20 = .ok (.lconst 1, 1) := by decide +kernel
theorem dX12_person_21 : decode cX12_person 21 = .ok (.invokestatic 169, 3) := by decide +kernel
theorem dX12_person_24 : decode cX12_person 24 = .ok (.ifCond .ne 9, 3) := by decide +kernel
theorem dX12_person_27 : decode cX12_person 27 = .ok (.aload_n 0, 1) := by decide +kernel
theorem dX12_person_28 : decode cX12_person 28 = .ok (.iconst (-1), 1) := by decide +kernel
theorem dX12_person_29 : decode cX12_person 29 = .ok (.invokevirtual 158, 3) := by decide +kernel
theorem dX12_person_32 : decode cX12_person 32 = .ok (.ireturn, 1) := by decide +kernel
theorem dX12_person_33 : decode cX12_person 33 = .ok (.aload_n 0, 1) := by decide +kernel
theorem dX12_person_34 : decode cX12_person 34 = .ok (.getfield 13, 3) := by decide +kernel
theorem dX12_person_37 : decode cX12_person 37 = .ok (.iconst 1, 1) := by decide +kernel
theorem dX12_person_38 : decode cX12_person 38 = .ok (.iaload, 1) := by decide +kernel
theorem dX12_person_39 : decode cX12_person 39 = .ok (.istore_n 3, 1) := by decide +kernel
theorem dX12_person_40 : decode cX12_person 40 = .ok (.iload_n 3, 1) := by decide +kernel
theorem dX12_person_41 : decode cX12_person 41 = .ok (.bipush 10, 2) := by decide +kernel
theorem dX12_person_43 : decode cX12_person 43 = .ok (.if_icmp .ne 10, 3) := by decide +kernel
theorem dX12_person_46 : decode cX12_person 46 = .ok (.aload_n 0, 1) := by decide +kernel
theorem dX12_person_47 : decode cX12_person 47 = .ok (.bipush (-5), 2) := by decide +kernel
theorem dX12_person_49 : decode cX12_person 49 = .ok (.invokevirtual 158, 3) := by decide +kernel
theorem dX12_person_52 : decode cX12_person 52 = .ok (.ireturn, 1) := by decide +kernel
theorem dX12_person_53 : decode cX12_person 53 = .ok (.aload_n 0, 1) := by decide +kernel
theorem dX12_person_54 : decode cX12_person 54 = .ok (.getfield 13, 3) := by decide +kernel
theorem dX12_person_57 : decode cX12_person 57 = .ok (.bipush 65, 2) := by decide +kernel
theorem dX12_person_59 : decode cX12_person 59 = .ok (.iconst 3, 1) := by decide +kernel
theorem dX12_person_60 : decode cX12_person 60 = .ok (.iload_n 3, 1) := by decide +kernel
theorem dX12_person_61 : decode cX12_person 61 = .ok (.imul, 1) := by decide +kernel
theorem dX12_person_62 : decode cX12_person 62 = .ok (.iadd, 1) := by decide +kernel
theorem dX12_person_63 : decode cX12_person 63 = .ok (.iload_n 1, 1) := by decide +kernel
theorem dX12_person_64 : decode cX12_person 64 = .ok (.iastore, 1) := by decide +kernel
theorem dX12_person_65 : decode cX12_person 65 = .ok (.aload_n 0, 1) := by decide +kernel
theorem dX12_person_66 : decode cX12_person 66 = .ok (.getfield 13, 3) := by decide +kernel
theorem dX12_person_69 : decode cX12_person 69 = .ok (.bipush 65, 2) := by decide +kernel
theorem dX12_person_71 : decode cX12_person 71 = .ok (.iconst 3, 1) := by decide +kernel
theorem dX12_person_72 : decode cX12_person 72 = .ok (.iload_n 3, 1) := by decide +kernel
theorem dX12_person_73 : decode cX12_person 73 = .ok (.imul, 1) := by decide +kernel
theorem dX12_person_74 : decode cX12_person 74 = .ok (.iadd, 1) := by decide +kernel
theorem dX12_person_75 : decode cX12_person 75 = .ok (.iconst 1, 1) := by decide +kernel
theorem dX12_person_76 : decode cX12_person 76 = .ok (.iadd, 1) := by decide +kernel
theorem dX12_person_77 : decode cX12_person 77 = .ok (.iload_n 2, 1) := by decide +kernel
theorem dX12_person_78 : decode cX12_person 78 = .ok (.iastore, 1) := by decide +kernel
theorem dX12_person_79 : decode cX12_person 79 = .ok (.aload_n 0, 1) := by decide +kernel
theorem dX12_person_80 : decode cX12_person 80 = .ok (.getfield 13, 3) := by decide +kernel
theorem dX12_person_83 : decode cX12_person 83 = .ok (.bipush 65, 2) := by decide +kernel
theorem dX12_person_85 : decode cX12_person 85 = .ok (.iconst 3, 1) := by decide +kernel
theorem dX12_person_86 : decode cX12_person 86 = .ok (.iload_n 3, 1) := by decide +kernel
theorem dX12_person_87 : decode cX12_person 87 = .ok (.imul, 1) := by decide +kernel
theorem dX12_person_88 : decode cX12_person 88 = .ok (.iadd, 1) := by decide +kernel
theorem dX12_person_89 : decode cX12_person 89 = .ok (.iconst 2, 1) := by decide +kernel
theorem dX12_person_90 : decode cX12_person 90 = .ok (.iadd, 1) := by decide +kernel
theorem dX12_person_91 : decode cX12_person 91 = .ok (.iconst 0, 1) := by decide +kernel
theorem dX12_person_92 : decode cX12_person 92 = .ok (.iastore, 1) := by decide +kernel
theorem dX12_person_93 : decode cX12_person 93 = .ok (.aload_n 0, 1) := by decide +kernel
theorem dX12_person_94 : decode cX12_person 94 = .ok (.getfield 13, 3) := by decide +kernel
theorem dX12_person_97 : decode cX12_person 97 = .ok (.iconst 1, 1) := by decide +kernel
theorem dX12_person_98 : decode cX12_person 98 = .ok (.dup2, 1) := by decide +kernel
theorem dX12_person_99 : decode cX12_person 99 = .ok (.iaload, 1) := by decide +kernel
theorem dX12_person_100 : decode cX12_person 100 = .ok (.iconst 1, 1) := by decide +kernel
theorem dX12_person_101 : decode cX12_person 101 = .ok (.iadd, 1) := by decide +kernel
theorem dX12_person_102 : decode cX12_person 102 = .ok (.iastore, 1) := by decide +kernel
theorem dX12_person_103 : decode cX12_person 103 = .ok (.aload_n 0, 1) := by decide +kernel
theorem dX12_person_104 : decode cX12_person 104 = .ok (.iload_n 3, 1) := by decide +kernel
theorem dX12_person_105 : decode cX12_person 105 = .ok (.invokevirtual 173, 3) := by decide +kernel
theorem dX12_person_108 : decode cX12_person 108 = .ok (.ireturn, 1) := by decide +kernel
theorem dX12_isHurt_0 : decode cX12_isHurt 0 = .ok (.aload_n 0, 1) := by decide +kernel
theorem dX12_isHurt_1 : decode cX12_isHurt 1 = .ok (.iconst 0, 1) := by decide +kernel
theorem dX12_isHurt_2 : decode cX12_isHurt 2 = .ok (.invokevirtual 189, 3) := by decide +kernel
theorem dX12_isHurt_5 : decode cX12_isHurt 5 = .ok (.aload_n 0, 1) := by decide +kernel
theorem dX12_isHurt_6 : decode cX12_isHurt 6 = .ok (.iload_n 1, 1) := by decide +kernel
theorem dX12_isHurt_7 : decode cX12_isHurt 7 = .ok (.iconst 2, 1) := by decide +kernel
theorem dX12_isHurt_8 : decode cX12_isHurt 8 = .ok (.invokevirtual 226, 3) := by decide +kernel
theorem dX12_isHurt_11 : decode cX12_isHurt 11 = .ok (.if_icmp .ge 7, 3) := by decide +kernel
theorem dX12_isHurt_14 : decode cX12_isHurt 14 = .ok (.iconst 1, 1) := by decide +kernel
theorem dX12_isHurt_15 : decode cX12_isHurt 15 = .ok (.goto 4, 3) := by decide +kernel
theorem dX12_isHurt_18 : decode cX12_isHurt 18 = .ok (.iconst 0, 1) := by decide +kernel
theorem dX12_isHurt_19 : decode cX12_isHurt 19 = .ok (.ireturn, 1) := by decide +kernel
theorem dX12_of_0 : decode cX12_of 0 = .ok (.aload_n 0, 1) := by decide +kernel
theorem dX12_of_1 : decode cX12_of 1 = .ok (.iconst 0, 1) := by decide +kernel
theorem dX12_of_2 : decode cX12_of 2 = .ok (.putfield 149, 3) := by decide +kernel
theorem dX12_of_5 : decode cX12_of 5 = .ok (.aload_n 0, 1) := by decide +kernel
theorem dX12_of_6 : decode cX12_of 6 = .ok (.iload_n 1, 1) := by decide +kernel
theorem dX12_of_7 : decode cX12_of 7 = .ok (.invokevirtual 229, 3) := by decide +kernel
theorem dX12_of_10 : decode cX12_of 10 = .ok (.ifCond .eq 22, 3) := by decide +kernel
theorem dX12_of_13 : decode cX12_of 13 = .ok (.iload_n 2, 1) := by decide +kernel
theorem dX12_of_14 : decode cX12_of 14 = .ok (.ifCond .lt 18, 3) := by decide +kernel
theorem dX12_of_17 : decode cX12_of 17 = .ok (.iload_n 2, 1) := by decide +kernel
theorem dX12_of_18 : decode cX12_of 18 = .ok (.iconst 3, 1) := by decide +kernel
theorem dX12_of_19 : decode cX12_of 19 = .ok (.if_icmp .le 15, 3) := by decide +kernel
theorem dX12_of_22 : decode cX12_of 22 = .ok (.aload_n 0, 1) := by decide +kernel
theorem dX12_of_23 : decode cX12_of 23 = .ok (.iload_n 2, 1) := by decide +kernel
theorem dX12_of_24 : decode cX12_of 24 = .ok (.iconst 4, 1) := by decide +kernel
theorem dX12_of_25 : decode cX12_of 25 = .ok (.isub, 1) := by decide +kernel
theorem dX12_of_26 : decode cX12_of 26 = .ok (.invokevirtual 206, 3) := by decide +kernel
theorem dX12_of_29 : decode cX12_of 29 = .ok (.ifCond .ne 5, 3) := by decide +kernel
theorem dX12_of_32 : decode cX12_of 32 = .ok (.iconst (-1), 1) := by decide +kernel
theorem dX12_of_33 : decode cX12_of 33 = .ok (.ireturn, 1) := by decide +kernel
theorem dX12_of_34 : decode cX12_of 34 = .ok (.iload_n 2, 1) := by decide +kernel
theorem dX12_of_35 : decode cX12_of 35 = .ok (.iconst 3, 1) := by decide +kernel
theorem dX12_of_36 : decode cX12_of 36 = .ok (.if_icmp .ge 12, 3) := by decide +kernel
theorem dX12_of_39 : decode cX12_of 39 = .ok (.aload_n 0, 1) := by decide +kernel
theorem dX12_of_40 : decode cX12_of 40 = .ok (.iload_n 1, 1) := by decide +kernel
theorem dX12_of_41 : decode cX12_of 41 = .ok (.iload_n 2, 1) := by decide +kernel
theorem dX12_of_42 : decode cX12_of 42 = .ok (.invokevirtual 226, 3) := by decide +kernel
theorem dX12_of_45 : decode cX12_of 45 = .ok (.goto 32, 3) := by decide +kernel
theorem dX12_of_48 : decode cX12_of 48 = .ok (.iload_n 2, 1) := by decide +kernel
theorem dX12_of_49 : decode cX12_of 49 = .ok (.iconst 3, 1) := by decide +kernel
theorem dX12_of_50 : decode cX12_of 50 = .ok (.if_icmp .ne 19, 3) := by decide +kernel
theorem dX12_of_53 : decode cX12_of 53 = .ok (.aload_n 0, 1) := by decide +kernel
theorem dX12_of_54 : decode cX12_of 54 = .ok (.iload_n 1, 1) := by decide +kernel
theorem dX12_of_55 : decode cX12_of 55 = .ok (.invokevirtual 232, 3) := by decide +kernel
theorem dX12_of_58 : decode cX12_of 58 = .ok (.ifCond .eq 7, 3) := by decide +kernel
theorem dX12_of_61 : decode cX12_of 61 = .ok (.iconst 1, 1) := by decide +kernel
theorem dX12_of_62 : decode cX12_of 62 = .ok (.goto 15, 3) := by decide +kernel
theorem dX12_of_65 : decode cX12_of 65 = .ok (.iconst 0, 1) := by decide +kernel
theorem dX12_of_66 : decode cX12_of 66 = .ok (.goto 11, 3) := by decide +kernel
theorem dX12_of_69 : decode cX12_of 69 = .ok (.aload_n 0, 1) := by decide +kernel
theorem dX12_of_70 : decode cX12_of 70 = .ok (.iload_n 1, 1) := by decide +kernel
theorem dX12_of_71 : decode cX12_of 71 = .ok (.iload_n 2, 1) := by decide +kernel
theorem dX12_of_72 : decode cX12_of 72 = .ok (.iconst 4, 1) := by decide +kernel
theorem dX12_of_73 : decode cX12_of 73 = .ok (.isub, 1) := by decide +kernel
theorem dX12_of_74 : decode cX12_of 74 = .ok (.invokevirtual 235, 3) := by decide +kernel
theorem dX12_of_77 : decode cX12_of 77 = .ok (.ireturn, 1) := by decide +kernel
theorem dX12_quarrel_0 : decode cX12_quarrel 0 = .ok (.aload_n 0, 1) := by decide +kernel
theorem dX12_quarrel_1 : decode cX12_quarrel 1 = .ok (.iconst 0, 1) := by decide +kernel
theorem dX12_quarrel_2 : decode cX12_quarrel 2 = .ok (.putfield 149, 3) := by decide +kernel
theorem dX12_quarrel_5 : decode cX12_quarrel 5 = .ok (.iload_n 1, 1) := by decide +kernel
theorem dX12_quarrel_6 : decode cX12_quarrel 6 = .ok (.iload_n 2, 1) := by decide +kernel
theorem dX12_quarrel_7 : decode cX12_quarrel 7 = .ok (.if_icmp .eq 16, 3) := by decide +kernel
theorem dX12_quarrel_10 : decode cX12_quarrel 10 = .ok (.iload 4, 2) := by decide +kernel
theorem dX12_quarrel_12 : decode cX12_quarrel 12 = .ok (.i2l, 1) := by decide +kernel
theorem dX12_quarrel_13 : decode cX12_quarrel 13 = .ok (.lconst 0, 1) := by decide +kernel
theorem dX12_quarrel_14 : decode cX12_quarrel 14 = .ok (.ldc2_w 178, 3) := by decide +kernel
theorem dX12_quarrel_17 : decode cX12_quarrel 17 = .ok (.invokestatic 169, 3) := by decide +kernel
theorem dX12_quarrel_20 : decode cX12_quarrel 20 = .ok (.ifCond .ne 9, 3) := by decide +kernel
theorem dX12_quarrel_23 : decode cX12_quarrel 23 = .ok (.aload_n 0, 1) := by decide +kernel
theorem dX12_quarrel_24 : decode cX12_quarrel 24 = .ok (.iconst (-1), 1) := by decide +kernel
theorem dX12_quarrel_25 : decode cX12_quarrel 25 = .ok (.invokevirtual 158, 3) := by decide +kernel
theorem dX12_quarrel_28 : decode cX12_quarrel 28 = .ok (.ireturn, 1) := by decide +kernel
theorem dX12_quarrel_29 : decode cX12_quarrel 29 = .ok (.aload_n 0, 1) := by decide +kernel
theorem dX12_quarrel_30 : decode cX12_quarrel 30 = .ok (.iload_n 1, 1) := by decide +kernel
theorem dX12_quarrel_31 : decode cX12_quarrel 31 = .ok (.invokevirtual 229, 3) := by decide +kernel
theorem dX12_quarrel_34 : decode cX12_quarrel 34 = .ok (.ifCond .eq 19, 3) := by decide +kernel
theorem dX12_quarrel_37 : decode cX12_quarrel 37 = .ok (.aload_n 0, 1) := by decide +kernel
theorem dX12_quarrel_38 : decode cX12_quarrel 38 = .ok (.iload_n 2, 1) := by decide +kernel
theorem dX12_quarrel_39 : decode cX12_quarrel 39 = .ok (.invokevirtual 229, 3) := by decide +kernel
theorem dX12_quarrel_42 : decode cX12_quarrel 42 = .ok (.ifCond .eq 11, 3) := by decide +kernel
theorem dX12_quarrel_45 : decode cX12_quarrel 45 = .ok (.aload_n 0, 1) := by decide +kernel
theorem dX12_quarrel_46 : decode cX12_quarrel 46 = .ok (.iload_n 3, 1) := by decide +kernel
theorem dX12_quarrel_47 : decode cX12_quarrel 47 = .ok (.invokevirtual 206, 3) := by decide +kernel
theorem dX12_quarrel_50 : decode cX12_quarrel 50 = .ok (.ifCond .ne 10, 3) := by decide +kernel
theorem dX12_quarrel_53 : decode cX12_quarrel 53 = .ok (.aload_n 0, 1) := by decide +kernel
theorem dX12_quarrel_54 : decode cX12_quarrel 54 = .ok (.bipush (-2), 2) := by decide +kernel
theorem dX12_quarrel_56 : decode cX12_quarrel 56 = .ok (.invokevirtual 158, 3) := by decide +kernel
theorem dX12_quarrel_59 : decode cX12_quarrel 59 = .ok (.ireturn, 1) := by decide +kernel
theorem dX12_quarrel_60 : decode cX12_quarrel 60 = .ok (.aload_n 0, 1) := by decide +kernel
theorem dX12_quarrel_61 : decode cX12_quarrel 61 = .ok (.getfield 13, 3) := by decide +kernel
theorem dX12_quarrel_64 : decode cX12_quarrel 64 = .ok (.iconst 2, 1) := by decide +kernel
theorem dX12_quarrel_65 : decode cX12_quarrel 65 = .ok (.iaload, 1) := by decide +kernel
theorem dX12_quarrel_66 : decode cX12_quarrel 66 = .ok (.istore 5, 2) := by decide +kernel
theorem dX12_quarrel_68 : decode cX12_quarrel 68 = .ok (.iload 5, 2) := by decide +kernel
theorem dX12_quarrel_70 : decode cX12_quarrel 70 = .ok (.bipush 7, 2) := by decide +kernel
theorem dX12_quarrel_72 : decode cX12_quarrel 72 = .ok (.if_icmp .ne 10, 3) := by decide +kernel
theorem dX12_quarrel_75 : decode cX12_quarrel 75 = .ok (.aload_n 0, 1) := by decide +kernel
theorem dX12_quarrel_76 : decode cX12_quarrel 76 = .ok (.bipush (-5), 2) := by decide +kernel
theorem dX12_quarrel_78 : decode cX12_quarrel 78 = .ok (.invokevirtual 158, 3) := by decide +kernel
theorem dX12_quarrel_81 : decode cX12_quarrel 81 = .ok (.ireturn, 1) := by decide +kernel
theorem dX12_quarrel_82 : decode cX12_quarrel 82 = .ok (.bipush 95, 2) := by decide +kernel
theorem dX12_quarrel_84 : decode cX12_quarrel 84 = .ok (.iconst 4, 1) := by decide +kernel
theorem dX12_quarrel_85 : decode cX12_quarrel 85 = .ok (.iload 5, 2) := by decide +kernel
theorem dX12_quarrel_87 : decode cX12_quarrel 87 = .ok (.imul, 1) := by decide +kernel
theorem dX12_quarrel_88 : decode cX12_quarrel 88 = .ok (.iadd, 1) := by decide +kernel
theorem dX12_quarrel_89 : decode cX12_quarrel 89 = .ok (.istore 6, 2) := by decide +kernel
theorem dX12_quarrel_91 : decode cX12_quarrel 91 = .ok (.aload_n 0, 1) := by decide +kernel
theorem dX12_quarrel_92 : decode cX12_quarrel 92 = .ok (.getfield 13, 3) := by decide +kernel
theorem dX12_quarrel_95 : decode cX12_quarrel 95 = .ok (.iload 6, 2) := by decide +kernel
theorem dX12_quarrel_97 : decode cX12_quarrel 97 = .ok (.iload_n 1, 1) := by decide +kernel
theorem dX12_quarrel_98 : decode cX12_quarrel 98 = .ok (.iastore, 1) := by decide +kernel
theorem dX12_quarrel_99 : decode cX12_quarrel 99 = .ok (.aload_n 0, 1) := by decide +kernel
theorem dX12_quarrel_100 : decode cX12_quarrel 100 = .ok (.getfield 13, 3) := by decide +kernel
theorem dX12_quarrel_103 : decode cX12_quarrel 103 = .ok (.iload 6, 2) := by decide +kernel
theorem dX12_quarrel_105 : decode cX12_quarrel 105 = .ok (.iconst 1, 1) := by decide +kernel
theorem dX12_quarrel_106 : decode cX12_quarrel 106 = .ok (.iadd, 1) := by decide +kernel
theorem dX12_quarrel_107 : decode cX12_quarrel 107 = .ok (.iload_n 2, 1) := by decide +kernel
theorem dX12_quarrel_108 : decode cX12_quarrel 108 = .ok (.iastore, 1) := by decide +kernel
theorem dX12_quarrel_109 : decode cX12_quarrel 109 = .ok (.aload_n 0, 1) := by decide +kernel
theorem dX12_quarrel_110 : decode cX12_quarrel 110 = .ok (.getfield 13, 3) := by decide +kernel
theorem dX12_quarrel_113 : decode cX12_quarrel 113 = .ok (.iload 6, 2) := by decide +kernel
theorem dX12_quarrel_115 : decode cX12_quarrel 115 = .ok (.iconst 2, 1) := by decide +kernel
theorem dX12_quarrel_116 : decode cX12_quarrel 116 = .ok (.iadd, 1) := by decide +kernel
theorem dX12_quarrel_117 : decode cX12_quarrel 117 = .ok (.iload_n 3, 1) := by decide +kernel
theorem dX12_quarrel_118 : decode cX12_quarrel 118 = .ok (.iastore, 1) := by decide +kernel
theorem dX12_quarrel_119 : decode cX12_quarrel 119 = .ok (.aload_n 0, 1) := by decide +kernel
theorem dX12_quarrel_120 : decode cX12_quarrel 120 = .ok (.getfield 13, 3) := by decide +kernel
theorem dX12_quarrel_123 : decode cX12_quarrel 123 = .ok (.iload 6, 2) := by decide +kernel
theorem dX12_quarrel_125 : decode cX12_quarrel 125 = .ok (.iconst 3, 1) := by decide +kernel
theorem dX12_quarrel_126 : decode cX12_quarrel 126 = .ok (.iadd, 1) := by decide +kernel
theorem dX12_quarrel_127 : decode cX12_quarrel 127 = .ok (.iload 4, 2) := by decide +kernel
theorem dX12_quarrel_129 : decode cX12_quarrel 129 = .ok (.iastore, 1) := by decide +kernel
theorem dX12_quarrel_130 : decode cX12_quarrel 130 = .ok (.aload_n 0, 1) := by decide +kernel
theorem dX12_quarrel_131 : decode cX12_quarrel 131 = .ok (.getfield 13, 3) := by decide +kernel
theorem dX12_quarrel_134 : decode cX12_quarrel 134 = .ok (.iconst 2, 1) := by decide +kernel
theorem dX12_quarrel_135 : decode cX12_quarrel 135 = .ok (.dup2, 1) := by decide +kernel
theorem dX12_quarrel_136 : decode cX12_quarrel 136 = .ok (.iaload, 1) := by decide +kernel
theorem dX12_quarrel_137 : decode cX12_quarrel 137 = .ok (.iconst 1, 1) := by decide +kernel
theorem dX12_quarrel_138 : decode cX12_quarrel 138 = .ok (.iadd, 1) := by decide +kernel
theorem dX12_quarrel_139 : decode cX12_quarrel 139 = .ok (.iastore, 1) := by decide +kernel
theorem dX12_quarrel_140 : decode cX12_quarrel 140 = .ok (.aload_n 0, 1) := by decide +kernel
theorem dX12_quarrel_141 : decode cX12_quarrel 141 = .ok (.iload 5, 2) := by decide +kernel
theorem dX12_quarrel_143 : decode cX12_quarrel 143 = .ok (.invokevirtual 173, 3) := by decide +kernel
theorem dX12_quarrel_146 : decode cX12_quarrel 146 = .ok (.ireturn, 1) := by decide +kernel
theorem dX12_canHave_0 : decode cX12_canHave 0 = .ok (.aload_n 0, 1) := by decide +kernel
theorem dX12_canHave_1 : decode cX12_canHave 1 = .ok (.iload_n 1, 1) := by decide +kernel
theorem dX12_canHave_2 : decode cX12_canHave 2 = .ok (.iconst 2, 1) := by decide +kernel
theorem dX12_canHave_3 : decode cX12_canHave 3 = .ok (.invokevirtual 238, 3) := by decide +kernel
theorem dX12_canHave_6 : decode cX12_canHave 6 = .ok (.istore_n 2, 1) := by decide +kernel
theorem dX12_canHave_7 : decode cX12_canHave 7 = .ok (.aload_n 0, 1) := by decide +kernel
theorem dX12_canHave_8 : decode cX12_canHave 8 = .ok (.invokevirtual 194, 3) := by decide +kernel
theorem dX12_canHave_11 : decode cX12_canHave 11 = .ok (.istore_n 3, 1) := by decide +kernel
theorem dX12_canHave_12 : decode cX12_canHave 12 = .ok (.iconst 0, 1) := by decide +kernel
theorem dX12_canHave_13 : decode cX12_canHave 13 = .ok (.istore 4, 2) := by decide +kernel
theorem dX12_canHave_15 : decode cX12_canHave 15 = .ok (.iload 4, 2) := by decide +kernel
theorem dX12_canHave_17 : decode cX12_canHave 17 = .ok (.iconst 2, 1) := by decide +kernel
theorem dX12_canHave_18 : decode cX12_canHave 18 = .ok (.if_icmp .ge 47, 3) := by decide +kernel
theorem dX12_canHave_21 : decode cX12_canHave 21 = .ok (.aload_n 0, 1) := by decide +kernel
theorem dX12_canHave_22 : decode cX12_canHave 22 = .ok (.iload_n 1, 1) := by decide +kernel
theorem dX12_canHave_23 : decode cX12_canHave 23 = .ok (.iload 4, 2) := by decide +kernel
theorem dX12_canHave_25 : decode cX12_canHave 25 = .ok (.invokevirtual 238, 3) := by decide +kernel
theorem dX12_canHave_28 : decode cX12_canHave 28 = .ok (.istore 5, 2) := by decide +kernel
theorem dX12_canHave_30 : decode cX12_canHave 30 = .ok (.iload_n 3, 1) := by decide +kernel
theorem dX12_canHave_31 : decode cX12_canHave 31 = .ok (.ifCond .eq 26, 3) := by decide +kernel
theorem dX12_canHave_34 : decode cX12_canHave 34 = .ok (.aload_n 0, 1) := by decide +kernel
theorem dX12_canHave_35 : decode cX12_canHave 35 = .ok (.iload 5, 2) := by decide +kernel
theorem dX12_canHave_37 : decode cX12_canHave 37 = .ok (.invokevirtual 232, 3) := by decide +kernel
theorem dX12_canHave_40 : decode cX12_canHave 40 = .ok (.ifCond .ne 17, 3) := by decide +kernel
theorem dX12_canHave_43 : decode cX12_canHave 43 = .ok (.aload_n 0, 1) := by decide +kernel
theorem dX12_canHave_44 : decode cX12_canHave 44 = .ok (.iload 5, 2) := by decide +kernel
theorem dX12_canHave_46 : decode cX12_canHave 46 = .ok (.iload_n 2, 1) := by decide +kernel
theorem dX12_canHave_47 : decode cX12_canHave 47 = .ok (.invokevirtual 241, 3) := by decide +kernel
theorem dX12_canHave_50 : decode cX12_canHave 50 = .ok (.ifCond .ne 7, 3) := by decide +kernel
theorem dX12_canHave_53 : decode cX12_canHave 53 = .ok (.iconst 1, 1) := by decide +kernel
theorem dX12_canHave_54 : decode cX12_canHave 54 = .ok (.goto 4, 3) := by decide +kernel
theorem dX12_canHave_57 : decode cX12_canHave 57 = .ok (.iconst 0, 1) := by decide +kernel
theorem dX12_canHave_58 : decode cX12_canHave 58 = .ok (.istore_n 3, 1) := by decide +kernel
theorem dX12_canHave_59 : decode cX12_canHave 59 = .ok (.iinc 4 1, 3) := by decide +kernel
theorem dX12_canHave_62 : decode cX12_canHave 62 = .ok (.goto (-47), 3) := by decide +kernel
theorem dX12_canHave_65 : decode cX12_canHave 65 = .ok (.iload_n 3, 1) := by decide +kernel
theorem dX12_canHave_66 : decode cX12_canHave 66 = .ok (.ireturn, 1) := by decide +kernel
theorem dX12_about_0 : decode cX12_about 0 = .ok (.aload_n 0, 1) := by decide +kernel
theorem dX12_about_1 : decode cX12_about 1 = .ok (.iconst 0, 1) := by decide +kernel
theorem dX12_about_2 : decode cX12_about 2 = .ok (.putfield 149, 3) := by decide +kernel
theorem dX12_about_5 : decode cX12_about 5 = .ok (.aload_n 0, 1) := by decide +kernel
theorem dX12_about_6 : decode cX12_about 6 = .ok (.iload_n 1, 1) := by decide +kernel
theorem dX12_about_7 : decode cX12_about 7 = .ok (.invokevirtual 245, 3) := by decide +kernel
theorem dX12_about_10 : decode cX12_about 10 = .ok (.ifCond .eq 15, 3) := by decide +kernel
theorem dX12_about_13 : decode cX12_about 13 = .ok (.iload_n 2, 1) := by decide +kernel
theorem dX12_about_14 : decode cX12_about 14 = .ok (.i2l, 1) := by decide +kernel
theorem dX12_about_15 : decode cX12_about 15 = .ok (.lconst 0, 1) := by decide +kernel
theorem dX12_about_16 : decode cX12_about 16 = .ok (.ldc2_w 248, 3) := by decide +kernel
theorem dX12_about_19 : decode cX12_about 19 = .ok (.invokestatic 169, 3) := by decide +kernel
theorem dX12_about_22 : decode cX12_about 22 = .ok (.ifCond .ne 5, 3) := by decide +kernel
theorem dX12_about_25 : decode cX12_about 25 = .ok (.iconst (-1), 1) := by decide +kernel
theorem dX12_about_26 : decode cX12_about 26 = .ok (.ireturn, 1) := by decide +kernel
theorem dX12_about_27 : decode cX12_about 27 = .ok (.iload_n 2, 1) := by decide +kernel
theorem dX12_about_28 : decode cX12_about 28 = .ok (.iconst 4, 1) := by decide +kernel
theorem dX12_about_29 : decode cX12_about 29 = .ok (.if_icmp .ge 12, 3) := by decide +kernel
theorem dX12_about_32 : decode cX12_about 32 = .ok (.aload_n 0, 1) := by decide +kernel
theorem dX12_about_33 : decode cX12_about 33 = .ok (.iload_n 1, 1) := by decide +kernel
theorem dX12_about_34 : decode cX12_about 34 = .ok (.iload_n 2, 1) := by decide +kernel
theorem dX12_about_35 : decode cX12_about 35 = .ok (.invokevirtual 238, 3) := by decide +kernel
theorem dX12_about_38 : decode cX12_about 38 = .ok (.goto 16, 3) := by decide +kernel
theorem dX12_about_41 : decode cX12_about 41 = .ok (.aload_n 0, 1) := by decide +kernel
theorem dX12_about_42 : decode cX12_about 42 = .ok (.iload_n 1, 1) := by decide +kernel
theorem dX12_about_43 : decode cX12_about 43 = .ok (.invokevirtual 250, 3) := by decide +kernel
theorem dX12_about_46 : decode cX12_about 46 = .ok (.ifCond .eq 7, 3) := by decide +kernel
theorem dX12_about_49 : decode cX12_about 49 = .ok (.iconst 1, 1) := by decide +kernel
theorem dX12_about_50 : decode cX12_about 50 = .ok (.goto 4, 3) := by decide +kernel
theorem dX12_about_53 : decode cX12_about 53 = .ok (.iconst 0, 1) := by decide +kernel
theorem dX12_about_54 : decode cX12_about 54 = .ok (.ireturn, 1) := by decide +kernel
theorem dX12_isTerm_0 : decode cX12_isTerm 0 = .ok (.iload_n 0, 1) := by decide +kernel
theorem dX12_isTerm_1 : decode cX12_isTerm 1 = .ok (.tableswitch 85 0 4 #[35, 45, 55, 65, 75], 35) := by decide +kernel
theorem dX12_isTerm_36 : decode cX12_isTerm 36 = .ok (.iload_n 1, 1) := by decide +kernel
theorem dX12_isTerm_37 : decode cX12_isTerm 37 = .ok (.i2l, 1) := by decide +kernel
theorem dX12_isTerm_38 : decode cX12_isTerm 38 = .ok (.lconst 0, 1) := by decide +kernel
theorem dX12_isTerm_39 : decode cX12_isTerm 39 = .ok (.ldc2_w 178, 3) := by decide +kernel
theorem dX12_isTerm_42 : decode cX12_isTerm 42 = .ok (.invokestatic 169, 3) := by decide +kernel
theorem dX12_isTerm_45 : decode cX12_isTerm 45 = .ok (.ireturn, 1) := by decide +kernel
theorem dX12_isTerm_46 : decode cX12_isTerm 46 = .ok (.iload_n 1, 1) := by decide +kernel
theorem dX12_isTerm_47 : decode cX12_isTerm 47 = .ok (.i2l, 1) := by decide +kernel
theorem dX12_isTerm_48 : decode cX12_isTerm 48 = .ok (.lconst 1, 1) := by decide +kernel
theorem dX12_isTerm_49 : decode cX12_isTerm 49 = .ok (.ldc2_w 248, 3) := by decide +kernel
theorem dX12_isTerm_52 : decode cX12_isTerm 52 = .ok (.invokestatic 169, 3) := by decide +kernel
theorem dX12_isTerm_55 : decode cX12_isTerm 55 = .ok (.ireturn, 1) := by decide +kernel
theorem dX12_isTerm_56 : decode cX12_isTerm 56 = .ok (.iload_n 1, 1) := by decide +kernel
theorem dX12_isTerm_57 : decode cX12_isTerm 57 = .ok (.i2l, 1) := by decide +kernel
theorem dX12_isTerm_58 : decode cX12_isTerm 58 = .ok (.lconst 1, 1) := by decide +kernel
theorem dX12_isTerm_59 : decode cX12_isTerm 59 = .ok (.ldc2_w 180, 3) := by decide +kernel
theorem dX12_isTerm_62 : decode cX12_isTerm 62 = .ok (.invokestatic 169, 3) := by decide +kernel
theorem dX12_isTerm_65 : decode cX12_isTerm 65 = .ok (.ireturn, 1) := by decide +kernel
theorem dX12_isTerm_66 : decode cX12_isTerm 66 = .ok (.iload_n 1, 1) := by decide +kernel
theorem dX12_isTerm_67 : decode cX12_isTerm 67 = .ok (.i2l, 1) := by decide +kernel
theorem dX12_isTerm_68 : decode cX12_isTerm 68 = .ok (.lconst 1, 1) := by decide +kernel
theorem dX12_isTerm_69 : decode cX12_isTerm 69 = .ok (.ldc2_w 253, 3) := by decide +kernel
theorem dX12_isTerm_72 : decode cX12_isTerm 72 = .ok (.invokestatic 169, 3) := by decide +kernel
theorem dX12_isTerm_75 : decode cX12_isTerm 75 = .ok (.ireturn, 1) := by decide +kernel
theorem dX12_isTerm_76 : decode cX12_isTerm 76 = .ok (.iload_n 1, 1) := by decide +kernel
theorem dX12_isTerm_77 : decode cX12_isTerm 77 = .ok (.i2l, 1) := by decide +kernel
theorem dX12_isTerm_78 : decode cX12_isTerm 78 = .ok (.lconst 0, 1) := by decide +kernel
theorem dX12_isTerm_79 : decode cX12_isTerm 79 = .ok (.ldc2_w 253, 3) := by decide +kernel
theorem dX12_isTerm_82 : decode cX12_isTerm 82 = .ok (.invokestatic 169, 3) := by decide +kernel
theorem dX12_isTerm_85 : decode cX12_isTerm 85 = .ok (.ireturn, 1) := by decide +kernel
theorem dX12_isTerm_86 : decode cX12_isTerm 86 = .ok (.iconst 0, 1) := by decide +kernel
theorem dX12_isTerm_87 : decode cX12_isTerm 87 = .ok (.ireturn, 1) := by decide +kernel
theorem dX12_terms_0 : decode cX12_terms 0 = .ok (.aload_n 0, 1) := by decide +kernel
theorem dX12_terms_1 : decode cX12_terms 1 = .ok (.iconst 0, 1) := by decide +kernel
theorem dX12_terms_2 : decode cX12_terms 2 = .ok (.putfield 149, 3) := by decide +kernel
theorem dX12_terms_5 : decode cX12_terms 5 = .ok (.iload_n 1, 1) := by decide +kernel
theorem dX12_terms_6 : decode cX12_terms 6 = .ok (.iload_n 2, 1) := by decide +kernel
theorem dX12_terms_7 : decode cX12_terms 7 = .ok (.invokestatic 255, 3) := by decide +kernel
theorem dX12_terms_10 : decode cX12_terms 10 = .ok (.ifCond .ne 9, 3) := by decide +kernel
theorem dX12_terms_13 : decode cX12_terms 13 = .ok (.aload_n 0, 1) := by decide +kernel
theorem dX12_terms_14 : decode cX12_terms 14 = .ok (.iconst (-1), 1) := by decide +kernel
theorem dX12_terms_15 : decode cX12_terms 15 = .ok (.invokevirtual 158, 3) := by decide +kernel
theorem dX12_terms_18 : decode cX12_terms 18 = .ok (.ireturn, 1) := by decide +kernel
theorem dX12_terms_19 : decode cX12_terms 19 = .ok (.aload_n 0, 1) := by decide +kernel
theorem dX12_terms_20 : decode cX12_terms 20 = .ok (.iconst 0, 1) := by decide +kernel
theorem dX12_terms_21 : decode cX12_terms 21 = .ok (.putfield 155, 3) := by decide +kernel
theorem dX12_terms_24 : decode cX12_terms 24 = .ok (.aload_n 0, 1) := by decide +kernel
theorem dX12_terms_25 : decode cX12_terms 25 = .ok (.bipush 6, 2) := by decide +kernel
theorem dX12_terms_27 : decode cX12_terms 27 = .ok (.iload_n 1, 1) := by decide +kernel
theorem dX12_terms_28 : decode cX12_terms 28 = .ok (.iadd, 1) := by decide +kernel
theorem dX12_terms_29 : decode cX12_terms 29 = .ok (.iload_n 2, 1) := by decide +kernel
theorem dX12_terms_30 : decode cX12_terms 30 = .ok (.invokevirtual 182, 3) := by decide +kernel
theorem dX12_terms_33 : decode cX12_terms 33 = .ok (.ireturn, 1) := by decide +kernel
theorem dX12_row_0 : decode cX12_row 0 = .ok (.aload_n 0, 1) := by decide +kernel
theorem dX12_row_1 : decode cX12_row 1 = .ok (.iconst 0, 1) := by decide +kernel
theorem dX12_row_2 : decode cX12_row 2 = .ok (.putfield 149, 3) := by decide +kernel
theorem dX12_row_5 : decode cX12_row 5 = .ok (.aload_n 0, 1) := by decide +kernel
theorem dX12_row_6 : decode cX12_row 6 = .ok (.getfield 258, 3) := by decide +kernel
theorem dX12_row_9 : decode cX12_row 9 = .ok (.istore_n 1, 1) := by decide +kernel
theorem dX12_row_10 : decode cX12_row 10 = .ok (.aload_n 0, 1) := by decide +kernel
theorem dX12_row_11 : decode cX12_row 11 = .ok (.iconst 0, 1) := by decide +kernel
theorem dX12_row_12 : decode cX12_row 12 = .ok (.putfield 258, 3) := by decide +kernel
theorem dX12_row_15 : decode cX12_row 15 = .ok (.iload_n 1, 1) := by decide +kernel
theorem dX12_row_16 : decode cX12_row 16 = .ok (.ifCond .ne 10, 3) := by decide +kernel
theorem dX12_row_19 : decode cX12_row 19 = .ok (.aload_n 0, 1) := by decide +kernel
theorem dX12_row_20 : decode cX12_row 20 = .ok (.bipush (-6), 2) := by decide +kernel
theorem dX12_row_22 : decode cX12_row 22 = .ok (.invokevirtual 158, 3) := by decide +kernel
theorem dX12_row_25 : decode cX12_row 25 = .ok (.ireturn, 1) := by decide +kernel
theorem dX12_row_26 : decode cX12_row 26 = .ok (.aload_n 0, 1) := by decide +kernel
theorem dX12_row_27 : decode cX12_row 27 = .ok (.iconst 0, 1) := by decide +kernel
theorem dX12_row_28 : decode cX12_row 28 = .ok (.putfield 261, 3) := by decide +kernel
theorem dX12_row_31 : decode cX12_row 31 = .ok (.iconst 0, 1) := by decide +kernel
theorem dX12_row_32 : decode cX12_row 32 = .ok (.istore_n 2, 1) := by decide +kernel
theorem dX12_row_33 : decode cX12_row 33 = .ok (.iconst 0, 1) := by decide +kernel
theorem dX12_row_34 : decode cX12_row 34 = .ok (.istore_n 3, 1) := by decide +kernel
theorem dX12_row_35 : decode cX12_row 35 = .ok (.iload_n 3, 1) := by decide +kernel
theorem dX12_row_36 : decode cX12_row 36 = .ok (.iload_n 1, 1) := by decide +kernel
theorem dX12_row_37 : decode cX12_row 37 = .ok (.if_icmp .ge 61, 3) := by decide +kernel
theorem dX12_row_40 : decode cX12_row 40 = .ok (.iload_n 3, 1) := by decide +kernel
theorem dX12_row_41 : decode cX12_row 41 = .ok (.iconst 2, 1) := by decide +kernel
theorem dX12_row_42 : decode cX12_row 42 = .ok (.iadd, 1) := by decide +kernel
theorem dX12_row_43 : decode cX12_row 43 = .ok (.iload_n 1, 1) := by decide +kernel
theorem dX12_row_44 : decode cX12_row 44 = .ok (.if_icmp .ge 38, 3) := by decide +kernel
theorem dX12_row_47 : decode cX12_row 47 = .ok (.aload_n 0, 1) := by decide +kernel
theorem dX12_row_48 : decode cX12_row 48 = .ok (.aload_n 0, 1) := by decide +kernel
theorem dX12_row_49 : decode cX12_row 49 = .ok (.getfield 35, 3) := by decide +kernel
theorem dX12_row_52 : decode cX12_row 52 = .ok (.iload_n 3, 1) := by decide +kernel
theorem dX12_row_53 : decode cX12_row 53 = .ok (.iaload, 1) := by decide +kernel
theorem dX12_row_54 : decode cX12_row 54 = .ok (.aload_n 0, 1) := by decide +kernel
theorem dX12_row_55 : decode cX12_row 55 = .ok (.getfield 35, 3) := by decide +kernel
theorem dX12_row_58 : decode cX12_row 58 = .ok (.iload_n 3, 1) := by decide +kernel
theorem dX12_row_59 : decode cX12_row 59 = .ok (.iconst 1, 1) := by decide +kernel
theorem dX12_row_60 : decode cX12_row 60 = .ok (.iadd, 1) := by decide +kernel
theorem dX12_row_61 : decode cX12_row 61 = .ok (.iaload, 1) := by decide +kernel
theorem dX12_row_62 : decode cX12_row 62 = .ok (.aload_n 0, 1) := by decide +kernel
theorem dX12_row_63 : decode cX12_row 63 = .ok (.getfield 35, 3) := by decide +kernel
theorem dX12_row_66 : decode cX12_row 66 = .ok (.iload_n 3, 1) := by decide +kernel
theorem dX12_row_67 : decode cX12_row 67 = .ok (.iconst 2, 1) := by decide +kernel
theorem dX12_row_68 : decode cX12_row 68 = .ok (.iadd, 1) := by decide +kernel
theorem dX12_row_69 : decode cX12_row 69 = .ok (.iaload, 1) := by decide +kernel
theorem dX12_row_70 : decode cX12_row 70 = .ok (.invokevirtual 202, 3) := by decide +kernel
theorem dX12_row_73 : decode cX12_row 73 = .ok (.ifCond .lt 9, 3) := by decide +kernel
theorem dX12_row_76 : decode cX12_row 76 = .ok (.iinc 2 1, 3) := by decide +kernel
theorem dX12_row_79 : decode cX12_row 79 = .ok (.goto 13, 3) := by decide +kernel
theorem dX12_row_82 : decode cX12_row 82 = .ok (.aload_n 0, 1) := by decide +kernel
theorem dX12_row_83 : decode cX12_row 83 = .ok (.dup, 1) := by decide +kernel
theorem dX12_row_84 : decode cX12_row 84 = .ok (.getfield 261, 3) := by decide +kernel
