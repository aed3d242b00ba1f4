theorem dX0_init_0 : decode cX0_init 0 = .ok (.aload_n 0, 1) := by decide +kernel
theorem dX0_init_1 : decode cX0_init 1 = .ok (.invokespecial 1, 3) := by decide +kernel
theorem dX0_init_4 : decode cX0_init 4 = .ok (.aload_n 0, 1) := by decide +kernel
theorem dX0_init_5 : decode cX0_init 5 = .ok (.sipush 200, 3) := by decide +kernel
theorem dX0_init_8 : decode cX0_init 8 = .ok (.newarray .long, 2) := by decide +kernel
theorem dX0_init_10 : decode cX0_init 10 = .ok (.putfield 9, 3) := by decide +kernel
theorem dX0_init_13 : decode cX0_init 13 = .ok (.aload_n 0, 1) := by decide +kernel
theorem dX0_init_14 : decode cX0_init 14 = .ok (.sipush 200, 3) := by decide +kernel
theorem dX0_init_17 : decode cX0_init 17 = .ok (.newarray .long, 2) := by decide +kernel
theorem dX0_init_19 : decode cX0_init 19 = .ok (.putfield 13, 3) := by decide +kernel
theorem dX0_init_22 : decode cX0_init 22 = .ok (.aload_n 0, 1) := by decide +kernel
theorem dX0_init_23 : decode cX0_init 23 = .ok (.sipush 200, 3) := by decide +kernel
theorem dX0_init_26 : decode cX0_init 26 = .ok (.newarray .int, 2) := by decide +kernel
theorem dX0_init_28 : decode cX0_init 28 = .ok (.putfield 16, 3) := by decide +kernel
theorem dX0_init_31 : decode cX0_init 31 = .ok (.aload_n 0, 1) := by decide +kernel
theorem dX0_init_32 : decode cX0_init 32 = .ok (.sipush 200, 3) := by decide +kernel
theorem dX0_init_35 : decode cX0_init 35 = .ok (.newarray .int, 2) := by decide +kernel
theorem dX0_init_37 : decode cX0_init 37 = .ok (.putfield 20, 3) := by decide +kernel
theorem dX0_init_40 : decode cX0_init 40 = .ok (.aload_n 0, 1) := by decide +kernel
theorem dX0_init_41 : decode cX0_init 41 = .ok (.iconst 0, 1) := by decide +kernel
theorem dX0_init_42 : decode cX0_init 42 = .ok (.putfield 23, 3) := by decide +kernel
theorem dX0_init_45 : decode cX0_init 45 = .ok (.return_, 1) := by decide +kernel
theorem dX0_put_0 : decode cX0_put 0 = .ok (.iload_n 1, 1) := by decide +kernel
theorem dX0_put_1 : decode cX0_put 1 = .ok (.invokestatic 27, 3) := by decide +kernel
theorem dX0_put_4 : decode cX0_put 4 = .ok (.ifCond .eq 24, 3) := by decide +kernel
theorem dX0_put_7 : decode cX0_put 7 = .ok (.lload_n 2, 1) := by decide +kernel
theorem dX0_put_8 : decode cX0_put 8 = .ok (.invokestatic 31, 3) := by decide +kernel
theorem dX0_put_11 : decode cX0_put 11 = .ok (.ifCond .eq 17, 3) := by decide +kernel
theorem dX0_put_14 : decode cX0_put 14 = .ok (.iload 6, 2) := by decide +kernel
theorem dX0_put_16 : decode cX0_put 16 = .ok (.iconst 1, 1) := by decide +kernel
theorem dX0_put_17 : decode cX0_put 17 = .ok (.if_icmp .lt 11, 3) := by decide +kernel
theorem dX0_put_20 : decode cX0_put 20 = .ok (.iload 6, 2) := by decide +kernel
theorem dX0_put_22 : decode cX0_put 22 = .ok (.sipush 1000, 3) := by decide +kernel
theorem dX0_put_25 : decode cX0_put 25 = .ok (.if_icmp .le 11, 3) := by decide +kernel
theorem dX0_put_28 : decode cX0_put 28 = .ok (.new 35, 3) := by decide +kernel
theorem dX0_put_31 : decode cX0_put 31 = .ok (.dup, 1) := by decide +kernel
theorem dX0_put_32 : decode cX0_put 32 = .ok (.invokespecial 37, 3) := by decide +kernel
theorem dX0_put_35 : decode cX0_put 35 = .ok (.athrow, 1) := by decide +kernel
theorem dX0_put_36 : decode cX0_put 36 = .ok (.aload_n 0, 1) := by decide +kernel
theorem dX0_put_37 : decode cX0_put 37 = .ok (.iload_n 1, 1) := by decide +kernel
theorem dX0_put_38 : decode cX0_put 38 = .ok (.invokevirtual 38, 3) := by decide +kernel
theorem dX0_put_41 : decode cX0_put 41 = .ok (.ifCond .eq 8, 3) := by decide +kernel
theorem dX0_put_44 : decode cX0_put 44 = .ok (.aload_n 0, 1) := by decide +kernel
theorem dX0_put_45 : decode cX0_put 45 = .ok (.iload_n 1, 1) := by decide +kernel
theorem dX0_put_46 : decode cX0_put 46 = .ok (.invokevirtual 41, 3) := by decide +kernel
theorem dX0_put_49 : decode cX0_put 49 = .ok (.aload_n 0, 1) := by decide +kernel
theorem dX0_put_50 : decode cX0_put 50 = .ok (.getfield 9, 3) := by decide +kernel
theorem dX0_put_53 : decode cX0_put 53 = .ok (.iload_n 1, 1) := by decide +kernel
theorem dX0_put_54 : decode cX0_put 54 = .ok (.lload_n 2, 1) := by decide +kernel
theorem dX0_put_55 : decode cX0_put 55 = .ok (.lastore, 1) := by decide +kernel
theorem dX0_put_56 : decode cX0_put 56 = .ok (.aload_n 0, 1) := by decide +kernel
theorem dX0_put_57 : decode cX0_put 57 = .ok (.getfield 13, 3) := by decide +kernel
theorem dX0_put_60 : decode cX0_put 60 = .ok (.iload_n 1, 1) := by decide +kernel
theorem dX0_put_61 : decode cX0_put 61 = .ok (.lload 4, 2) := by decide +kernel
theorem dX0_put_63 : decode cX0_put 63 = .ok (.lastore, 1) := by decide +kernel
theorem dX0_put_64 : decode cX0_put 64 = .ok (.aload_n 0, 1) := by decide +kernel
theorem dX0_put_65 : decode cX0_put 65 = .ok (.getfield 16, 3) := by decide +kernel
theorem dX0_put_68 : decode cX0_put 68 = .ok (.iload_n 1, 1) := by decide +kernel
theorem dX0_put_69 : decode cX0_put 69 = .ok (.iload 6, 2) := by decide +kernel
theorem dX0_put_71 : decode cX0_put 71 = .ok (.iastore, 1) := by decide +kernel
theorem dX0_put_72 : decode cX0_put 72 = .ok (.aload_n 0, 1) := by decide +kernel
theorem dX0_put_73 : decode cX0_put 73 = .ok (.iload_n 1, 1) := by decide +kernel
theorem dX0_put_74 : decode cX0_put 74 = .ok (.invokevirtual 45, 3) := by decide +kernel
theorem dX0_put_77 : decode cX0_put 77 = .ok (.aload_n 0, 1) := by decide +kernel
theorem dX0_put_78 : decode cX0_put 78 = .ok (.getfield 23, 3) := by decide +kernel
theorem dX0_put_81 : decode cX0_put 81 = .ok (.ireturn, 1) := by decide +kernel
theorem dX0_drop_0 : decode cX0_drop 0 = .ok (.aload_n 0, 1) := by decide +kernel
theorem dX0_drop_1 : decode cX0_drop 1 = .ok (.iload_n 1, 1) := by decide +kernel
theorem dX0_drop_2 : decode cX0_drop 2 = .ok (.invokevirtual 38, 3) := by decide +kernel
theorem dX0_drop_5 : decode cX0_drop 5 = .ok (.ifCond .ne 11, 3) := by decide +kernel
theorem dX0_drop_8 : decode cX0_drop 8 = .ok (.new 48, 3) := by decide +kernel
theorem dX0_drop_11 : decode cX0_drop 11 = .ok (.dup, 1) := by decide +kernel
theorem dX0_drop_12 : decode cX0_drop 12 = .ok (.invokespecial 50, 3) := by decide +kernel
theorem dX0_drop_15 : decode cX0_drop 15 = .ok (.athrow, 1) := by decide +kernel
theorem dX0_drop_16 : decode cX0_drop 16 = .ok (.aload_n 0, 1) := by decide +kernel
theorem dX0_drop_17 : decode cX0_drop 17 = .ok (.getfield 16, 3) := by decide +kernel
theorem dX0_drop_20 : decode cX0_drop 20 = .ok (.iload_n 1, 1) := by decide +kernel
theorem dX0_drop_21 : decode cX0_drop 21 = .ok (.iaload, 1) := by decide +kernel
theorem dX0_drop_22 : decode cX0_drop 22 = .ok (.istore_n 2, 1) := by decide +kernel
theorem dX0_drop_23 : decode cX0_drop 23 = .ok (.aload_n 0, 1) := by decide +kernel
theorem dX0_drop_24 : decode cX0_drop 24 = .ok (.iload_n 1, 1) := by decide +kernel
theorem dX0_drop_25 : decode cX0_drop 25 = .ok (.invokevirtual 41, 3) := by decide +kernel
theorem dX0_drop_28 : decode cX0_drop 28 = .ok (.iload_n 2, 1) := by decide +kernel
theorem dX0_drop_29 : decode cX0_drop 29 = .ok (.ireturn, 1) := by decide +kernel
theorem dX0_slide_0 : decode cX0_slide 0 = .ok (.aload_n 0, 1) := by decide +kernel
theorem dX0_slide_1 : decode cX0_slide 1 = .ok (.getfield 23, 3) := by decide +kernel
theorem dX0_slide_4 : decode cX0_slide 4 = .ok (.ifCond .ne 11, 3) := by decide +kernel
theorem dX0_slide_7 : decode cX0_slide 7 = .ok (.new 48, 3) := by decide +kernel
theorem dX0_slide_10 : decode cX0_slide 10 = .ok (.dup, 1) := by decide +kernel
theorem dX0_slide_11 : decode cX0_slide 11 = .ok (.invokespecial 50, 3) := by decide +kernel
theorem dX0_slide_14 : decode cX0_slide 14 = .ok (.athrow, 1) := by decide +kernel
theorem dX0_slide_15 : decode cX0_slide 15 = .ok (.ldc2_w 51, 3) := by decide +kernel
theorem dX0_slide_18 : decode cX0_slide 18 = .ok (.aload_n 0, 1) := by decide +kernel
theorem dX0_slide_19 : decode cX0_slide 19 = .ok (.iconst 0, 1) := by decide +kernel
theorem dX0_slide_20 : decode cX0_slide 20 = .ok (.invokevirtual 53, 3) := by decide +kernel
theorem dX0_slide_23 : decode cX0_slide 23 = .ok (.lsub, 1) := by decide +kernel
theorem dX0_slide_24 : decode cX0_slide 24 = .ok (.lstore_n 3, 1) := by decide +kernel
theorem dX0_slide_25 : decode cX0_slide 25 = .ok (.ldc2_w 57, 3) := by decide +kernel
theorem dX0_slide_28 : decode cX0_slide 28 = .ok (.aload_n 0, 1) := by decide +kernel
theorem dX0_slide_29 : decode cX0_slide 29 = .ok (.aload_n 0, 1) := by decide +kernel
theorem dX0_slide_30 : decode cX0_slide 30 = .ok (.getfield 23, 3) := by decide +kernel
theorem dX0_slide_33 : decode cX0_slide 33 = .ok (.iconst 1, 1) := by decide +kernel
theorem dX0_slide_34 : decode cX0_slide 34 = .ok (.isub, 1) := by decide +kernel
theorem dX0_slide_35 : decode cX0_slide 35 = .ok (.invokevirtual 53, 3) := by decide +kernel
theorem dX0_slide_38 : decode cX0_slide 38 = .ok (.lsub, 1) := by decide +kernel
theorem dX0_slide_39 : decode cX0_slide 39 = .ok (.lstore 5, 2) := by decide +kernel
theorem dX0_slide_41 : decode cX0_slide 41 = .ok (.lload_n 1, 1) := by decide +kernel
theorem dX0_slide_42 : decode cX0_slide 42 = .ok (.lload_n 3, 1) := by decide +kernel
theorem dX0_slide_43 : decode cX0_slide 43 = .ok (.lcmp, 1) := by decide +kernel
theorem dX0_slide_44 : decode cX0_slide 44 = .ok (.ifCond .lt 10, 3) := by decide +kernel
theorem dX0_slide_47 : decode cX0_slide 47 = .ok (.lload_n 1, 1) := by decide +kernel
theorem dX0_slide_48 : decode cX0_slide 48 = .ok (.lload 5, 2) := by decide +kernel
theorem dX0_slide_50 : decode cX0_slide 50 = .ok (.lcmp, 1) := by decide +kernel
theorem dX0_slide_51 : decode cX0_slide 51 = .ok (.ifCond .le 11, 3) := by decide +kernel
theorem dX0_slide_54 : decode cX0_slide 54 = .ok (.new 35, 3) := by decide +kernel
theorem dX0_slide_57 : decode cX0_slide 57 = .ok (.dup, 1) := by decide +kernel
theorem dX0_slide_58 : decode cX0_slide 58 = .ok (.invokespecial 37, 3) := by decide +kernel
theorem dX0_slide_61 : decode cX0_slide 61 = .ok (.athrow, 1) := by decide +kernel
theorem dX0_slide_62 : decode cX0_slide 62 = .ok (.iconst 0, 1) := by decide +kernel
theorem dX0_slide_63 : decode cX0_slide 63 = .ok (.istore 7, 2) := by decide +kernel
theorem dX0_slide_65 : decode cX0_slide 65 = .ok (.iload 7, 2) := by decide +kernel
theorem dX0_slide_67 : decode cX0_slide 67 = .ok (.aload_n 0, 1) := by decide +kernel
theorem dX0_slide_68 : decode cX0_slide 68 = .ok (.getfield 23, 3) := by decide +kernel
theorem dX0_slide_71 : decode cX0_slide 71 = .ok (.if_icmp .ge 25, 3) := by decide +kernel
theorem dX0_slide_74 : decode cX0_slide 74 = .ok (.aload_n 0, 1) := by decide +kernel
theorem dX0_slide_75 : decode cX0_slide 75 = .ok (.getfield 9, 3) := by decide +kernel
theorem dX0_slide_78 : decode cX0_slide 78 = .ok (.aload_n 0, 1) := by decide +kernel
theorem dX0_slide_79 : decode cX0_slide 79 = .ok (.getfield 20, 3) := by decide +kernel
theorem dX0_slide_82 : decode cX0_slide 82 = .ok (.iload 7, 2) := by decide +kernel
theorem dX0_slide_84 : decode cX0_slide 84 = .ok (.iaload, 1) := by decide +kernel
theorem dX0_slide_85 : decode cX0_slide 85 = .ok (.dup2, 1) := by decide +kernel
theorem dX0_slide_86 : decode cX0_slide 86 = .ok (.laload, 1) := by decide +kernel
theorem dX0_slide_87 : decode cX0_slide 87 = .ok (.lload_n 1, 1) := by decide +kernel
theorem dX0_slide_88 : decode cX0_slide 88 = .ok (.ladd, 1) := by decide +kernel
theorem dX0_slide_89 : decode cX0_slide 89 = .ok (.lastore, 1) := by decide +kernel
theorem dX0_slide_90 : decode cX0_slide 90 = .ok (.iinc 7 1, 3) := by decide +kernel
theorem dX0_slide_93 : decode cX0_slide 93 = .ok (.goto (-28), 3) := by decide +kernel
theorem dX0_slide_96 : decode cX0_slide 96 = .ok (.aload_n 0, 1) := by decide +kernel
theorem dX0_slide_97 : decode cX0_slide 97 = .ok (.iconst 0, 1) := by decide +kernel
theorem dX0_slide_98 : decode cX0_slide 98 = .ok (.invokevirtual 53, 3) := by decide +kernel
theorem dX0_slide_101 : decode cX0_slide 101 = .ok (.lreturn, 1) := by decide +kernel
theorem dX0_told_0 : decode cX0_told 0 = .ok (.aload_n 0, 1) := by decide +kernel
theorem dX0_told_1 : decode cX0_told 1 = .ok (.iload_n 1, 1) := by decide +kernel
theorem dX0_told_2 : decode cX0_told 2 = .ok (.invokevirtual 38, 3) := by decide +kernel
theorem dX0_told_5 : decode cX0_told 5 = .ok (.ifCond .ne 11, 3) := by decide +kernel
theorem dX0_told_8 : decode cX0_told 8 = .ok (.new 48, 3) := by decide +kernel
theorem dX0_told_11 : decode cX0_told 11 = .ok (.dup, 1) := by decide +kernel
theorem dX0_told_12 : decode cX0_told 12 = .ok (.invokespecial 50, 3) := by decide +kernel
theorem dX0_told_15 : decode cX0_told 15 = .ok (.athrow, 1) := by decide +kernel
theorem dX0_told_16 : decode cX0_told 16 = .ok (.iload_n 2, 1) := by decide +kernel
theorem dX0_told_17 : decode cX0_told 17 = .ok (.tableswitch 49 0 2 #[27, 34, 41], 27) := by decide +kernel
theorem dX0_told_44 : decode cX0_told 44 = .ok (.aload_n 0, 1) := by decide +kernel
theorem dX0_told_45 : decode cX0_told 45 = .ok (.getfield 9, 3) := by decide +kernel
theorem dX0_told_48 : decode cX0_told 48 = .ok (.iload_n 1, 1) := by decide +kernel
theorem dX0_told_49 : decode cX0_told 49 = .ok (.laload, 1) := by decide +kernel
theorem dX0_told_50 : decode cX0_told 50 = .ok (.lreturn, 1) := by decide +kernel
theorem dX0_told_51 : decode cX0_told 51 = .ok (.aload_n 0, 1) := by decide +kernel
theorem dX0_told_52 : decode cX0_told 52 = .ok (.getfield 13, 3) := by decide +kernel
theorem dX0_told_55 : decode cX0_told 55 = .ok (.iload_n 1, 1) := by decide +kernel
theorem dX0_told_56 : decode cX0_told 56 = .ok (.laload, 1) := by decide +kernel
theorem dX0_told_57 : decode cX0_told 57 = .ok (.lreturn, 1) := by decide +kernel
theorem dX0_told_58 : decode cX0_told 58 = .ok (.aload_n 0, 1) := by decide +kernel
theorem dX0_told_59 : decode cX0_told 59 = .ok (.getfield 16, 3) := by decide +kernel
theorem dX0_told_62 : decode cX0_told 62 = .ok (.iload_n 1, 1) := by decide +kernel
theorem dX0_told_63 : decode cX0_told 63 = .ok (.iaload, 1) := by decide +kernel
theorem dX0_told_64 : decode cX0_told 64 = .ok (.i2l, 1) := by decide +kernel
theorem dX0_told_65 : decode cX0_told 65 = .ok (.lreturn, 1) := by decide +kernel
theorem dX0_told_66 : decode cX0_told 66 = .ok (.new 35, 3) := by decide +kernel
theorem dX0_told_69 : decode cX0_told 69 = .ok (.dup, 1) := by decide +kernel
theorem dX0_told_70 : decode cX0_told 70 = .ok (.invokespecial 37, 3) := by decide +kernel
theorem dX0_told_73 : decode cX0_told 73 = .ok (.athrow, 1) := by decide +kernel
theorem dX0_at_0 : decode cX0_at 0 = .ok (.iload_n 1, 1) := by decide +kernel
theorem dX0_at_1 : decode cX0_at 1 = .ok (.ifCond .lt 11, 3) := by decide +kernel
theorem dX0_at_4 : decode cX0_at 4 = .ok (.iload_n 1, 1) := by decide +kernel
theorem dX0_at_5 : decode cX0_at 5 = .ok (.aload_n 0, 1) := by decide +kernel
theorem dX0_at_6 : decode cX0_at 6 = .ok (.getfield 23, 3) := by decide +kernel
theorem dX0_at_9 : decode cX0_at 9 = .ok (.if_icmp .lt 11, 3) := by decide +kernel
theorem dX0_at_12 : decode cX0_at 12 = .ok (.new 48, 3) := by decide +kernel
theorem dX0_at_15 : decode cX0_at 15 = .ok (.dup, 1) := by decide +kernel
theorem dX0_at_16 : decode cX0_at 16 = .ok (.invokespecial 50, 3) := by decide +kernel
theorem dX0_at_19 : decode cX0_at 19 = .ok (.athrow, 1) := by decide +kernel
theorem dX0_at_20 : decode cX0_at 20 = .ok (.aload_n 0, 1) := by decide +kernel
theorem dX0_at_21 : decode cX0_at 21 = .ok (.getfield 20, 3) := by decide +kernel
theorem dX0_at_24 : decode cX0_at 24 = .ok (.iload_n 1, 1) := by decide +kernel
theorem dX0_at_25 : decode cX0_at 25 = .ok (.iaload, 1) := by decide +kernel
theorem dX0_at_26 : decode cX0_at 26 = .ok (.ireturn, 1) := by decide +kernel
theorem dX0_rank_0 : decode cX0_rank 0 = .ok (.aload_n 0, 1) := by decide +kernel
theorem dX0_rank_1 : decode cX0_rank 1 = .ok (.iload_n 1, 1) := by decide +kernel
theorem dX0_rank_2 : decode cX0_rank 2 = .ok (.invokevirtual 38, 3) := by decide +kernel
theorem dX0_rank_5 : decode cX0_rank 5 = .ok (.ifCond .ne 11, 3) := by decide +kernel
theorem dX0_rank_8 : decode cX0_rank 8 = .ok (.new 48, 3) := by decide +kernel
theorem dX0_rank_11 : decode cX0_rank 11 = .ok (.dup, 1) := by decide +kernel
theorem dX0_rank_12 : decode cX0_rank 12 = .ok (.invokespecial 50, 3) := by decide +kernel
theorem dX0_rank_15 : decode cX0_rank 15 = .ok (.athrow, 1) := by decide +kernel
theorem dX0_rank_16 : decode cX0_rank 16 = .ok (.aload_n 0, 1) := by decide +kernel
theorem dX0_rank_17 : decode cX0_rank 17 = .ok (.aload_n 0, 1) := by decide +kernel
theorem dX0_rank_18 : decode cX0_rank 18 = .ok (.getfield 9, 3) := by decide +kernel
theorem dX0_rank_21 : decode cX0_rank 21 = .ok (.iload_n 1, 1) := by decide +kernel
theorem dX0_rank_22 : decode cX0_rank 22 = .ok (.laload, 1) := by decide +kernel
theorem dX0_rank_23 : decode cX0_rank 23 = .ok (.iload_n 1, 1) := by decide +kernel
theorem dX0_rank_24 : decode cX0_rank 24 = .ok (.invokevirtual 59, 3) := by decide +kernel
theorem dX0_rank_27 : decode cX0_rank 27 = .ok (.ireturn, 1) := by decide +kernel
theorem dX0_earliest_0 : decode cX0_earliest 0 = .ok (.aload_n 0, 1) := by decide +kernel
theorem dX0_earliest_1 : decode cX0_earliest 1 = .ok (.iconst 0, 1) := by decide +kernel
theorem dX0_earliest_2 : decode cX0_earliest 2 = .ok (.aload_n 0, 1) := by decide +kernel
theorem dX0_earliest_3 : decode cX0_earliest 3 = .ok (.lload_n 1, 1) := by decide +kernel
theorem dX0_earliest_4 : decode cX0_earliest 4 = .ok (.invokevirtual 63, 3) := by decide +kernel
theorem dX0_earliest_7 : decode cX0_earliest 7 = .ok (.invokevirtual 67, 3) := by decide +kernel
theorem dX0_earliest_10 : decode cX0_earliest 10 = .ok (.ireturn, 1) := by decide +kernel
theorem dX0_between_0 : decode cX0_between 0 = .ok (.aload_n 0, 1) := by decide +kernel
theorem dX0_between_1 : decode cX0_between 1 = .ok (.aload_n 0, 1) := by decide +kernel
theorem dX0_between_2 : decode cX0_between 2 = .ok (.lload_n 1, 1) := by decide +kernel
theorem dX0_between_3 : decode cX0_between 3 = .ok (.invokevirtual 71, 3) := by decide +kernel
theorem dX0_between_6 : decode cX0_between 6 = .ok (.aload_n 0, 1) := by decide +kernel
theorem dX0_between_7 : decode cX0_between 7 = .ok (.lload_n 3, 1) := by decide +kernel
theorem dX0_between_8 : decode cX0_between 8 = .ok (.invokevirtual 63, 3) := by decide +kernel
theorem dX0_between_11 : decode cX0_between 11 = .ok (.invokevirtual 67, 3) := by decide +kernel
theorem dX0_between_14 : decode cX0_between 14 = .ok (.ireturn, 1) := by decide +kernel
theorem dX0_pick_0 : decode cX0_pick 0 = .ok (.aload_n 0, 1) := by decide +kernel
theorem dX0_pick_1 : decode cX0_pick 1 = .ok (.iconst 0, 1) := by decide +kernel
theorem dX0_pick_2 : decode cX0_pick 2 = .ok (.aload_n 0, 1) := by decide +kernel
theorem dX0_pick_3 : decode cX0_pick 3 = .ok (.invokevirtual 74, 3) := by decide +kernel
theorem dX0_pick_6 : decode cX0_pick 6 = .ok (.invokevirtual 67, 3) := by decide +kernel
theorem dX0_pick_9 : decode cX0_pick 9 = .ok (.ireturn, 1) := by decide +kernel
theorem dX0_ahead_0 : decode cX0_ahead 0 = .ok (.aload_n 0, 1) := by decide +kernel
theorem dX0_ahead_1 : decode cX0_ahead 1 = .ok (.iload_n 1, 1) := by decide +kernel
theorem dX0_ahead_2 : decode cX0_ahead 2 = .ok (.invokevirtual 38, 3) := by decide +kernel
theorem dX0_ahead_5 : decode cX0_ahead 5 = .ok (.ifCond .ne 11, 3) := by decide +kernel
theorem dX0_ahead_8 : decode cX0_ahead 8 = .ok (.new 48, 3) := by decide +kernel
theorem dX0_ahead_11 : decode cX0_ahead 11 = .ok (.dup, 1) := by decide +kernel
theorem dX0_ahead_12 : decode cX0_ahead 12 = .ok (.invokespecial 50, 3) := by decide +kernel
theorem dX0_ahead_15 : decode cX0_ahead 15 = .ok (.athrow, 1) := by decide +kernel
theorem dX0_ahead_16 : decode cX0_ahead 16 = .ok (.aload_n 0, 1) := by decide +kernel
theorem dX0_ahead_17 : decode cX0_ahead 17 = .ok (.getfield 9, 3) := by decide +kernel
theorem dX0_ahead_20 : decode cX0_ahead 20 = .ok (.iload_n 1, 1) := by decide +kernel
theorem dX0_ahead_21 : decode cX0_ahead 21 = .ok (.laload, 1) := by decide +kernel
theorem dX0_ahead_22 : decode cX0_ahead 22 = .ok (.aload_n 0, 1) := by decide +kernel
theorem dX0_ahead_23 : decode cX0_ahead 23 = .ok (.aload_n 0, 1) := by decide +kernel
theorem dX0_ahead_24 : decode cX0_ahead 24 = .ok (.getfield 23, 3) := by decide +kernel
theorem dX0_ahead_27 : decode cX0_ahead 27 = .ok (.invokevirtual 78, 3) := by decide +kernel
theorem dX0_ahead_30 : decode cX0_ahead 30 = .ok (.i2l, 1) := by decide +kernel
theorem dX0_ahead_31 : decode cX0_ahead 31 = .ok (.lmul, 1) := by decide +kernel
theorem dX0_ahead_32 : decode cX0_ahead 32 = .ok (.aload_n 0, 1) := by decide +kernel
theorem dX0_ahead_33 : decode cX0_ahead 33 = .ok (.invokevirtual 82, 3) := by decide +kernel
theorem dX0_ahead_36 : decode cX0_ahead 36 = .ok (.lsub, 1) := by decide +kernel
theorem dX0_ahead_37 : decode cX0_ahead 37 = .ok (.lreturn, 1) := by decide +kernel
theorem dX0_weight_0 : decode cX0_weight 0 = .ok (.aload_n 0, 1) := by decide +kernel
theorem dX0_weight_1 : decode cX0_weight 1 = .ok (.aload_n 0, 1) := by decide +kernel
theorem dX0_weight_2 : decode cX0_weight 2 = .ok (.lload_n 1, 1) := by decide +kernel
theorem dX0_weight_3 : decode cX0_weight 3 = .ok (.invokevirtual 63, 3) := by decide +kernel
theorem dX0_weight_6 : decode cX0_weight 6 = .ok (.invokevirtual 78, 3) := by decide +kernel
theorem dX0_weight_9 : decode cX0_weight 9 = .ok (.ireturn, 1) := by decide +kernel
theorem dX0_half_0 : decode cX0_half 0 = .ok (.aload_n 0, 1) := by decide +kernel
theorem dX0_half_1 : decode cX0_half 1 = .ok (.getfield 23, 3) := by decide +kernel
theorem dX0_half_4 : decode cX0_half 4 = .ok (.ifCond .ne 11, 3) := by decide +kernel
theorem dX0_half_7 : decode cX0_half 7 = .ok (.new 48, 3) := by decide +kernel
theorem dX0_half_10 : decode cX0_half 10 = .ok (.dup, 1) := by decide +kernel
theorem dX0_half_11 : decode cX0_half 11 = .ok (.invokespecial 50, 3) := by decide +kernel
theorem dX0_half_14 : decode cX0_half 14 = .ok (.athrow, 1) := by decide +kernel
theorem dX0_half_15 : decode cX0_half 15 = .ok (.aload_n 0, 1) := by decide +kernel
theorem dX0_half_16 : decode cX0_half 16 = .ok (.aload_n 0, 1) := by decide +kernel
theorem dX0_half_17 : decode cX0_half 17 = .ok (.getfield 23, 3) := by decide +kernel
theorem dX0_half_20 : decode cX0_half 20 = .ok (.invokevirtual 78, 3) := by decide +kernel
theorem dX0_half_23 : decode cX0_half 23 = .ok (.istore_n 1, 1) := by decide +kernel
theorem dX0_half_24 : decode cX0_half 24 = .ok (.iconst 0, 1) := by decide +kernel
theorem dX0_half_25 : decode cX0_half 25 = .ok (.istore_n 2, 1) := by decide +kernel
theorem dX0_half_26 : decode cX0_half 26 = .ok (.aload_n 0, 1) := by decide +kernel
theorem dX0_half_27 : decode cX0_half 27 = .ok (.getfield 16, 3) := by decide +kernel
theorem dX0_half_30 : decode cX0_half 30 = .ok (.aload_n 0, 1) := by decide +kernel
theorem dX0_half_31 : decode cX0_half 31 = .ok (.getfield 20, 3) := by decide +kernel
theorem dX0_half_34 : decode cX0_half 34 = .ok (.iconst 0, 1) := by decide +kernel
theorem dX0_half_35 : decode cX0_half 35 = .ok (.iaload, 1) := by decide +kernel
theorem dX0_half_36 : decode cX0_half 36 = .ok (.iaload, 1) := by decide +kernel
theorem dX0_half_37 : decode cX0_half 37 = .ok (.istore_n 3, 1) := by decide +kernel
theorem dX0_half_38 : decode cX0_half 38 = .ok (.iload_n 2, 1) := by decide +kernel
theorem dX0_half_39 : decode cX0_half 39 = .ok (.aload_n 0, 1) := by decide +kernel
theorem dX0_half_40 : decode cX0_half 40 = .ok (.getfield 23, 3) := by decide +kernel
theorem dX0_half_43 : decode cX0_half 43 = .ok (.iconst 1, 1) := by decide +kernel
theorem dX0_half_44 : decode cX0_half 44 = .ok (.isub, 1) := by decide +kernel
theorem dX0_half_45 : decode cX0_half 45 = .ok (.if_icmp .ge 30, 3) := by decide +kernel
theorem dX0_half_48 : decode cX0_half 48 = .ok (.iconst 2, 1) := by decide +kernel
theorem dX0_half_49 : decode cX0_half 49 = .ok (.iload_n 3, 1) := by decide +kernel
theorem dX0_half_50 : decode cX0_half 50 = .ok (.imul, 1) := by decide +kernel
theorem dX0_half_51 : decode cX0_half 51 = .ok (.iload_n 1, 1) := by decide +kernel
theorem dX0_half_52 : decode cX0_half 52 = .ok (.if_icmp .ge 23, 3) := by decide +kernel
theorem dX0_half_55 : decode cX0_half 55 = .ok (.iinc 2 1, 3) := by decide +kernel
theorem dX0_half_58 : decode cX0_half 58 = .ok (.iload_n 3, 1) := by decide +kernel
theorem dX0_half_59 : decode cX0_half 59 = .ok (.aload_n 0, 1) := by decide +kernel
theorem dX0_half_60 : decode cX0_half 60 = .ok (.getfield 16, 3) := by decide +kernel
theorem dX0_half_63 : decode cX0_half 63 = .ok (.aload_n 0, 1) := by decide +kernel
theorem dX0_half_64 : decode cX0_half 64 = .ok (.getfield 20, 3) := by decide +kernel
theorem dX0_half_67 : decode cX0_half 67 = .ok (.iload_n 2, 1) := by decide +kernel
theorem dX0_half_68 : decode cX0_half 68 = .ok (.iaload, 1) := by decide +kernel
theorem dX0_half_69 : decode cX0_half 69 = .ok (.iaload, 1) := by decide +kernel
theorem dX0_half_70 : decode cX0_half 70 = .ok (.iadd, 1) := by decide +kernel
theorem dX0_half_71 : decode cX0_half 71 = .ok (.istore_n 3, 1) := by decide +kernel
theorem dX0_half_72 : decode cX0_half 72 = .ok (.goto (-34), 3) := by decide +kernel
theorem dX0_half_75 : decode cX0_half 75 = .ok (.aload_n 0, 1) := by decide +kernel
theorem dX0_half_76 : decode cX0_half 76 = .ok (.getfield 20, 3) := by decide +kernel
theorem dX0_half_79 : decode cX0_half 79 = .ok (.iload_n 2, 1) := by decide +kernel
theorem dX0_half_80 : decode cX0_half 80 = .ok (.iaload, 1) := by decide +kernel
theorem dX0_half_81 : decode cX0_half 81 = .ok (.ireturn, 1) := by decide +kernel
theorem dX0_nearest_0 : decode cX0_nearest 0 = .ok (.aload_n 0, 1) := by decide +kernel
theorem dX0_nearest_1 : decode cX0_nearest 1 = .ok (.getfield 23, 3) := by decide +kernel
theorem dX0_nearest_4 : decode cX0_nearest 4 = .ok (.iconst 2, 1) := by decide +kernel
theorem dX0_nearest_5 : decode cX0_nearest 5 = .ok (.if_icmp .ge 11, 3) := by decide +kernel
theorem dX0_nearest_8 : decode cX0_nearest 8 = .ok (.new 48, 3) := by decide +kernel
theorem dX0_nearest_11 : decode cX0_nearest 11 = .ok (.dup, 1) := by decide +kernel
theorem dX0_nearest_12 : decode cX0_nearest 12 = .ok (.invokespecial 50, 3) := by decide +kernel
theorem dX0_nearest_15 : decode cX0_nearest 15 = .ok (.athrow, 1) := by decide +kernel
theorem dX0_nearest_16 : decode cX0_nearest 16 = .ok (.aload_n 0, 1) := by decide +kernel
theorem dX0_nearest_17 : decode cX0_nearest 17 = .ok (.iconst 1, 1) := by decide +kernel
theorem dX0_nearest_18 : decode cX0_nearest 18 = .ok (.invokevirtual 53, 3) := by decide +kernel
theorem dX0_nearest_21 : decode cX0_nearest 21 = .ok (.aload_n 0, 1) := by decide +kernel
theorem dX0_nearest_22 : decode cX0_nearest 22 = .ok (.iconst 0, 1) := by decide +kernel
theorem dX0_nearest_23 : decode cX0_nearest 23 = .ok (.invokevirtual 53, 3) := by decide +kernel
theorem dX0_nearest_26 : decode cX0_nearest 26 = .ok (.lsub, 1) := by decide +kernel
theorem dX0_nearest_27 : decode cX0_nearest 27 = .ok (.lstore_n 1, 1) := by decide +kernel
theorem dX0_nearest_28 : decode cX0_nearest 28 = .ok (.iconst 2, 1) := by decide +kernel
theorem dX0_nearest_29 : decode cX0_nearest 29 = .ok (.istore_n 3, 1) := by decide +kernel
theorem dX0_nearest_30 : decode cX0_nearest 30 = .ok (.iload_n 3, 1) := by decide +kernel
theorem dX0_nearest_31 : decode cX0_nearest 31 = .ok (.aload_n 0, 1) := by decide +kernel
theorem dX0_nearest_32 : decode cX0_nearest 32 = .ok (.getfield 23, 3) := by decide +kernel
theorem dX0_nearest_35 : decode cX0_nearest 35 = .ok (.if_icmp .ge 27, 3) := by decide +kernel
theorem dX0_nearest_38 : decode cX0_nearest 38 = .ok (.lload_n 1, 1) := by decide +kernel
theorem dX0_nearest_39 : decode cX0_nearest 39 = .ok (.aload_n 0, 1) := by decide +kernel
theorem dX0_nearest_40 : decode cX0_nearest 40 = .ok (.iload_n 3, 1) := by decide +kernel
theorem dX0_nearest_41 : decode cX0_nearest 41 = .ok (.invokevirtual 53, 3) := by decide +kernel
theorem dX0_nearest_44 : decode cX0_nearest 44 = .ok (.aload_n 0, 1) := by decide +kernel
theorem dX0_nearest_45 : decode cX0_nearest 45 = .ok (.iload_n 3, 1) := by decide +kernel
theorem dX0_nearest_46 : decode cX0_nearest 46 = .ok (.iconst 1, 1) := by decide +kernel
theorem dX0_nearest_47 : decode cX0_nearest 47 = .ok (.isub, 1) := by decide +kernel
theorem dX0_nearest_48 : decode cX0_nearest 48 = .ok (.invokevirtual 53, 3) := by decide +kernel
theorem dX0_nearest_51 : decode cX0_nearest 51 = .ok (.lsub, 1) := by decide +kernel
theorem dX0_nearest_52 : decode cX0_nearest 52 = .ok (.invokestatic 86, 3) := by decide +kernel
theorem dX0_nearest_55 : decode cX0_nearest 55 = .ok (.lstore_n 1, 1) := by decide +kernel
theorem dX0_nearest_56 : decode cX0_nearest 56 = .ok (.iinc 3 1, 3) := by decide +kernel
theorem dX0_nearest_59 : decode cX0_nearest 59 = .ok (.goto (-29), 3) := by decide +kernel
theorem dX0_nearest_62 : decode cX0_nearest 62 = .ok (.lload_n 1, 1) := by decide +kernel
theorem dX0_nearest_63 : decode cX0_nearest 63 = .ok (.lreturn, 1) := by decide +kernel
theorem dX0_cut_0 : decode cX0_cut 0 = .ok (.aload_n 0, 1) := by decide +kernel
theorem dX0_cut_1 : decode cX0_cut 1 = .ok (.lload_n 1, 1) := by decide +kernel
theorem dX0_cut_2 : decode cX0_cut 2 = .ok (.invokevirtual 71, 3) := by decide +kernel
theorem dX0_cut_5 : decode cX0_cut 5 = .ok (.istore 5, 2) := by decide +kernel
theorem dX0_cut_7 : decode cX0_cut 7 = .ok (.aload_n 0, 1) := by decide +kernel
theorem dX0_cut_8 : decode cX0_cut 8 = .ok (.lload_n 3, 1) := by decide +kernel
theorem dX0_cut_9 : decode cX0_cut 9 = .ok (.invokevirtual 63, 3) := by decide +kernel
theorem dX0_cut_12 : decode cX0_cut 12 = .ok (.istore 6, 2) := by decide +kernel
theorem dX0_cut_14 : decode cX0_cut 14 = .ok (.iload 5, 2) := by decide +kernel
theorem dX0_cut_16 : decode cX0_cut 16 = .ok (.iload 6, 2) := by decide +kernel
theorem dX0_cut_18 : decode cX0_cut 18 = .ok (.if_icmp .lt 5, 3) := by decide +kernel
theorem dX0_cut_21 : decode cX0_cut 21 = .ok (.iconst 0, 1) := by decide +kernel
theorem dX0_cut_22 : decode cX0_cut 22 = .ok (.ireturn, 1) := by decide +kernel
theorem dX0_cut_23 : decode cX0_cut 23 = .ok (.aload_n 0, 1) := by decide +kernel
theorem dX0_cut_24 : decode cX0_cut 24 = .ok (.iload 5, 2) := by decide +kernel
theorem dX0_cut_26 : decode cX0_cut 26 = .ok (.iload 6, 2) := by decide +kernel
theorem dX0_cut_28 : decode cX0_cut 28 = .ok (.invokevirtual 92, 3) := by decide +kernel
theorem dX0_cut_31 : decode cX0_cut 31 = .ok (.iload 6, 2) := by decide +kernel
theorem dX0_cut_33 : decode cX0_cut 33 = .ok (.iload 5, 2) := by decide +kernel
theorem dX0_cut_35 : decode cX0_cut 35 = .ok (.isub, 1) := by decide +kernel
theorem dX0_cut_36 : decode cX0_cut 36 = .ok (.ireturn, 1) := by decide +kernel
theorem dX0_count_0 : decode cX0_count 0 = .ok (.iload_n 1, 1) := by decide +kernel
theorem dX0_count_1 : decode cX0_count 1 = .ok (.tableswitch 46 0 2 #[27, 32, 41], 27) := by decide +kernel
theorem dX0_count_28 : decode cX0_count 28 = .ok (.aload_n 0, 1) := by decide +kernel
theorem dX0_count_29 : decode cX0_count 29 = .ok (.getfield 23, 3) := by decide +kernel
theorem dX0_count_32 : decode cX0_count 32 = .ok (.ireturn, 1) := by decide +kernel
theorem dX0_count_33 : decode cX0_count 33 = .ok (.aload_n 0, 1) := by decide +kernel
theorem dX0_count_34 : decode cX0_count 34 = .ok (.aload_n 0, 1) := by decide +kernel
theorem dX0_count_35 : decode cX0_count 35 = .ok (.getfield 23, 3) := by decide +kernel
theorem dX0_count_38 : decode cX0_count 38 = .ok (.invokevirtual 78, 3) := by decide +kernel
theorem dX0_count_41 : decode cX0_count 41 = .ok (.ireturn, 1) := by decide +kernel
theorem dX0_count_42 : decode cX0_count 42 = .ok (.aload_n 0, 1) := by decide +kernel
theorem dX0_count_43 : decode cX0_count 43 = .ok (.invokevirtual 74, 3) := by decide +kernel
theorem dX0_count_46 : decode cX0_count 46 = .ok (.ireturn, 1) := by decide +kernel
theorem dX0_count_47 : decode cX0_count 47 = .ok (.iconst (-1), 1) := by decide +kernel
theorem dX0_count_48 : decode cX0_count 48 = .ok (.ireturn, 1) := by decide +kernel
theorem dX0_isNumber_0 : decode cX0_isNumber 0 = .ok (.iload_n 0, 1) := by decide +kernel
theorem dX0_isNumber_1 : decode cX0_isNumber 1 = .ok (.ifCond .lt 14, 3) := by decide +kernel
theorem dX0_isNumber_4 : decode cX0_isNumber 4 = .ok (.iload_n 0, 1) := by decide +kernel
theorem dX0_isNumber_5 : decode cX0_isNumber 5 = .ok (.sipush 200, 3) := by decide +kernel
theorem dX0_isNumber_8 : decode cX0_isNumber 8 = .ok (.if_icmp .ge 7, 3) := by decide +kernel
theorem dX0_isNumber_11 : decode cX0_isNumber 11 = .ok (.iconst 1, 1) := by decide +kernel
theorem dX0_isNumber_12 : decode cX0_isNumber 12 = .ok (.goto 4, 3) := by decide +kernel
theorem dX0_isNumber_15 : decode cX0_isNumber 15 = .ok (.iconst 0, 1) := by decide +kernel
theorem dX0_isNumber_16 : decode cX0_isNumber 16 = .ok (.ireturn, 1) := by decide +kernel
theorem dX0_mayBePut_0 : decode cX0_mayBePut 0 = .ok (.lload_n 0, 1) := by decide +kernel
theorem dX0_mayBePut_1 : decode cX0_mayBePut 1 = .ok (.ldc2_w 96, 3) := by decide +kernel
theorem dX0_mayBePut_4 : decode cX0_mayBePut 4 = .ok (.lcmp, 1) := by decide +kernel
theorem dX0_mayBePut_5 : decode cX0_mayBePut 5 = .ok (.ifCond .lt 15, 3) := by decide +kernel
theorem dX0_mayBePut_8 : decode cX0_mayBePut 8 = .ok (.lload_n 0, 1) := by decide +kernel
theorem dX0_mayBePut_9 : decode cX0_mayBePut 9 = .ok (.ldc2_w 98, 3) := by decide +kernel
theorem dX0_mayBePut_12 : decode cX0_mayBePut 12 = .ok (.lcmp, 1) := by decide +kernel
theorem dX0_mayBePut_13 : decode cX0_mayBePut 13 = .ok (.ifCond .gt 7, 3) := by decide +kernel
theorem dX0_mayBePut_16 : decode cX0_mayBePut 16 = .ok (.iconst 1, 1) := by decide +kernel
theorem dX0_mayBePut_17 : decode cX0_mayBePut 17 = .ok (.goto 4, 3) := by decide +kernel
theorem dX0_mayBePut_20 : decode cX0_mayBePut 20 = .ok (.iconst 0, 1) := by decide +kernel
theorem dX0_mayBePut_21 : decode cX0_mayBePut 21 = .ok (.ireturn, 1) := by decide +kernel
theorem dX0_isThere_0 : decode cX0_isThere 0 = .ok (.iload_n 1, 1) := by decide +kernel
theorem dX0_isThere_1 : decode cX0_isThere 1 = .ok (.invokestatic 27, 3) := by decide +kernel
theorem dX0_isThere_4 : decode cX0_isThere 4 = .ok (.ifCond .eq 16, 3) := by decide +kernel
theorem dX0_isThere_7 : decode cX0_isThere 7 = .ok (.aload_n 0, 1) := by decide +kernel
theorem dX0_isThere_8 : decode cX0_isThere 8 = .ok (.getfield 16, 3) := by decide +kernel
theorem dX0_isThere_11 : decode cX0_isThere 11 = .ok (.iload_n 1, 1) := by decide +kernel
theorem dX0_isThere_12 : decode cX0_isThere 12 = .ok (.iaload, 1) := by decide +kernel
theorem dX0_isThere_13 : decode cX0_isThere 13 = .ok (.ifCond .le 7, 3) := by decide +kernel
theorem dX0_isThere_16 : decode cX0_isThere 16 = .ok (.iconst 1, 1) := by decide +kernel
theorem dX0_isThere_17 : decode cX0_isThere 17 = .ok (.goto 4, 3) := by decide +kernel
theorem dX0_isThere_20 : decode cX0_isThere 20 = .ok (.iconst 0, 1) := by decide +kernel
theorem dX0_isThere_21 : decode cX0_isThere 21 = .ok (.ireturn, 1) := by decide +kernel
theorem dX0_keyAt_0 : decode cX0_keyAt 0 = .ok (.aload_n 0, 1) := by decide +kernel
theorem dX0_keyAt_1 : decode cX0_keyAt 1 = .ok (.getfield 9, 3) := by decide +kernel
theorem dX0_keyAt_4 : decode cX0_keyAt 4 = .ok (.aload_n 0, 1) := by decide +kernel
theorem dX0_keyAt_5 : decode cX0_keyAt 5 = .ok (.getfield 20, 3) := by decide +kernel
theorem dX0_keyAt_8 : decode cX0_keyAt 8 = .ok (.iload_n 1, 1) := by decide +kernel
theorem dX0_keyAt_9 : decode cX0_keyAt 9 = .ok (.iaload, 1) := by decide +kernel
theorem dX0_keyAt_10 : decode cX0_keyAt 10 = .ok (.laload, 1) := by decide +kernel
theorem dX0_keyAt_11 : decode cX0_keyAt 11 = .ok (.lreturn, 1) := by decide +kernel
theorem dX0_placesBefore_0 : decode cX0_placesBefore 0 = .ok (.iconst 0, 1) := by decide +kernel
theorem dX0_placesBefore_1 : decode cX0_placesBefore 1 = .ok (.istore 4, 2) := by decide +kernel
theorem dX0_placesBefore_3 : decode cX0_placesBefore 3 = .ok (.iload 4, 2) := by decide +kernel
theorem dX0_placesBefore_5 : decode cX0_placesBefore 5 = .ok (.aload_n 0, 1) := by decide +kernel
theorem dX0_placesBefore_6 : decode cX0_placesBefore 6 = .ok (.getfield 23, 3) := by decide +kernel
theorem dX0_placesBefore_9 : decode cX0_placesBefore 9 = .ok (.if_icmp .ge 25, 3) := by decide +kernel
theorem dX0_placesBefore_12 : decode cX0_placesBefore 12 = .ok (.aload_n 0, 1) := by decide +kernel
theorem dX0_placesBefore_13 : decode cX0_placesBefore 13 = .ok (.aload_n 0, 1) := by decide +kernel
theorem dX0_placesBefore_14 : decode cX0_placesBefore 14 = .ok (.getfield 20, 3) := by decide +kernel
theorem dX0_placesBefore_17 : decode cX0_placesBefore 17 = .ok (.iload 4, 2) := by decide +kernel
theorem dX0_placesBefore_19 : decode cX0_placesBefore 19 = .ok (.iaload, 1) := by decide +kernel
theorem dX0_placesBefore_20 : decode cX0_placesBefore 20 = .ok (.lload_n 1, 1) := by decide +kernel
theorem dX0_placesBefore_21 : decode cX0_placesBefore 21 = .ok (.iload_n 3, 1) := by decide +kernel
theorem dX0_placesBefore_22 : decode cX0_placesBefore 22 = .ok (.invokevirtual 100, 3) := by decide +kernel
theorem dX0_placesBefore_25 : decode cX0_placesBefore 25 = .ok (.ifCond .eq 9, 3) := by decide +kernel
theorem dX0_placesBefore_28 : decode cX0_placesBefore 28 = .ok (.iinc 4 1, 3) := by decide +kernel
theorem dX0_placesBefore_31 : decode cX0_placesBefore 31 = .ok (.goto (-28), 3) := by decide +kernel
theorem dX0_placesBefore_34 : decode cX0_placesBefore 34 = .ok (.iload 4, 2) := by decide +kernel
theorem dX0_placesBefore_36 : decode cX0_placesBefore 36 = .ok (.ireturn, 1) := by decide +kernel
theorem dX0_standsBefore_0 : decode cX0_standsBefore 0 = .ok (.aload_n 0, 1) := by decide +kernel
theorem dX0_standsBefore_1 : decode cX0_standsBefore 1 = .ok (.getfield 9, 3) := by decide +kernel
theorem dX0_standsBefore_4 : decode cX0_standsBefore 4 = .ok (.iload_n 1, 1) := by decide +kernel
theorem dX0_standsBefore_5 : decode cX0_standsBefore 5 = .ok (.laload, 1) := by decide +kernel
theorem dX0_standsBefore_6 : decode cX0_standsBefore 6 = .ok (.lload_n 2, 1) := by decide +kernel
theorem dX0_standsBefore_7 : decode cX0_standsBefore 7 = .ok (.lcmp, 1) := by decide +kernel
theorem dX0_standsBefore_8 : decode cX0_standsBefore 8 = .ok (.ifCond .lt 20, 3) := by decide +kernel
theorem dX0_standsBefore_11 : decode cX0_standsBefore 11 = .ok (.aload_n 0, 1) := by decide +kernel
theorem dX0_standsBefore_12 : decode cX0_standsBefore 12 = .ok (.getfield 9, 3) := by decide +kernel
theorem dX0_standsBefore_15 : decode cX0_standsBefore 15 = .ok (.iload_n 1, 1) := by decide +kernel
theorem dX0_standsBefore_16 : decode cX0_standsBefore 16 = .ok (.laload, 1) := by decide +kernel
theorem dX0_standsBefore_17 : decode cX0_standsBefore 17 = .ok (.lload_n 2, 1) := by decide +kernel
theorem dX0_standsBefore_18 : decode cX0_standsBefore 18 = .ok (.lcmp, 1) := by decide +kernel
theorem dX0_standsBefore_19 : decode cX0_standsBefore 19 = .ok (.ifCond .ne 13, 3) := by decide +kernel
theorem dX0_standsBefore_22 : decode cX0_standsBefore 22 = .ok (.iload_n 1, 1) := by decide +kernel
theorem dX0_standsBefore_23 : decode cX0_standsBefore 23 = .ok (.iload 4, 2) := by decide +kernel
theorem dX0_standsBefore_25 : decode cX0_standsBefore 25 = .ok (.if_icmp .ge 7, 3) := by decide +kernel
theorem dX0_standsBefore_28 : decode cX0_standsBefore 28 = .ok (.iconst 1, 1) := by decide +kernel
theorem dX0_standsBefore_29 : decode cX0_standsBefore 29 = .ok (.goto 4, 3) := by decide +kernel
theorem dX0_standsBefore_32 : decode cX0_standsBefore 32 = .ok (.iconst 0, 1) := by decide +kernel
theorem dX0_standsBefore_33 : decode cX0_standsBefore 33 = .ok (.ireturn, 1) := by decide +kernel
theorem dX0_placesBelow_0 : decode cX0_placesBelow 0 = .ok (.aload_n 0, 1) := by decide +kernel
theorem dX0_placesBelow_1 : decode cX0_placesBelow 1 = .ok (.lload_n 1, 1) := by decide +kernel
theorem dX0_placesBelow_2 : decode cX0_placesBelow 2 = .ok (.iconst 0, 1) := by decide +kernel
theorem dX0_placesBelow_3 : decode cX0_placesBelow 3 = .ok (.invokevirtual 59, 3) := by decide +kernel
theorem dX0_placesBelow_6 : decode cX0_placesBelow 6 = .ok (.ireturn, 1) := by decide +kernel
theorem dX0_placesNotAbove_0 : decode cX0_placesNotAbove 0 = .ok (.aload_n 0, 1) := by decide +kernel
theorem dX0_placesNotAbove_1 : decode cX0_placesNotAbove 1 = .ok (.lload_n 1, 1) := by decide +kernel
theorem dX0_placesNotAbove_2 : decode cX0_placesNotAbove 2 = .ok (.sipush 200, 3) := by decide +kernel
theorem dX0_placesNotAbove_5 : decode cX0_placesNotAbove 5 = .ok (.invokevirtual 59, 3) := by decide +kernel
theorem dX0_placesNotAbove_8 : decode cX0_placesNotAbove 8 = .ok (.ireturn, 1) := by decide +kernel
theorem dX0_fairPlaces_0 : decode cX0_fairPlaces 0 = .ok (.aload_n 0, 1) := by decide +kernel
theorem dX0_fairPlaces_1 : decode cX0_fairPlaces 1 = .ok (.aload_n 0, 1) := by decide +kernel
theorem dX0_fairPlaces_2 : decode cX0_fairPlaces 2 = .ok (.getfield 23, 3) := by decide +kernel
theorem dX0_fairPlaces_5 : decode cX0_fairPlaces 5 = .ok (.invokevirtual 78, 3) := by decide +kernel
theorem dX0_fairPlaces_8 : decode cX0_fairPlaces 8 = .ok (.i2l, 1) := by decide +kernel
theorem dX0_fairPlaces_9 : decode cX0_fairPlaces 9 = .ok (.lstore_n 1, 1) := by decide +kernel
theorem dX0_fairPlaces_10 : decode cX0_fairPlaces 10 = .ok (.aload_n 0, 1) := by decide +kernel
theorem dX0_fairPlaces_11 : decode cX0_fairPlaces 11 = .ok (.invokevirtual 82, 3) := by decide +kernel
theorem dX0_fairPlaces_14 : decode cX0_fairPlaces 14 = .ok (.lstore_n 3, 1) := by decide +kernel
theorem dX0_fairPlaces_15 : decode cX0_fairPlaces 15 = .ok (.iconst 0, 1) := by decide +kernel
theorem dX0_fairPlaces_16 : decode cX0_fairPlaces 16 = .ok (.istore 5, 2) := by decide +kernel
theorem dX0_fairPlaces_18 : decode cX0_fairPlaces 18 = .ok (.iload 5, 2) := by decide +kernel
theorem dX0_fairPlaces_20 : decode cX0_fairPlaces 20 = .ok (.aload_n 0, 1) := by decide +kernel
theorem dX0_fairPlaces_21 : decode cX0_fairPlaces 21 = .ok (.getfield 23, 3) := by decide +kernel
theorem dX0_fairPlaces_24 : decode cX0_fairPlaces 24 = .ok (.if_icmp .ge 22, 3) := by decide +kernel
theorem dX0_fairPlaces_27 : decode cX0_fairPlaces 27 = .ok (.aload_n 0, 1) := by decide +kernel
theorem dX0_fairPlaces_28 : decode cX0_fairPlaces 28 = .ok (.iload 5, 2) := by decide +kernel
theorem dX0_fairPlaces_30 : decode cX0_fairPlaces 30 = .ok (.invokevirtual 53, 3) := by decide +kernel
theorem dX0_fairPlaces_33 : decode cX0_fairPlaces 33 = .ok (.lload_n 1, 1) := by decide +kernel
theorem dX0_fairPlaces_34 : decode cX0_fairPlaces 34 = .ok (.lmul, 1) := by decide +kernel
theorem dX0_fairPlaces_35 : decode cX0_fairPlaces 35 = .ok (.lload_n 3, 1) := by decide +kernel
theorem dX0_fairPlaces_36 : decode cX0_fairPlaces 36 = .ok (.lcmp, 1) := by decide +kernel
theorem dX0_fairPlaces_37 : decode cX0_fairPlaces 37 = .ok (.ifCond .gt 9, 3) := by decide +kernel
theorem dX0_fairPlaces_40 : decode cX0_fairPlaces 40 = .ok (.iinc 5 1, 3) := by decide +kernel
theorem dX0_fairPlaces_43 : decode cX0_fairPlaces 43 = .ok (.goto (-25), 3) := by decide +kernel
theorem dX0_fairPlaces_46 : decode cX0_fairPlaces 46 = .ok (.iload 5, 2) := by decide +kernel
theorem dX0_fairPlaces_48 : decode cX0_fairPlaces 48 = .ok (.ireturn, 1) := by decide +kernel
theorem dX0_weightOfFirst_0 : decode cX0_weightOfFirst 0 = .ok (.iconst 0, 1) := by decide +kernel
theorem dX0_weightOfFirst_1 : decode cX0_weightOfFirst 1 = .ok (.istore_n 2, 1) := by decide +kernel
theorem dX0_weightOfFirst_2 : decode cX0_weightOfFirst 2 = .ok (.iconst 0, 1) := by decide +kernel
theorem dX0_weightOfFirst_3 : decode cX0_weightOfFirst 3 = .ok (.istore_n 3, 1) := by decide +kernel
theorem dX0_weightOfFirst_4 : decode cX0_weightOfFirst 4 = .ok (.iload_n 3, 1) := by decide +kernel
theorem dX0_weightOfFirst_5 : decode cX0_weightOfFirst 5 = .ok (.iload_n 1, 1) := by decide +kernel
theorem dX0_weightOfFirst_6 : decode cX0_weightOfFirst 6 = .ok (.if_icmp .ge 23, 3) := by decide +kernel
theorem dX0_weightOfFirst_9 : decode cX0_weightOfFirst 9 = .ok (.iload_n 2, 1) := by decide +kernel
theorem dX0_weightOfFirst_10 : decode cX0_weightOfFirst 10 = .ok (.aload_n 0, 1) := by decide +kernel
theorem dX0_weightOfFirst_11 : decode cX0_weightOfFirst 11 = .ok (.getfield 16, 3) := by decide +kernel
theorem dX0_weightOfFirst_14 : decode cX0_weightOfFirst 14 = .ok (.aload_n 0, 1) := by decide +kernel
theorem dX0_weightOfFirst_15 : decode cX0_weightOfFirst 15 = .ok (.getfield 20, 3) := by decide +kernel
theorem dX0_weightOfFirst_18 : decode cX0_weightOfFirst 18 = .ok (.iload_n 3, 1) := by decide +kernel
theorem dX0_weightOfFirst_19 : decode cX0_weightOfFirst 19 = .ok (.iaload, 1) := by decide +kernel
theorem dX0_weightOfFirst_20 : decode cX0_weightOfFirst 20 = .ok (.iaload, 1) := by decide +kernel
theorem dX0_weightOfFirst_21 : decode cX0_weightOfFirst 21 = .ok (.iadd, 1) := by decide +kernel
theorem dX0_weightOfFirst_22 : decode cX0_weightOfFirst 22 = .ok (.istore_n 2, 1) := by decide +kernel
theorem dX0_weightOfFirst_23 : decode cX0_weightOfFirst 23 = .ok (.iinc 3 1, 3) := by decide +kernel
theorem dX0_weightOfFirst_26 : decode cX0_weightOfFirst 26 = .ok (.goto (-22), 3) := by decide +kernel
theorem dX0_weightOfFirst_29 : decode cX0_weightOfFirst 29 = .ok (.iload_n 2, 1) := by decide +kernel
theorem dX0_weightOfFirst_30 : decode cX0_weightOfFirst 30 = .ok (.ireturn, 1) := by decide +kernel
theorem dX0_sumOfKeysTimesWeights_0 : decode cX0_sumOfKeysTimesWeights 0 = .ok (.lconst 0, 1) := by decide +kernel
theorem dX0_sumOfKeysTimesWeights_1 : decode cX0_sumOfKeysTimesWeights 1 = .ok (.lstore_n 1, 1) := by decide +kernel
theorem dX0_sumOfKeysTimesWeights_2 : decode cX0_sumOfKeysTimesWeights 2 = .ok (.iconst 0, 1) := by decide +kernel
theorem dX0_sumOfKeysTimesWeights_3 : decode cX0_sumOfKeysTimesWeights 3 = .ok (.istore_n 3, 1) := by decide +kernel
theorem dX0_sumOfKeysTimesWeights_4 : decode cX0_sumOfKeysTimesWeights 4 = .ok (.iload_n 3, 1) := by decide +kernel
theorem dX0_sumOfKeysTimesWeights_5 : decode cX0_sumOfKeysTimesWeights 5 = .ok (.aload_n 0, 1) := by decide +kernel
theorem dX0_sumOfKeysTimesWeights_6 : decode cX0_sumOfKeysTimesWeights 6 = .ok (.getfield 23, 3) := by decide +kernel
theorem dX0_sumOfKeysTimesWeights_9 : decode cX0_sumOfKeysTimesWeights 9 = .ok (.if_icmp .ge 30, 3) := by decide +kernel
theorem dX0_sumOfKeysTimesWeights_12 : decode cX0_sumOfKeysTimesWeights 12 = .ok (.lload_n 1, 1) := by decide +kernel
theorem dX0_sumOfKeysTimesWeights_13 : decode cX0_sumOfKeysTimesWeights 13 = .ok (.aload_n 0, 1) := by decide +kernel
theorem dX0_sumOfKeysTimesWeights_14 : decode cX0_sumOfKeysTimesWeights 14 = .ok (.iload_n 3, 1) := by decide +kernel
theorem dX0_sumOfKeysTimesWeights_15 : decode cX0_sumOfKeysTimesWeights 15 = .ok (.invokevirtual 53, 3) := by decide +kernel
theorem dX0_sumOfKeysTimesWeights_18 : decode cX0_sumOfKeysTimesWeights 18 = .ok (.aload_n 0, 1) := by decide +kernel
theorem dX0_sumOfKeysTimesWeights_19 : decode cX0_sumOfKeysTimesWeights 19 = .ok (.getfield 16, 3) := by decide +kernel
theorem dX0_sumOfKeysTimesWeights_22 : decode cX0_sumOfKeysTimesWeights 22 = .ok (.aload_n 0, 1) := by decide +kernel
theorem dX0_sumOfKeysTimesWeights_23 : decode cX0_sumOfKeysTimesWeights 23 = .ok (.getfield 20, 3) := by decide +kernel
theorem dX0_sumOfKeysTimesWeights_26 : decode cX0_sumOfKeysTimesWeights 26 = .ok (.iload_n 3, 1) := by decide +kernel
theorem dX0_sumOfKeysTimesWeights_27 : decode cX0_sumOfKeysTimesWeights 27 = .ok (.iaload, 1) := by decide +kernel
theorem dX0_sumOfKeysTimesWeights_28 : decode cX0_sumOfKeysTimesWeights 28 = .ok (.iaload, 1) := by decide +kernel
theorem dX0_sumOfKeysTimesWeights_29 : decode cX0_sumOfKeysTimesWeights 29 = .ok (.i2l, 1) := by decide +kernel
theorem dX0_sumOfKeysTimesWeights_30 : decode cX0_sumOfKeysTimesWeights 30 = .ok (.lmul, 1) := by decide +kernel
theorem dX0_sumOfKeysTimesWeights_31 : decode cX0_sumOfKeysTimesWeights 31 = .ok (.ladd, 1) := by decide +kernel
theorem dX0_sumOfKeysTimesWeights_32 : decode cX0_sumOfKeysTimesWeights 32 = .ok (.lstore_n 1, 1) := by decide +kernel
theorem dX0_sumOfKeysTimesWeights_33 : decode cX0_sumOfKeysTimesWeights 33 = .ok (.iinc 3 1, 3) := by decide +kernel
theorem dX0_sumOfKeysTimesWeights_36 : decode cX0_sumOfKeysTimesWeights 36 = .ok (.goto (-32), 3) := by decide +kernel
theorem dX0_sumOfKeysTimesWeights_39 : decode cX0_sumOfKeysTimesWeights 39 = .ok (.lload_n 1, 1) := by decide +kernel
theorem dX0_sumOfKeysTimesWeights_40 : decode cX0_sumOfKeysTimesWeights 40 = .ok (.lreturn, 1) := by decide +kernel
theorem dX0_earliestOfPlaces_0 : decode cX0_earliestOfPlaces 0 = .ok (.iload_n 1, 1) := by decide +kernel
theorem dX0_earliestOfPlaces_1 : decode cX0_earliestOfPlaces 1 = .ok (.iload_n 2, 1) := by decide +kernel
theorem dX0_earliestOfPlaces_2 : decode cX0_earliestOfPlaces 2 = .ok (.if_icmp .lt 11, 3) := by decide +kernel
theorem dX0_earliestOfPlaces_5 : decode cX0_earliestOfPlaces 5 = .ok (.new 48, 3) := by decide +kernel
theorem dX0_earliestOfPlaces_8 : decode cX0_earliestOfPlaces 8 = .ok (.dup, 1) := by decide +kernel
theorem dX0_earliestOfPlaces_9 : decode cX0_earliestOfPlaces 9 = .ok (.invokespecial 50, 3) := by decide +kernel
theorem dX0_earliestOfPlaces_12 : decode cX0_earliestOfPlaces 12 = .ok (.athrow, 1) := by decide +kernel
theorem dX0_earliestOfPlaces_13 : decode cX0_earliestOfPlaces 13 = .ok (.aload_n 0, 1) := by decide +kernel
theorem dX0_earliestOfPlaces_14 : decode cX0_earliestOfPlaces 14 = .ok (.getfield 20, 3) := by decide +kernel
theorem dX0_earliestOfPlaces_17 : decode cX0_earliestOfPlaces 17 = .ok (.iload_n 1, 1) := by decide +kernel
theorem dX0_earliestOfPlaces_18 : decode cX0_earliestOfPlaces 18 = .ok (.iaload, 1) := by decide +kernel
theorem dX0_earliestOfPlaces_19 : decode cX0_earliestOfPlaces 19 = .ok (.istore_n 3, 1) := by decide +kernel
theorem dX0_earliestOfPlaces_20 : decode cX0_earliestOfPlaces 20 = .ok (.iload_n 1, 1) := by decide +kernel
theorem dX0_earliestOfPlaces_21 : decode cX0_earliestOfPlaces 21 = .ok (.iconst 1, 1) := by decide +kernel
theorem dX0_earliestOfPlaces_22 : decode cX0_earliestOfPlaces 22 = .ok (.iadd, 1) := by decide +kernel
theorem dX0_earliestOfPlaces_23 : decode cX0_earliestOfPlaces 23 = .ok (.istore 4, 2) := by decide +kernel
theorem dX0_earliestOfPlaces_25 : decode cX0_earliestOfPlaces 25 = .ok (.iload 4, 2) := by decide +kernel
theorem dX0_earliestOfPlaces_27 : decode cX0_earliestOfPlaces 27 = .ok (.iload_n 2, 1) := by decide +kernel
theorem dX0_earliestOfPlaces_28 : decode cX0_earliestOfPlaces 28 = .ok (.if_icmp .ge 32, 3) := by decide +kernel
theorem dX0_earliestOfPlaces_31 : decode cX0_earliestOfPlaces 31 = .ok (.aload_n 0, 1) := by decide +kernel
theorem dX0_earliestOfPlaces_32 : decode cX0_earliestOfPlaces 32 = .ok (.aload_n 0, 1) := by decide +kernel
theorem dX0_earliestOfPlaces_33 : decode cX0_earliestOfPlaces 33 = .ok (.getfield 20, 3) := by decide +kernel
theorem dX0_earliestOfPlaces_36 : decode cX0_earliestOfPlaces 36 = .ok (.iload 4, 2) := by decide +kernel
theorem dX0_earliestOfPlaces_38 : decode cX0_earliestOfPlaces 38 = .ok (.iaload, 1) := by decide +kernel
theorem dX0_earliestOfPlaces_39 : decode cX0_earliestOfPlaces 39 = .ok (.iload_n 3, 1) := by decide +kernel
theorem dX0_earliestOfPlaces_40 : decode cX0_earliestOfPlaces 40 = .ok (.invokevirtual 104, 3) := by decide +kernel
theorem dX0_earliestOfPlaces_43 : decode cX0_earliestOfPlaces 43 = .ok (.ifCond .eq 11, 3) := by decide +kernel
theorem dX0_earliestOfPlaces_46 : decode cX0_earliestOfPlaces 46 = .ok (.aload_n 0, 1) := by decide +kernel
theorem dX0_earliestOfPlaces_47 : decode cX0_earliestOfPlaces 47 = .ok (.getfield 20, 3) := by decide +kernel
theorem dX0_earliestOfPlaces_50 : decode cX0_earliestOfPlaces 50 = .ok (.iload 4, 2) := by decide +kernel
theorem dX0_earliestOfPlaces_52 : decode cX0_earliestOfPlaces 52 = .ok (.iaload, 1) := by decide +kernel
theorem dX0_earliestOfPlaces_53 : decode cX0_earliestOfPlaces 53 = .ok (.istore_n 3, 1) := by decide +kernel
theorem dX0_earliestOfPlaces_54 : decode cX0_earliestOfPlaces 54 = .ok (.iinc 4 1, 3) := by decide +kernel
theorem dX0_earliestOfPlaces_57 : decode cX0_earliestOfPlaces 57 = .ok (.goto (-32), 3) := by decide +kernel
theorem dX0_earliestOfPlaces_60 : decode cX0_earliestOfPlaces 60 = .ok (.iload_n 3, 1) := by decide +kernel
theorem dX0_earliestOfPlaces_61 : decode cX0_earliestOfPlaces 61 = .ok (.ireturn, 1) := by decide +kernel
theorem dX0_isEarlier_0 : decode cX0_isEarlier 0 = .ok (.aload_n 0, 1) := by decide +kernel
theorem dX0_isEarlier_1 : decode cX0_isEarlier 1 = .ok (.getfield 13, 3) := by decide +kernel
theorem dX0_isEarlier_4 : decode cX0_isEarlier 4 = .ok (.iload_n 1, 1) := by decide +kernel
theorem dX0_isEarlier_5 : decode cX0_isEarlier 5 = .ok (.laload, 1) := by decide +kernel
theorem dX0_isEarlier_6 : decode cX0_isEarlier 6 = .ok (.aload_n 0, 1) := by decide +kernel
theorem dX0_isEarlier_7 : decode cX0_isEarlier 7 = .ok (.getfield 13, 3) := by decide +kernel
theorem dX0_isEarlier_10 : decode cX0_isEarlier 10 = .ok (.iload_n 2, 1) := by decide +kernel
theorem dX0_isEarlier_11 : decode cX0_isEarlier 11 = .ok (.laload, 1) := by decide +kernel
theorem dX0_isEarlier_12 : decode cX0_isEarlier 12 = .ok (.lcmp, 1) := by decide +kernel
theorem dX0_isEarlier_13 : decode cX0_isEarlier 13 = .ok (.ifCond .lt 24, 3) := by decide +kernel
theorem dX0_isEarlier_16 : decode cX0_isEarlier 16 = .ok (.aload_n 0, 1) := by decide +kernel
theorem dX0_isEarlier_17 : decode cX0_isEarlier 17 = .ok (.getfield 13, 3) := by decide +kernel
theorem dX0_isEarlier_20 : decode cX0_isEarlier 20 = .ok (.iload_n 1, 1) := by decide +kernel
theorem dX0_isEarlier_21 : decode cX0_isEarlier 21 = .ok (.laload, 1) := by decide +kernel
theorem dX0_isEarlier_22 : decode cX0_isEarlier 22 = .ok (.aload_n 0, 1) := by decide +kernel
theorem dX0_isEarlier_23 : decode cX0_isEarlier 23 = .ok (.getfield 13, 3) := by decide +kernel
theorem dX0_isEarlier_26 : decode cX0_isEarlier 26 = .ok (.iload_n 2, 1) := by decide +kernel
theorem dX0_isEarlier_27 : decode cX0_isEarlier 27 = .ok (.laload, 1) := by decide +kernel
theorem dX0_isEarlier_28 : decode cX0_isEarlier 28 = .ok (.lcmp, 1) := by decide +kernel
theorem dX0_isEarlier_29 : decode cX0_isEarlier 29 = .ok (.ifCond .ne 12, 3) := by decide +kernel
theorem dX0_isEarlier_32 : decode cX0_isEarlier 32 = .ok (.iload_n 1, 1) := by decide +kernel
theorem dX0_isEarlier_33 : decode cX0_isEarlier 33 = .ok (.iload_n 2, 1) := by decide +kernel
theorem dX0_isEarlier_34 : decode cX0_isEarlier 34 = .ok (.if_icmp .ge 7, 3) := by decide +kernel
theorem dX0_isEarlier_37 : decode cX0_isEarlier 37 = .ok (.iconst 1, 1) := by decide +kernel
theorem dX0_isEarlier_38 : decode cX0_isEarlier 38 = .ok (.goto 4, 3) := by decide +kernel
theorem dX0_isEarlier_41 : decode cX0_isEarlier 41 = .ok (.iconst 0, 1) := by decide +kernel
theorem dX0_isEarlier_42 : decode cX0_isEarlier 42 = .ok (.ireturn, 1) := by decide +kernel
theorem dX0_insertItem_0 : decode cX0_insertItem 0 = .ok (.aload_n 0, 1) := by decide +kernel
theorem dX0_insertItem_1 : decode cX0_insertItem 1 = .ok (.aload_n 0, 1) := by decide +kernel
theorem dX0_insertItem_2 : decode cX0_insertItem 2 = .ok (.getfield 9, 3) := by decide +kernel
theorem dX0_insertItem_5 : decode cX0_insertItem 5 = .ok (.iload_n 1, 1) := by decide +kernel
theorem dX0_insertItem_6 : decode cX0_insertItem 6 = .ok (.laload, 1) := by decide +kernel
theorem dX0_insertItem_7 : decode cX0_insertItem 7 = .ok (.iload_n 1, 1) := by decide +kernel
theorem dX0_insertItem_8 : decode cX0_insertItem 8 = .ok (.invokevirtual 59, 3) := by decide +kernel
theorem dX0_insertItem_11 : decode cX0_insertItem 11 = .ok (.istore_n 2, 1) := by decide +kernel
theorem dX0_insertItem_12 : decode cX0_insertItem 12 = .ok (.aload_n 0, 1) := by decide +kernel
theorem dX0_insertItem_13 : decode cX0_insertItem 13 = .ok (.getfield 20, 3) := by decide +kernel
theorem dX0_insertItem_16 : decode cX0_insertItem 16 = .ok (.iload_n 2, 1) := by decide +kernel
theorem dX0_insertItem_17 : decode cX0_insertItem 17 = .ok (.aload_n 0, 1) := by decide +kernel
theorem dX0_insertItem_18 : decode cX0_insertItem 18 = .ok (.getfield 20, 3) := by decide +kernel
theorem dX0_insertItem_21 : decode cX0_insertItem 21 = .ok (.iload_n 2, 1) := by decide +kernel
theorem dX0_insertItem_22 : decode cX0_insertItem 22 = .ok (.iconst 1, 1) := by decide +kernel
theorem dX0_insertItem_23 : decode cX0_insertItem 23 = .ok (.iadd, 1) := by decide +kernel
theorem dX0_insertItem_24 : decode cX0_insertItem 24 = .ok (.aload_n 0, 1) := by decide +kernel
theorem dX0_insertItem_25 : decode cX0_insertItem 25 = .ok (.getfield 23, 3) := by decide +kernel
theorem dX0_insertItem_28 : decode cX0_insertItem 28 = .ok (.iload_n 2, 1) := by decide +kernel
theorem dX0_insertItem_29 : decode cX0_insertItem 29 = .ok (.isub, 1) := by decide +kernel
theorem dX0_insertItem_30 : decode cX0_insertItem 30 = .ok (.invokestatic 108, 3) := by decide +kernel
theorem dX0_insertItem_33 : decode cX0_insertItem 33 = .ok (.aload_n 0, 1) := by decide +kernel
theorem dX0_insertItem_34 : decode cX0_insertItem 34 = .ok (.getfield 20, 3) := by decide +kernel
theorem dX0_insertItem_37 : decode cX0_insertItem 37 = .ok (.iload_n 2, 1) := by decide +kernel
theorem dX0_insertItem_38 : decode cX0_insertItem 38 = .ok (.iload_n 1, 1) := by decide +kernel
theorem dX0_insertItem_39 : decode cX0_insertItem 39 = .ok (.iastore, 1) := by decide +kernel
theorem dX0_insertItem_40 : decode cX0_insertItem 40 = .ok (.aload_n 0, 1) := by decide +kernel
theorem dX0_insertItem_41 : decode cX0_insertItem 41 = .ok (.dup, 1) := by decide +kernel
theorem dX0_insertItem_42 : decode cX0_insertItem 42 = .ok (.getfield 23, 3) := by decide +kernel
theorem dX0_insertItem_45 : decode cX0_insertItem 45 = .ok (.iconst 1, 1) := by decide +kernel
theorem dX0_insertItem_46 : decode cX0_insertItem 46 = .ok (.iadd, 1) := by decide +kernel
theorem dX0_insertItem_47 : decode cX0_insertItem 47 = .ok (.putfield 23, 3) := by decide +kernel
theorem dX0_insertItem_50 : decode cX0_insertItem 50 = .ok (.return_, 1) := by decide +kernel
theorem dX0_removeItem_0 : decode cX0_removeItem 0 = .ok (.aload_n 0, 1) := by decide +kernel
theorem dX0_removeItem_1 : decode cX0_removeItem 1 = .ok (.aload_n 0, 1) := by decide +kernel
theorem dX0_removeItem_2 : decode cX0_removeItem 2 = .ok (.getfield 9, 3) := by decide +kernel
theorem dX0_removeItem_5 : decode cX0_removeItem 5 = .ok (.iload_n 1, 1) := by decide +kernel
theorem dX0_removeItem_6 : decode cX0_removeItem 6 = .ok (.laload, 1) := by decide +kernel
theorem dX0_removeItem_7 : decode cX0_removeItem 7 = .ok (.iload_n 1, 1) := by decide +kernel
theorem dX0_removeItem_8 : decode cX0_removeItem 8 = .ok (.invokevirtual 59, 3) := by decide +kernel
theorem dX0_removeItem_11 : decode cX0_removeItem 11 = .ok (.istore_n 2, 1) := by decide +kernel
theorem dX0_removeItem_12 : decode cX0_removeItem 12 = .ok (.aload_n 0, 1) := by decide +kernel
theorem dX0_removeItem_13 : decode cX0_removeItem 13 = .ok (.iload_n 2, 1) := by decide +kernel
theorem dX0_removeItem_14 : decode cX0_removeItem 14 = .ok (.iload_n 2, 1) := by decide +kernel
theorem dX0_removeItem_15 : decode cX0_removeItem 15 = .ok (.iconst 1, 1) := by decide +kernel
theorem dX0_removeItem_16 : decode cX0_removeItem 16 = .ok (.iadd, 1) := by decide +kernel
theorem dX0_removeItem_17 : decode cX0_removeItem 17 = .ok (.invokevirtual 92, 3) := by decide +kernel
theorem dX0_removeItem_20 : decode cX0_removeItem 20 = .ok (.return_, 1) := by decide +kernel
theorem dX0_removePlaces_0 : decode cX0_removePlaces 0 = .ok (.iload_n 1, 1) := by decide +kernel
theorem dX0_removePlaces_1 : decode cX0_removePlaces 1 = .ok (.istore_n 3, 1) := by decide +kernel
theorem dX0_removePlaces_2 : decode cX0_removePlaces 2 = .ok (.iload_n 3, 1) := by decide +kernel
theorem dX0_removePlaces_3 : decode cX0_removePlaces 3 = .ok (.iload_n 2, 1) := by decide +kernel
theorem dX0_removePlaces_4 : decode cX0_removePlaces 4 = .ok (.if_icmp .ge 21, 3) := by decide +kernel
theorem dX0_removePlaces_7 : decode cX0_removePlaces 7 = .ok (.aload_n 0, 1) := by decide +kernel
theorem dX0_removePlaces_8 : decode cX0_removePlaces 8 = .ok (.getfield 16, 3) := by decide +kernel
theorem dX0_removePlaces_11 : decode cX0_removePlaces 11 = .ok (.aload_n 0, 1) := by decide +kernel
theorem dX0_removePlaces_12 : decode cX0_removePlaces 12 = .ok (.getfield 20, 3) := by decide +kernel
theorem dX0_removePlaces_15 : decode cX0_removePlaces 15 = .ok (.iload_n 3, 1) := by decide +kernel
theorem dX0_removePlaces_16 : decode cX0_removePlaces 16 = .ok (.iaload, 1) := by decide +kernel
theorem dX0_removePlaces_17 : decode cX0_removePlaces 17 = .ok (.iconst 0, 1) := by decide +kernel
theorem dX0_removePlaces_18 : decode cX0_removePlaces 18 = .ok (.iastore, 1) := by decide +kernel
theorem dX0_removePlaces_19 : decode cX0_removePlaces 19 = .ok (.iinc 3 1, 3) := by decide +kernel
theorem dX0_removePlaces_22 : decode cX0_removePlaces 22 = .ok (.goto (-20), 3) := by decide +kernel
theorem dX0_removePlaces_25 : decode cX0_removePlaces 25 = .ok (.aload_n 0, 1) := by decide +kernel
theorem dX0_removePlaces_26 : decode cX0_removePlaces 26 = .ok (.getfield 20, 3) := by decide +kernel
theorem dX0_removePlaces_29 : decode cX0_removePlaces 29 = .ok (.iload_n 2, 1) := by decide +kernel
theorem dX0_removePlaces_30 : decode cX0_removePlaces 30 = .ok (.aload_n 0, 1) := by decide +kernel
theorem dX0_removePlaces_31 : decode cX0_removePlaces 31 = .ok (.getfield 20, 3) := by decide +kernel
theorem dX0_removePlaces_34 : decode cX0_removePlaces 34 = .ok (.iload_n 1, 1) := by decide +kernel
theorem dX0_removePlaces_35 : decode cX0_removePlaces 35 = .ok (.aload_n 0, 1) := by decide +kernel
theorem dX0_removePlaces_36 : decode cX0_removePlaces 36 = .ok (.getfield 23, 3) := by decide +kernel
theorem dX0_removePlaces_39 : decode cX0_removePlaces 39 = .ok (.iload_n 2, 1) := by decide +kernel
theorem dX0_removePlaces_40 : decode cX0_removePlaces 40 = .ok (.isub, 1) := by decide +kernel
theorem dX0_removePlaces_41 : decode cX0_removePlaces 41 = .ok (.invokestatic 108, 3) := by decide +kernel
theorem dX0_removePlaces_44 : decode cX0_removePlaces 44 = .ok (.aload_n 0, 1) := by decide +kernel
theorem dX0_removePlaces_45 : decode cX0_removePlaces 45 = .ok (.dup, 1) := by decide +kernel
theorem dX0_removePlaces_46 : decode cX0_removePlaces 46 = .ok (.getfield 23, 3) := by decide +kernel
theorem dX0_removePlaces_49 : decode cX0_removePlaces 49 = .ok (.iload_n 2, 1) := by decide +kernel
theorem dX0_removePlaces_50 : decode cX0_removePlaces 50 = .ok (.iload_n 1, 1) := by decide +kernel
theorem dX0_removePlaces_51 : decode cX0_removePlaces 51 = .ok (.isub, 1) := by decide +kernel
theorem dX0_removePlaces_52 : decode cX0_removePlaces 52 = .ok (.isub, 1) := by decide +kernel
theorem dX0_removePlaces_53 : decode cX0_removePlaces 53 = .ok (.putfield 23, 3) := by decide +kernel
theorem dX0_removePlaces_56 : decode cX0_removePlaces 56 = .ok (.return_, 1) := by decide +kernel
