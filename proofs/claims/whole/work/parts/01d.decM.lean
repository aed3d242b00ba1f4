theorem dX1_init_0 : decode cX1_init 0 = .ok (.aload_n 0, 1) := by decide +kernel
theorem dX1_init_1 : decode cX1_init 1 = .ok (.invokespecial 1, 3) := by decide +kernel
theorem dX1_init_4 : decode cX1_init 4 = .ok (.aload_n 0, 1) := by decide +kernel
theorem dX1_init_5 : decode cX1_init 5 = .ok (.sipush 200, 3) := by decide +kernel
theorem dX1_init_8 : decode cX1_init 8 = .ok (.newarray .boolean, 2) := by decide +kernel
theorem dX1_init_10 : decode cX1_init 10 = .ok (.putfield 9, 3) := by decide +kernel
theorem dX1_init_13 : decode cX1_init 13 = .ok (.aload_n 0, 1) := by decide +kernel
theorem dX1_init_14 : decode cX1_init 14 = .ok (.sipush 200, 3) := by decide +kernel
theorem dX1_init_17 : decode cX1_init 17 = .ok (.newarray .long, 2) := by decide +kernel
theorem dX1_init_19 : decode cX1_init 19 = .ok (.putfield 13, 3) := by decide +kernel
theorem dX1_init_22 : decode cX1_init 22 = .ok (.aload_n 0, 1) := by decide +kernel
theorem dX1_init_23 : decode cX1_init 23 = .ok (.sipush 200, 3) := by decide +kernel
theorem dX1_init_26 : decode cX1_init 26 = .ok (.newarray .long, 2) := by decide +kernel
theorem dX1_init_28 : decode cX1_init 28 = .ok (.putfield 17, 3) := by decide +kernel
theorem dX1_init_31 : decode cX1_init 31 = .ok (.aload_n 0, 1) := by decide +kernel
theorem dX1_init_32 : decode cX1_init 32 = .ok (.sipush 200, 3) := by decide +kernel
theorem dX1_init_35 : decode cX1_init 35 = .ok (.newarray .int, 2) := by decide +kernel
theorem dX1_init_37 : decode cX1_init 37 = .ok (.putfield 20, 3) := by decide +kernel
theorem dX1_init_40 : decode cX1_init 40 = .ok (.return_, 1) := by decide +kernel
theorem dX1_thrown_0 : decode cX1_thrown 0 = .ok (.aload_n 0, 1) := by decide +kernel
theorem dX1_thrown_1 : decode cX1_thrown 1 = .ok (.getfield 24, 3) := by decide +kernel
theorem dX1_thrown_4 : decode cX1_thrown 4 = .ok (.ireturn, 1) := by decide +kernel
theorem dX1_fail_0 : decode cX1_fail 0 = .ok (.aload_n 0, 1) := by decide +kernel
theorem dX1_fail_1 : decode cX1_fail 1 = .ok (.iload_n 1, 1) := by decide +kernel
theorem dX1_fail_2 : decode cX1_fail 2 = .ok (.putfield 24, 3) := by decide +kernel
theorem dX1_fail_5 : decode cX1_fail 5 = .ok (.iconst 0, 1) := by decide +kernel
theorem dX1_fail_6 : decode cX1_fail 6 = .ok (.ireturn, 1) := by decide +kernel
theorem dX1_no_0 : decode cX1_no 0 = .ok (.aload_n 0, 1) := by decide +kernel
theorem dX1_no_1 : decode cX1_no 1 = .ok (.iload_n 1, 1) := by decide +kernel
theorem dX1_no_2 : decode cX1_no 2 = .ok (.ifCond .lt 19, 3) := by decide +kernel
theorem dX1_no_5 : decode cX1_no 5 = .ok (.iload_n 1, 1) := by decide +kernel
theorem dX1_no_6 : decode cX1_no 6 = .ok (.sipush 200, 3) := by decide +kernel
theorem dX1_no_9 : decode cX1_no 9 = .ok (.if_icmp .ge 12, 3) := by decide +kernel
theorem dX1_no_12 : decode cX1_no 12 = .ok (.aload_n 0, 1) := by decide +kernel
theorem dX1_no_13 : decode cX1_no 13 = .ok (.getfield 9, 3) := by decide +kernel
theorem dX1_no_16 : decode cX1_no 16 = .ok (.iload_n 1, 1) := by decide +kernel
theorem dX1_no_17 : decode cX1_no 17 = .ok (.baload, 1) := by decide +kernel
theorem dX1_no_18 : decode cX1_no 18 = .ok (.ifCond .ne 7, 3) := by decide +kernel
theorem dX1_no_21 : decode cX1_no 21 = .ok (.iconst 1, 1) := by decide +kernel
theorem dX1_no_22 : decode cX1_no 22 = .ok (.goto 4, 3) := by decide +kernel
theorem dX1_no_25 : decode cX1_no 25 = .ok (.iconst 0, 1) := by decide +kernel
theorem dX1_no_26 : decode cX1_no 26 = .ok (.putfield 24, 3) := by decide +kernel
theorem dX1_no_29 : decode cX1_no 29 = .ok (.aload_n 0, 1) := by decide +kernel
theorem dX1_no_30 : decode cX1_no 30 = .ok (.getfield 24, 3) := by decide +kernel
theorem dX1_no_33 : decode cX1_no 33 = .ok (.ifCond .le 7, 3) := by decide +kernel
theorem dX1_no_36 : decode cX1_no 36 = .ok (.iconst 1, 1) := by decide +kernel
theorem dX1_no_37 : decode cX1_no 37 = .ok (.goto 4, 3) := by decide +kernel
theorem dX1_no_40 : decode cX1_no 40 = .ok (.iconst 0, 1) := by decide +kernel
theorem dX1_no_41 : decode cX1_no 41 = .ok (.ireturn, 1) := by decide +kernel
theorem dX1_many_0 : decode cX1_many 0 = .ok (.iconst 0, 1) := by decide +kernel
theorem dX1_many_1 : decode cX1_many 1 = .ok (.istore_n 1, 1) := by decide +kernel
theorem dX1_many_2 : decode cX1_many 2 = .ok (.iconst 0, 1) := by decide +kernel
theorem dX1_many_3 : decode cX1_many 3 = .ok (.istore_n 2, 1) := by decide +kernel
theorem dX1_many_4 : decode cX1_many 4 = .ok (.iload_n 2, 1) := by decide +kernel
theorem dX1_many_5 : decode cX1_many 5 = .ok (.sipush 200, 3) := by decide +kernel
theorem dX1_many_8 : decode cX1_many 8 = .ok (.if_icmp .ge 21, 3) := by decide +kernel
theorem dX1_many_11 : decode cX1_many 11 = .ok (.aload_n 0, 1) := by decide +kernel
theorem dX1_many_12 : decode cX1_many 12 = .ok (.getfield 9, 3) := by decide +kernel
theorem dX1_many_15 : decode cX1_many 15 = .ok (.iload_n 2, 1) := by decide +kernel
theorem dX1_many_16 : decode cX1_many 16 = .ok (.baload, 1) := by decide +kernel
theorem dX1_many_17 : decode cX1_many 17 = .ok (.ifCond .eq 6, 3) := by decide +kernel
theorem dX1_many_20 : decode cX1_many 20 = .ok (.iinc 1 1, 3) := by decide +kernel
theorem dX1_many_23 : decode cX1_many 23 = .ok (.iinc 2 1, 3) := by decide +kernel
theorem dX1_many_26 : decode cX1_many 26 = .ok (.goto (-22), 3) := by decide +kernel
theorem dX1_many_29 : decode cX1_many 29 = .ok (.iload_n 1, 1) := by decide +kernel
theorem dX1_many_30 : decode cX1_many 30 = .ok (.ireturn, 1) := by decide +kernel
theorem dX1_put_0 : decode cX1_put 0 = .ok (.aload_n 0, 1) := by decide +kernel
theorem dX1_put_1 : decode cX1_put 1 = .ok (.iload_n 1, 1) := by decide +kernel
theorem dX1_put_2 : decode cX1_put 2 = .ok (.ifCond .lt 40, 3) := by decide +kernel
theorem dX1_put_5 : decode cX1_put 5 = .ok (.iload_n 1, 1) := by decide +kernel
theorem dX1_put_6 : decode cX1_put 6 = .ok (.sipush 200, 3) := by decide +kernel
theorem dX1_put_9 : decode cX1_put 9 = .ok (.if_icmp .ge 33, 3) := by decide +kernel
theorem dX1_put_12 : decode cX1_put 12 = .ok (.lload_n 2, 1) := by decide +kernel
theorem dX1_put_13 : decode cX1_put 13 = .ok (.ldc2_w 28, 3) := by decide +kernel
theorem dX1_put_16 : decode cX1_put 16 = .ok (.lcmp, 1) := by decide +kernel
theorem dX1_put_17 : decode cX1_put 17 = .ok (.ifCond .lt 25, 3) := by decide +kernel
theorem dX1_put_20 : decode cX1_put 20 = .ok (.lload_n 2, 1) := by decide +kernel
theorem dX1_put_21 : decode cX1_put 21 = .ok (.ldc2_w 30, 3) := by decide +kernel
theorem dX1_put_24 : decode cX1_put 24 = .ok (.lcmp, 1) := by decide +kernel
theorem dX1_put_25 : decode cX1_put 25 = .ok (.ifCond .gt 17, 3) := by decide +kernel
theorem dX1_put_28 : decode cX1_put 28 = .ok (.iload 6, 2) := by decide +kernel
theorem dX1_put_30 : decode cX1_put 30 = .ok (.iconst 1, 1) := by decide +kernel
theorem dX1_put_31 : decode cX1_put 31 = .ok (.if_icmp .lt 11, 3) := by decide +kernel
theorem dX1_put_34 : decode cX1_put 34 = .ok (.iload 6, 2) := by decide +kernel
theorem dX1_put_36 : decode cX1_put 36 = .ok (.sipush 1000, 3) := by decide +kernel
theorem dX1_put_39 : decode cX1_put 39 = .ok (.if_icmp .le 7, 3) := by decide +kernel
theorem dX1_put_42 : decode cX1_put 42 = .ok (.iconst 1, 1) := by decide +kernel
theorem dX1_put_43 : decode cX1_put 43 = .ok (.goto 4, 3) := by decide +kernel
theorem dX1_put_46 : decode cX1_put 46 = .ok (.iconst 0, 1) := by decide +kernel
theorem dX1_put_47 : decode cX1_put 47 = .ok (.putfield 24, 3) := by decide +kernel
theorem dX1_put_50 : decode cX1_put 50 = .ok (.aload_n 0, 1) := by decide +kernel
theorem dX1_put_51 : decode cX1_put 51 = .ok (.getfield 24, 3) := by decide +kernel
theorem dX1_put_54 : decode cX1_put 54 = .ok (.ifCond .le 5, 3) := by decide +kernel
theorem dX1_put_57 : decode cX1_put 57 = .ok (.iconst 0, 1) := by decide +kernel
theorem dX1_put_58 : decode cX1_put 58 = .ok (.ireturn, 1) := by decide +kernel
theorem dX1_put_59 : decode cX1_put 59 = .ok (.aload_n 0, 1) := by decide +kernel
theorem dX1_put_60 : decode cX1_put 60 = .ok (.getfield 9, 3) := by decide +kernel
theorem dX1_put_63 : decode cX1_put 63 = .ok (.iload_n 1, 1) := by decide +kernel
theorem dX1_put_64 : decode cX1_put 64 = .ok (.iconst 1, 1) := by decide +kernel
theorem dX1_put_65 : decode cX1_put 65 = .ok (.bastore, 1) := by decide +kernel
theorem dX1_put_66 : decode cX1_put 66 = .ok (.aload_n 0, 1) := by decide +kernel
theorem dX1_put_67 : decode cX1_put 67 = .ok (.getfield 13, 3) := by decide +kernel
theorem dX1_put_70 : decode cX1_put 70 = .ok (.iload_n 1, 1) := by decide +kernel
theorem dX1_put_71 : decode cX1_put 71 = .ok (.lload_n 2, 1) := by decide +kernel
theorem dX1_put_72 : decode cX1_put 72 = .ok (.lastore, 1) := by decide +kernel
theorem dX1_put_73 : decode cX1_put 73 = .ok (.aload_n 0, 1) := by decide +kernel
theorem dX1_put_74 : decode cX1_put 74 = .ok (.getfield 17, 3) := by decide +kernel
theorem dX1_put_77 : decode cX1_put 77 = .ok (.iload_n 1, 1) := by decide +kernel
theorem dX1_put_78 : decode cX1_put 78 = .ok (.lload 4, 2) := by decide +kernel
theorem dX1_put_80 : decode cX1_put 80 = .ok (.lastore, 1) := by decide +kernel
theorem dX1_put_81 : decode cX1_put 81 = .ok (.aload_n 0, 1) := by decide +kernel
theorem dX1_put_82 : decode cX1_put 82 = .ok (.getfield 20, 3) := by decide +kernel
theorem dX1_put_85 : decode cX1_put 85 = .ok (.iload_n 1, 1) := by decide +kernel
theorem dX1_put_86 : decode cX1_put 86 = .ok (.iload 6, 2) := by decide +kernel
theorem dX1_put_88 : decode cX1_put 88 = .ok (.iastore, 1) := by decide +kernel
theorem dX1_put_89 : decode cX1_put 89 = .ok (.aload_n 0, 1) := by decide +kernel
theorem dX1_put_90 : decode cX1_put 90 = .ok (.invokevirtual 32, 3) := by decide +kernel
theorem dX1_put_93 : decode cX1_put 93 = .ok (.ireturn, 1) := by decide +kernel
theorem dX1_drop_0 : decode cX1_drop 0 = .ok (.aload_n 0, 1) := by decide +kernel
theorem dX1_drop_1 : decode cX1_drop 1 = .ok (.iload_n 1, 1) := by decide +kernel
theorem dX1_drop_2 : decode cX1_drop 2 = .ok (.invokevirtual 36, 3) := by decide +kernel
theorem dX1_drop_5 : decode cX1_drop 5 = .ok (.ifCond .eq 5, 3) := by decide +kernel
theorem dX1_drop_8 : decode cX1_drop 8 = .ok (.iconst 0, 1) := by decide +kernel
theorem dX1_drop_9 : decode cX1_drop 9 = .ok (.ireturn, 1) := by decide +kernel
theorem dX1_drop_10 : decode cX1_drop 10 = .ok (.aload_n 0, 1) := by decide +kernel
theorem dX1_drop_11 : decode cX1_drop 11 = .ok (.getfield 9, 3) := by decide +kernel
theorem dX1_drop_14 : decode cX1_drop 14 = .ok (.iload_n 1, 1) := by decide +kernel
theorem dX1_drop_15 : decode cX1_drop 15 = .ok (.iconst 0, 1) := by decide +kernel
theorem dX1_drop_16 : decode cX1_drop 16 = .ok (.bastore, 1) := by decide +kernel
theorem dX1_drop_17 : decode cX1_drop 17 = .ok (.aload_n 0, 1) := by decide +kernel
theorem dX1_drop_18 : decode cX1_drop 18 = .ok (.getfield 20, 3) := by decide +kernel
theorem dX1_drop_21 : decode cX1_drop 21 = .ok (.iload_n 1, 1) := by decide +kernel
theorem dX1_drop_22 : decode cX1_drop 22 = .ok (.iaload, 1) := by decide +kernel
theorem dX1_drop_23 : decode cX1_drop 23 = .ok (.ireturn, 1) := by decide +kernel
theorem dX1_slide_0 : decode cX1_slide 0 = .ok (.aload_n 0, 1) := by decide +kernel
theorem dX1_slide_1 : decode cX1_slide 1 = .ok (.aload_n 0, 1) := by decide +kernel
theorem dX1_slide_2 : decode cX1_slide 2 = .ok (.invokevirtual 32, 3) := by decide +kernel
theorem dX1_slide_5 : decode cX1_slide 5 = .ok (.ifCond .ne 7, 3) := by decide +kernel
theorem dX1_slide_8 : decode cX1_slide 8 = .ok (.iconst 1, 1) := by decide +kernel
theorem dX1_slide_9 : decode cX1_slide 9 = .ok (.goto 4, 3) := by decide +kernel
theorem dX1_slide_12 : decode cX1_slide 12 = .ok (.iconst 0, 1) := by decide +kernel
theorem dX1_slide_13 : decode cX1_slide 13 = .ok (.putfield 24, 3) := by decide +kernel
theorem dX1_slide_16 : decode cX1_slide 16 = .ok (.aload_n 0, 1) := by decide +kernel
theorem dX1_slide_17 : decode cX1_slide 17 = .ok (.getfield 24, 3) := by decide +kernel
theorem dX1_slide_20 : decode cX1_slide 20 = .ok (.ifCond .le 5, 3) := by decide +kernel
theorem dX1_slide_23 : decode cX1_slide 23 = .ok (.lconst 0, 1) := by decide +kernel
theorem dX1_slide_24 : decode cX1_slide 24 = .ok (.lreturn, 1) := by decide +kernel
theorem dX1_slide_25 : decode cX1_slide 25 = .ok (.ldc2_w 42, 3) := by decide +kernel
theorem dX1_slide_28 : decode cX1_slide 28 = .ok (.lstore_n 3, 1) := by decide +kernel
theorem dX1_slide_29 : decode cX1_slide 29 = .ok (.iconst 0, 1) := by decide +kernel
theorem dX1_slide_30 : decode cX1_slide 30 = .ok (.istore 5, 2) := by decide +kernel
theorem dX1_slide_32 : decode cX1_slide 32 = .ok (.iload 5, 2) := by decide +kernel
theorem dX1_slide_34 : decode cX1_slide 34 = .ok (.sipush 200, 3) := by decide +kernel
theorem dX1_slide_37 : decode cX1_slide 37 = .ok (.if_icmp .ge 77, 3) := by decide +kernel
theorem dX1_slide_40 : decode cX1_slide 40 = .ok (.aload_n 0, 1) := by decide +kernel
theorem dX1_slide_41 : decode cX1_slide 41 = .ok (.getfield 9, 3) := by decide +kernel
theorem dX1_slide_44 : decode cX1_slide 44 = .ok (.iload 5, 2) := by decide +kernel
theorem dX1_slide_46 : decode cX1_slide 46 = .ok (.baload, 1) := by decide +kernel
theorem dX1_slide_47 : decode cX1_slide 47 = .ok (.ifCond .ne 6, 3) := by decide +kernel
theorem dX1_slide_50 : decode cX1_slide 50 = .ok (.goto 58, 3) := by decide +kernel
theorem dX1_slide_53 : decode cX1_slide 53 = .ok (.lload_n 1, 1) := by decide +kernel
theorem dX1_slide_54 : decode cX1_slide 54 = .ok (.ldc2_w 44, 3) := by decide +kernel
theorem dX1_slide_57 : decode cX1_slide 57 = .ok (.lcmp, 1) := by decide +kernel
theorem dX1_slide_58 : decode cX1_slide 58 = .ok (.ifCond .gt 43, 3) := by decide +kernel
theorem dX1_slide_61 : decode cX1_slide 61 = .ok (.lload_n 1, 1) := by decide +kernel
theorem dX1_slide_62 : decode cX1_slide 62 = .ok (.ldc2_w 46, 3) := by decide +kernel
theorem dX1_slide_65 : decode cX1_slide 65 = .ok (.lcmp, 1) := by decide +kernel
theorem dX1_slide_66 : decode cX1_slide 66 = .ok (.ifCond .lt 35, 3) := by decide +kernel
theorem dX1_slide_69 : decode cX1_slide 69 = .ok (.aload_n 0, 1) := by decide +kernel
theorem dX1_slide_70 : decode cX1_slide 70 = .ok (.getfield 13, 3) := by decide +kernel
theorem dX1_slide_73 : decode cX1_slide 73 = .ok (.iload 5, 2) := by decide +kernel
theorem dX1_slide_75 : decode cX1_slide 75 = .ok (.laload, 1) := by decide +kernel
theorem dX1_slide_76 : decode cX1_slide 76 = .ok (.lload_n 1, 1) := by decide +kernel
theorem dX1_slide_77 : decode cX1_slide 77 = .ok (.ladd, 1) := by decide +kernel
theorem dX1_slide_78 : decode cX1_slide 78 = .ok (.ldc2_w 48, 3) := by decide +kernel
theorem dX1_slide_81 : decode cX1_slide 81 = .ok (.lcmp, 1) := by decide +kernel
theorem dX1_slide_82 : decode cX1_slide 82 = .ok (.ifCond .lt 19, 3) := by decide +kernel
theorem dX1_slide_85 : decode cX1_slide 85 = .ok (.aload_n 0, 1) := by decide +kernel
theorem dX1_slide_86 : decode cX1_slide 86 = .ok (.getfield 13, 3) := by decide +kernel
theorem dX1_slide_89 : decode cX1_slide 89 = .ok (.iload 5, 2) := by decide +kernel
theorem dX1_slide_91 : decode cX1_slide 91 = .ok (.laload, 1) := by decide +kernel
theorem dX1_slide_92 : decode cX1_slide 92 = .ok (.lload_n 1, 1) := by decide +kernel
theorem dX1_slide_93 : decode cX1_slide 93 = .ok (.ladd, 1) := by decide +kernel
theorem dX1_slide_94 : decode cX1_slide 94 = .ok (.ldc2_w 50, 3) := by decide +kernel
theorem dX1_slide_97 : decode cX1_slide 97 = .ok (.lcmp, 1) := by decide +kernel
theorem dX1_slide_98 : decode cX1_slide 98 = .ok (.ifCond .le 10, 3) := by decide +kernel
theorem dX1_slide_101 : decode cX1_slide 101 = .ok (.aload_n 0, 1) := by decide +kernel
theorem dX1_slide_102 : decode cX1_slide 102 = .ok (.iconst 2, 1) := by decide +kernel
theorem dX1_slide_103 : decode cX1_slide 103 = .ok (.invokevirtual 52, 3) := by decide +kernel
theorem dX1_slide_106 : decode cX1_slide 106 = .ok (.i2l, 1) := by decide +kernel
theorem dX1_slide_107 : decode cX1_slide 107 = .ok (.lreturn, 1) := by decide +kernel
theorem dX1_slide_108 : decode cX1_slide 108 = .ok (.iinc 5 1, 3) := by decide +kernel
theorem dX1_slide_111 : decode cX1_slide 111 = .ok (.goto (-79), 3) := by decide +kernel
theorem dX1_slide_114 : decode cX1_slide 114 = .ok (.iconst 0, 1) := by decide +kernel
theorem dX1_slide_115 : decode cX1_slide 115 = .ok (.istore 5, 2) := by decide +kernel
theorem dX1_slide_117 : decode cX1_slide 117 = .ok (.iload 5, 2) := by decide +kernel
theorem dX1_slide_119 : decode cX1_slide 119 = .ok (.sipush 200, 3) := by decide +kernel
theorem dX1_slide_122 : decode cX1_slide 122 = .ok (.if_icmp .ge 45, 3) := by decide +kernel
theorem dX1_slide_125 : decode cX1_slide 125 = .ok (.aload_n 0, 1) := by decide +kernel
theorem dX1_slide_126 : decode cX1_slide 126 = .ok (.getfield 9, 3) := by decide +kernel
theorem dX1_slide_129 : decode cX1_slide 129 = .ok (.iload 5, 2) := by decide +kernel
theorem dX1_slide_131 : decode cX1_slide 131 = .ok (.baload, 1) := by decide +kernel
theorem dX1_slide_132 : decode cX1_slide 132 = .ok (.ifCond .ne 6, 3) := by decide +kernel
theorem dX1_slide_135 : decode cX1_slide 135 = .ok (.goto 26, 3) := by decide +kernel
theorem dX1_slide_138 : decode cX1_slide 138 = .ok (.aload_n 0, 1) := by decide +kernel
theorem dX1_slide_139 : decode cX1_slide 139 = .ok (.getfield 13, 3) := by decide +kernel
theorem dX1_slide_142 : decode cX1_slide 142 = .ok (.iload 5, 2) := by decide +kernel
theorem dX1_slide_144 : decode cX1_slide 144 = .ok (.dup2, 1) := by decide +kernel
theorem dX1_slide_145 : decode cX1_slide 145 = .ok (.laload, 1) := by decide +kernel
theorem dX1_slide_146 : decode cX1_slide 146 = .ok (.lload_n 1, 1) := by decide +kernel
theorem dX1_slide_147 : decode cX1_slide 147 = .ok (.ladd, 1) := by decide +kernel
theorem dX1_slide_148 : decode cX1_slide 148 = .ok (.lastore, 1) := by decide +kernel
theorem dX1_slide_149 : decode cX1_slide 149 = .ok (.lload_n 3, 1) := by decide +kernel
theorem dX1_slide_150 : decode cX1_slide 150 = .ok (.aload_n 0, 1) := by decide +kernel
theorem dX1_slide_151 : decode cX1_slide 151 = .ok (.getfield 13, 3) := by decide +kernel
theorem dX1_slide_154 : decode cX1_slide 154 = .ok (.iload 5, 2) := by decide +kernel
theorem dX1_slide_156 : decode cX1_slide 156 = .ok (.laload, 1) := by decide +kernel
theorem dX1_slide_157 : decode cX1_slide 157 = .ok (.invokestatic 56, 3) := by decide +kernel
theorem dX1_slide_160 : decode cX1_slide 160 = .ok (.lstore_n 3, 1) := by decide +kernel
theorem dX1_slide_161 : decode cX1_slide 161 = .ok (.iinc 5 1, 3) := by decide +kernel
theorem dX1_slide_164 : decode cX1_slide 164 = .ok (.goto (-47), 3) := by decide +kernel
theorem dX1_slide_167 : decode cX1_slide 167 = .ok (.lload_n 3, 1) := by decide +kernel
theorem dX1_slide_168 : decode cX1_slide 168 = .ok (.lreturn, 1) := by decide +kernel
theorem dX1_told_0 : decode cX1_told 0 = .ok (.aload_n 0, 1) := by decide +kernel
theorem dX1_told_1 : decode cX1_told 1 = .ok (.iload_n 1, 1) := by decide +kernel
theorem dX1_told_2 : decode cX1_told 2 = .ok (.invokevirtual 36, 3) := by decide +kernel
theorem dX1_told_5 : decode cX1_told 5 = .ok (.ifCond .eq 5, 3) := by decide +kernel
theorem dX1_told_8 : decode cX1_told 8 = .ok (.lconst 0, 1) := by decide +kernel
theorem dX1_told_9 : decode cX1_told 9 = .ok (.lreturn, 1) := by decide +kernel
theorem dX1_told_10 : decode cX1_told 10 = .ok (.iload_n 2, 1) := by decide +kernel
theorem dX1_told_11 : decode cX1_told 11 = .ok (.ifCond .lt 8, 3) := by decide +kernel
theorem dX1_told_14 : decode cX1_told 14 = .ok (.iload_n 2, 1) := by decide +kernel
theorem dX1_told_15 : decode cX1_told 15 = .ok (.iconst 2, 1) := by decide +kernel
theorem dX1_told_16 : decode cX1_told 16 = .ok (.if_icmp .le 10, 3) := by decide +kernel
theorem dX1_told_19 : decode cX1_told 19 = .ok (.aload_n 0, 1) := by decide +kernel
theorem dX1_told_20 : decode cX1_told 20 = .ok (.iconst 2, 1) := by decide +kernel
theorem dX1_told_21 : decode cX1_told 21 = .ok (.invokevirtual 52, 3) := by decide +kernel
theorem dX1_told_24 : decode cX1_told 24 = .ok (.i2l, 1) := by decide +kernel
theorem dX1_told_25 : decode cX1_told 25 = .ok (.lreturn, 1) := by decide +kernel
theorem dX1_told_26 : decode cX1_told 26 = .ok (.iload_n 2, 1) := by decide +kernel
theorem dX1_told_27 : decode cX1_told 27 = .ok (.ifCond .ne 12, 3) := by decide +kernel
theorem dX1_told_30 : decode cX1_told 30 = .ok (.aload_n 0, 1) := by decide +kernel
theorem dX1_told_31 : decode cX1_told 31 = .ok (.getfield 13, 3) := by decide +kernel
theorem dX1_told_34 : decode cX1_told 34 = .ok (.iload_n 1, 1) := by decide +kernel
theorem dX1_told_35 : decode cX1_told 35 = .ok (.laload, 1) := by decide +kernel
theorem dX1_told_36 : decode cX1_told 36 = .ok (.goto 24, 3) := by decide +kernel
theorem dX1_told_39 : decode cX1_told 39 = .ok (.iload_n 2, 1) := by decide +kernel
theorem dX1_told_40 : decode cX1_told 40 = .ok (.iconst 1, 1) := by decide +kernel
theorem dX1_told_41 : decode cX1_told 41 = .ok (.if_icmp .ne 12, 3) := by decide +kernel
theorem dX1_told_44 : decode cX1_told 44 = .ok (.aload_n 0, 1) := by decide +kernel
theorem dX1_told_45 : decode cX1_told 45 = .ok (.getfield 17, 3) := by decide +kernel
theorem dX1_told_48 : decode cX1_told 48 = .ok (.iload_n 1, 1) := by decide +kernel
theorem dX1_told_49 : decode cX1_told 49 = .ok (.laload, 1) := by decide +kernel
theorem dX1_told_50 : decode cX1_told 50 = .ok (.goto 10, 3) := by decide +kernel
theorem dX1_told_53 : decode cX1_told 53 = .ok (.aload_n 0, 1) := by decide +kernel
theorem dX1_told_54 : decode cX1_told 54 = .ok (.getfield 20, 3) := by decide +kernel
theorem dX1_told_57 : decode cX1_told 57 = .ok (.iload_n 1, 1) := by decide +kernel
theorem dX1_told_58 : decode cX1_told 58 = .ok (.iaload, 1) := by decide +kernel
theorem dX1_told_59 : decode cX1_told 59 = .ok (.i2l, 1) := by decide +kernel
theorem dX1_told_60 : decode cX1_told 60 = .ok (.lreturn, 1) := by decide +kernel
theorem dX1_before_0 : decode cX1_before 0 = .ok (.aload_n 0, 1) := by decide +kernel
theorem dX1_before_1 : decode cX1_before 1 = .ok (.getfield 13, 3) := by decide +kernel
theorem dX1_before_4 : decode cX1_before 4 = .ok (.iload_n 1, 1) := by decide +kernel
theorem dX1_before_5 : decode cX1_before 5 = .ok (.laload, 1) := by decide +kernel
theorem dX1_before_6 : decode cX1_before 6 = .ok (.aload_n 0, 1) := by decide +kernel
theorem dX1_before_7 : decode cX1_before 7 = .ok (.getfield 13, 3) := by decide +kernel
theorem dX1_before_10 : decode cX1_before 10 = .ok (.iload_n 2, 1) := by decide +kernel
theorem dX1_before_11 : decode cX1_before 11 = .ok (.laload, 1) := by decide +kernel
theorem dX1_before_12 : decode cX1_before 12 = .ok (.lcmp, 1) := by decide +kernel
theorem dX1_before_13 : decode cX1_before 13 = .ok (.ifCond .lt 24, 3) := by decide +kernel
theorem dX1_before_16 : decode cX1_before 16 = .ok (.aload_n 0, 1) := by decide +kernel
theorem dX1_before_17 : decode cX1_before 17 = .ok (.getfield 13, 3) := by decide +kernel
theorem dX1_before_20 : decode cX1_before 20 = .ok (.iload_n 1, 1) := by decide +kernel
theorem dX1_before_21 : decode cX1_before 21 = .ok (.laload, 1) := by decide +kernel
theorem dX1_before_22 : decode cX1_before 22 = .ok (.aload_n 0, 1) := by decide +kernel
theorem dX1_before_23 : decode cX1_before 23 = .ok (.getfield 13, 3) := by decide +kernel
theorem dX1_before_26 : decode cX1_before 26 = .ok (.iload_n 2, 1) := by decide +kernel
theorem dX1_before_27 : decode cX1_before 27 = .ok (.laload, 1) := by decide +kernel
theorem dX1_before_28 : decode cX1_before 28 = .ok (.lcmp, 1) := by decide +kernel
theorem dX1_before_29 : decode cX1_before 29 = .ok (.ifCond .ne 12, 3) := by decide +kernel
theorem dX1_before_32 : decode cX1_before 32 = .ok (.iload_n 1, 1) := by decide +kernel
theorem dX1_before_33 : decode cX1_before 33 = .ok (.iload_n 2, 1) := by decide +kernel
theorem dX1_before_34 : decode cX1_before 34 = .ok (.if_icmp .ge 7, 3) := by decide +kernel
theorem dX1_before_37 : decode cX1_before 37 = .ok (.iconst 1, 1) := by decide +kernel
theorem dX1_before_38 : decode cX1_before 38 = .ok (.goto 4, 3) := by decide +kernel
theorem dX1_before_41 : decode cX1_before 41 = .ok (.iconst 0, 1) := by decide +kernel
theorem dX1_before_42 : decode cX1_before 42 = .ok (.ireturn, 1) := by decide +kernel
theorem dX1_place_0 : decode cX1_place 0 = .ok (.iconst 0, 1) := by decide +kernel
theorem dX1_place_1 : decode cX1_place 1 = .ok (.istore_n 2, 1) := by decide +kernel
theorem dX1_place_2 : decode cX1_place 2 = .ok (.iconst 0, 1) := by decide +kernel
theorem dX1_place_3 : decode cX1_place 3 = .ok (.istore_n 3, 1) := by decide +kernel
theorem dX1_place_4 : decode cX1_place 4 = .ok (.iload_n 3, 1) := by decide +kernel
theorem dX1_place_5 : decode cX1_place 5 = .ok (.sipush 200, 3) := by decide +kernel
theorem dX1_place_8 : decode cX1_place 8 = .ok (.if_icmp .ge 30, 3) := by decide +kernel
theorem dX1_place_11 : decode cX1_place 11 = .ok (.aload_n 0, 1) := by decide +kernel
theorem dX1_place_12 : decode cX1_place 12 = .ok (.getfield 9, 3) := by decide +kernel
theorem dX1_place_15 : decode cX1_place 15 = .ok (.iload_n 3, 1) := by decide +kernel
theorem dX1_place_16 : decode cX1_place 16 = .ok (.baload, 1) := by decide +kernel
theorem dX1_place_17 : decode cX1_place 17 = .ok (.ifCond .eq 15, 3) := by decide +kernel
theorem dX1_place_20 : decode cX1_place 20 = .ok (.aload_n 0, 1) := by decide +kernel
theorem dX1_place_21 : decode cX1_place 21 = .ok (.iload_n 3, 1) := by decide +kernel
theorem dX1_place_22 : decode cX1_place 22 = .ok (.iload_n 1, 1) := by decide +kernel
theorem dX1_place_23 : decode cX1_place 23 = .ok (.invokevirtual 62, 3) := by decide +kernel
theorem dX1_place_26 : decode cX1_place 26 = .ok (.ifCond .eq 6, 3) := by decide +kernel
theorem dX1_place_29 : decode cX1_place 29 = .ok (.iinc 2 1, 3) := by decide +kernel
theorem dX1_place_32 : decode cX1_place 32 = .ok (.iinc 3 1, 3) := by decide +kernel
theorem dX1_place_35 : decode cX1_place 35 = .ok (.goto (-31), 3) := by decide +kernel
theorem dX1_place_38 : decode cX1_place 38 = .ok (.iload_n 2, 1) := by decide +kernel
theorem dX1_place_39 : decode cX1_place 39 = .ok (.ireturn, 1) := by decide +kernel
theorem dX1_at_0 : decode cX1_at 0 = .ok (.aload_n 0, 1) := by decide +kernel
theorem dX1_at_1 : decode cX1_at 1 = .ok (.iconst 0, 1) := by decide +kernel
theorem dX1_at_2 : decode cX1_at 2 = .ok (.putfield 24, 3) := by decide +kernel
theorem dX1_at_5 : decode cX1_at 5 = .ok (.iconst 0, 1) := by decide +kernel
theorem dX1_at_6 : decode cX1_at 6 = .ok (.istore_n 2, 1) := by decide +kernel
theorem dX1_at_7 : decode cX1_at 7 = .ok (.iload_n 2, 1) := by decide +kernel
theorem dX1_at_8 : decode cX1_at 8 = .ok (.sipush 200, 3) := by decide +kernel
theorem dX1_at_11 : decode cX1_at 11 = .ok (.if_icmp .ge 29, 3) := by decide +kernel
theorem dX1_at_14 : decode cX1_at 14 = .ok (.aload_n 0, 1) := by decide +kernel
theorem dX1_at_15 : decode cX1_at 15 = .ok (.getfield 9, 3) := by decide +kernel
theorem dX1_at_18 : decode cX1_at 18 = .ok (.iload_n 2, 1) := by decide +kernel
theorem dX1_at_19 : decode cX1_at 19 = .ok (.baload, 1) := by decide +kernel
theorem dX1_at_20 : decode cX1_at 20 = .ok (.ifCond .eq 14, 3) := by decide +kernel
theorem dX1_at_23 : decode cX1_at 23 = .ok (.aload_n 0, 1) := by decide +kernel
theorem dX1_at_24 : decode cX1_at 24 = .ok (.iload_n 2, 1) := by decide +kernel
theorem dX1_at_25 : decode cX1_at 25 = .ok (.invokevirtual 66, 3) := by decide +kernel
theorem dX1_at_28 : decode cX1_at 28 = .ok (.iload_n 1, 1) := by decide +kernel
theorem dX1_at_29 : decode cX1_at 29 = .ok (.if_icmp .ne 5, 3) := by decide +kernel
theorem dX1_at_32 : decode cX1_at 32 = .ok (.iload_n 2, 1) := by decide +kernel
theorem dX1_at_33 : decode cX1_at 33 = .ok (.ireturn, 1) := by decide +kernel
theorem dX1_at_34 : decode cX1_at 34 = .ok (.iinc 2 1, 3) := by decide +kernel
theorem dX1_at_37 : decode cX1_at 37 = .ok (.goto (-30), 3) := by decide +kernel
theorem dX1_at_40 : decode cX1_at 40 = .ok (.aload_n 0, 1) := by decide +kernel
theorem dX1_at_41 : decode cX1_at 41 = .ok (.iconst 1, 1) := by decide +kernel
theorem dX1_at_42 : decode cX1_at 42 = .ok (.invokevirtual 52, 3) := by decide +kernel
theorem dX1_at_45 : decode cX1_at 45 = .ok (.ireturn, 1) := by decide +kernel
theorem dX1_rank_0 : decode cX1_rank 0 = .ok (.aload_n 0, 1) := by decide +kernel
theorem dX1_rank_1 : decode cX1_rank 1 = .ok (.iload_n 1, 1) := by decide +kernel
theorem dX1_rank_2 : decode cX1_rank 2 = .ok (.invokevirtual 36, 3) := by decide +kernel
theorem dX1_rank_5 : decode cX1_rank 5 = .ok (.ifCond .eq 7, 3) := by decide +kernel
theorem dX1_rank_8 : decode cX1_rank 8 = .ok (.iconst 0, 1) := by decide +kernel
theorem dX1_rank_9 : decode cX1_rank 9 = .ok (.goto 8, 3) := by decide +kernel
theorem dX1_rank_12 : decode cX1_rank 12 = .ok (.aload_n 0, 1) := by decide +kernel
theorem dX1_rank_13 : decode cX1_rank 13 = .ok (.iload_n 1, 1) := by decide +kernel
theorem dX1_rank_14 : decode cX1_rank 14 = .ok (.invokevirtual 66, 3) := by decide +kernel
theorem dX1_rank_17 : decode cX1_rank 17 = .ok (.ireturn, 1) := by decide +kernel
theorem dX1_first_0 : decode cX1_first 0 = .ok (.aload_n 0, 1) := by decide +kernel
theorem dX1_first_1 : decode cX1_first 1 = .ok (.iconst 0, 1) := by decide +kernel
theorem dX1_first_2 : decode cX1_first 2 = .ok (.putfield 24, 3) := by decide +kernel
theorem dX1_first_5 : decode cX1_first 5 = .ok (.iconst (-1), 1) := by decide +kernel
theorem dX1_first_6 : decode cX1_first 6 = .ok (.istore 5, 2) := by decide +kernel
theorem dX1_first_8 : decode cX1_first 8 = .ok (.iconst 0, 1) := by decide +kernel
theorem dX1_first_9 : decode cX1_first 9 = .ok (.istore 6, 2) := by decide +kernel
theorem dX1_first_11 : decode cX1_first 11 = .ok (.iload 6, 2) := by decide +kernel
theorem dX1_first_13 : decode cX1_first 13 = .ok (.sipush 200, 3) := by decide +kernel
theorem dX1_first_16 : decode cX1_first 16 = .ok (.if_icmp .ge 71, 3) := by decide +kernel
theorem dX1_first_19 : decode cX1_first 19 = .ok (.aload_n 0, 1) := by decide +kernel
theorem dX1_first_20 : decode cX1_first 20 = .ok (.getfield 9, 3) := by decide +kernel
theorem dX1_first_23 : decode cX1_first 23 = .ok (.iload 6, 2) := by decide +kernel
theorem dX1_first_25 : decode cX1_first 25 = .ok (.baload, 1) := by decide +kernel
theorem dX1_first_26 : decode cX1_first 26 = .ok (.ifCond .eq 55, 3) := by decide +kernel
theorem dX1_first_29 : decode cX1_first 29 = .ok (.aload_n 0, 1) := by decide +kernel
theorem dX1_first_30 : decode cX1_first 30 = .ok (.getfield 13, 3) := by decide +kernel
theorem dX1_first_33 : decode cX1_first 33 = .ok (.iload 6, 2) := by decide +kernel
theorem dX1_first_35 : decode cX1_first 35 = .ok (.laload, 1) := by decide +kernel
theorem dX1_first_36 : decode cX1_first 36 = .ok (.lload_n 1, 1) := by decide +kernel
theorem dX1_first_37 : decode cX1_first 37 = .ok (.lcmp, 1) := by decide +kernel
theorem dX1_first_38 : decode cX1_first 38 = .ok (.ifCond .lt 43, 3) := by decide +kernel
theorem dX1_first_41 : decode cX1_first 41 = .ok (.aload_n 0, 1) := by decide +kernel
theorem dX1_first_42 : decode cX1_first 42 = .ok (.getfield 13, 3) := by decide +kernel
theorem dX1_first_45 : decode cX1_first 45 = .ok (.iload 6, 2) := by decide +kernel
theorem dX1_first_47 : decode cX1_first 47 = .ok (.laload, 1) := by decide +kernel
theorem dX1_first_48 : decode cX1_first 48 = .ok (.lload_n 3, 1) := by decide +kernel
theorem dX1_first_49 : decode cX1_first 49 = .ok (.lcmp, 1) := by decide +kernel
theorem dX1_first_50 : decode cX1_first 50 = .ok (.ifCond .gt 31, 3) := by decide +kernel
theorem dX1_first_53 : decode cX1_first 53 = .ok (.iload 5, 2) := by decide +kernel
theorem dX1_first_55 : decode cX1_first 55 = .ok (.iconst (-1), 1) := by decide +kernel
theorem dX1_first_56 : decode cX1_first 56 = .ok (.if_icmp .eq 21, 3) := by decide +kernel
theorem dX1_first_59 : decode cX1_first 59 = .ok (.aload_n 0, 1) := by decide +kernel
theorem dX1_first_60 : decode cX1_first 60 = .ok (.getfield 17, 3) := by decide +kernel
theorem dX1_first_63 : decode cX1_first 63 = .ok (.iload 6, 2) := by decide +kernel
theorem dX1_first_65 : decode cX1_first 65 = .ok (.laload, 1) := by decide +kernel
theorem dX1_first_66 : decode cX1_first 66 = .ok (.aload_n 0, 1) := by decide +kernel
theorem dX1_first_67 : decode cX1_first 67 = .ok (.getfield 17, 3) := by decide +kernel
theorem dX1_first_70 : decode cX1_first 70 = .ok (.iload 5, 2) := by decide +kernel
theorem dX1_first_72 : decode cX1_first 72 = .ok (.laload, 1) := by decide +kernel
theorem dX1_first_73 : decode cX1_first 73 = .ok (.lcmp, 1) := by decide +kernel
theorem dX1_first_74 : decode cX1_first 74 = .ok (.ifCond .ge 7, 3) := by decide +kernel
theorem dX1_first_77 : decode cX1_first 77 = .ok (.iload 6, 2) := by decide +kernel
theorem dX1_first_79 : decode cX1_first 79 = .ok (.istore 5, 2) := by decide +kernel
theorem dX1_first_81 : decode cX1_first 81 = .ok (.iinc 6 1, 3) := by decide +kernel
theorem dX1_first_84 : decode cX1_first 84 = .ok (.goto (-73), 3) := by decide +kernel
theorem dX1_first_87 : decode cX1_first 87 = .ok (.iload 5, 2) := by decide +kernel
theorem dX1_first_89 : decode cX1_first 89 = .ok (.iconst (-1), 1) := by decide +kernel
theorem dX1_first_90 : decode cX1_first 90 = .ok (.if_icmp .ne 11, 3) := by decide +kernel
theorem dX1_first_93 : decode cX1_first 93 = .ok (.aload_n 0, 1) := by decide +kernel
theorem dX1_first_94 : decode cX1_first 94 = .ok (.iconst 1, 1) := by decide +kernel
theorem dX1_first_95 : decode cX1_first 95 = .ok (.invokevirtual 52, 3) := by decide +kernel
theorem dX1_first_98 : decode cX1_first 98 = .ok (.goto 5, 3) := by decide +kernel
theorem dX1_first_101 : decode cX1_first 101 = .ok (.iload 5, 2) := by decide +kernel
theorem dX1_first_103 : decode cX1_first 103 = .ok (.ireturn, 1) := by decide +kernel
theorem dX1_earliest_0 : decode cX1_earliest 0 = .ok (.aload_n 0, 1) := by decide +kernel
theorem dX1_earliest_1 : decode cX1_earliest 1 = .ok (.ldc2_w 69, 3) := by decide +kernel
theorem dX1_earliest_4 : decode cX1_earliest 4 = .ok (.lload_n 1, 1) := by decide +kernel
theorem dX1_earliest_5 : decode cX1_earliest 5 = .ok (.invokevirtual 71, 3) := by decide +kernel
theorem dX1_earliest_8 : decode cX1_earliest 8 = .ok (.ireturn, 1) := by decide +kernel
theorem dX1_between_0 : decode cX1_between 0 = .ok (.aload_n 0, 1) := by decide +kernel
theorem dX1_between_1 : decode cX1_between 1 = .ok (.lload_n 1, 1) := by decide +kernel
theorem dX1_between_2 : decode cX1_between 2 = .ok (.lload_n 3, 1) := by decide +kernel
theorem dX1_between_3 : decode cX1_between 3 = .ok (.invokevirtual 71, 3) := by decide +kernel
theorem dX1_between_6 : decode cX1_between 6 = .ok (.ireturn, 1) := by decide +kernel
theorem dX1_all_0 : decode cX1_all 0 = .ok (.lconst 0, 1) := by decide +kernel
theorem dX1_all_1 : decode cX1_all 1 = .ok (.lstore_n 1, 1) := by decide +kernel
theorem dX1_all_2 : decode cX1_all 2 = .ok (.iconst 0, 1) := by decide +kernel
theorem dX1_all_3 : decode cX1_all 3 = .ok (.istore_n 3, 1) := by decide +kernel
theorem dX1_all_4 : decode cX1_all 4 = .ok (.iload_n 3, 1) := by decide +kernel
theorem dX1_all_5 : decode cX1_all 5 = .ok (.sipush 200, 3) := by decide +kernel
theorem dX1_all_8 : decode cX1_all 8 = .ok (.if_icmp .ge 28, 3) := by decide +kernel
theorem dX1_all_11 : decode cX1_all 11 = .ok (.aload_n 0, 1) := by decide +kernel
theorem dX1_all_12 : decode cX1_all 12 = .ok (.getfield 9, 3) := by decide +kernel
theorem dX1_all_15 : decode cX1_all 15 = .ok (.iload_n 3, 1) := by decide +kernel
theorem dX1_all_16 : decode cX1_all 16 = .ok (.baload, 1) := by decide +kernel
theorem dX1_all_17 : decode cX1_all 17 = .ok (.ifCond .eq 13, 3) := by decide +kernel
theorem dX1_all_20 : decode cX1_all 20 = .ok (.lload_n 1, 1) := by decide +kernel
theorem dX1_all_21 : decode cX1_all 21 = .ok (.aload_n 0, 1) := by decide +kernel
theorem dX1_all_22 : decode cX1_all 22 = .ok (.getfield 20, 3) := by decide +kernel
theorem dX1_all_25 : decode cX1_all 25 = .ok (.iload_n 3, 1) := by decide +kernel
theorem dX1_all_26 : decode cX1_all 26 = .ok (.iaload, 1) := by decide +kernel
theorem dX1_all_27 : decode cX1_all 27 = .ok (.i2l, 1) := by decide +kernel
theorem dX1_all_28 : decode cX1_all 28 = .ok (.ladd, 1) := by decide +kernel
theorem dX1_all_29 : decode cX1_all 29 = .ok (.lstore_n 1, 1) := by decide +kernel
theorem dX1_all_30 : decode cX1_all 30 = .ok (.iinc 3 1, 3) := by decide +kernel
theorem dX1_all_33 : decode cX1_all 33 = .ok (.goto (-29), 3) := by decide +kernel
theorem dX1_all_36 : decode cX1_all 36 = .ok (.lload_n 1, 1) := by decide +kernel
theorem dX1_all_37 : decode cX1_all 37 = .ok (.lreturn, 1) := by decide +kernel
theorem dX1_lead_0 : decode cX1_lead 0 = .ok (.lconst 0, 1) := by decide +kernel
theorem dX1_lead_1 : decode cX1_lead 1 = .ok (.lstore_n 2, 1) := by decide +kernel
theorem dX1_lead_2 : decode cX1_lead 2 = .ok (.iconst 0, 1) := by decide +kernel
theorem dX1_lead_3 : decode cX1_lead 3 = .ok (.istore 4, 2) := by decide +kernel
theorem dX1_lead_5 : decode cX1_lead 5 = .ok (.iload 4, 2) := by decide +kernel
theorem dX1_lead_7 : decode cX1_lead 7 = .ok (.sipush 200, 3) := by decide +kernel
theorem dX1_lead_10 : decode cX1_lead 10 = .ok (.if_icmp .ge 45, 3) := by decide +kernel
theorem dX1_lead_13 : decode cX1_lead 13 = .ok (.aload_n 0, 1) := by decide +kernel
theorem dX1_lead_14 : decode cX1_lead 14 = .ok (.getfield 9, 3) := by decide +kernel
theorem dX1_lead_17 : decode cX1_lead 17 = .ok (.iload 4, 2) := by decide +kernel
theorem dX1_lead_19 : decode cX1_lead 19 = .ok (.baload, 1) := by decide +kernel
theorem dX1_lead_20 : decode cX1_lead 20 = .ok (.ifCond .eq 29, 3) := by decide +kernel
theorem dX1_lead_23 : decode cX1_lead 23 = .ok (.lload_n 2, 1) := by decide +kernel
theorem dX1_lead_24 : decode cX1_lead 24 = .ok (.aload_n 0, 1) := by decide +kernel
theorem dX1_lead_25 : decode cX1_lead 25 = .ok (.getfield 13, 3) := by decide +kernel
theorem dX1_lead_28 : decode cX1_lead 28 = .ok (.iload_n 1, 1) := by decide +kernel
theorem dX1_lead_29 : decode cX1_lead 29 = .ok (.laload, 1) := by decide +kernel
theorem dX1_lead_30 : decode cX1_lead 30 = .ok (.aload_n 0, 1) := by decide +kernel
theorem dX1_lead_31 : decode cX1_lead 31 = .ok (.getfield 13, 3) := by decide +kernel
theorem dX1_lead_34 : decode cX1_lead 34 = .ok (.iload 4, 2) := by decide +kernel
theorem dX1_lead_36 : decode cX1_lead 36 = .ok (.laload, 1) := by decide +kernel
theorem dX1_lead_37 : decode cX1_lead 37 = .ok (.lsub, 1) := by decide +kernel
theorem dX1_lead_38 : decode cX1_lead 38 = .ok (.aload_n 0, 1) := by decide +kernel
theorem dX1_lead_39 : decode cX1_lead 39 = .ok (.getfield 20, 3) := by decide +kernel
theorem dX1_lead_42 : decode cX1_lead 42 = .ok (.iload 4, 2) := by decide +kernel
theorem dX1_lead_44 : decode cX1_lead 44 = .ok (.iaload, 1) := by decide +kernel
theorem dX1_lead_45 : decode cX1_lead 45 = .ok (.i2l, 1) := by decide +kernel
theorem dX1_lead_46 : decode cX1_lead 46 = .ok (.lmul, 1) := by decide +kernel
theorem dX1_lead_47 : decode cX1_lead 47 = .ok (.ladd, 1) := by decide +kernel
theorem dX1_lead_48 : decode cX1_lead 48 = .ok (.lstore_n 2, 1) := by decide +kernel
theorem dX1_lead_49 : decode cX1_lead 49 = .ok (.iinc 4 1, 3) := by decide +kernel
theorem dX1_lead_52 : decode cX1_lead 52 = .ok (.goto (-47), 3) := by decide +kernel
theorem dX1_lead_55 : decode cX1_lead 55 = .ok (.lload_n 2, 1) := by decide +kernel
theorem dX1_lead_56 : decode cX1_lead 56 = .ok (.lreturn, 1) := by decide +kernel
theorem dX1_pick_0 : decode cX1_pick 0 = .ok (.aload_n 0, 1) := by decide +kernel
theorem dX1_pick_1 : decode cX1_pick 1 = .ok (.iconst 0, 1) := by decide +kernel
theorem dX1_pick_2 : decode cX1_pick 2 = .ok (.putfield 24, 3) := by decide +kernel
theorem dX1_pick_5 : decode cX1_pick 5 = .ok (.iconst (-1), 1) := by decide +kernel
theorem dX1_pick_6 : decode cX1_pick 6 = .ok (.istore_n 1, 1) := by decide +kernel
theorem dX1_pick_7 : decode cX1_pick 7 = .ok (.iconst 0, 1) := by decide +kernel
theorem dX1_pick_8 : decode cX1_pick 8 = .ok (.istore_n 2, 1) := by decide +kernel
theorem dX1_pick_9 : decode cX1_pick 9 = .ok (.iload_n 2, 1) := by decide +kernel
theorem dX1_pick_10 : decode cX1_pick 10 = .ok (.sipush 200, 3) := by decide +kernel
theorem dX1_pick_13 : decode cX1_pick 13 = .ok (.if_icmp .ge 51, 3) := by decide +kernel
theorem dX1_pick_16 : decode cX1_pick 16 = .ok (.aload_n 0, 1) := by decide +kernel
theorem dX1_pick_17 : decode cX1_pick 17 = .ok (.getfield 9, 3) := by decide +kernel
theorem dX1_pick_20 : decode cX1_pick 20 = .ok (.iload_n 2, 1) := by decide +kernel
theorem dX1_pick_21 : decode cX1_pick 21 = .ok (.baload, 1) := by decide +kernel
theorem dX1_pick_22 : decode cX1_pick 22 = .ok (.ifCond .eq 36, 3) := by decide +kernel
theorem dX1_pick_25 : decode cX1_pick 25 = .ok (.aload_n 0, 1) := by decide +kernel
theorem dX1_pick_26 : decode cX1_pick 26 = .ok (.iload_n 2, 1) := by decide +kernel
theorem dX1_pick_27 : decode cX1_pick 27 = .ok (.invokevirtual 75, 3) := by decide +kernel
theorem dX1_pick_30 : decode cX1_pick 30 = .ok (.lconst 0, 1) := by decide +kernel
theorem dX1_pick_31 : decode cX1_pick 31 = .ok (.lcmp, 1) := by decide +kernel
theorem dX1_pick_32 : decode cX1_pick 32 = .ok (.ifCond .gt 26, 3) := by decide +kernel
theorem dX1_pick_35 : decode cX1_pick 35 = .ok (.iload_n 1, 1) := by decide +kernel
theorem dX1_pick_36 : decode cX1_pick 36 = .ok (.iconst (-1), 1) := by decide +kernel
theorem dX1_pick_37 : decode cX1_pick 37 = .ok (.if_icmp .eq 19, 3) := by decide +kernel
theorem dX1_pick_40 : decode cX1_pick 40 = .ok (.aload_n 0, 1) := by decide +kernel
theorem dX1_pick_41 : decode cX1_pick 41 = .ok (.getfield 17, 3) := by decide +kernel
theorem dX1_pick_44 : decode cX1_pick 44 = .ok (.iload_n 2, 1) := by decide +kernel
theorem dX1_pick_45 : decode cX1_pick 45 = .ok (.laload, 1) := by decide +kernel
theorem dX1_pick_46 : decode cX1_pick 46 = .ok (.aload_n 0, 1) := by decide +kernel
theorem dX1_pick_47 : decode cX1_pick 47 = .ok (.getfield 17, 3) := by decide +kernel
theorem dX1_pick_50 : decode cX1_pick 50 = .ok (.iload_n 1, 1) := by decide +kernel
theorem dX1_pick_51 : decode cX1_pick 51 = .ok (.laload, 1) := by decide +kernel
theorem dX1_pick_52 : decode cX1_pick 52 = .ok (.lcmp, 1) := by decide +kernel
theorem dX1_pick_53 : decode cX1_pick 53 = .ok (.ifCond .ge 5, 3) := by decide +kernel
theorem dX1_pick_56 : decode cX1_pick 56 = .ok (.iload_n 2, 1) := by decide +kernel
theorem dX1_pick_57 : decode cX1_pick 57 = .ok (.istore_n 1, 1) := by decide +kernel
theorem dX1_pick_58 : decode cX1_pick 58 = .ok (.iinc 2 1, 3) := by decide +kernel
theorem dX1_pick_61 : decode cX1_pick 61 = .ok (.goto (-52), 3) := by decide +kernel
theorem dX1_pick_64 : decode cX1_pick 64 = .ok (.iload_n 1, 1) := by decide +kernel
theorem dX1_pick_65 : decode cX1_pick 65 = .ok (.iconst (-1), 1) := by decide +kernel
theorem dX1_pick_66 : decode cX1_pick 66 = .ok (.if_icmp .ne 11, 3) := by decide +kernel
theorem dX1_pick_69 : decode cX1_pick 69 = .ok (.aload_n 0, 1) := by decide +kernel
theorem dX1_pick_70 : decode cX1_pick 70 = .ok (.iconst 1, 1) := by decide +kernel
theorem dX1_pick_71 : decode cX1_pick 71 = .ok (.invokevirtual 52, 3) := by decide +kernel
theorem dX1_pick_74 : decode cX1_pick 74 = .ok (.goto 4, 3) := by decide +kernel
theorem dX1_pick_77 : decode cX1_pick 77 = .ok (.iload_n 1, 1) := by decide +kernel
theorem dX1_pick_78 : decode cX1_pick 78 = .ok (.ireturn, 1) := by decide +kernel
theorem dX1_ahead_0 : decode cX1_ahead 0 = .ok (.aload_n 0, 1) := by decide +kernel
theorem dX1_ahead_1 : decode cX1_ahead 1 = .ok (.iload_n 1, 1) := by decide +kernel
theorem dX1_ahead_2 : decode cX1_ahead 2 = .ok (.invokevirtual 36, 3) := by decide +kernel
theorem dX1_ahead_5 : decode cX1_ahead 5 = .ok (.ifCond .eq 7, 3) := by decide +kernel
theorem dX1_ahead_8 : decode cX1_ahead 8 = .ok (.lconst 0, 1) := by decide +kernel
theorem dX1_ahead_9 : decode cX1_ahead 9 = .ok (.goto 8, 3) := by decide +kernel
theorem dX1_ahead_12 : decode cX1_ahead 12 = .ok (.aload_n 0, 1) := by decide +kernel
theorem dX1_ahead_13 : decode cX1_ahead 13 = .ok (.iload_n 1, 1) := by decide +kernel
theorem dX1_ahead_14 : decode cX1_ahead 14 = .ok (.invokevirtual 75, 3) := by decide +kernel
theorem dX1_ahead_17 : decode cX1_ahead 17 = .ok (.lreturn, 1) := by decide +kernel
theorem dX1_weight_0 : decode cX1_weight 0 = .ok (.aload_n 0, 1) := by decide +kernel
theorem dX1_weight_1 : decode cX1_weight 1 = .ok (.iconst 0, 1) := by decide +kernel
theorem dX1_weight_2 : decode cX1_weight 2 = .ok (.putfield 24, 3) := by decide +kernel
theorem dX1_weight_5 : decode cX1_weight 5 = .ok (.iconst 0, 1) := by decide +kernel
theorem dX1_weight_6 : decode cX1_weight 6 = .ok (.istore_n 3, 1) := by decide +kernel
theorem dX1_weight_7 : decode cX1_weight 7 = .ok (.iconst 0, 1) := by decide +kernel
theorem dX1_weight_8 : decode cX1_weight 8 = .ok (.istore 4, 2) := by decide +kernel
theorem dX1_weight_10 : decode cX1_weight 10 = .ok (.iload 4, 2) := by decide +kernel
theorem dX1_weight_12 : decode cX1_weight 12 = .ok (.sipush 200, 3) := by decide +kernel
theorem dX1_weight_15 : decode cX1_weight 15 = .ok (.if_icmp .ge 41, 3) := by decide +kernel
theorem dX1_weight_18 : decode cX1_weight 18 = .ok (.aload_n 0, 1) := by decide +kernel
theorem dX1_weight_19 : decode cX1_weight 19 = .ok (.getfield 9, 3) := by decide +kernel
theorem dX1_weight_22 : decode cX1_weight 22 = .ok (.iload 4, 2) := by decide +kernel
theorem dX1_weight_24 : decode cX1_weight 24 = .ok (.baload, 1) := by decide +kernel
theorem dX1_weight_25 : decode cX1_weight 25 = .ok (.ifCond .eq 25, 3) := by decide +kernel
theorem dX1_weight_28 : decode cX1_weight 28 = .ok (.aload_n 0, 1) := by decide +kernel
theorem dX1_weight_29 : decode cX1_weight 29 = .ok (.getfield 13, 3) := by decide +kernel
theorem dX1_weight_32 : decode cX1_weight 32 = .ok (.iload 4, 2) := by decide +kernel
theorem dX1_weight_34 : decode cX1_weight 34 = .ok (.laload, 1) := by decide +kernel
theorem dX1_weight_35 : decode cX1_weight 35 = .ok (.lload_n 1, 1) := by decide +kernel
theorem dX1_weight_36 : decode cX1_weight 36 = .ok (.lcmp, 1) := by decide +kernel
theorem dX1_weight_37 : decode cX1_weight 37 = .ok (.ifCond .gt 13, 3) := by decide +kernel
theorem dX1_weight_40 : decode cX1_weight 40 = .ok (.iload_n 3, 1) := by decide +kernel
theorem dX1_weight_41 : decode cX1_weight 41 = .ok (.aload_n 0, 1) := by decide +kernel
theorem dX1_weight_42 : decode cX1_weight 42 = .ok (.getfield 20, 3) := by decide +kernel
theorem dX1_weight_45 : decode cX1_weight 45 = .ok (.iload 4, 2) := by decide +kernel
theorem dX1_weight_47 : decode cX1_weight 47 = .ok (.iaload, 1) := by decide +kernel
theorem dX1_weight_48 : decode cX1_weight 48 = .ok (.iadd, 1) := by decide +kernel
theorem dX1_weight_49 : decode cX1_weight 49 = .ok (.istore_n 3, 1) := by decide +kernel
theorem dX1_weight_50 : decode cX1_weight 50 = .ok (.iinc 4 1, 3) := by decide +kernel
theorem dX1_weight_53 : decode cX1_weight 53 = .ok (.goto (-43), 3) := by decide +kernel
theorem dX1_weight_56 : decode cX1_weight 56 = .ok (.iload_n 3, 1) := by decide +kernel
theorem dX1_weight_57 : decode cX1_weight 57 = .ok (.ireturn, 1) := by decide +kernel
theorem dX1_half_0 : decode cX1_half 0 = .ok (.aload_n 0, 1) := by decide +kernel
theorem dX1_half_1 : decode cX1_half 1 = .ok (.iconst 0, 1) := by decide +kernel
theorem dX1_half_2 : decode cX1_half 2 = .ok (.putfield 24, 3) := by decide +kernel
theorem dX1_half_5 : decode cX1_half 5 = .ok (.iconst (-1), 1) := by decide +kernel
theorem dX1_half_6 : decode cX1_half 6 = .ok (.istore_n 1, 1) := by decide +kernel
theorem dX1_half_7 : decode cX1_half 7 = .ok (.iconst 0, 1) := by decide +kernel
theorem dX1_half_8 : decode cX1_half 8 = .ok (.istore_n 2, 1) := by decide +kernel
theorem dX1_half_9 : decode cX1_half 9 = .ok (.iload_n 2, 1) := by decide +kernel
theorem dX1_half_10 : decode cX1_half 10 = .ok (.sipush 200, 3) := by decide +kernel
theorem dX1_half_13 : decode cX1_half 13 = .ok (.if_icmp .ge 106, 3) := by decide +kernel
theorem dX1_half_16 : decode cX1_half 16 = .ok (.aload_n 0, 1) := by decide +kernel
theorem dX1_half_17 : decode cX1_half 17 = .ok (.getfield 9, 3) := by decide +kernel
theorem dX1_half_20 : decode cX1_half 20 = .ok (.iload_n 2, 1) := by decide +kernel
theorem dX1_half_21 : decode cX1_half 21 = .ok (.baload, 1) := by decide +kernel
theorem dX1_half_22 : decode cX1_half 22 = .ok (.ifCond .ne 6, 3) := by decide +kernel
theorem dX1_half_25 : decode cX1_half 25 = .ok (.goto 88, 3) := by decide +kernel
theorem dX1_half_28 : decode cX1_half 28 = .ok (.aload_n 0, 1) := by decide +kernel
theorem dX1_half_29 : decode cX1_half 29 = .ok (.getfield 20, 3) := by decide +kernel
theorem dX1_half_32 : decode cX1_half 32 = .ok (.iload_n 2, 1) := by decide +kernel
theorem dX1_half_33 : decode cX1_half 33 = .ok (.iaload, 1) := by decide +kernel
theorem dX1_half_34 : decode cX1_half 34 = .ok (.i2l, 1) := by decide +kernel
theorem dX1_half_35 : decode cX1_half 35 = .ok (.lstore_n 3, 1) := by decide +kernel
theorem dX1_half_36 : decode cX1_half 36 = .ok (.iconst 0, 1) := by decide +kernel
theorem dX1_half_37 : decode cX1_half 37 = .ok (.istore 5, 2) := by decide +kernel
theorem dX1_half_39 : decode cX1_half 39 = .ok (.iload 5, 2) := by decide +kernel
theorem dX1_half_41 : decode cX1_half 41 = .ok (.sipush 200, 3) := by decide +kernel
theorem dX1_half_44 : decode cX1_half 44 = .ok (.if_icmp .ge 40, 3) := by decide +kernel
theorem dX1_half_47 : decode cX1_half 47 = .ok (.aload_n 0, 1) := by decide +kernel
theorem dX1_half_48 : decode cX1_half 48 = .ok (.getfield 9, 3) := by decide +kernel
theorem dX1_half_51 : decode cX1_half 51 = .ok (.iload 5, 2) := by decide +kernel
theorem dX1_half_53 : decode cX1_half 53 = .ok (.baload, 1) := by decide +kernel
theorem dX1_half_54 : decode cX1_half 54 = .ok (.ifCond .eq 24, 3) := by decide +kernel
theorem dX1_half_57 : decode cX1_half 57 = .ok (.aload_n 0, 1) := by decide +kernel
theorem dX1_half_58 : decode cX1_half 58 = .ok (.iload 5, 2) := by decide +kernel
theorem dX1_half_60 : decode cX1_half 60 = .ok (.iload_n 2, 1) := by decide +kernel
theorem dX1_half_61 : decode cX1_half 61 = .ok (.invokevirtual 62, 3) := by decide +kernel
theorem dX1_half_64 : decode cX1_half 64 = .ok (.ifCond .eq 14, 3) := by decide +kernel
theorem dX1_half_67 : decode cX1_half 67 = .ok (.lload_n 3, 1) := by decide +kernel
theorem dX1_half_68 : decode cX1_half 68 = .ok (.aload_n 0, 1) := by decide +kernel
theorem dX1_half_69 : decode cX1_half 69 = .ok (.getfield 20, 3) := by decide +kernel
theorem dX1_half_72 : decode cX1_half 72 = .ok (.iload 5, 2) := by decide +kernel
theorem dX1_half_74 : decode cX1_half 74 = .ok (.iaload, 1) := by decide +kernel
theorem dX1_half_75 : decode cX1_half 75 = .ok (.i2l, 1) := by decide +kernel
theorem dX1_half_76 : decode cX1_half 76 = .ok (.ladd, 1) := by decide +kernel
theorem dX1_half_77 : decode cX1_half 77 = .ok (.lstore_n 3, 1) := by decide +kernel
theorem dX1_half_78 : decode cX1_half 78 = .ok (.iinc 5 1, 3) := by decide +kernel
theorem dX1_half_81 : decode cX1_half 81 = .ok (.goto (-42), 3) := by decide +kernel
theorem dX1_half_84 : decode cX1_half 84 = .ok (.ldc2_w 79, 3) := by decide +kernel
theorem dX1_half_87 : decode cX1_half 87 = .ok (.lload_n 3, 1) := by decide +kernel
theorem dX1_half_88 : decode cX1_half 88 = .ok (.lmul, 1) := by decide +kernel
theorem dX1_half_89 : decode cX1_half 89 = .ok (.aload_n 0, 1) := by decide +kernel
theorem dX1_half_90 : decode cX1_half 90 = .ok (.invokevirtual 81, 3) := by decide +kernel
theorem dX1_half_93 : decode cX1_half 93 = .ok (.lcmp, 1) := by decide +kernel
theorem dX1_half_94 : decode cX1_half 94 = .ok (.ifCond .lt 19, 3) := by decide +kernel
theorem dX1_half_97 : decode cX1_half 97 = .ok (.iload_n 1, 1) := by decide +kernel
theorem dX1_half_98 : decode cX1_half 98 = .ok (.iconst (-1), 1) := by decide +kernel
theorem dX1_half_99 : decode cX1_half 99 = .ok (.if_icmp .eq 12, 3) := by decide +kernel
theorem dX1_half_102 : decode cX1_half 102 = .ok (.aload_n 0, 1) := by decide +kernel
theorem dX1_half_103 : decode cX1_half 103 = .ok (.iload_n 2, 1) := by decide +kernel
theorem dX1_half_104 : decode cX1_half 104 = .ok (.iload_n 1, 1) := by decide +kernel
theorem dX1_half_105 : decode cX1_half 105 = .ok (.invokevirtual 62, 3) := by decide +kernel
theorem dX1_half_108 : decode cX1_half 108 = .ok (.ifCond .eq 5, 3) := by decide +kernel
theorem dX1_half_111 : decode cX1_half 111 = .ok (.iload_n 2, 1) := by decide +kernel
theorem dX1_half_112 : decode cX1_half 112 = .ok (.istore_n 1, 1) := by decide +kernel
theorem dX1_half_113 : decode cX1_half 113 = .ok (.iinc 2 1, 3) := by decide +kernel
theorem dX1_half_116 : decode cX1_half 116 = .ok (.goto (-107), 3) := by decide +kernel
theorem dX1_half_119 : decode cX1_half 119 = .ok (.iload_n 1, 1) := by decide +kernel
theorem dX1_half_120 : decode cX1_half 120 = .ok (.iconst (-1), 1) := by decide +kernel
theorem dX1_half_121 : decode cX1_half 121 = .ok (.if_icmp .ne 11, 3) := by decide +kernel
theorem dX1_half_124 : decode cX1_half 124 = .ok (.aload_n 0, 1) := by decide +kernel
theorem dX1_half_125 : decode cX1_half 125 = .ok (.iconst 1, 1) := by decide +kernel
theorem dX1_half_126 : decode cX1_half 126 = .ok (.invokevirtual 52, 3) := by decide +kernel
theorem dX1_half_129 : decode cX1_half 129 = .ok (.goto 4, 3) := by decide +kernel
theorem dX1_half_132 : decode cX1_half 132 = .ok (.iload_n 1, 1) := by decide +kernel
theorem dX1_half_133 : decode cX1_half 133 = .ok (.ireturn, 1) := by decide +kernel
theorem dX1_nearest_0 : decode cX1_nearest 0 = .ok (.aload_n 0, 1) := by decide +kernel
theorem dX1_nearest_1 : decode cX1_nearest 1 = .ok (.aload_n 0, 1) := by decide +kernel
theorem dX1_nearest_2 : decode cX1_nearest 2 = .ok (.invokevirtual 32, 3) := by decide +kernel
theorem dX1_nearest_5 : decode cX1_nearest 5 = .ok (.iconst 2, 1) := by decide +kernel
theorem dX1_nearest_6 : decode cX1_nearest 6 = .ok (.if_icmp .ge 7, 3) := by decide +kernel
theorem dX1_nearest_9 : decode cX1_nearest 9 = .ok (.iconst 1, 1) := by decide +kernel
theorem dX1_nearest_10 : decode cX1_nearest 10 = .ok (.goto 4, 3) := by decide +kernel
theorem dX1_nearest_13 : decode cX1_nearest 13 = .ok (.iconst 0, 1) := by decide +kernel
theorem dX1_nearest_14 : decode cX1_nearest 14 = .ok (.putfield 24, 3) := by decide +kernel
theorem dX1_nearest_17 : decode cX1_nearest 17 = .ok (.ldc2_w 42, 3) := by decide +kernel
theorem dX1_nearest_20 : decode cX1_nearest 20 = .ok (.lstore_n 1, 1) := by decide +kernel
theorem dX1_nearest_21 : decode cX1_nearest 21 = .ok (.iconst 0, 1) := by decide +kernel
theorem dX1_nearest_22 : decode cX1_nearest 22 = .ok (.istore_n 3, 1) := by decide +kernel
theorem dX1_nearest_23 : decode cX1_nearest 23 = .ok (.iload_n 3, 1) := by decide +kernel
theorem dX1_nearest_24 : decode cX1_nearest 24 = .ok (.sipush 200, 3) := by decide +kernel
theorem dX1_nearest_27 : decode cX1_nearest 27 = .ok (.if_icmp .ge 103, 3) := by decide +kernel
theorem dX1_nearest_30 : decode cX1_nearest 30 = .ok (.aload_n 0, 1) := by decide +kernel
theorem dX1_nearest_31 : decode cX1_nearest 31 = .ok (.getfield 24, 3) := by decide +kernel
theorem dX1_nearest_34 : decode cX1_nearest 34 = .ok (.ifCond .ne 96, 3) := by decide +kernel
theorem dX1_nearest_37 : decode cX1_nearest 37 = .ok (.iconst 0, 1) := by decide +kernel
theorem dX1_nearest_38 : decode cX1_nearest 38 = .ok (.istore 4, 2) := by decide +kernel
theorem dX1_nearest_40 : decode cX1_nearest 40 = .ok (.iload 4, 2) := by decide +kernel
theorem dX1_nearest_42 : decode cX1_nearest 42 = .ok (.iload_n 3, 1) := by decide +kernel
theorem dX1_nearest_43 : decode cX1_nearest 43 = .ok (.if_icmp .ge 81, 3) := by decide +kernel
theorem dX1_nearest_46 : decode cX1_nearest 46 = .ok (.aload_n 0, 1) := by decide +kernel
theorem dX1_nearest_47 : decode cX1_nearest 47 = .ok (.getfield 9, 3) := by decide +kernel
theorem dX1_nearest_50 : decode cX1_nearest 50 = .ok (.iload_n 3, 1) := by decide +kernel
theorem dX1_nearest_51 : decode cX1_nearest 51 = .ok (.baload, 1) := by decide +kernel
theorem dX1_nearest_52 : decode cX1_nearest 52 = .ok (.ifCond .eq 72, 3) := by decide +kernel
theorem dX1_nearest_55 : decode cX1_nearest 55 = .ok (.aload_n 0, 1) := by decide +kernel
theorem dX1_nearest_56 : decode cX1_nearest 56 = .ok (.getfield 9, 3) := by decide +kernel
theorem dX1_nearest_59 : decode cX1_nearest 59 = .ok (.iload 4, 2) := by decide +kernel
theorem dX1_nearest_61 : decode cX1_nearest 61 = .ok (.baload, 1) := by decide +kernel
theorem dX1_nearest_62 : decode cX1_nearest 62 = .ok (.ifCond .eq 56, 3) := by decide +kernel
theorem dX1_nearest_65 : decode cX1_nearest 65 = .ok (.lload_n 1, 1) := by decide +kernel
theorem dX1_nearest_66 : decode cX1_nearest 66 = .ok (.aload_n 0, 1) := by decide +kernel
theorem dX1_nearest_67 : decode cX1_nearest 67 = .ok (.getfield 13, 3) := by decide +kernel
theorem dX1_nearest_70 : decode cX1_nearest 70 = .ok (.iload_n 3, 1) := by decide +kernel
theorem dX1_nearest_71 : decode cX1_nearest 71 = .ok (.laload, 1) := by decide +kernel
theorem dX1_nearest_72 : decode cX1_nearest 72 = .ok (.aload_n 0, 1) := by decide +kernel
theorem dX1_nearest_73 : decode cX1_nearest 73 = .ok (.getfield 13, 3) := by decide +kernel
theorem dX1_nearest_76 : decode cX1_nearest 76 = .ok (.iload 4, 2) := by decide +kernel
theorem dX1_nearest_78 : decode cX1_nearest 78 = .ok (.laload, 1) := by decide +kernel
theorem dX1_nearest_79 : decode cX1_nearest 79 = .ok (.lcmp, 1) := by decide +kernel
theorem dX1_nearest_80 : decode cX1_nearest 80 = .ok (.ifCond .ge 20, 3) := by decide +kernel
theorem dX1_nearest_83 : decode cX1_nearest 83 = .ok (.aload_n 0, 1) := by decide +kernel
theorem dX1_nearest_84 : decode cX1_nearest 84 = .ok (.getfield 13, 3) := by decide +kernel
theorem dX1_nearest_87 : decode cX1_nearest 87 = .ok (.iload 4, 2) := by decide +kernel
theorem dX1_nearest_89 : decode cX1_nearest 89 = .ok (.laload, 1) := by decide +kernel
theorem dX1_nearest_90 : decode cX1_nearest 90 = .ok (.aload_n 0, 1) := by decide +kernel
theorem dX1_nearest_91 : decode cX1_nearest 91 = .ok (.getfield 13, 3) := by decide +kernel
theorem dX1_nearest_94 : decode cX1_nearest 94 = .ok (.iload_n 3, 1) := by decide +kernel
theorem dX1_nearest_95 : decode cX1_nearest 95 = .ok (.laload, 1) := by decide +kernel
theorem dX1_nearest_96 : decode cX1_nearest 96 = .ok (.lsub, 1) := by decide +kernel
theorem dX1_nearest_97 : decode cX1_nearest 97 = .ok (.goto 17, 3) := by decide +kernel
theorem dX1_nearest_100 : decode cX1_nearest 100 = .ok (.aload_n 0, 1) := by decide +kernel
theorem dX1_nearest_101 : decode cX1_nearest 101 = .ok (.getfield 13, 3) := by decide +kernel
theorem dX1_nearest_104 : decode cX1_nearest 104 = .ok (.iload_n 3, 1) := by decide +kernel
theorem dX1_nearest_105 : decode cX1_nearest 105 = .ok (.laload, 1) := by decide +kernel
theorem dX1_nearest_106 : decode cX1_nearest 106 = .ok (.aload_n 0, 1) := by decide +kernel
theorem dX1_nearest_107 : decode cX1_nearest 107 = .ok (.getfield 13, 3) := by decide +kernel
theorem dX1_nearest_110 : decode cX1_nearest 110 = .ok (.iload 4, 2) := by decide +kernel
theorem dX1_nearest_112 : decode cX1_nearest 112 = .ok (.laload, 1) := by decide +kernel
theorem dX1_nearest_113 : decode cX1_nearest 113 = .ok (.lsub, 1) := by decide +kernel
theorem dX1_nearest_114 : decode cX1_nearest 114 = .ok (.invokestatic 56, 3) := by decide +kernel
theorem dX1_nearest_117 : decode cX1_nearest 117 = .ok (.lstore_n 1, 1) := by decide +kernel
theorem dX1_nearest_118 : decode cX1_nearest 118 = .ok (.iinc 4 1, 3) := by decide +kernel
theorem dX1_nearest_121 : decode cX1_nearest 121 = .ok (.goto (-81), 3) := by decide +kernel
theorem dX1_nearest_124 : decode cX1_nearest 124 = .ok (.iinc 3 1, 3) := by decide +kernel
theorem dX1_nearest_127 : decode cX1_nearest 127 = .ok (.goto (-104), 3) := by decide +kernel
theorem dX1_nearest_130 : decode cX1_nearest 130 = .ok (.aload_n 0, 1) := by decide +kernel
theorem dX1_nearest_131 : decode cX1_nearest 131 = .ok (.getfield 24, 3) := by decide +kernel
theorem dX1_nearest_134 : decode cX1_nearest 134 = .ok (.ifCond .le 7, 3) := by decide +kernel
theorem dX1_nearest_137 : decode cX1_nearest 137 = .ok (.lconst 0, 1) := by decide +kernel
theorem dX1_nearest_138 : decode cX1_nearest 138 = .ok (.goto 4, 3) := by decide +kernel
theorem dX1_nearest_141 : decode cX1_nearest 141 = .ok (.lload_n 1, 1) := by decide +kernel
theorem dX1_nearest_142 : decode cX1_nearest 142 = .ok (.lreturn, 1) := by decide +kernel
theorem dX1_cut_0 : decode cX1_cut 0 = .ok (.aload_n 0, 1) := by decide +kernel
theorem dX1_cut_1 : decode cX1_cut 1 = .ok (.iconst 0, 1) := by decide +kernel
theorem dX1_cut_2 : decode cX1_cut 2 = .ok (.putfield 24, 3) := by decide +kernel
theorem dX1_cut_5 : decode cX1_cut 5 = .ok (.iconst 0, 1) := by decide +kernel
theorem dX1_cut_6 : decode cX1_cut 6 = .ok (.istore 5, 2) := by decide +kernel
theorem dX1_cut_8 : decode cX1_cut 8 = .ok (.iconst 0, 1) := by decide +kernel
theorem dX1_cut_9 : decode cX1_cut 9 = .ok (.istore 6, 2) := by decide +kernel
theorem dX1_cut_11 : decode cX1_cut 11 = .ok (.iload 6, 2) := by decide +kernel
theorem dX1_cut_13 : decode cX1_cut 13 = .ok (.sipush 200, 3) := by decide +kernel
theorem dX1_cut_16 : decode cX1_cut 16 = .ok (.if_icmp .ge 57, 3) := by decide +kernel
theorem dX1_cut_19 : decode cX1_cut 19 = .ok (.aload_n 0, 1) := by decide +kernel
theorem dX1_cut_20 : decode cX1_cut 20 = .ok (.getfield 9, 3) := by decide +kernel
theorem dX1_cut_23 : decode cX1_cut 23 = .ok (.iload 6, 2) := by decide +kernel
theorem dX1_cut_25 : decode cX1_cut 25 = .ok (.baload, 1) := by decide +kernel
theorem dX1_cut_26 : decode cX1_cut 26 = .ok (.ifCond .eq 41, 3) := by decide +kernel
theorem dX1_cut_29 : decode cX1_cut 29 = .ok (.aload_n 0, 1) := by decide +kernel
theorem dX1_cut_30 : decode cX1_cut 30 = .ok (.getfield 13, 3) := by decide +kernel
theorem dX1_cut_33 : decode cX1_cut 33 = .ok (.iload 6, 2) := by decide +kernel
theorem dX1_cut_35 : decode cX1_cut 35 = .ok (.laload, 1) := by decide +kernel
theorem dX1_cut_36 : decode cX1_cut 36 = .ok (.lload_n 1, 1) := by decide +kernel
theorem dX1_cut_37 : decode cX1_cut 37 = .ok (.lcmp, 1) := by decide +kernel
theorem dX1_cut_38 : decode cX1_cut 38 = .ok (.ifCond .lt 29, 3) := by decide +kernel
theorem dX1_cut_41 : decode cX1_cut 41 = .ok (.aload_n 0, 1) := by decide +kernel
theorem dX1_cut_42 : decode cX1_cut 42 = .ok (.getfield 13, 3) := by decide +kernel
theorem dX1_cut_45 : decode cX1_cut 45 = .ok (.iload 6, 2) := by decide +kernel
theorem dX1_cut_47 : decode cX1_cut 47 = .ok (.laload, 1) := by decide +kernel
theorem dX1_cut_48 : decode cX1_cut 48 = .ok (.lload_n 3, 1) := by decide +kernel
theorem dX1_cut_49 : decode cX1_cut 49 = .ok (.lcmp, 1) := by decide +kernel
theorem dX1_cut_50 : decode cX1_cut 50 = .ok (.ifCond .le 6, 3) := by decide +kernel
theorem dX1_cut_53 : decode cX1_cut 53 = .ok (.goto 14, 3) := by decide +kernel
theorem dX1_cut_56 : decode cX1_cut 56 = .ok (.aload_n 0, 1) := by decide +kernel
theorem dX1_cut_57 : decode cX1_cut 57 = .ok (.getfield 9, 3) := by decide +kernel
theorem dX1_cut_60 : decode cX1_cut 60 = .ok (.iload 6, 2) := by decide +kernel
theorem dX1_cut_62 : decode cX1_cut 62 = .ok (.iconst 0, 1) := by decide +kernel
theorem dX1_cut_63 : decode cX1_cut 63 = .ok (.bastore, 1) := by decide +kernel
theorem dX1_cut_64 : decode cX1_cut 64 = .ok (.iinc 5 1, 3) := by decide +kernel
theorem dX1_cut_67 : decode cX1_cut 67 = .ok (.iinc 6 1, 3) := by decide +kernel
theorem dX1_cut_70 : decode cX1_cut 70 = .ok (.goto (-59), 3) := by decide +kernel
theorem dX1_cut_73 : decode cX1_cut 73 = .ok (.iload 5, 2) := by decide +kernel
theorem dX1_cut_75 : decode cX1_cut 75 = .ok (.ireturn, 1) := by decide +kernel
theorem dX1_count_0 : decode cX1_count 0 = .ok (.aload_n 0, 1) := by decide +kernel
theorem dX1_count_1 : decode cX1_count 1 = .ok (.iconst 0, 1) := by decide +kernel
theorem dX1_count_2 : decode cX1_count 2 = .ok (.putfield 24, 3) := by decide +kernel
theorem dX1_count_5 : decode cX1_count 5 = .ok (.iload_n 1, 1) := by decide +kernel
theorem dX1_count_6 : decode cX1_count 6 = .ok (.ifCond .ne 8, 3) := by decide +kernel
theorem dX1_count_9 : decode cX1_count 9 = .ok (.aload_n 0, 1) := by decide +kernel
theorem dX1_count_10 : decode cX1_count 10 = .ok (.invokevirtual 32, 3) := by decide +kernel
theorem dX1_count_13 : decode cX1_count 13 = .ok (.ireturn, 1) := by decide +kernel
theorem dX1_count_14 : decode cX1_count 14 = .ok (.iload_n 1, 1) := by decide +kernel
theorem dX1_count_15 : decode cX1_count 15 = .ok (.iconst 1, 1) := by decide +kernel
theorem dX1_count_16 : decode cX1_count 16 = .ok (.if_icmp .ne 9, 3) := by decide +kernel
theorem dX1_count_19 : decode cX1_count 19 = .ok (.aload_n 0, 1) := by decide +kernel
theorem dX1_count_20 : decode cX1_count 20 = .ok (.invokevirtual 81, 3) := by decide +kernel
theorem dX1_count_23 : decode cX1_count 23 = .ok (.l2i, 1) := by decide +kernel
theorem dX1_count_24 : decode cX1_count 24 = .ok (.ireturn, 1) := by decide +kernel
theorem dX1_count_25 : decode cX1_count 25 = .ok (.iload_n 1, 1) := by decide +kernel
theorem dX1_count_26 : decode cX1_count 26 = .ok (.iconst 2, 1) := by decide +kernel
theorem dX1_count_27 : decode cX1_count 27 = .ok (.if_icmp .eq 5, 3) := by decide +kernel
theorem dX1_count_30 : decode cX1_count 30 = .ok (.iconst (-1), 1) := by decide +kernel
theorem dX1_count_31 : decode cX1_count 31 = .ok (.ireturn, 1) := by decide +kernel
theorem dX1_count_32 : decode cX1_count 32 = .ok (.iconst 0, 1) := by decide +kernel
theorem dX1_count_33 : decode cX1_count 33 = .ok (.istore_n 2, 1) := by decide +kernel
theorem dX1_count_34 : decode cX1_count 34 = .ok (.iconst 0, 1) := by decide +kernel
theorem dX1_count_35 : decode cX1_count 35 = .ok (.istore_n 3, 1) := by decide +kernel
theorem dX1_count_36 : decode cX1_count 36 = .ok (.iload_n 3, 1) := by decide +kernel
theorem dX1_count_37 : decode cX1_count 37 = .ok (.sipush 200, 3) := by decide +kernel
theorem dX1_count_40 : decode cX1_count 40 = .ok (.if_icmp .ge 31, 3) := by decide +kernel
theorem dX1_count_43 : decode cX1_count 43 = .ok (.aload_n 0, 1) := by decide +kernel
theorem dX1_count_44 : decode cX1_count 44 = .ok (.getfield 9, 3) := by decide +kernel
theorem dX1_count_47 : decode cX1_count 47 = .ok (.iload_n 3, 1) := by decide +kernel
theorem dX1_count_48 : decode cX1_count 48 = .ok (.baload, 1) := by decide +kernel
theorem dX1_count_49 : decode cX1_count 49 = .ok (.ifCond .eq 16, 3) := by decide +kernel
theorem dX1_count_52 : decode cX1_count 52 = .ok (.aload_n 0, 1) := by decide +kernel
theorem dX1_count_53 : decode cX1_count 53 = .ok (.iload_n 3, 1) := by decide +kernel
theorem dX1_count_54 : decode cX1_count 54 = .ok (.invokevirtual 75, 3) := by decide +kernel
theorem dX1_count_57 : decode cX1_count 57 = .ok (.lconst 0, 1) := by decide +kernel
theorem dX1_count_58 : decode cX1_count 58 = .ok (.lcmp, 1) := by decide +kernel
theorem dX1_count_59 : decode cX1_count 59 = .ok (.ifCond .gt 6, 3) := by decide +kernel
theorem dX1_count_62 : decode cX1_count 62 = .ok (.iinc 2 1, 3) := by decide +kernel
theorem dX1_count_65 : decode cX1_count 65 = .ok (.iinc 3 1, 3) := by decide +kernel
theorem dX1_count_68 : decode cX1_count 68 = .ok (.goto (-32), 3) := by decide +kernel
theorem dX1_count_71 : decode cX1_count 71 = .ok (.iload_n 2, 1) := by decide +kernel
theorem dX1_count_72 : decode cX1_count 72 = .ok (.ireturn, 1) := by decide +kernel
