theorem dX7_nameOf_12 : decode cX7_nameOf 12 = .ok (.iaload, 1) := by decide +kernel
theorem dX7_nameOf_13 : decode cX7_nameOf 13 = .ok (.imul, 1) := by decide +kernel
theorem dX7_nameOf_14 : decode cX7_nameOf 14 = .ok (.bipush 10, 2) := by decide +kernel
theorem dX7_nameOf_16 : decode cX7_nameOf 16 = .ok (.aload_n 0, 1) := by decide +kernel
theorem dX7_nameOf_17 : decode cX7_nameOf 17 = .ok (.getfield 43, 3) := by decide +kernel
theorem dX7_nameOf_20 : decode cX7_nameOf 20 = .ok (.iconst 2, 1) := by decide +kernel
theorem dX7_nameOf_21 : decode cX7_nameOf 21 = .ok (.iaload, 1) := by decide +kernel
theorem dX7_nameOf_22 : decode cX7_nameOf 22 = .ok (.imul, 1) := by decide +kernel
theorem dX7_nameOf_23 : decode cX7_nameOf 23 = .ok (.iadd, 1) := by decide +kernel
theorem dX7_nameOf_24 : decode cX7_nameOf 24 = .ok (.aload_n 0, 1) := by decide +kernel
theorem dX7_nameOf_25 : decode cX7_nameOf 25 = .ok (.getfield 43, 3) := by decide +kernel
theorem dX7_nameOf_28 : decode cX7_nameOf 28 = .ok (.iconst 3, 1) := by decide +kernel
theorem dX7_nameOf_29 : decode cX7_nameOf 29 = .ok (.iaload, 1) := by decide +kernel
theorem dX7_nameOf_30 : decode cX7_nameOf 30 = .ok (.iadd, 1) := by decide +kernel
theorem dX7_nameOf_31 : decode cX7_nameOf 31 = .ok (.istore_n 2, 1) := by decide +kernel
theorem dX7_nameOf_32 : decode cX7_nameOf 32 = .ok (.aload_n 0, 1) := by decide +kernel
theorem dX7_nameOf_33 : decode cX7_nameOf 33 = .ok (.getfield 19, 3) := by decide +kernel
theorem dX7_nameOf_36 : decode cX7_nameOf 36 = .ok (.iconst 0, 1) := by decide +kernel
theorem dX7_nameOf_37 : decode cX7_nameOf 37 = .ok (.iaload, 1) := by decide +kernel
theorem dX7_nameOf_38 : decode cX7_nameOf 38 = .ok (.iconst 4, 1) := by decide +kernel
theorem dX7_nameOf_39 : decode cX7_nameOf 39 = .ok (.if_icmp .lt 7, 3) := by decide +kernel
theorem dX7_nameOf_42 : decode cX7_nameOf 42 = .ok (.iload_n 1, 1) := by decide +kernel
theorem dX7_nameOf_43 : decode cX7_nameOf 43 = .ok (.ifCond .ne 5, 3) := by decide +kernel
theorem dX7_nameOf_46 : decode cX7_nameOf 46 = .ok (.iconst 0, 1) := by decide +kernel
theorem dX7_nameOf_47 : decode cX7_nameOf 47 = .ok (.ireturn, 1) := by decide +kernel
theorem dX7_nameOf_48 : decode cX7_nameOf 48 = .ok (.iload_n 2, 1) := by decide +kernel
theorem dX7_nameOf_49 : decode cX7_nameOf 49 = .ok (.bipush 11, 2) := by decide +kernel
theorem dX7_nameOf_51 : decode cX7_nameOf 51 = .ok (.if_icmp .ne 7, 3) := by decide +kernel
theorem dX7_nameOf_54 : decode cX7_nameOf 54 = .ok (.iconst 1, 1) := by decide +kernel
theorem dX7_nameOf_55 : decode cX7_nameOf 55 = .ok (.goto 42, 3) := by decide +kernel
theorem dX7_nameOf_58 : decode cX7_nameOf 58 = .ok (.iload_n 2, 1) := by decide +kernel
theorem dX7_nameOf_59 : decode cX7_nameOf 59 = .ok (.bipush 101, 2) := by decide +kernel
theorem dX7_nameOf_61 : decode cX7_nameOf 61 = .ok (.if_icmp .ne 7, 3) := by decide +kernel
theorem dX7_nameOf_64 : decode cX7_nameOf 64 = .ok (.iconst 2, 1) := by decide +kernel
theorem dX7_nameOf_65 : decode cX7_nameOf 65 = .ok (.goto 32, 3) := by decide +kernel
theorem dX7_nameOf_68 : decode cX7_nameOf 68 = .ok (.iload_n 2, 1) := by decide +kernel
theorem dX7_nameOf_69 : decode cX7_nameOf 69 = .ok (.bipush 110, 2) := by decide +kernel
theorem dX7_nameOf_71 : decode cX7_nameOf 71 = .ok (.if_icmp .ne 7, 3) := by decide +kernel
theorem dX7_nameOf_74 : decode cX7_nameOf 74 = .ok (.iconst 3, 1) := by decide +kernel
theorem dX7_nameOf_75 : decode cX7_nameOf 75 = .ok (.goto 22, 3) := by decide +kernel
theorem dX7_nameOf_78 : decode cX7_nameOf 78 = .ok (.iload_n 2, 1) := by decide +kernel
theorem dX7_nameOf_79 : decode cX7_nameOf 79 = .ok (.ifCond .ne 7, 3) := by decide +kernel
theorem dX7_nameOf_82 : decode cX7_nameOf 82 = .ok (.iconst 4, 1) := by decide +kernel
theorem dX7_nameOf_83 : decode cX7_nameOf 83 = .ok (.goto 14, 3) := by decide +kernel
theorem dX7_nameOf_86 : decode cX7_nameOf 86 = .ok (.iload_n 2, 1) := by decide +kernel
theorem dX7_nameOf_87 : decode cX7_nameOf 87 = .ok (.bipush 121, 2) := by decide +kernel
theorem dX7_nameOf_89 : decode cX7_nameOf 89 = .ok (.if_icmp .ne 7, 3) := by decide +kernel
theorem dX7_nameOf_92 : decode cX7_nameOf 92 = .ok (.iconst 5, 1) := by decide +kernel
theorem dX7_nameOf_93 : decode cX7_nameOf 93 = .ok (.goto 4, 3) := by decide +kernel
theorem dX7_nameOf_96 : decode cX7_nameOf 96 = .ok (.iconst 0, 1) := by decide +kernel
theorem dX7_nameOf_97 : decode cX7_nameOf 97 = .ok (.ireturn, 1) := by decide +kernel
theorem dX7_layThen_0 : decode cX7_layThen 0 = .ok (.iconst 0, 1) := by decide +kernel
theorem dX7_layThen_1 : decode cX7_layThen 1 = .ok (.istore_n 1, 1) := by decide +kernel
theorem dX7_layThen_2 : decode cX7_layThen 2 = .ok (.iload_n 1, 1) := by decide +kernel
theorem dX7_layThen_3 : decode cX7_layThen 3 = .ok (.sipush 207, 3) := by decide +kernel
theorem dX7_layThen_6 : decode cX7_layThen 6 = .ok (.if_icmp .ge 21, 3) := by decide +kernel
theorem dX7_layThen_9 : decode cX7_layThen 9 = .ok (.aload_n 0, 1) := by decide +kernel
theorem dX7_layThen_10 : decode cX7_layThen 10 = .ok (.getfield 25, 3) := by decide +kernel
theorem dX7_layThen_13 : decode cX7_layThen 13 = .ok (.iload_n 1, 1) := by decide +kernel
theorem dX7_layThen_14 : decode cX7_layThen 14 = .ok (.aload_n 0, 1) := by decide +kernel
theorem dX7_layThen_15 : decode cX7_layThen 15 = .ok (.getfield 19, 3) := by decide +kernel
theorem dX7_layThen_18 : decode cX7_layThen 18 = .ok (.iload_n 1, 1) := by decide +kernel
theorem dX7_layThen_19 : decode cX7_layThen 19 = .ok (.iaload, 1) := by decide +kernel
theorem dX7_layThen_20 : decode cX7_layThen 20 = .ok (.iastore, 1) := by decide +kernel
theorem dX7_layThen_21 : decode cX7_layThen 21 = .ok (.iinc 1 1, 3) := by decide +kernel
theorem dX7_layThen_24 : decode cX7_layThen 24 = .ok (.goto (-22), 3) := by decide +kernel
theorem dX7_layThen_27 : decode cX7_layThen 27 = .ok (.return_, 1) := by decide +kernel
theorem dX7_keep_0 : decode cX7_keep 0 = .ok (.aload_n 0, 1) := by decide +kernel
theorem dX7_keep_1 : decode cX7_keep 1 = .ok (.getfield 165, 3) := by decide +kernel
theorem dX7_keep_4 : decode cX7_keep 4 = .ok (.bipush 24, 2) := by decide +kernel
theorem dX7_keep_6 : decode cX7_keep 6 = .ok (.if_icmp .ne 44, 3) := by decide +kernel
theorem dX7_keep_9 : decode cX7_keep 9 = .ok (.iconst 0, 1) := by decide +kernel
theorem dX7_keep_10 : decode cX7_keep 10 = .ok (.istore_n 1, 1) := by decide +kernel
theorem dX7_keep_11 : decode cX7_keep 11 = .ok (.iload_n 1, 1) := by decide +kernel
theorem dX7_keep_12 : decode cX7_keep 12 = .ok (.sipush 4761, 3) := by decide +kernel
theorem dX7_keep_15 : decode cX7_keep 15 = .ok (.if_icmp .ge 25, 3) := by decide +kernel
theorem dX7_keep_18 : decode cX7_keep 18 = .ok (.aload_n 0, 1) := by decide +kernel
theorem dX7_keep_19 : decode cX7_keep 19 = .ok (.getfield 28, 3) := by decide +kernel
theorem dX7_keep_22 : decode cX7_keep 22 = .ok (.iload_n 1, 1) := by decide +kernel
theorem dX7_keep_23 : decode cX7_keep 23 = .ok (.aload_n 0, 1) := by decide +kernel
theorem dX7_keep_24 : decode cX7_keep 24 = .ok (.getfield 28, 3) := by decide +kernel
theorem dX7_keep_27 : decode cX7_keep 27 = .ok (.iload_n 1, 1) := by decide +kernel
theorem dX7_keep_28 : decode cX7_keep 28 = .ok (.sipush 207, 3) := by decide +kernel
theorem dX7_keep_31 : decode cX7_keep 31 = .ok (.iadd, 1) := by decide +kernel
theorem dX7_keep_32 : decode cX7_keep 32 = .ok (.iaload, 1) := by decide +kernel
theorem dX7_keep_33 : decode cX7_keep 33 = .ok (.iastore, 1) := by decide +kernel
theorem dX7_keep_34 : decode cX7_keep 34 = .ok (.iinc 1 1, 3) := by decide +kernel
theorem dX7_keep_37 : decode cX7_keep 37 = .ok (.goto (-26), 3) := by decide +kernel
theorem dX7_keep_40 : decode cX7_keep 40 = .ok (.aload_n 0, 1) := by decide +kernel
theorem dX7_keep_41 : decode cX7_keep 41 = .ok (.dup, 1) := by decide +kernel
theorem dX7_keep_42 : decode cX7_keep 42 = .ok (.getfield 165, 3) := by decide +kernel
theorem dX7_keep_45 : decode cX7_keep 45 = .ok (.iconst 1, 1) := by decide +kernel
theorem dX7_keep_46 : decode cX7_keep 46 = .ok (.isub, 1) := by decide +kernel
theorem dX7_keep_47 : decode cX7_keep 47 = .ok (.putfield 165, 3) := by decide +kernel
theorem dX7_keep_50 : decode cX7_keep 50 = .ok (.iconst 0, 1) := by decide +kernel
theorem dX7_keep_51 : decode cX7_keep 51 = .ok (.istore_n 1, 1) := by decide +kernel
theorem dX7_keep_52 : decode cX7_keep 52 = .ok (.iload_n 1, 1) := by decide +kernel
theorem dX7_keep_53 : decode cX7_keep 53 = .ok (.sipush 207, 3) := by decide +kernel
theorem dX7_keep_56 : decode cX7_keep 56 = .ok (.if_icmp .ge 30, 3) := by decide +kernel
theorem dX7_keep_59 : decode cX7_keep 59 = .ok (.aload_n 0, 1) := by decide +kernel
theorem dX7_keep_60 : decode cX7_keep 60 = .ok (.getfield 28, 3) := by decide +kernel
theorem dX7_keep_63 : decode cX7_keep 63 = .ok (.sipush 207, 3) := by decide +kernel
theorem dX7_keep_66 : decode cX7_keep 66 = .ok (.aload_n 0, 1) := by decide +kernel
theorem dX7_keep_67 : decode cX7_keep 67 = .ok (.getfield 165, 3) := by decide +kernel
theorem dX7_keep_70 : decode cX7_keep 70 = .ok (.imul, 1) := by decide +kernel
theorem dX7_keep_71 : decode cX7_keep 71 = .ok (.iload_n 1, 1) := by decide +kernel
theorem dX7_keep_72 : decode cX7_keep 72 = .ok (.iadd, 1) := by decide +kernel
theorem dX7_keep_73 : decode cX7_keep 73 = .ok (.aload_n 0, 1) := by decide +kernel
theorem dX7_keep_74 : decode cX7_keep 74 = .ok (.getfield 19, 3) := by decide +kernel
theorem dX7_keep_77 : decode cX7_keep 77 = .ok (.iload_n 1, 1) := by decide +kernel
theorem dX7_keep_78 : decode cX7_keep 78 = .ok (.iaload, 1) := by decide +kernel
theorem dX7_keep_79 : decode cX7_keep 79 = .ok (.iastore, 1) := by decide +kernel
theorem dX7_keep_80 : decode cX7_keep 80 = .ok (.iinc 1 1, 3) := by decide +kernel
theorem dX7_keep_83 : decode cX7_keep 83 = .ok (.goto (-31), 3) := by decide +kernel
theorem dX7_keep_86 : decode cX7_keep 86 = .ok (.aload_n 0, 1) := by decide +kernel
theorem dX7_keep_87 : decode cX7_keep 87 = .ok (.dup, 1) := by decide +kernel
theorem dX7_keep_88 : decode cX7_keep 88 = .ok (.getfield 165, 3) := by decide +kernel
theorem dX7_keep_91 : decode cX7_keep 91 = .ok (.iconst 1, 1) := by decide +kernel
theorem dX7_keep_92 : decode cX7_keep 92 = .ok (.iadd, 1) := by decide +kernel
theorem dX7_keep_93 : decode cX7_keep 93 = .ok (.putfield 165, 3) := by decide +kernel
theorem dX7_keep_96 : decode cX7_keep 96 = .ok (.return_, 1) := by decide +kernel
theorem dX7_become_0 : decode cX7_become 0 = .ok (.aload_n 0, 1) := by decide +kernel
theorem dX7_become_1 : decode cX7_become 1 = .ok (.iconst 0, 1) := by decide +kernel
theorem dX7_become_2 : decode cX7_become 2 = .ok (.putfield 56, 3) := by decide +kernel
theorem dX7_become_5 : decode cX7_become 5 = .ok (.aload_n 0, 1) := by decide +kernel
theorem dX7_become_6 : decode cX7_become 6 = .ok (.iload_n 1, 1) := by decide +kernel
theorem dX7_become_7 : decode cX7_become 7 = .ok (.invokevirtual 262, 3) := by decide +kernel
theorem dX7_become_10 : decode cX7_become 10 = .ok (.ifCond .eq 15, 3) := by decide +kernel
theorem dX7_become_13 : decode cX7_become 13 = .ok (.iload_n 2, 1) := by decide +kernel
theorem dX7_become_14 : decode cX7_become 14 = .ok (.i2l, 1) := by decide +kernel
theorem dX7_become_15 : decode cX7_become 15 = .ok (.lconst 1, 1) := by decide +kernel
theorem dX7_become_16 : decode cX7_become 16 = .ok (.ldc2_w 143, 3) := by decide +kernel
theorem dX7_become_19 : decode cX7_become 19 = .ok (.invokestatic 66, 3) := by decide +kernel
theorem dX7_become_22 : decode cX7_become 22 = .ok (.ifCond .ne 6, 3) := by decide +kernel
theorem dX7_become_25 : decode cX7_become 25 = .ok (.ldc 76, 2) := by decide +kernel
theorem dX7_become_27 : decode cX7_become 27 = .ok (.ireturn, 1) := by decide +kernel
theorem dX7_become_28 : decode cX7_become 28 = .ok (.aload_n 0, 1) := by decide +kernel
theorem dX7_become_29 : decode cX7_become 29 = .ok (.getfield 19, 3) := by decide +kernel
theorem dX7_become_32 : decode cX7_become 32 = .ok (.iload_n 1, 1) := by decide +kernel
theorem dX7_become_33 : decode cX7_become 33 = .ok (.invokestatic 189, 3) := by decide +kernel
theorem dX7_become_36 : decode cX7_become 36 = .ok (.istore_n 3, 1) := by decide +kernel
theorem dX7_become_37 : decode cX7_become 37 = .ok (.iload_n 3, 1) := by decide +kernel
theorem dX7_become_38 : decode cX7_become 38 = .ok (.iload_n 2, 1) := by decide +kernel
theorem dX7_become_39 : decode cX7_become 39 = .ok (.if_icmp .ne 7, 3) := by decide +kernel
theorem dX7_become_42 : decode cX7_become 42 = .ok (.ldc_w 265, 3) := by decide +kernel
theorem dX7_become_45 : decode cX7_become 45 = .ok (.ireturn, 1) := by decide +kernel
theorem dX7_become_46 : decode cX7_become 46 = .ok (.aload_n 0, 1) := by decide +kernel
theorem dX7_become_47 : decode cX7_become 47 = .ok (.invokevirtual 266, 3) := by decide +kernel
theorem dX7_become_50 : decode cX7_become 50 = .ok (.aload_n 0, 1) := by decide +kernel
theorem dX7_become_51 : decode cX7_become 51 = .ok (.getfield 19, 3) := by decide +kernel
theorem dX7_become_54 : decode cX7_become 54 = .ok (.bipush 7, 2) := by decide +kernel
theorem dX7_become_56 : decode cX7_become 56 = .ok (.bipush 10, 2) := by decide +kernel
theorem dX7_become_58 : decode cX7_become 58 = .ok (.iload_n 1, 1) := by decide +kernel
theorem dX7_become_59 : decode cX7_become 59 = .ok (.imul, 1) := by decide +kernel
theorem dX7_become_60 : decode cX7_become 60 = .ok (.iadd, 1) := by decide +kernel
theorem dX7_become_61 : decode cX7_become 61 = .ok (.iload_n 2, 1) := by decide +kernel
theorem dX7_become_62 : decode cX7_become 62 = .ok (.iastore, 1) := by decide +kernel
theorem dX7_become_63 : decode cX7_become 63 = .ok (.iload_n 3, 1) := by decide +kernel
theorem dX7_become_64 : decode cX7_become 64 = .ok (.ireturn, 1) := by decide +kernel
theorem dX7_rowFound_0 : decode cX7_rowFound 0 = .ok (.aload_n 0, 1) := by decide +kernel
theorem dX7_rowFound_1 : decode cX7_rowFound 1 = .ok (.getfield 7, 3) := by decide +kernel
theorem dX7_rowFound_4 : decode cX7_rowFound 4 = .ok (.iload_n 1, 1) := by decide +kernel
theorem dX7_rowFound_5 : decode cX7_rowFound 5 = .ok (.iaload, 1) := by decide +kernel
theorem dX7_rowFound_6 : decode cX7_rowFound 6 = .ok (.ifCond .ge 9, 3) := by decide +kernel
theorem dX7_rowFound_9 : decode cX7_rowFound 9 = .ok (.aload_n 0, 1) := by decide +kernel
theorem dX7_rowFound_10 : decode cX7_rowFound 10 = .ok (.iconst 1, 1) := by decide +kernel
theorem dX7_rowFound_11 : decode cX7_rowFound 11 = .ok (.invokevirtual 77, 3) := by decide +kernel
theorem dX7_rowFound_14 : decode cX7_rowFound 14 = .ok (.ireturn, 1) := by decide +kernel
theorem dX7_rowFound_15 : decode cX7_rowFound 15 = .ok (.iload_n 2, 1) := by decide +kernel
theorem dX7_rowFound_16 : decode cX7_rowFound 16 = .ok (.ifCond .lt 19, 3) := by decide +kernel
theorem dX7_rowFound_19 : decode cX7_rowFound 19 = .ok (.iload_n 2, 1) := by decide +kernel
theorem dX7_rowFound_20 : decode cX7_rowFound 20 = .ok (.i2l, 1) := by decide +kernel
theorem dX7_rowFound_21 : decode cX7_rowFound 21 = .ok (.iload_n 3, 1) := by decide +kernel
theorem dX7_rowFound_22 : decode cX7_rowFound 22 = .ok (.i2l, 1) := by decide +kernel
theorem dX7_rowFound_23 : decode cX7_rowFound 23 = .ok (.ladd, 1) := by decide +kernel
theorem dX7_rowFound_24 : decode cX7_rowFound 24 = .ok (.aload_n 0, 1) := by decide +kernel
theorem dX7_rowFound_25 : decode cX7_rowFound 25 = .ok (.getfield 13, 3) := by decide +kernel
theorem dX7_rowFound_28 : decode cX7_rowFound 28 = .ok (.iload_n 1, 1) := by decide +kernel
theorem dX7_rowFound_29 : decode cX7_rowFound 29 = .ok (.iaload, 1) := by decide +kernel
theorem dX7_rowFound_30 : decode cX7_rowFound 30 = .ok (.i2l, 1) := by decide +kernel
theorem dX7_rowFound_31 : decode cX7_rowFound 31 = .ok (.lcmp, 1) := by decide +kernel
theorem dX7_rowFound_32 : decode cX7_rowFound 32 = .ok (.ifCond .le 9, 3) := by decide +kernel
theorem dX7_rowFound_35 : decode cX7_rowFound 35 = .ok (.aload_n 0, 1) := by decide +kernel
theorem dX7_rowFound_36 : decode cX7_rowFound 36 = .ok (.iconst 2, 1) := by decide +kernel
theorem dX7_rowFound_37 : decode cX7_rowFound 37 = .ok (.invokevirtual 77, 3) := by decide +kernel
theorem dX7_rowFound_40 : decode cX7_rowFound 40 = .ok (.ireturn, 1) := by decide +kernel
theorem dX7_rowFound_41 : decode cX7_rowFound 41 = .ok (.iconst 0, 1) := by decide +kernel
theorem dX7_rowFound_42 : decode cX7_rowFound 42 = .ok (.ireturn, 1) := by decide +kernel
theorem dX7_put_0 : decode cX7_put 0 = .ok (.aload_n 0, 1) := by decide +kernel
theorem dX7_put_1 : decode cX7_put 1 = .ok (.iconst 0, 1) := by decide +kernel
theorem dX7_put_2 : decode cX7_put 2 = .ok (.putfield 56, 3) := by decide +kernel
theorem dX7_put_5 : decode cX7_put 5 = .ok (.aload_n 0, 1) := by decide +kernel
theorem dX7_put_6 : decode cX7_put 6 = .ok (.iload_n 1, 1) := by decide +kernel
theorem dX7_put_7 : decode cX7_put 7 = .ok (.invokevirtual 269, 3) := by decide +kernel
theorem dX7_put_10 : decode cX7_put 10 = .ok (.ifCond .eq 54, 3) := by decide +kernel
theorem dX7_put_13 : decode cX7_put 13 = .ok (.iload_n 2, 1) := by decide +kernel
theorem dX7_put_14 : decode cX7_put 14 = .ok (.i2l, 1) := by decide +kernel
theorem dX7_put_15 : decode cX7_put 15 = .ok (.lconst 0, 1) := by decide +kernel
theorem dX7_put_16 : decode cX7_put 16 = .ok (.aload_n 0, 1) := by decide +kernel
theorem dX7_put_17 : decode cX7_put 17 = .ok (.getfield 19, 3) := by decide +kernel
theorem dX7_put_20 : decode cX7_put 20 = .ok (.iconst 3, 1) := by decide +kernel
theorem dX7_put_21 : decode cX7_put 21 = .ok (.iload_n 1, 1) := by decide +kernel
theorem dX7_put_22 : decode cX7_put 22 = .ok (.iadd, 1) := by decide +kernel
theorem dX7_put_23 : decode cX7_put 23 = .ok (.iaload, 1) := by decide +kernel
theorem dX7_put_24 : decode cX7_put 24 = .ok (.i2l, 1) := by decide +kernel
theorem dX7_put_25 : decode cX7_put 25 = .ok (.invokestatic 66, 3) := by decide +kernel
theorem dX7_put_28 : decode cX7_put 28 = .ok (.ifCond .eq 36, 3) := by decide +kernel
theorem dX7_put_31 : decode cX7_put 31 = .ok (.iload_n 3, 1) := by decide +kernel
theorem dX7_put_32 : decode cX7_put 32 = .ok (.i2l, 1) := by decide +kernel
theorem dX7_put_33 : decode cX7_put 33 = .ok (.lconst 1, 1) := by decide +kernel
theorem dX7_put_34 : decode cX7_put 34 = .ok (.ldc2_w 143, 3) := by decide +kernel
theorem dX7_put_37 : decode cX7_put 37 = .ok (.invokestatic 66, 3) := by decide +kernel
theorem dX7_put_40 : decode cX7_put 40 = .ok (.ifCond .eq 24, 3) := by decide +kernel
theorem dX7_put_43 : decode cX7_put 43 = .ok (.iload 4, 2) := by decide +kernel
theorem dX7_put_45 : decode cX7_put 45 = .ok (.invokestatic 70, 3) := by decide +kernel
theorem dX7_put_48 : decode cX7_put 48 = .ok (.ifCond .eq 16, 3) := by decide +kernel
theorem dX7_put_51 : decode cX7_put 51 = .ok (.iload 5, 2) := by decide +kernel
theorem dX7_put_53 : decode cX7_put 53 = .ok (.i2l, 1) := by decide +kernel
theorem dX7_put_54 : decode cX7_put 54 = .ok (.lconst 1, 1) := by decide +kernel
theorem dX7_put_55 : decode cX7_put 55 = .ok (.ldc2_w 272, 3) := by decide +kernel
theorem dX7_put_58 : decode cX7_put 58 = .ok (.invokestatic 66, 3) := by decide +kernel
theorem dX7_put_61 : decode cX7_put 61 = .ok (.ifCond .ne 6, 3) := by decide +kernel
theorem dX7_put_64 : decode cX7_put 64 = .ok (.ldc 76, 2) := by decide +kernel
theorem dX7_put_66 : decode cX7_put 66 = .ok (.ireturn, 1) := by decide +kernel
theorem dX7_put_67 : decode cX7_put 67 = .ok (.aload_n 0, 1) := by decide +kernel
theorem dX7_put_68 : decode cX7_put 68 = .ok (.getfield 19, 3) := by decide +kernel
theorem dX7_put_71 : decode cX7_put 71 = .ok (.iconst 3, 1) := by decide +kernel
theorem dX7_put_72 : decode cX7_put 72 = .ok (.iload_n 1, 1) := by decide +kernel
theorem dX7_put_73 : decode cX7_put 73 = .ok (.iadd, 1) := by decide +kernel
theorem dX7_put_74 : decode cX7_put 74 = .ok (.iaload, 1) := by decide +kernel
theorem dX7_put_75 : decode cX7_put 75 = .ok (.iconst 5, 1) := by decide +kernel
theorem dX7_put_76 : decode cX7_put 76 = .ok (.if_icmp .ne 6, 3) := by decide +kernel
theorem dX7_put_79 : decode cX7_put 79 = .ok (.ldc 86, 2) := by decide +kernel
theorem dX7_put_81 : decode cX7_put 81 = .ok (.ireturn, 1) := by decide +kernel
theorem dX7_put_82 : decode cX7_put 82 = .ok (.aload_n 0, 1) := by decide +kernel
theorem dX7_put_83 : decode cX7_put 83 = .ok (.iload 4, 2) := by decide +kernel
theorem dX7_put_85 : decode cX7_put 85 = .ok (.iconst 0, 1) := by decide +kernel
theorem dX7_put_86 : decode cX7_put 86 = .ok (.iload 5, 2) := by decide +kernel
theorem dX7_put_88 : decode cX7_put 88 = .ok (.invokevirtual 274, 3) := by decide +kernel
theorem dX7_put_91 : decode cX7_put 91 = .ok (.istore 6, 2) := by decide +kernel
theorem dX7_put_93 : decode cX7_put 93 = .ok (.iload 6, 2) := by decide +kernel
theorem dX7_put_95 : decode cX7_put 95 = .ok (.ifCond .eq 6, 3) := by decide +kernel
theorem dX7_put_98 : decode cX7_put 98 = .ok (.iload 6, 2) := by decide +kernel
theorem dX7_put_100 : decode cX7_put 100 = .ok (.ireturn, 1) := by decide +kernel
theorem dX7_put_101 : decode cX7_put 101 = .ok (.iconst 0, 1) := by decide +kernel
theorem dX7_put_102 : decode cX7_put 102 = .ok (.istore 7, 2) := by decide +kernel
theorem dX7_put_104 : decode cX7_put 104 = .ok (.iconst 0, 1) := by decide +kernel
theorem dX7_put_105 : decode cX7_put 105 = .ok (.istore 8, 2) := by decide +kernel
theorem dX7_put_107 : decode cX7_put 107 = .ok (.iload 8, 2) := by decide +kernel
theorem dX7_put_109 : decode cX7_put 109 = .ok (.iload 5, 2) := by decide +kernel
theorem dX7_put_111 : decode cX7_put 111 = .ok (.if_icmp .ge 70, 3) := by decide +kernel
theorem dX7_put_114 : decode cX7_put 114 = .ok (.aload_n 0, 1) := by decide +kernel
theorem dX7_put_115 : decode cX7_put 115 = .ok (.getfield 16, 3) := by decide +kernel
theorem dX7_put_118 : decode cX7_put 118 = .ok (.bipush 40, 2) := by decide +kernel
theorem dX7_put_120 : decode cX7_put 120 = .ok (.iload 4, 2) := by decide +kernel
theorem dX7_put_122 : decode cX7_put 122 = .ok (.imul, 1) := by decide +kernel
theorem dX7_put_123 : decode cX7_put 123 = .ok (.iload 8, 2) := by decide +kernel
theorem dX7_put_125 : decode cX7_put 125 = .ok (.iadd, 1) := by decide +kernel
theorem dX7_put_126 : decode cX7_put 126 = .ok (.iaload, 1) := by decide +kernel
theorem dX7_put_127 : decode cX7_put 127 = .ok (.i2l, 1) := by decide +kernel
theorem dX7_put_128 : decode cX7_put 128 = .ok (.lconst 0, 1) := by decide +kernel
theorem dX7_put_129 : decode cX7_put 129 = .ok (.ldc2_w 278, 3) := by decide +kernel
theorem dX7_put_132 : decode cX7_put 132 = .ok (.invokestatic 66, 3) := by decide +kernel
theorem dX7_put_135 : decode cX7_put 135 = .ok (.ifCond .ne 9, 3) := by decide +kernel
theorem dX7_put_138 : decode cX7_put 138 = .ok (.aload_n 0, 1) := by decide +kernel
theorem dX7_put_139 : decode cX7_put 139 = .ok (.iconst 2, 1) := by decide +kernel
theorem dX7_put_140 : decode cX7_put 140 = .ok (.invokevirtual 77, 3) := by decide +kernel
theorem dX7_put_143 : decode cX7_put 143 = .ok (.ireturn, 1) := by decide +kernel
theorem dX7_put_144 : decode cX7_put 144 = .ok (.iload 7, 2) := by decide +kernel
theorem dX7_put_146 : decode cX7_put 146 = .ok (.ifCond .ne 22, 3) := by decide +kernel
theorem dX7_put_149 : decode cX7_put 149 = .ok (.aload_n 0, 1) := by decide +kernel
theorem dX7_put_150 : decode cX7_put 150 = .ok (.getfield 16, 3) := by decide +kernel
theorem dX7_put_153 : decode cX7_put 153 = .ok (.bipush 40, 2) := by decide +kernel
theorem dX7_put_155 : decode cX7_put 155 = .ok (.iload 4, 2) := by decide +kernel
theorem dX7_put_157 : decode cX7_put 157 = .ok (.imul, 1) := by decide +kernel
theorem dX7_put_158 : decode cX7_put 158 = .ok (.iload 8, 2) := by decide +kernel
theorem dX7_put_160 : decode cX7_put 160 = .ok (.iadd, 1) := by decide +kernel
theorem dX7_put_161 : decode cX7_put 161 = .ok (.iaload, 1) := by decide +kernel
theorem dX7_put_162 : decode cX7_put 162 = .ok (.invokestatic 136, 3) := by decide +kernel
theorem dX7_put_165 : decode cX7_put 165 = .ok (.ifCond .eq 7, 3) := by decide +kernel
theorem dX7_put_168 : decode cX7_put 168 = .ok (.iconst 1, 1) := by decide +kernel
theorem dX7_put_169 : decode cX7_put 169 = .ok (.goto 4, 3) := by decide +kernel
theorem dX7_put_172 : decode cX7_put 172 = .ok (.iconst 0, 1) := by decide +kernel
theorem dX7_put_173 : decode cX7_put 173 = .ok (.istore 7, 2) := by decide +kernel
theorem dX7_put_175 : decode cX7_put 175 = .ok (.iinc 8 1, 3) := by decide +kernel
theorem dX7_put_178 : decode cX7_put 178 = .ok (.goto (-71), 3) := by decide +kernel
theorem dX7_put_181 : decode cX7_put 181 = .ok (.iload 7, 2) := by decide +kernel
theorem dX7_put_183 : decode cX7_put 183 = .ok (.ifCond .ne 7, 3) := by decide +kernel
theorem dX7_put_186 : decode cX7_put 186 = .ok (.ldc_w 265, 3) := by decide +kernel
theorem dX7_put_189 : decode cX7_put 189 = .ok (.ireturn, 1) := by decide +kernel
theorem dX7_put_190 : decode cX7_put 190 = .ok (.aload_n 0, 1) := by decide +kernel
theorem dX7_put_191 : decode cX7_put 191 = .ok (.iconst 0, 1) := by decide +kernel
theorem dX7_put_192 : decode cX7_put 192 = .ok (.putfield 60, 3) := by decide +kernel
theorem dX7_put_195 : decode cX7_put 195 = .ok (.aload_n 0, 1) := by decide +kernel
theorem dX7_put_196 : decode cX7_put 196 = .ok (.invokevirtual 266, 3) := by decide +kernel
theorem dX7_put_199 : decode cX7_put 199 = .ok (.aload_n 0, 1) := by decide +kernel
theorem dX7_put_200 : decode cX7_put 200 = .ok (.getfield 19, 3) := by decide +kernel
theorem dX7_put_203 : decode cX7_put 203 = .ok (.iload_n 1, 1) := by decide +kernel
theorem dX7_put_204 : decode cX7_put 204 = .ok (.invokestatic 198, 3) := by decide +kernel
theorem dX7_put_207 : decode cX7_put 207 = .ok (.iload_n 2, 1) := by decide +kernel
theorem dX7_put_208 : decode cX7_put 208 = .ok (.iadd, 1) := by decide +kernel
theorem dX7_put_209 : decode cX7_put 209 = .ok (.istore 8, 2) := by decide +kernel
theorem dX7_put_211 : decode cX7_put 211 = .ok (.bipush 7, 2) := by decide +kernel
theorem dX7_put_213 : decode cX7_put 213 = .ok (.bipush 10, 2) := by decide +kernel
theorem dX7_put_215 : decode cX7_put 215 = .ok (.aload_n 0, 1) := by decide +kernel
theorem dX7_put_216 : decode cX7_put 216 = .ok (.getfield 19, 3) := by decide +kernel
theorem dX7_put_219 : decode cX7_put 219 = .ok (.invokestatic 128, 3) := by decide +kernel
theorem dX7_put_222 : decode cX7_put 222 = .ok (.imul, 1) := by decide +kernel
theorem dX7_put_223 : decode cX7_put 223 = .ok (.iadd, 1) := by decide +kernel
theorem dX7_put_224 : decode cX7_put 224 = .ok (.iconst 1, 1) := by decide +kernel
theorem dX7_put_225 : decode cX7_put 225 = .ok (.isub, 1) := by decide +kernel
theorem dX7_put_226 : decode cX7_put 226 = .ok (.istore 9, 2) := by decide +kernel
theorem dX7_put_228 : decode cX7_put 228 = .ok (.iload 9, 2) := by decide +kernel
theorem dX7_put_230 : decode cX7_put 230 = .ok (.bipush 7, 2) := by decide +kernel
theorem dX7_put_232 : decode cX7_put 232 = .ok (.bipush 10, 2) := by decide +kernel
theorem dX7_put_234 : decode cX7_put 234 = .ok (.iload 8, 2) := by decide +kernel
theorem dX7_put_236 : decode cX7_put 236 = .ok (.imul, 1) := by decide +kernel
theorem dX7_put_237 : decode cX7_put 237 = .ok (.iadd, 1) := by decide +kernel
theorem dX7_put_238 : decode cX7_put 238 = .ok (.if_icmp .lt 26, 3) := by decide +kernel
theorem dX7_put_241 : decode cX7_put 241 = .ok (.aload_n 0, 1) := by decide +kernel
theorem dX7_put_242 : decode cX7_put 242 = .ok (.getfield 19, 3) := by decide +kernel
theorem dX7_put_245 : decode cX7_put 245 = .ok (.iload 9, 2) := by decide +kernel
theorem dX7_put_247 : decode cX7_put 247 = .ok (.bipush 10, 2) := by decide +kernel
theorem dX7_put_249 : decode cX7_put 249 = .ok (.iadd, 1) := by decide +kernel
theorem dX7_put_250 : decode cX7_put 250 = .ok (.aload_n 0, 1) := by decide +kernel
theorem dX7_put_251 : decode cX7_put 251 = .ok (.getfield 19, 3) := by decide +kernel
theorem dX7_put_254 : decode cX7_put 254 = .ok (.iload 9, 2) := by decide +kernel
theorem dX7_put_256 : decode cX7_put 256 = .ok (.iaload, 1) := by decide +kernel
theorem dX7_put_257 : decode cX7_put 257 = .ok (.iastore, 1) := by decide +kernel
theorem dX7_put_258 : decode cX7_put 258 = .ok (.iinc 9 (-1), 3) := by decide +kernel
theorem dX7_put_261 : decode cX7_put 261 = .ok (.goto (-33), 3) := by decide +kernel
theorem dX7_put_264 : decode cX7_put 264 = .ok (.iconst 0, 1) := by decide +kernel
theorem dX7_put_265 : decode cX7_put 265 = .ok (.istore 9, 2) := by decide +kernel
theorem dX7_put_267 : decode cX7_put 267 = .ok (.iload 9, 2) := by decide +kernel
theorem dX7_put_269 : decode cX7_put 269 = .ok (.bipush 10, 2) := by decide +kernel
theorem dX7_put_271 : decode cX7_put 271 = .ok (.if_icmp .ge 26, 3) := by decide +kernel
theorem dX7_put_274 : decode cX7_put 274 = .ok (.aload_n 0, 1) := by decide +kernel
theorem dX7_put_275 : decode cX7_put 275 = .ok (.getfield 19, 3) := by decide +kernel
theorem dX7_put_278 : decode cX7_put 278 = .ok (.bipush 7, 2) := by decide +kernel
theorem dX7_put_280 : decode cX7_put 280 = .ok (.bipush 10, 2) := by decide +kernel
theorem dX7_put_282 : decode cX7_put 282 = .ok (.iload 8, 2) := by decide +kernel
theorem dX7_put_284 : decode cX7_put 284 = .ok (.imul, 1) := by decide +kernel
theorem dX7_put_285 : decode cX7_put 285 = .ok (.iadd, 1) := by decide +kernel
theorem dX7_put_286 : decode cX7_put 286 = .ok (.iload 9, 2) := by decide +kernel
theorem dX7_put_288 : decode cX7_put 288 = .ok (.iadd, 1) := by decide +kernel
theorem dX7_put_289 : decode cX7_put 289 = .ok (.iconst 0, 1) := by decide +kernel
theorem dX7_put_290 : decode cX7_put 290 = .ok (.iastore, 1) := by decide +kernel
theorem dX7_put_291 : decode cX7_put 291 = .ok (.iinc 9 1, 3) := by decide +kernel
theorem dX7_put_294 : decode cX7_put 294 = .ok (.goto (-27), 3) := by decide +kernel
theorem dX7_put_297 : decode cX7_put 297 = .ok (.aload_n 0, 1) := by decide +kernel
theorem dX7_put_298 : decode cX7_put 298 = .ok (.getfield 19, 3) := by decide +kernel
theorem dX7_put_301 : decode cX7_put 301 = .ok (.bipush 7, 2) := by decide +kernel
theorem dX7_put_303 : decode cX7_put 303 = .ok (.bipush 10, 2) := by decide +kernel
theorem dX7_put_305 : decode cX7_put 305 = .ok (.iload 8, 2) := by decide +kernel
theorem dX7_put_307 : decode cX7_put 307 = .ok (.imul, 1) := by decide +kernel
theorem dX7_put_308 : decode cX7_put 308 = .ok (.iadd, 1) := by decide +kernel
theorem dX7_put_309 : decode cX7_put 309 = .ok (.iload_n 3, 1) := by decide +kernel
theorem dX7_put_310 : decode cX7_put 310 = .ok (.iastore, 1) := by decide +kernel
theorem dX7_put_311 : decode cX7_put 311 = .ok (.aload_n 0, 1) := by decide +kernel
theorem dX7_put_312 : decode cX7_put 312 = .ok (.getfield 19, 3) := by decide +kernel
theorem dX7_put_315 : decode cX7_put 315 = .ok (.bipush 7, 2) := by decide +kernel
theorem dX7_put_317 : decode cX7_put 317 = .ok (.bipush 10, 2) := by decide +kernel
theorem dX7_put_319 : decode cX7_put 319 = .ok (.iload 8, 2) := by decide +kernel
theorem dX7_put_321 : decode cX7_put 321 = .ok (.imul, 1) := by decide +kernel
theorem dX7_put_322 : decode cX7_put 322 = .ok (.iadd, 1) := by decide +kernel
theorem dX7_put_323 : decode cX7_put 323 = .ok (.iconst 1, 1) := by decide +kernel
theorem dX7_put_324 : decode cX7_put 324 = .ok (.iadd, 1) := by decide +kernel
theorem dX7_put_325 : decode cX7_put 325 = .ok (.iload 5, 2) := by decide +kernel
theorem dX7_put_327 : decode cX7_put 327 = .ok (.iastore, 1) := by decide +kernel
theorem dX7_put_328 : decode cX7_put 328 = .ok (.iconst 0, 1) := by decide +kernel
theorem dX7_put_329 : decode cX7_put 329 = .ok (.istore 9, 2) := by decide +kernel
theorem dX7_put_331 : decode cX7_put 331 = .ok (.iload 9, 2) := by decide +kernel
theorem dX7_put_333 : decode cX7_put 333 = .ok (.iload 5, 2) := by decide +kernel
theorem dX7_put_335 : decode cX7_put 335 = .ok (.if_icmp .ge 40, 3) := by decide +kernel
theorem dX7_put_338 : decode cX7_put 338 = .ok (.aload_n 0, 1) := by decide +kernel
theorem dX7_put_339 : decode cX7_put 339 = .ok (.getfield 19, 3) := by decide +kernel
theorem dX7_put_342 : decode cX7_put 342 = .ok (.bipush 7, 2) := by decide +kernel
theorem dX7_put_344 : decode cX7_put 344 = .ok (.bipush 10, 2) := by decide +kernel
theorem dX7_put_346 : decode cX7_put 346 = .ok (.iload 8, 2) := by decide +kernel
theorem dX7_put_348 : decode cX7_put 348 = .ok (.imul, 1) := by decide +kernel
theorem dX7_put_349 : decode cX7_put 349 = .ok (.iadd, 1) := by decide +kernel
theorem dX7_put_350 : decode cX7_put 350 = .ok (.iconst 2, 1) := by decide +kernel
theorem dX7_put_351 : decode cX7_put 351 = .ok (.iadd, 1) := by decide +kernel
theorem dX7_put_352 : decode cX7_put 352 = .ok (.iload 9, 2) := by decide +kernel
theorem dX7_put_354 : decode cX7_put 354 = .ok (.iadd, 1) := by decide +kernel
theorem dX7_put_355 : decode cX7_put 355 = .ok (.aload_n 0, 1) := by decide +kernel
theorem dX7_put_356 : decode cX7_put 356 = .ok (.getfield 16, 3) := by decide +kernel
theorem dX7_put_359 : decode cX7_put 359 = .ok (.bipush 40, 2) := by decide +kernel
theorem dX7_put_361 : decode cX7_put 361 = .ok (.iload 4, 2) := by decide +kernel
theorem dX7_put_363 : decode cX7_put 363 = .ok (.imul, 1) := by decide +kernel
theorem dX7_put_364 : decode cX7_put 364 = .ok (.iload 9, 2) := by decide +kernel
theorem dX7_put_366 : decode cX7_put 366 = .ok (.iadd, 1) := by decide +kernel
theorem dX7_put_367 : decode cX7_put 367 = .ok (.iaload, 1) := by decide +kernel
theorem dX7_put_368 : decode cX7_put 368 = .ok (.iastore, 1) := by decide +kernel
theorem dX7_put_369 : decode cX7_put 369 = .ok (.iinc 9 1, 3) := by decide +kernel
theorem dX7_put_372 : decode cX7_put 372 = .ok (.goto (-41), 3) := by decide +kernel
theorem dX7_put_375 : decode cX7_put 375 = .ok (.aload_n 0, 1) := by decide +kernel
theorem dX7_put_376 : decode cX7_put 376 = .ok (.getfield 19, 3) := by decide +kernel
theorem dX7_put_379 : decode cX7_put 379 = .ok (.iconst 3, 1) := by decide +kernel
theorem dX7_put_380 : decode cX7_put 380 = .ok (.iload_n 1, 1) := by decide +kernel
theorem dX7_put_381 : decode cX7_put 381 = .ok (.iadd, 1) := by decide +kernel
theorem dX7_put_382 : decode cX7_put 382 = .ok (.dup2, 1) := by decide +kernel
theorem dX7_put_383 : decode cX7_put 383 = .ok (.iaload, 1) := by decide +kernel
theorem dX7_put_384 : decode cX7_put 384 = .ok (.iconst 1, 1) := by decide +kernel
theorem dX7_put_385 : decode cX7_put 385 = .ok (.iadd, 1) := by decide +kernel
theorem dX7_put_386 : decode cX7_put 386 = .ok (.iastore, 1) := by decide +kernel
theorem dX7_put_387 : decode cX7_put 387 = .ok (.iload 8, 2) := by decide +kernel
theorem dX7_put_389 : decode cX7_put 389 = .ok (.ireturn, 1) := by decide +kernel
theorem dX7_take_0 : decode cX7_take 0 = .ok (.aload_n 0, 1) := by decide +kernel
theorem dX7_take_1 : decode cX7_take 1 = .ok (.iconst 0, 1) := by decide +kernel
theorem dX7_take_2 : decode cX7_take 2 = .ok (.putfield 56, 3) := by decide +kernel
theorem dX7_take_5 : decode cX7_take 5 = .ok (.aload_n 0, 1) := by decide +kernel
theorem dX7_take_6 : decode cX7_take 6 = .ok (.iload_n 1, 1) := by decide +kernel
theorem dX7_take_7 : decode cX7_take 7 = .ok (.invokevirtual 262, 3) := by decide +kernel
theorem dX7_take_10 : decode cX7_take 10 = .ok (.ifCond .ne 6, 3) := by decide +kernel
theorem dX7_take_13 : decode cX7_take 13 = .ok (.ldc 76, 2) := by decide +kernel
theorem dX7_take_15 : decode cX7_take 15 = .ok (.ireturn, 1) := by decide +kernel
theorem dX7_take_16 : decode cX7_take 16 = .ok (.aload_n 0, 1) := by decide +kernel
theorem dX7_take_17 : decode cX7_take 17 = .ok (.getfield 19, 3) := by decide +kernel
theorem dX7_take_20 : decode cX7_take 20 = .ok (.iload_n 1, 1) := by decide +kernel
theorem dX7_take_21 : decode cX7_take 21 = .ok (.invokestatic 195, 3) := by decide +kernel
theorem dX7_take_24 : decode cX7_take 24 = .ok (.istore_n 2, 1) := by decide +kernel
theorem dX7_take_25 : decode cX7_take 25 = .ok (.aload_n 0, 1) := by decide +kernel
theorem dX7_take_26 : decode cX7_take 26 = .ok (.getfield 19, 3) := by decide +kernel
theorem dX7_take_29 : decode cX7_take 29 = .ok (.iconst 3, 1) := by decide +kernel
theorem dX7_take_30 : decode cX7_take 30 = .ok (.iload_n 2, 1) := by decide +kernel
theorem dX7_take_31 : decode cX7_take 31 = .ok (.iadd, 1) := by decide +kernel
theorem dX7_take_32 : decode cX7_take 32 = .ok (.iaload, 1) := by decide +kernel
theorem dX7_take_33 : decode cX7_take 33 = .ok (.iconst 1, 1) := by decide +kernel
theorem dX7_take_34 : decode cX7_take 34 = .ok (.if_icmp .ne 7, 3) := by decide +kernel
theorem dX7_take_37 : decode cX7_take 37 = .ok (.ldc_w 265, 3) := by decide +kernel
theorem dX7_take_40 : decode cX7_take 40 = .ok (.ireturn, 1) := by decide +kernel
theorem dX7_take_41 : decode cX7_take 41 = .ok (.aload_n 0, 1) := by decide +kernel
theorem dX7_take_42 : decode cX7_take 42 = .ok (.invokevirtual 266, 3) := by decide +kernel
theorem dX7_take_45 : decode cX7_take 45 = .ok (.aload_n 0, 1) := by decide +kernel
theorem dX7_take_46 : decode cX7_take 46 = .ok (.getfield 19, 3) := by decide +kernel
theorem dX7_take_49 : decode cX7_take 49 = .ok (.invokestatic 128, 3) := by decide +kernel
theorem dX7_take_52 : decode cX7_take 52 = .ok (.iconst 1, 1) := by decide +kernel
theorem dX7_take_53 : decode cX7_take 53 = .ok (.isub, 1) := by decide +kernel
theorem dX7_take_54 : decode cX7_take 54 = .ok (.istore_n 3, 1) := by decide +kernel
theorem dX7_take_55 : decode cX7_take 55 = .ok (.bipush 7, 2) := by decide +kernel
theorem dX7_take_57 : decode cX7_take 57 = .ok (.bipush 10, 2) := by decide +kernel
theorem dX7_take_59 : decode cX7_take 59 = .ok (.iload_n 1, 1) := by decide +kernel
theorem dX7_take_60 : decode cX7_take 60 = .ok (.imul, 1) := by decide +kernel
theorem dX7_take_61 : decode cX7_take 61 = .ok (.iadd, 1) := by decide +kernel
theorem dX7_take_62 : decode cX7_take 62 = .ok (.istore 4, 2) := by decide +kernel
theorem dX7_take_64 : decode cX7_take 64 = .ok (.iload 4, 2) := by decide +kernel
theorem dX7_take_66 : decode cX7_take 66 = .ok (.bipush 7, 2) := by decide +kernel
theorem dX7_take_68 : decode cX7_take 68 = .ok (.bipush 10, 2) := by decide +kernel
theorem dX7_take_70 : decode cX7_take 70 = .ok (.iload_n 3, 1) := by decide +kernel
theorem dX7_take_71 : decode cX7_take 71 = .ok (.imul, 1) := by decide +kernel
theorem dX7_take_72 : decode cX7_take 72 = .ok (.iadd, 1) := by decide +kernel
theorem dX7_take_73 : decode cX7_take 73 = .ok (.if_icmp .ge 26, 3) := by decide +kernel
theorem dX7_take_76 : decode cX7_take 76 = .ok (.aload_n 0, 1) := by decide +kernel
theorem dX7_take_77 : decode cX7_take 77 = .ok (.getfield 19, 3) := by decide +kernel
theorem dX7_take_80 : decode cX7_take 80 = .ok (.iload 4, 2) := by decide +kernel
theorem dX7_take_82 : decode cX7_take 82 = .ok (.aload_n 0, 1) := by decide +kernel
theorem dX7_take_83 : decode cX7_take 83 = .ok (.getfield 19, 3) := by decide +kernel
theorem dX7_take_86 : decode cX7_take 86 = .ok (.iload 4, 2) := by decide +kernel
theorem dX7_take_88 : decode cX7_take 88 = .ok (.bipush 10, 2) := by decide +kernel
theorem dX7_take_90 : decode cX7_take 90 = .ok (.iadd, 1) := by decide +kernel
theorem dX7_take_91 : decode cX7_take 91 = .ok (.iaload, 1) := by decide +kernel
theorem dX7_take_92 : decode cX7_take 92 = .ok (.iastore, 1) := by decide +kernel
theorem dX7_take_93 : decode cX7_take 93 = .ok (.iinc 4 1, 3) := by decide +kernel
theorem dX7_take_96 : decode cX7_take 96 = .ok (.goto (-32), 3) := by decide +kernel
theorem dX7_take_99 : decode cX7_take 99 = .ok (.iconst 0, 1) := by decide +kernel
theorem dX7_take_100 : decode cX7_take 100 = .ok (.istore 4, 2) := by decide +kernel
theorem dX7_take_102 : decode cX7_take 102 = .ok (.iload 4, 2) := by decide +kernel
theorem dX7_take_104 : decode cX7_take 104 = .ok (.bipush 10, 2) := by decide +kernel
theorem dX7_take_106 : decode cX7_take 106 = .ok (.if_icmp .ge 25, 3) := by decide +kernel
theorem dX7_take_109 : decode cX7_take 109 = .ok (.aload_n 0, 1) := by decide +kernel
theorem dX7_take_110 : decode cX7_take 110 = .ok (.getfield 19, 3) := by decide +kernel
theorem dX7_take_113 : decode cX7_take 113 = .ok (.bipush 7, 2) := by decide +kernel
theorem dX7_take_115 : decode cX7_take 115 = .ok (.bipush 10, 2) := by decide +kernel
theorem dX7_take_117 : decode cX7_take 117 = .ok (.iload_n 3, 1) := by decide +kernel
theorem dX7_take_118 : decode cX7_take 118 = .ok (.imul, 1) := by decide +kernel
theorem dX7_take_119 : decode cX7_take 119 = .ok (.iadd, 1) := by decide +kernel
theorem dX7_take_120 : decode cX7_take 120 = .ok (.iload 4, 2) := by decide +kernel
theorem dX7_take_122 : decode cX7_take 122 = .ok (.iadd, 1) := by decide +kernel
theorem dX7_take_123 : decode cX7_take 123 = .ok (.iconst 0, 1) := by decide +kernel
theorem dX7_take_124 : decode cX7_take 124 = .ok (.iastore, 1) := by decide +kernel
theorem dX7_take_125 : decode cX7_take 125 = .ok (.iinc 4 1, 3) := by decide +kernel
theorem dX7_take_128 : decode cX7_take 128 = .ok (.goto (-26), 3) := by decide +kernel
theorem dX7_take_131 : decode cX7_take 131 = .ok (.aload_n 0, 1) := by decide +kernel
theorem dX7_take_132 : decode cX7_take 132 = .ok (.getfield 19, 3) := by decide +kernel
theorem dX7_take_135 : decode cX7_take 135 = .ok (.iconst 3, 1) := by decide +kernel
theorem dX7_take_136 : decode cX7_take 136 = .ok (.iload_n 2, 1) := by decide +kernel
theorem dX7_take_137 : decode cX7_take 137 = .ok (.iadd, 1) := by decide +kernel
theorem dX7_take_138 : decode cX7_take 138 = .ok (.dup2, 1) := by decide +kernel
theorem dX7_take_139 : decode cX7_take 139 = .ok (.iaload, 1) := by decide +kernel
theorem dX7_take_140 : decode cX7_take 140 = .ok (.iconst 1, 1) := by decide +kernel
theorem dX7_take_141 : decode cX7_take 141 = .ok (.isub, 1) := by decide +kernel
theorem dX7_take_142 : decode cX7_take 142 = .ok (.iastore, 1) := by decide +kernel
theorem dX7_take_143 : decode cX7_take 143 = .ok (.aload_n 0, 1) := by decide +kernel
theorem dX7_take_144 : decode cX7_take 144 = .ok (.getfield 19, 3) := by decide +kernel
theorem dX7_take_147 : decode cX7_take 147 = .ok (.iconst 3, 1) := by decide +kernel
theorem dX7_take_148 : decode cX7_take 148 = .ok (.iload_n 2, 1) := by decide +kernel
theorem dX7_take_149 : decode cX7_take 149 = .ok (.iadd, 1) := by decide +kernel
theorem dX7_take_150 : decode cX7_take 150 = .ok (.iaload, 1) := by decide +kernel
theorem dX7_take_151 : decode cX7_take 151 = .ok (.ireturn, 1) := by decide +kernel
theorem dX7_swap_0 : decode cX7_swap 0 = .ok (.aload_n 0, 1) := by decide +kernel
theorem dX7_swap_1 : decode cX7_swap 1 = .ok (.iconst 0, 1) := by decide +kernel
theorem dX7_swap_2 : decode cX7_swap 2 = .ok (.putfield 56, 3) := by decide +kernel
theorem dX7_swap_5 : decode cX7_swap 5 = .ok (.aload_n 0, 1) := by decide +kernel
theorem dX7_swap_6 : decode cX7_swap 6 = .ok (.iload_n 1, 1) := by decide +kernel
theorem dX7_swap_7 : decode cX7_swap 7 = .ok (.invokevirtual 262, 3) := by decide +kernel
theorem dX7_swap_10 : decode cX7_swap 10 = .ok (.ifCond .eq 11, 3) := by decide +kernel
theorem dX7_swap_13 : decode cX7_swap 13 = .ok (.aload_n 0, 1) := by decide +kernel
theorem dX7_swap_14 : decode cX7_swap 14 = .ok (.iload_n 2, 1) := by decide +kernel
theorem dX7_swap_15 : decode cX7_swap 15 = .ok (.invokevirtual 262, 3) := by decide +kernel
theorem dX7_swap_18 : decode cX7_swap 18 = .ok (.ifCond .ne 6, 3) := by decide +kernel
theorem dX7_swap_21 : decode cX7_swap 21 = .ok (.ldc 76, 2) := by decide +kernel
theorem dX7_swap_23 : decode cX7_swap 23 = .ok (.ireturn, 1) := by decide +kernel
theorem dX7_swap_24 : decode cX7_swap 24 = .ok (.iload_n 1, 1) := by decide +kernel
theorem dX7_swap_25 : decode cX7_swap 25 = .ok (.iload_n 2, 1) := by decide +kernel
theorem dX7_swap_26 : decode cX7_swap 26 = .ok (.if_icmp .ne 7, 3) := by decide +kernel
theorem dX7_swap_29 : decode cX7_swap 29 = .ok (.ldc_w 265, 3) := by decide +kernel
theorem dX7_swap_32 : decode cX7_swap 32 = .ok (.ireturn, 1) := by decide +kernel
theorem dX7_swap_33 : decode cX7_swap 33 = .ok (.aload_n 0, 1) := by decide +kernel
theorem dX7_swap_34 : decode cX7_swap 34 = .ok (.invokevirtual 266, 3) := by decide +kernel
theorem dX7_swap_37 : decode cX7_swap 37 = .ok (.iconst 0, 1) := by decide +kernel
theorem dX7_swap_38 : decode cX7_swap 38 = .ok (.istore_n 3, 1) := by decide +kernel
theorem dX7_swap_39 : decode cX7_swap 39 = .ok (.iload_n 3, 1) := by decide +kernel
theorem dX7_swap_40 : decode cX7_swap 40 = .ok (.bipush 10, 2) := by decide +kernel
theorem dX7_swap_42 : decode cX7_swap 42 = .ok (.if_icmp .ge 69, 3) := by decide +kernel
theorem dX7_swap_45 : decode cX7_swap 45 = .ok (.aload_n 0, 1) := by decide +kernel
theorem dX7_swap_46 : decode cX7_swap 46 = .ok (.getfield 19, 3) := by decide +kernel
theorem dX7_swap_49 : decode cX7_swap 49 = .ok (.bipush 7, 2) := by decide +kernel
theorem dX7_swap_51 : decode cX7_swap 51 = .ok (.bipush 10, 2) := by decide +kernel
theorem dX7_swap_53 : decode cX7_swap 53 = .ok (.iload_n 1, 1) := by decide +kernel
theorem dX7_swap_54 : decode cX7_swap 54 = .ok (.imul, 1) := by decide +kernel
theorem dX7_swap_55 : decode cX7_swap 55 = .ok (.iadd, 1) := by decide +kernel
theorem dX7_swap_56 : decode cX7_swap 56 = .ok (.iload_n 3, 1) := by decide +kernel
theorem dX7_swap_57 : decode cX7_swap 57 = .ok (.iadd, 1) := by decide +kernel
theorem dX7_swap_58 : decode cX7_swap 58 = .ok (.iaload, 1) := by decide +kernel
theorem dX7_swap_59 : decode cX7_swap 59 = .ok (.istore 4, 2) := by decide +kernel
theorem dX7_swap_61 : decode cX7_swap 61 = .ok (.aload_n 0, 1) := by decide +kernel
theorem dX7_swap_62 : decode cX7_swap 62 = .ok (.getfield 19, 3) := by decide +kernel
theorem dX7_swap_65 : decode cX7_swap 65 = .ok (.bipush 7, 2) := by decide +kernel
theorem dX7_swap_67 : decode cX7_swap 67 = .ok (.bipush 10, 2) := by decide +kernel
theorem dX7_swap_69 : decode cX7_swap 69 = .ok (.iload_n 1, 1) := by decide +kernel
theorem dX7_swap_70 : decode cX7_swap 70 = .ok (.imul, 1) := by decide +kernel
theorem dX7_swap_71 : decode cX7_swap 71 = .ok (.iadd, 1) := by decide +kernel
theorem dX7_swap_72 : decode cX7_swap 72 = .ok (.iload_n 3, 1) := by decide +kernel
theorem dX7_swap_73 : decode cX7_swap 73 = .ok (.iadd, 1) := by decide +kernel
theorem dX7_swap_74 : decode cX7_swap 74 = .ok (.aload_n 0, 1) := by decide +kernel
theorem dX7_swap_75 : decode cX7_swap 75 = .ok (.getfield 19, 3) := by decide +kernel
theorem dX7_swap_78 : decode cX7_swap 78 = .ok (.bipush 7, 2) := by decide +kernel
theorem dX7_swap_80 : decode cX7_swap 80 = .ok (.bipush 10, 2) := by decide +kernel
theorem dX7_swap_82 : decode cX7_swap 82 = .ok (.iload_n 2, 1) := by decide +kernel
theorem dX7_swap_83 : decode cX7_swap 83 = .ok (.imul, 1) := by decide +kernel
theorem dX7_swap_84 : decode cX7_swap 84 = .ok (.iadd, 1) := by decide +kernel
theorem dX7_swap_85 : decode cX7_swap 85 = .ok (.iload_n 3, 1) := by decide +kernel
theorem dX7_swap_86 : decode cX7_swap 86 = .ok (.iadd, 1) := by decide +kernel
theorem dX7_swap_87 : decode cX7_swap 87 = .ok (.iaload, 1) := by decide +kernel
theorem dX7_swap_88 : decode cX7_swap 88 = .ok (.iastore, 1) := by decide +kernel
theorem dX7_swap_89 : decode cX7_swap 89 = .ok (.aload_n 0, 1) := by decide +kernel
theorem dX7_swap_90 : decode cX7_swap 90 = .ok (.getfield 19, 3) := by decide +kernel
theorem dX7_swap_93 : decode cX7_swap 93 = .ok (.bipush 7, 2) := by decide +kernel
theorem dX7_swap_95 : decode cX7_swap 95 = .ok (.bipush 10, 2) := by decide +kernel
theorem dX7_swap_97 : decode cX7_swap 97 = .ok (.iload_n 2, 1) := by decide +kernel
theorem dX7_swap_98 : decode cX7_swap 98 = .ok (.imul, 1) := by decide +kernel
theorem dX7_swap_99 : decode cX7_swap 99 = .ok (.iadd, 1) := by decide +kernel
theorem dX7_swap_100 : decode cX7_swap 100 = .ok (.iload_n 3, 1) := by decide +kernel
theorem dX7_swap_101 : decode cX7_swap 101 = .ok (.iadd, 1) := by decide +kernel
theorem dX7_swap_102 : decode cX7_swap 102 = .ok (.iload 4, 2) := by decide +kernel
theorem dX7_swap_104 : decode cX7_swap 104 = .ok (.iastore, 1) := by decide +kernel
theorem dX7_swap_105 : decode cX7_swap 105 = .ok (.iinc 3 1, 3) := by decide +kernel
theorem dX7_swap_108 : decode cX7_swap 108 = .ok (.goto (-69), 3) := by decide +kernel
theorem dX7_swap_111 : decode cX7_swap 111 = .ok (.iload_n 1, 1) := by decide +kernel
theorem dX7_swap_112 : decode cX7_swap 112 = .ok (.iload_n 2, 1) := by decide +kernel
theorem dX7_swap_113 : decode cX7_swap 113 = .ok (.if_icmp .ge 9, 3) := by decide +kernel
theorem dX7_swap_116 : decode cX7_swap 116 = .ok (.iload_n 2, 1) := by decide +kernel
theorem dX7_swap_117 : decode cX7_swap 117 = .ok (.iload_n 1, 1) := by decide +kernel
theorem dX7_swap_118 : decode cX7_swap 118 = .ok (.isub, 1) := by decide +kernel
theorem dX7_swap_119 : decode cX7_swap 119 = .ok (.goto 6, 3) := by decide +kernel
theorem dX7_swap_122 : decode cX7_swap 122 = .ok (.iload_n 1, 1) := by decide +kernel
theorem dX7_swap_123 : decode cX7_swap 123 = .ok (.iload_n 2, 1) := by decide +kernel
theorem dX7_swap_124 : decode cX7_swap 124 = .ok (.isub, 1) := by decide +kernel
theorem dX7_swap_125 : decode cX7_swap 125 = .ok (.iconst 1, 1) := by decide +kernel
theorem dX7_swap_126 : decode cX7_swap 126 = .ok (.iadd, 1) := by decide +kernel
theorem dX7_swap_127 : decode cX7_swap 127 = .ok (.ireturn, 1) := by decide +kernel
theorem dX7_metre_0 : decode cX7_metre 0 = .ok (.aload_n 0, 1) := by decide +kernel
theorem dX7_metre_1 : decode cX7_metre 1 = .ok (.iconst 0, 1) := by decide +kernel
theorem dX7_metre_2 : decode cX7_metre 2 = .ok (.putfield 56, 3) := by decide +kernel
theorem dX7_metre_5 : decode cX7_metre 5 = .ok (.aload_n 0, 1) := by decide +kernel
theorem dX7_metre_6 : decode cX7_metre 6 = .ok (.invokevirtual 280, 3) := by decide +kernel
theorem dX7_metre_9 : decode cX7_metre 9 = .ok (.ifCond .ne 7, 3) := by decide +kernel
theorem dX7_metre_12 : decode cX7_metre 12 = .ok (.ldc_w 265, 3) := by decide +kernel
theorem dX7_metre_15 : decode cX7_metre 15 = .ok (.ireturn, 1) := by decide +kernel
theorem dX7_metre_16 : decode cX7_metre 16 = .ok (.iload_n 1, 1) := by decide +kernel
theorem dX7_metre_17 : decode cX7_metre 17 = .ok (.iload_n 2, 1) := by decide +kernel
theorem dX7_metre_18 : decode cX7_metre 18 = .ok (.invokestatic 283, 3) := by decide +kernel
theorem dX7_metre_21 : decode cX7_metre 21 = .ok (.ifCond .ne 6, 3) := by decide +kernel
theorem dX7_metre_24 : decode cX7_metre 24 = .ok (.ldc 76, 2) := by decide +kernel
theorem dX7_metre_26 : decode cX7_metre 26 = .ok (.ireturn, 1) := by decide +kernel
theorem dX7_metre_27 : decode cX7_metre 27 = .ok (.aload_n 0, 1) := by decide +kernel
theorem dX7_metre_28 : decode cX7_metre 28 = .ok (.invokevirtual 266, 3) := by decide +kernel
theorem dX7_metre_31 : decode cX7_metre 31 = .ok (.bipush 10, 2) := by decide +kernel
theorem dX7_metre_33 : decode cX7_metre 33 = .ok (.aload_n 0, 1) := by decide +kernel
theorem dX7_metre_34 : decode cX7_metre 34 = .ok (.getfield 19, 3) := by decide +kernel
theorem dX7_metre_37 : decode cX7_metre 37 = .ok (.iconst 1, 1) := by decide +kernel
theorem dX7_metre_38 : decode cX7_metre 38 = .ok (.iaload, 1) := by decide +kernel
theorem dX7_metre_39 : decode cX7_metre 39 = .ok (.imul, 1) := by decide +kernel
theorem dX7_metre_40 : decode cX7_metre 40 = .ok (.aload_n 0, 1) := by decide +kernel
theorem dX7_metre_41 : decode cX7_metre 41 = .ok (.getfield 19, 3) := by decide +kernel
theorem dX7_metre_44 : decode cX7_metre 44 = .ok (.iconst 2, 1) := by decide +kernel
theorem dX7_metre_45 : decode cX7_metre 45 = .ok (.iaload, 1) := by decide +kernel
theorem dX7_metre_46 : decode cX7_metre 46 = .ok (.iadd, 1) := by decide +kernel
theorem dX7_metre_47 : decode cX7_metre 47 = .ok (.istore_n 3, 1) := by decide +kernel
theorem dX7_metre_48 : decode cX7_metre 48 = .ok (.aload_n 0, 1) := by decide +kernel
theorem dX7_metre_49 : decode cX7_metre 49 = .ok (.getfield 19, 3) := by decide +kernel
theorem dX7_metre_52 : decode cX7_metre 52 = .ok (.iconst 1, 1) := by decide +kernel
theorem dX7_metre_53 : decode cX7_metre 53 = .ok (.iload_n 1, 1) := by decide +kernel
theorem dX7_metre_54 : decode cX7_metre 54 = .ok (.iastore, 1) := by decide +kernel
theorem dX7_metre_55 : decode cX7_metre 55 = .ok (.aload_n 0, 1) := by decide +kernel
theorem dX7_metre_56 : decode cX7_metre 56 = .ok (.getfield 19, 3) := by decide +kernel
theorem dX7_metre_59 : decode cX7_metre 59 = .ok (.iconst 2, 1) := by decide +kernel
theorem dX7_metre_60 : decode cX7_metre 60 = .ok (.iload_n 2, 1) := by decide +kernel
theorem dX7_metre_61 : decode cX7_metre 61 = .ok (.iastore, 1) := by decide +kernel
theorem dX7_metre_62 : decode cX7_metre 62 = .ok (.iload_n 3, 1) := by decide +kernel
theorem dX7_metre_63 : decode cX7_metre 63 = .ok (.ireturn, 1) := by decide +kernel
theorem dX7_undo_0 : decode cX7_undo 0 = .ok (.aload_n 0, 1) := by decide +kernel
theorem dX7_undo_1 : decode cX7_undo 1 = .ok (.iconst 0, 1) := by decide +kernel
theorem dX7_undo_2 : decode cX7_undo 2 = .ok (.putfield 56, 3) := by decide +kernel
theorem dX7_undo_5 : decode cX7_undo 5 = .ok (.aload_n 0, 1) := by decide +kernel
theorem dX7_undo_6 : decode cX7_undo 6 = .ok (.getfield 165, 3) := by decide +kernel
theorem dX7_undo_9 : decode cX7_undo 9 = .ok (.ifCond .ne 7, 3) := by decide +kernel
theorem dX7_undo_12 : decode cX7_undo 12 = .ok (.ldc_w 265, 3) := by decide +kernel
theorem dX7_undo_15 : decode cX7_undo 15 = .ok (.ireturn, 1) := by decide +kernel
theorem dX7_undo_16 : decode cX7_undo 16 = .ok (.aload_n 0, 1) := by decide +kernel
theorem dX7_undo_17 : decode cX7_undo 17 = .ok (.dup, 1) := by decide +kernel
theorem dX7_undo_18 : decode cX7_undo 18 = .ok (.getfield 165, 3) := by decide +kernel
theorem dX7_undo_21 : decode cX7_undo 21 = .ok (.iconst 1, 1) := by decide +kernel
theorem dX7_undo_22 : decode cX7_undo 22 = .ok (.isub, 1) := by decide +kernel
theorem dX7_undo_23 : decode cX7_undo 23 = .ok (.putfield 165, 3) := by decide +kernel
theorem dX7_undo_26 : decode cX7_undo 26 = .ok (.iconst 0, 1) := by decide +kernel
theorem dX7_undo_27 : decode cX7_undo 27 = .ok (.istore_n 1, 1) := by decide +kernel
theorem dX7_undo_28 : decode cX7_undo 28 = .ok (.iload_n 1, 1) := by decide +kernel
theorem dX7_undo_29 : decode cX7_undo 29 = .ok (.sipush 207, 3) := by decide +kernel
theorem dX7_undo_32 : decode cX7_undo 32 = .ok (.if_icmp .ge 30, 3) := by decide +kernel
theorem dX7_undo_35 : decode cX7_undo 35 = .ok (.aload_n 0, 1) := by decide +kernel
theorem dX7_undo_36 : decode cX7_undo 36 = .ok (.getfield 19, 3) := by decide +kernel
theorem dX7_undo_39 : decode cX7_undo 39 = .ok (.iload_n 1, 1) := by decide +kernel
theorem dX7_undo_40 : decode cX7_undo 40 = .ok (.aload_n 0, 1) := by decide +kernel
theorem dX7_undo_41 : decode cX7_undo 41 = .ok (.getfield 28, 3) := by decide +kernel
theorem dX7_undo_44 : decode cX7_undo 44 = .ok (.sipush 207, 3) := by decide +kernel
theorem dX7_undo_47 : decode cX7_undo 47 = .ok (.aload_n 0, 1) := by decide +kernel
theorem dX7_undo_48 : decode cX7_undo 48 = .ok (.getfield 165, 3) := by decide +kernel
theorem dX7_undo_51 : decode cX7_undo 51 = .ok (.imul, 1) := by decide +kernel
theorem dX7_undo_52 : decode cX7_undo 52 = .ok (.iload_n 1, 1) := by decide +kernel
theorem dX7_undo_53 : decode cX7_undo 53 = .ok (.iadd, 1) := by decide +kernel
theorem dX7_undo_54 : decode cX7_undo 54 = .ok (.iaload, 1) := by decide +kernel
theorem dX7_undo_55 : decode cX7_undo 55 = .ok (.iastore, 1) := by decide +kernel
theorem dX7_undo_56 : decode cX7_undo 56 = .ok (.iinc 1 1, 3) := by decide +kernel
theorem dX7_undo_59 : decode cX7_undo 59 = .ok (.goto (-31), 3) := by decide +kernel
theorem dX7_undo_62 : decode cX7_undo 62 = .ok (.aload_n 0, 1) := by decide +kernel
theorem dX7_undo_63 : decode cX7_undo 63 = .ok (.getfield 165, 3) := by decide +kernel
theorem dX7_undo_66 : decode cX7_undo 66 = .ok (.ireturn, 1) := by decide +kernel
theorem dX7_strengthsOf_0 : decode cX7_strengthsOf 0 = .ok (.iconst 0, 1) := by decide +kernel
theorem dX7_strengthsOf_1 : decode cX7_strengthsOf 1 = .ok (.istore_n 3, 1) := by decide +kernel
theorem dX7_strengthsOf_2 : decode cX7_strengthsOf 2 = .ok (.iconst 0, 1) := by decide +kernel
theorem dX7_strengthsOf_3 : decode cX7_strengthsOf 3 = .ok (.istore 4, 2) := by decide +kernel
theorem dX7_strengthsOf_5 : decode cX7_strengthsOf 5 = .ok (.iload 4, 2) := by decide +kernel
theorem dX7_strengthsOf_7 : decode cX7_strengthsOf 7 = .ok (.aload_n 0, 1) := by decide +kernel
theorem dX7_strengthsOf_8 : decode cX7_strengthsOf 8 = .ok (.getfield 19, 3) := by decide +kernel
theorem dX7_strengthsOf_11 : decode cX7_strengthsOf 11 = .ok (.iload_n 1, 1) := by decide +kernel
theorem dX7_strengthsOf_12 : decode cX7_strengthsOf 12 = .ok (.invokestatic 192, 3) := by decide +kernel
theorem dX7_strengthsOf_15 : decode cX7_strengthsOf 15 = .ok (.if_icmp .ge 34, 3) := by decide +kernel
theorem dX7_strengthsOf_18 : decode cX7_strengthsOf 18 = .ok (.iload_n 3, 1) := by decide +kernel
theorem dX7_strengthsOf_19 : decode cX7_strengthsOf 19 = .ok (.aload_n 0, 1) := by decide +kernel
theorem dX7_strengthsOf_20 : decode cX7_strengthsOf 20 = .ok (.getfield 19, 3) := by decide +kernel
theorem dX7_strengthsOf_23 : decode cX7_strengthsOf 23 = .ok (.iload_n 1, 1) := by decide +kernel
theorem dX7_strengthsOf_24 : decode cX7_strengthsOf 24 = .ok (.iload 4, 2) := by decide +kernel
theorem dX7_strengthsOf_26 : decode cX7_strengthsOf 26 = .ok (.invokestatic 201, 3) := by decide +kernel
theorem dX7_strengthsOf_29 : decode cX7_strengthsOf 29 = .ok (.iload_n 2, 1) := by decide +kernel
theorem dX7_strengthsOf_30 : decode cX7_strengthsOf 30 = .ok (.if_icmp .ne 10, 3) := by decide +kernel
theorem dX7_strengthsOf_33 : decode cX7_strengthsOf 33 = .ok (.iconst 1, 1) := by decide +kernel
theorem dX7_strengthsOf_34 : decode cX7_strengthsOf 34 = .ok (.iload 4, 2) := by decide +kernel
theorem dX7_strengthsOf_36 : decode cX7_strengthsOf 36 = .ok (.ishl, 1) := by decide +kernel
theorem dX7_strengthsOf_37 : decode cX7_strengthsOf 37 = .ok (.goto 4, 3) := by decide +kernel
theorem dX7_strengthsOf_40 : decode cX7_strengthsOf 40 = .ok (.iconst 0, 1) := by decide +kernel
theorem dX7_strengthsOf_41 : decode cX7_strengthsOf 41 = .ok (.ior, 1) := by decide +kernel
theorem dX7_strengthsOf_42 : decode cX7_strengthsOf 42 = .ok (.istore_n 3, 1) := by decide +kernel
theorem dX7_strengthsOf_43 : decode cX7_strengthsOf 43 = .ok (.iinc 4 1, 3) := by decide +kernel
theorem dX7_strengthsOf_46 : decode cX7_strengthsOf 46 = .ok (.goto (-41), 3) := by decide +kernel
theorem dX7_strengthsOf_49 : decode cX7_strengthsOf 49 = .ok (.iload_n 3, 1) := by decide +kernel
theorem dX7_strengthsOf_50 : decode cX7_strengthsOf 50 = .ok (.ireturn, 1) := by decide +kernel
theorem dX7_word_0 : decode cX7_word 0 = .ok (.aload_n 0, 1) := by decide +kernel
theorem dX7_word_1 : decode cX7_word 1 = .ok (.iconst 0, 1) := by decide +kernel
theorem dX7_word_2 : decode cX7_word 2 = .ok (.putfield 56, 3) := by decide +kernel
theorem dX7_word_5 : decode cX7_word 5 = .ok (.aload_n 0, 1) := by decide +kernel
theorem dX7_word_6 : decode cX7_word 6 = .ok (.iload_n 1, 1) := by decide +kernel
theorem dX7_word_7 : decode cX7_word 7 = .ok (.invokevirtual 262, 3) := by decide +kernel
theorem dX7_word_10 : decode cX7_word 10 = .ok (.ifCond .ne 6, 3) := by decide +kernel
theorem dX7_word_13 : decode cX7_word 13 = .ok (.ldc 76, 2) := by decide +kernel
theorem dX7_word_15 : decode cX7_word 15 = .ok (.ireturn, 1) := by decide +kernel
theorem dX7_word_16 : decode cX7_word 16 = .ok (.iload_n 2, 1) := by decide +kernel
theorem dX7_word_17 : decode cX7_word 17 = .ok (.bipush 10, 2) := by decide +kernel
theorem dX7_word_19 : decode cX7_word 19 = .ok (.if_icmp .lt 36, 3) := by decide +kernel
theorem dX7_word_22 : decode cX7_word 22 = .ok (.iload_n 2, 1) := by decide +kernel
theorem dX7_word_23 : decode cX7_word 23 = .ok (.bipush 10, 2) := by decide +kernel
theorem dX7_word_25 : decode cX7_word 25 = .ok (.isub, 1) := by decide +kernel
theorem dX7_word_26 : decode cX7_word 26 = .ok (.aload_n 0, 1) := by decide +kernel
theorem dX7_word_27 : decode cX7_word 27 = .ok (.getfield 19, 3) := by decide +kernel
theorem dX7_word_30 : decode cX7_word 30 = .ok (.iload_n 1, 1) := by decide +kernel
theorem dX7_word_31 : decode cX7_word 31 = .ok (.invokestatic 174, 3) := by decide +kernel
theorem dX7_word_34 : decode cX7_word 34 = .ok (.if_icmp .ge 18, 3) := by decide +kernel
theorem dX7_word_37 : decode cX7_word 37 = .ok (.aload_n 0, 1) := by decide +kernel
theorem dX7_word_38 : decode cX7_word 38 = .ok (.getfield 19, 3) := by decide +kernel
theorem dX7_word_41 : decode cX7_word 41 = .ok (.iload_n 1, 1) := by decide +kernel
theorem dX7_word_42 : decode cX7_word 42 = .ok (.iload_n 2, 1) := by decide +kernel
theorem dX7_word_43 : decode cX7_word 43 = .ok (.bipush 10, 2) := by decide +kernel
theorem dX7_word_45 : decode cX7_word 45 = .ok (.isub, 1) := by decide +kernel
theorem dX7_word_46 : decode cX7_word 46 = .ok (.invokestatic 170, 3) := by decide +kernel
theorem dX7_word_49 : decode cX7_word 49 = .ok (.goto 5, 3) := by decide +kernel
theorem dX7_word_52 : decode cX7_word 52 = .ok (.ldc 99, 2) := by decide +kernel
theorem dX7_word_54 : decode cX7_word 54 = .ok (.ireturn, 1) := by decide +kernel
theorem dX7_word_55 : decode cX7_word 55 = .ok (.iload_n 2, 1) := by decide +kernel
theorem dX7_word_56 : decode cX7_word 56 = .ok (.tableswitch 99 0 5 #[40, 49, 67, 76, 85, 92], 40) := by decide +kernel
theorem dX7_word_96 : decode cX7_word 96 = .ok (.aload_n 0, 1) := by decide +kernel
theorem dX7_word_97 : decode cX7_word 97 = .ok (.getfield 19, 3) := by decide +kernel
theorem dX7_word_100 : decode cX7_word 100 = .ok (.iload_n 1, 1) := by decide +kernel
theorem dX7_word_101 : decode cX7_word 101 = .ok (.invokestatic 195, 3) := by decide +kernel
theorem dX7_word_104 : decode cX7_word 104 = .ok (.ireturn, 1) := by decide +kernel
theorem dX7_word_105 : decode cX7_word 105 = .ok (.iload_n 1, 1) := by decide +kernel
theorem dX7_word_106 : decode cX7_word 106 = .ok (.aload_n 0, 1) := by decide +kernel
theorem dX7_word_107 : decode cX7_word 107 = .ok (.getfield 19, 3) := by decide +kernel
theorem dX7_word_110 : decode cX7_word 110 = .ok (.aload_n 0, 1) := by decide +kernel
theorem dX7_word_111 : decode cX7_word 111 = .ok (.getfield 19, 3) := by decide +kernel
theorem dX7_word_114 : decode cX7_word 114 = .ok (.iload_n 1, 1) := by decide +kernel
theorem dX7_word_115 : decode cX7_word 115 = .ok (.invokestatic 195, 3) := by decide +kernel
theorem dX7_word_118 : decode cX7_word 118 = .ok (.invokestatic 198, 3) := by decide +kernel
theorem dX7_word_121 : decode cX7_word 121 = .ok (.isub, 1) := by decide +kernel
theorem dX7_word_122 : decode cX7_word 122 = .ok (.ireturn, 1) := by decide +kernel
theorem dX7_word_123 : decode cX7_word 123 = .ok (.aload_n 0, 1) := by decide +kernel
theorem dX7_word_124 : decode cX7_word 124 = .ok (.getfield 19, 3) := by decide +kernel
theorem dX7_word_127 : decode cX7_word 127 = .ok (.iload_n 1, 1) := by decide +kernel
theorem dX7_word_128 : decode cX7_word 128 = .ok (.invokestatic 174, 3) := by decide +kernel
theorem dX7_word_131 : decode cX7_word 131 = .ok (.ireturn, 1) := by decide +kernel
theorem dX7_word_132 : decode cX7_word 132 = .ok (.aload_n 0, 1) := by decide +kernel
theorem dX7_word_133 : decode cX7_word 133 = .ok (.getfield 19, 3) := by decide +kernel
theorem dX7_word_136 : decode cX7_word 136 = .ok (.iload_n 1, 1) := by decide +kernel
theorem dX7_word_137 : decode cX7_word 137 = .ok (.invokestatic 192, 3) := by decide +kernel
theorem dX7_word_140 : decode cX7_word 140 = .ok (.ireturn, 1) := by decide +kernel
theorem dX7_word_141 : decode cX7_word 141 = .ok (.aload_n 0, 1) := by decide +kernel
theorem dX7_word_142 : decode cX7_word 142 = .ok (.iload_n 1, 1) := by decide +kernel
theorem dX7_word_143 : decode cX7_word 143 = .ok (.iconst 1, 1) := by decide +kernel
theorem dX7_word_144 : decode cX7_word 144 = .ok (.invokevirtual 286, 3) := by decide +kernel
theorem dX7_word_147 : decode cX7_word 147 = .ok (.ireturn, 1) := by decide +kernel
theorem dX7_word_148 : decode cX7_word 148 = .ok (.aload_n 0, 1) := by decide +kernel
theorem dX7_word_149 : decode cX7_word 149 = .ok (.iload_n 1, 1) := by decide +kernel
theorem dX7_word_150 : decode cX7_word 150 = .ok (.iconst 2, 1) := by decide +kernel
theorem dX7_word_151 : decode cX7_word 151 = .ok (.invokevirtual 286, 3) := by decide +kernel
theorem dX7_word_154 : decode cX7_word 154 = .ok (.ireturn, 1) := by decide +kernel
theorem dX7_word_155 : decode cX7_word 155 = .ok (.ldc 76, 2) := by decide +kernel
theorem dX7_word_157 : decode cX7_word 157 = .ok (.ireturn, 1) := by decide +kernel
theorem dX7_runningOnes_0 : decode cX7_runningOnes 0 = .ok (.iconst 0, 1) := by decide +kernel
theorem dX7_runningOnes_1 : decode cX7_runningOnes 1 = .ok (.istore_n 2, 1) := by decide +kernel
theorem dX7_runningOnes_2 : decode cX7_runningOnes 2 = .ok (.iconst 0, 1) := by decide +kernel
theorem dX7_runningOnes_3 : decode cX7_runningOnes 3 = .ok (.istore_n 3, 1) := by decide +kernel
theorem dX7_runningOnes_4 : decode cX7_runningOnes 4 = .ok (.iload_n 3, 1) := by decide +kernel
theorem dX7_runningOnes_5 : decode cX7_runningOnes 5 = .ok (.aload_n 0, 1) := by decide +kernel
theorem dX7_runningOnes_6 : decode cX7_runningOnes 6 = .ok (.getfield 19, 3) := by decide +kernel
theorem dX7_runningOnes_9 : decode cX7_runningOnes 9 = .ok (.iconst 3, 1) := by decide +kernel
theorem dX7_runningOnes_10 : decode cX7_runningOnes 10 = .ok (.iload_n 1, 1) := by decide +kernel
theorem dX7_runningOnes_11 : decode cX7_runningOnes 11 = .ok (.iadd, 1) := by decide +kernel
theorem dX7_runningOnes_12 : decode cX7_runningOnes 12 = .ok (.iaload, 1) := by decide +kernel
theorem dX7_runningOnes_13 : decode cX7_runningOnes 13 = .ok (.if_icmp .ge 39, 3) := by decide +kernel
theorem dX7_runningOnes_16 : decode cX7_runningOnes 16 = .ok (.iload_n 2, 1) := by decide +kernel
theorem dX7_runningOnes_17 : decode cX7_runningOnes 17 = .ok (.aload_n 0, 1) := by decide +kernel
theorem dX7_runningOnes_18 : decode cX7_runningOnes 18 = .ok (.getfield 19, 3) := by decide +kernel
theorem dX7_runningOnes_21 : decode cX7_runningOnes 21 = .ok (.aload_n 0, 1) := by decide +kernel
theorem dX7_runningOnes_22 : decode cX7_runningOnes 22 = .ok (.getfield 19, 3) := by decide +kernel
theorem dX7_runningOnes_25 : decode cX7_runningOnes 25 = .ok (.iload_n 1, 1) := by decide +kernel
theorem dX7_runningOnes_26 : decode cX7_runningOnes 26 = .ok (.invokestatic 198, 3) := by decide +kernel
theorem dX7_runningOnes_29 : decode cX7_runningOnes 29 = .ok (.iload_n 3, 1) := by decide +kernel
theorem dX7_runningOnes_30 : decode cX7_runningOnes 30 = .ok (.iadd, 1) := by decide +kernel
theorem dX7_runningOnes_31 : decode cX7_runningOnes 31 = .ok (.invokestatic 208, 3) := by decide +kernel
theorem dX7_runningOnes_34 : decode cX7_runningOnes 34 = .ok (.ifCond .eq 9, 3) := by decide +kernel
theorem dX7_runningOnes_37 : decode cX7_runningOnes 37 = .ok (.iconst 1, 1) := by decide +kernel
theorem dX7_runningOnes_38 : decode cX7_runningOnes 38 = .ok (.iload_n 3, 1) := by decide +kernel
theorem dX7_runningOnes_39 : decode cX7_runningOnes 39 = .ok (.ishl, 1) := by decide +kernel
theorem dX7_runningOnes_40 : decode cX7_runningOnes 40 = .ok (.goto 4, 3) := by decide +kernel
theorem dX7_runningOnes_43 : decode cX7_runningOnes 43 = .ok (.iconst 0, 1) := by decide +kernel
theorem dX7_runningOnes_44 : decode cX7_runningOnes 44 = .ok (.ior, 1) := by decide +kernel
theorem dX7_runningOnes_45 : decode cX7_runningOnes 45 = .ok (.istore_n 2, 1) := by decide +kernel
theorem dX7_runningOnes_46 : decode cX7_runningOnes 46 = .ok (.iinc 3 1, 3) := by decide +kernel
theorem dX7_runningOnes_49 : decode cX7_runningOnes 49 = .ok (.goto (-45), 3) := by decide +kernel
theorem dX7_runningOnes_52 : decode cX7_runningOnes 52 = .ok (.iload_n 2, 1) := by decide +kernel
theorem dX7_runningOnes_53 : decode cX7_runningOnes 53 = .ok (.ireturn, 1) := by decide +kernel
theorem dX7_syllablesOf_0 : decode cX7_syllablesOf 0 = .ok (.iconst 0, 1) := by decide +kernel
theorem dX7_syllablesOf_1 : decode cX7_syllablesOf 1 = .ok (.istore_n 2, 1) := by decide +kernel
theorem dX7_syllablesOf_2 : decode cX7_syllablesOf 2 = .ok (.iconst 0, 1) := by decide +kernel
theorem dX7_syllablesOf_3 : decode cX7_syllablesOf 3 = .ok (.istore_n 3, 1) := by decide +kernel
theorem dX7_syllablesOf_4 : decode cX7_syllablesOf 4 = .ok (.iload_n 3, 1) := by decide +kernel
theorem dX7_syllablesOf_5 : decode cX7_syllablesOf 5 = .ok (.aload_n 0, 1) := by decide +kernel
theorem dX7_syllablesOf_6 : decode cX7_syllablesOf 6 = .ok (.getfield 19, 3) := by decide +kernel
theorem dX7_syllablesOf_9 : decode cX7_syllablesOf 9 = .ok (.iconst 3, 1) := by decide +kernel
theorem dX7_syllablesOf_10 : decode cX7_syllablesOf 10 = .ok (.iload_n 1, 1) := by decide +kernel
theorem dX7_syllablesOf_11 : decode cX7_syllablesOf 11 = .ok (.iadd, 1) := by decide +kernel
theorem dX7_syllablesOf_12 : decode cX7_syllablesOf 12 = .ok (.iaload, 1) := by decide +kernel
theorem dX7_syllablesOf_13 : decode cX7_syllablesOf 13 = .ok (.if_icmp .ge 29, 3) := by decide +kernel
theorem dX7_syllablesOf_16 : decode cX7_syllablesOf 16 = .ok (.iload_n 2, 1) := by decide +kernel
theorem dX7_syllablesOf_17 : decode cX7_syllablesOf 17 = .ok (.aload_n 0, 1) := by decide +kernel
theorem dX7_syllablesOf_18 : decode cX7_syllablesOf 18 = .ok (.getfield 19, 3) := by decide +kernel
theorem dX7_syllablesOf_21 : decode cX7_syllablesOf 21 = .ok (.aload_n 0, 1) := by decide +kernel
theorem dX7_syllablesOf_22 : decode cX7_syllablesOf 22 = .ok (.getfield 19, 3) := by decide +kernel
theorem dX7_syllablesOf_25 : decode cX7_syllablesOf 25 = .ok (.iload_n 1, 1) := by decide +kernel
theorem dX7_syllablesOf_26 : decode cX7_syllablesOf 26 = .ok (.invokestatic 198, 3) := by decide +kernel
theorem dX7_syllablesOf_29 : decode cX7_syllablesOf 29 = .ok (.iload_n 3, 1) := by decide +kernel
theorem dX7_syllablesOf_30 : decode cX7_syllablesOf 30 = .ok (.iadd, 1) := by decide +kernel
theorem dX7_syllablesOf_31 : decode cX7_syllablesOf 31 = .ok (.invokestatic 192, 3) := by decide +kernel
theorem dX7_syllablesOf_34 : decode cX7_syllablesOf 34 = .ok (.iadd, 1) := by decide +kernel
theorem dX7_syllablesOf_35 : decode cX7_syllablesOf 35 = .ok (.istore_n 2, 1) := by decide +kernel
theorem dX7_syllablesOf_36 : decode cX7_syllablesOf 36 = .ok (.iinc 3 1, 3) := by decide +kernel
theorem dX7_syllablesOf_39 : decode cX7_syllablesOf 39 = .ok (.goto (-35), 3) := by decide +kernel
theorem dX7_syllablesOf_42 : decode cX7_syllablesOf 42 = .ok (.iload_n 2, 1) := by decide +kernel
theorem dX7_syllablesOf_43 : decode cX7_syllablesOf 43 = .ok (.ireturn, 1) := by decide +kernel
theorem dX7_line_0 : decode cX7_line 0 = .ok (.aload_n 0, 1) := by decide +kernel
theorem dX7_line_1 : decode cX7_line 1 = .ok (.iconst 0, 1) := by decide +kernel
theorem dX7_line_2 : decode cX7_line 2 = .ok (.putfield 56, 3) := by decide +kernel
theorem dX7_line_5 : decode cX7_line 5 = .ok (.aload_n 0, 1) := by decide +kernel
theorem dX7_line_6 : decode cX7_line 6 = .ok (.iload_n 1, 1) := by decide +kernel
theorem dX7_line_7 : decode cX7_line 7 = .ok (.invokevirtual 269, 3) := by decide +kernel
theorem dX7_line_10 : decode cX7_line 10 = .ok (.ifCond .ne 6, 3) := by decide +kernel
theorem dX7_line_13 : decode cX7_line 13 = .ok (.ldc 76, 2) := by decide +kernel
theorem dX7_line_15 : decode cX7_line 15 = .ok (.ireturn, 1) := by decide +kernel
theorem dX7_line_16 : decode cX7_line 16 = .ok (.aload_n 0, 1) := by decide +kernel
theorem dX7_line_17 : decode cX7_line 17 = .ok (.getfield 19, 3) := by decide +kernel
theorem dX7_line_20 : decode cX7_line 20 = .ok (.iload_n 1, 1) := by decide +kernel
theorem dX7_line_21 : decode cX7_line 21 = .ok (.invokestatic 252, 3) := by decide +kernel
theorem dX7_line_24 : decode cX7_line 24 = .ok (.istore_n 3, 1) := by decide +kernel
theorem dX7_line_25 : decode cX7_line 25 = .ok (.iload_n 2, 1) := by decide +kernel
theorem dX7_line_26 : decode cX7_line 26 = .ok (.bipush 10, 2) := by decide +kernel
theorem dX7_line_28 : decode cX7_line 28 = .ok (.if_icmp .lt 45, 3) := by decide +kernel
theorem dX7_line_31 : decode cX7_line 31 = .ok (.iload_n 2, 1) := by decide +kernel
theorem dX7_line_32 : decode cX7_line 32 = .ok (.bipush 10, 2) := by decide +kernel
theorem dX7_line_34 : decode cX7_line 34 = .ok (.isub, 1) := by decide +kernel
theorem dX7_line_35 : decode cX7_line 35 = .ok (.aload_n 0, 1) := by decide +kernel
theorem dX7_line_36 : decode cX7_line 36 = .ok (.getfield 19, 3) := by decide +kernel
theorem dX7_line_39 : decode cX7_line 39 = .ok (.iload_n 3, 1) := by decide +kernel
theorem dX7_line_40 : decode cX7_line 40 = .ok (.invokestatic 249, 3) := by decide +kernel
theorem dX7_line_43 : decode cX7_line 43 = .ok (.if_icmp .ge 27, 3) := by decide +kernel
theorem dX7_line_46 : decode cX7_line 46 = .ok (.aload_n 0, 1) := by decide +kernel
theorem dX7_line_47 : decode cX7_line 47 = .ok (.getfield 19, 3) := by decide +kernel
theorem dX7_line_50 : decode cX7_line 50 = .ok (.iload_n 3, 1) := by decide +kernel
theorem dX7_line_51 : decode cX7_line 51 = .ok (.aload_n 0, 1) := by decide +kernel
theorem dX7_line_52 : decode cX7_line 52 = .ok (.getfield 19, 3) := by decide +kernel
theorem dX7_line_55 : decode cX7_line 55 = .ok (.iload_n 3, 1) := by decide +kernel
theorem dX7_line_56 : decode cX7_line 56 = .ok (.invokestatic 246, 3) := by decide +kernel
theorem dX7_line_59 : decode cX7_line 59 = .ok (.iload_n 2, 1) := by decide +kernel
theorem dX7_line_60 : decode cX7_line 60 = .ok (.iadd, 1) := by decide +kernel
theorem dX7_line_61 : decode cX7_line 61 = .ok (.bipush 10, 2) := by decide +kernel
theorem dX7_line_63 : decode cX7_line 63 = .ok (.isub, 1) := by decide +kernel
theorem dX7_line_64 : decode cX7_line 64 = .ok (.invokestatic 170, 3) := by decide +kernel
theorem dX7_line_67 : decode cX7_line 67 = .ok (.goto 5, 3) := by decide +kernel
theorem dX7_line_70 : decode cX7_line 70 = .ok (.ldc 99, 2) := by decide +kernel
theorem dX7_line_72 : decode cX7_line 72 = .ok (.ireturn, 1) := by decide +kernel
theorem dX7_line_73 : decode cX7_line 73 = .ok (.aload_n 0, 1) := by decide +kernel
theorem dX7_line_74 : decode cX7_line 74 = .ok (.invokevirtual 258, 3) := by decide +kernel
theorem dX7_line_77 : decode cX7_line 77 = .ok (.istore 4, 2) := by decide +kernel
theorem dX7_line_79 : decode cX7_line 79 = .ok (.iload_n 2, 1) := by decide +kernel
theorem dX7_line_80 : decode cX7_line 80 = .ok (.tableswitch 96 0 5 #[40, 49, 58, 64, 81, 90], 40) := by decide +kernel
theorem dX7_line_120 : decode cX7_line 120 = .ok (.aload_n 0, 1) := by decide +kernel
theorem dX7_line_121 : decode cX7_line 121 = .ok (.getfield 19, 3) := by decide +kernel
theorem dX7_line_124 : decode cX7_line 124 = .ok (.iconst 3, 1) := by decide +kernel
theorem dX7_line_125 : decode cX7_line 125 = .ok (.iload_n 1, 1) := by decide +kernel
theorem dX7_line_126 : decode cX7_line 126 = .ok (.iadd, 1) := by decide +kernel
theorem dX7_line_127 : decode cX7_line 127 = .ok (.iaload, 1) := by decide +kernel
theorem dX7_line_128 : decode cX7_line 128 = .ok (.ireturn, 1) := by decide +kernel
theorem dX7_line_129 : decode cX7_line 129 = .ok (.aload_n 0, 1) := by decide +kernel
theorem dX7_line_130 : decode cX7_line 130 = .ok (.getfield 19, 3) := by decide +kernel
theorem dX7_line_133 : decode cX7_line 133 = .ok (.iload_n 1, 1) := by decide +kernel
theorem dX7_line_134 : decode cX7_line 134 = .ok (.invokestatic 198, 3) := by decide +kernel
theorem dX7_line_137 : decode cX7_line 137 = .ok (.ireturn, 1) := by decide +kernel
theorem dX7_line_138 : decode cX7_line 138 = .ok (.aload_n 0, 1) := by decide +kernel
theorem dX7_line_139 : decode cX7_line 139 = .ok (.iload_n 1, 1) := by decide +kernel
theorem dX7_line_140 : decode cX7_line 140 = .ok (.invokevirtual 289, 3) := by decide +kernel
theorem dX7_line_143 : decode cX7_line 143 = .ok (.ireturn, 1) := by decide +kernel
theorem dX7_line_144 : decode cX7_line 144 = .ok (.iload 4, 2) := by decide +kernel
theorem dX7_line_146 : decode cX7_line 146 = .ok (.ifCond .le 12, 3) := by decide +kernel
theorem dX7_line_149 : decode cX7_line 149 = .ok (.aload_n 0, 1) := by decide +kernel
theorem dX7_line_150 : decode cX7_line 150 = .ok (.getfield 43, 3) := by decide +kernel
theorem dX7_line_153 : decode cX7_line 153 = .ok (.iload_n 1, 1) := by decide +kernel
theorem dX7_line_154 : decode cX7_line 154 = .ok (.iaload, 1) := by decide +kernel
theorem dX7_line_155 : decode cX7_line 155 = .ok (.goto 5, 3) := by decide +kernel
theorem dX7_line_158 : decode cX7_line 158 = .ok (.ldc 99, 2) := by decide +kernel
theorem dX7_line_160 : decode cX7_line 160 = .ok (.ireturn, 1) := by decide +kernel
theorem dX7_line_161 : decode cX7_line 161 = .ok (.aload_n 0, 1) := by decide +kernel
theorem dX7_line_162 : decode cX7_line 162 = .ok (.getfield 19, 3) := by decide +kernel
theorem dX7_line_165 : decode cX7_line 165 = .ok (.iload_n 3, 1) := by decide +kernel
theorem dX7_line_166 : decode cX7_line 166 = .ok (.invokestatic 249, 3) := by decide +kernel
theorem dX7_line_169 : decode cX7_line 169 = .ok (.ireturn, 1) := by decide +kernel
theorem dX7_line_170 : decode cX7_line 170 = .ok (.aload_n 0, 1) := by decide +kernel
theorem dX7_line_171 : decode cX7_line 171 = .ok (.iload_n 1, 1) := by decide +kernel
theorem dX7_line_172 : decode cX7_line 172 = .ok (.invokevirtual 292, 3) := by decide +kernel
theorem dX7_line_175 : decode cX7_line 175 = .ok (.ireturn, 1) := by decide +kernel
theorem dX7_line_176 : decode cX7_line 176 = .ok (.ldc 76, 2) := by decide +kernel
theorem dX7_line_178 : decode cX7_line 178 = .ok (.ireturn, 1) := by decide +kernel
theorem dX7_scan_0 : decode cX7_scan 0 = .ok (.aload_n 0, 1) := by decide +kernel
theorem dX7_scan_1 : decode cX7_scan 1 = .ok (.iconst 0, 1) := by decide +kernel
theorem dX7_scan_2 : decode cX7_scan 2 = .ok (.putfield 56, 3) := by decide +kernel
theorem dX7_scan_5 : decode cX7_scan 5 = .ok (.aload_n 0, 1) := by decide +kernel
theorem dX7_scan_6 : decode cX7_scan 6 = .ok (.iload_n 1, 1) := by decide +kernel
theorem dX7_scan_7 : decode cX7_scan 7 = .ok (.invokevirtual 269, 3) := by decide +kernel
theorem dX7_scan_10 : decode cX7_scan 10 = .ok (.ifCond .eq 22, 3) := by decide +kernel
theorem dX7_scan_13 : decode cX7_scan 13 = .ok (.iload_n 2, 1) := by decide +kernel
theorem dX7_scan_14 : decode cX7_scan 14 = .ok (.iload_n 3, 1) := by decide +kernel
theorem dX7_scan_15 : decode cX7_scan 15 = .ok (.invokestatic 283, 3) := by decide +kernel
theorem dX7_scan_18 : decode cX7_scan 18 = .ok (.ifCond .eq 14, 3) := by decide +kernel
theorem dX7_scan_21 : decode cX7_scan 21 = .ok (.iload 4, 2) := by decide +kernel
theorem dX7_scan_23 : decode cX7_scan 23 = .ok (.i2l, 1) := by decide +kernel
theorem dX7_scan_24 : decode cX7_scan 24 = .ok (.lconst 0, 1) := by decide +kernel
theorem dX7_scan_25 : decode cX7_scan 25 = .ok (.lconst 1, 1) := by decide +kernel
theorem dX7_scan_26 : decode cX7_scan 26 = .ok (.invokestatic 66, 3) := by decide +kernel
theorem dX7_scan_29 : decode cX7_scan 29 = .ok (.ifCond .ne 6, 3) := by decide +kernel
theorem dX7_scan_32 : decode cX7_scan 32 = .ok (.ldc 76, 2) := by decide +kernel
theorem dX7_scan_34 : decode cX7_scan 34 = .ok (.ireturn, 1) := by decide +kernel
theorem dX7_scan_35 : decode cX7_scan 35 = .ok (.aload_n 0, 1) := by decide +kernel
theorem dX7_scan_36 : decode cX7_scan 36 = .ok (.aload_n 0, 1) := by decide +kernel
theorem dX7_scan_37 : decode cX7_scan 37 = .ok (.getfield 19, 3) := by decide +kernel
theorem dX7_scan_40 : decode cX7_scan 40 = .ok (.iload_n 1, 1) := by decide +kernel
theorem dX7_scan_41 : decode cX7_scan 41 = .ok (.iload_n 2, 1) := by decide +kernel
theorem dX7_scan_42 : decode cX7_scan 42 = .ok (.iload_n 3, 1) := by decide +kernel
theorem dX7_scan_43 : decode cX7_scan 43 = .ok (.iconst (-1), 1) := by decide +kernel
theorem dX7_scan_44 : decode cX7_scan 44 = .ok (.invokevirtual 242, 3) := by decide +kernel
theorem dX7_scan_47 : decode cX7_scan 47 = .ok (.istore 5, 2) := by decide +kernel
theorem dX7_scan_49 : decode cX7_scan 49 = .ok (.iload 4, 2) := by decide +kernel
theorem dX7_scan_51 : decode cX7_scan 51 = .ok (.ifCond .ne 8, 3) := by decide +kernel
theorem dX7_scan_54 : decode cX7_scan 54 = .ok (.iload 5, 2) := by decide +kernel
theorem dX7_scan_56 : decode cX7_scan 56 = .ok (.goto 7, 3) := by decide +kernel
theorem dX7_scan_59 : decode cX7_scan 59 = .ok (.aload_n 0, 1) := by decide +kernel
theorem dX7_scan_60 : decode cX7_scan 60 = .ok (.getfield 223, 3) := by decide +kernel
theorem dX7_scan_63 : decode cX7_scan 63 = .ok (.ireturn, 1) := by decide +kernel
theorem dX7_nears_0 : decode cX7_nears 0 = .ok (.iload_n 3, 1) := by decide +kernel
theorem dX7_nears_1 : decode cX7_nears 1 = .ok (.ldc 99, 2) := by decide +kernel
theorem dX7_nears_3 : decode cX7_nears 3 = .ok (.if_icmp .eq 35, 3) := by decide +kernel
theorem dX7_nears_6 : decode cX7_nears 6 = .ok (.aload_n 0, 1) := by decide +kernel
theorem dX7_nears_7 : decode cX7_nears 7 = .ok (.getfield 295, 3) := by decide +kernel
theorem dX7_nears_10 : decode cX7_nears 10 = .ok (.ldc 99, 2) := by decide +kernel
theorem dX7_nears_12 : decode cX7_nears 12 = .ok (.if_icmp .eq 11, 3) := by decide +kernel
theorem dX7_nears_15 : decode cX7_nears 15 = .ok (.iload_n 3, 1) := by decide +kernel
theorem dX7_nears_16 : decode cX7_nears 16 = .ok (.aload_n 0, 1) := by decide +kernel
theorem dX7_nears_17 : decode cX7_nears 17 = .ok (.getfield 295, 3) := by decide +kernel
theorem dX7_nears_20 : decode cX7_nears 20 = .ok (.if_icmp .ge 18, 3) := by decide +kernel
theorem dX7_nears_23 : decode cX7_nears 23 = .ok (.aload_n 0, 1) := by decide +kernel
theorem dX7_nears_24 : decode cX7_nears 24 = .ok (.iload_n 1, 1) := by decide +kernel
theorem dX7_nears_25 : decode cX7_nears 25 = .ok (.putfield 298, 3) := by decide +kernel
theorem dX7_nears_28 : decode cX7_nears 28 = .ok (.aload_n 0, 1) := by decide +kernel
theorem dX7_nears_29 : decode cX7_nears 29 = .ok (.iload_n 2, 1) := by decide +kernel
theorem dX7_nears_30 : decode cX7_nears 30 = .ok (.putfield 301, 3) := by decide +kernel
theorem dX7_nears_33 : decode cX7_nears 33 = .ok (.aload_n 0, 1) := by decide +kernel
theorem dX7_nears_34 : decode cX7_nears 34 = .ok (.iload_n 3, 1) := by decide +kernel
theorem dX7_nears_35 : decode cX7_nears 35 = .ok (.putfield 295, 3) := by decide +kernel
theorem dX7_nears_38 : decode cX7_nears 38 = .ok (.return_, 1) := by decide +kernel
theorem dX7_ofNearest_0 : decode cX7_ofNearest 0 = .ok (.aload_n 0, 1) := by decide +kernel
theorem dX7_ofNearest_1 : decode cX7_ofNearest 1 = .ok (.getfield 295, 3) := by decide +kernel
theorem dX7_ofNearest_4 : decode cX7_ofNearest 4 = .ok (.ldc 99, 2) := by decide +kernel
theorem dX7_ofNearest_6 : decode cX7_ofNearest 6 = .ok (.if_icmp .ne 8, 3) := by decide +kernel
theorem dX7_ofNearest_9 : decode cX7_ofNearest 9 = .ok (.ldc 99, 2) := by decide +kernel
theorem dX7_ofNearest_11 : decode cX7_ofNearest 11 = .ok (.goto 30, 3) := by decide +kernel
theorem dX7_ofNearest_14 : decode cX7_ofNearest 14 = .ok (.iload_n 1, 1) := by decide +kernel
theorem dX7_ofNearest_15 : decode cX7_ofNearest 15 = .ok (.ifCond .ne 10, 3) := by decide +kernel
theorem dX7_ofNearest_18 : decode cX7_ofNearest 18 = .ok (.aload_n 0, 1) := by decide +kernel
theorem dX7_ofNearest_19 : decode cX7_ofNearest 19 = .ok (.getfield 298, 3) := by decide +kernel
theorem dX7_ofNearest_22 : decode cX7_ofNearest 22 = .ok (.goto 19, 3) := by decide +kernel
theorem dX7_ofNearest_25 : decode cX7_ofNearest 25 = .ok (.iload_n 1, 1) := by decide +kernel
theorem dX7_ofNearest_26 : decode cX7_ofNearest 26 = .ok (.iconst 1, 1) := by decide +kernel
theorem dX7_ofNearest_27 : decode cX7_ofNearest 27 = .ok (.if_icmp .ne 10, 3) := by decide +kernel
theorem dX7_ofNearest_30 : decode cX7_ofNearest 30 = .ok (.aload_n 0, 1) := by decide +kernel
theorem dX7_ofNearest_31 : decode cX7_ofNearest 31 = .ok (.getfield 301, 3) := by decide +kernel
theorem dX7_ofNearest_34 : decode cX7_ofNearest 34 = .ok (.goto 7, 3) := by decide +kernel
theorem dX7_ofNearest_37 : decode cX7_ofNearest 37 = .ok (.aload_n 0, 1) := by decide +kernel
theorem dX7_ofNearest_38 : decode cX7_ofNearest 38 = .ok (.getfield 295, 3) := by decide +kernel
theorem dX7_ofNearest_41 : decode cX7_ofNearest 41 = .ok (.ireturn, 1) := by decide +kernel
theorem dX7_nearest_0 : decode cX7_nearest 0 = .ok (.aload_n 0, 1) := by decide +kernel
theorem dX7_nearest_1 : decode cX7_nearest 1 = .ok (.iconst 0, 1) := by decide +kernel
theorem dX7_nearest_2 : decode cX7_nearest 2 = .ok (.putfield 56, 3) := by decide +kernel
theorem dX7_nearest_5 : decode cX7_nearest 5 = .ok (.aload_n 0, 1) := by decide +kernel
theorem dX7_nearest_6 : decode cX7_nearest 6 = .ok (.iload_n 1, 1) := by decide +kernel
theorem dX7_nearest_7 : decode cX7_nearest 7 = .ok (.invokevirtual 269, 3) := by decide +kernel
theorem dX7_nearest_10 : decode cX7_nearest 10 = .ok (.ifCond .eq 15, 3) := by decide +kernel
theorem dX7_nearest_13 : decode cX7_nearest 13 = .ok (.iload_n 2, 1) := by decide +kernel
theorem dX7_nearest_14 : decode cX7_nearest 14 = .ok (.i2l, 1) := by decide +kernel
theorem dX7_nearest_15 : decode cX7_nearest 15 = .ok (.lconst 0, 1) := by decide +kernel
theorem dX7_nearest_16 : decode cX7_nearest 16 = .ok (.ldc2_w 74, 3) := by decide +kernel
theorem dX7_nearest_19 : decode cX7_nearest 19 = .ok (.invokestatic 66, 3) := by decide +kernel
theorem dX7_nearest_22 : decode cX7_nearest 22 = .ok (.ifCond .ne 6, 3) := by decide +kernel
theorem dX7_nearest_25 : decode cX7_nearest 25 = .ok (.ldc 76, 2) := by decide +kernel
theorem dX7_nearest_27 : decode cX7_nearest 27 = .ok (.ireturn, 1) := by decide +kernel
theorem dX7_nearest_28 : decode cX7_nearest 28 = .ok (.aload_n 0, 1) := by decide +kernel
theorem dX7_nearest_29 : decode cX7_nearest 29 = .ok (.ldc 99, 2) := by decide +kernel
theorem dX7_nearest_31 : decode cX7_nearest 31 = .ok (.putfield 295, 3) := by decide +kernel
theorem dX7_nearest_34 : decode cX7_nearest 34 = .ok (.iconst 0, 1) := by decide +kernel
theorem dX7_nearest_35 : decode cX7_nearest 35 = .ok (.istore_n 3, 1) := by decide +kernel
theorem dX7_nearest_36 : decode cX7_nearest 36 = .ok (.iload_n 3, 1) := by decide +kernel
theorem dX7_nearest_37 : decode cX7_nearest 37 = .ok (.iconst 4, 1) := by decide +kernel
theorem dX7_nearest_38 : decode cX7_nearest 38 = .ok (.if_icmp .ge 45, 3) := by decide +kernel
theorem dX7_nearest_41 : decode cX7_nearest 41 = .ok (.iconst 1, 1) := by decide +kernel
theorem dX7_nearest_42 : decode cX7_nearest 42 = .ok (.istore 4, 2) := by decide +kernel
theorem dX7_nearest_44 : decode cX7_nearest 44 = .ok (.iload 4, 2) := by decide +kernel
theorem dX7_nearest_46 : decode cX7_nearest 46 = .ok (.bipush 6, 2) := by decide +kernel
theorem dX7_nearest_48 : decode cX7_nearest 48 = .ok (.if_icmp .ge 29, 3) := by decide +kernel
theorem dX7_nearest_51 : decode cX7_nearest 51 = .ok (.aload_n 0, 1) := by decide +kernel
theorem dX7_nearest_52 : decode cX7_nearest 52 = .ok (.iload_n 3, 1) := by decide +kernel
theorem dX7_nearest_53 : decode cX7_nearest 53 = .ok (.iload 4, 2) := by decide +kernel
theorem dX7_nearest_55 : decode cX7_nearest 55 = .ok (.aload_n 0, 1) := by decide +kernel
theorem dX7_nearest_56 : decode cX7_nearest 56 = .ok (.aload_n 0, 1) := by decide +kernel
theorem dX7_nearest_57 : decode cX7_nearest 57 = .ok (.getfield 19, 3) := by decide +kernel
theorem dX7_nearest_60 : decode cX7_nearest 60 = .ok (.iload_n 1, 1) := by decide +kernel
theorem dX7_nearest_61 : decode cX7_nearest 61 = .ok (.iload_n 3, 1) := by decide +kernel
theorem dX7_nearest_62 : decode cX7_nearest 62 = .ok (.iload 4, 2) := by decide +kernel
theorem dX7_nearest_64 : decode cX7_nearest 64 = .ok (.iconst (-1), 1) := by decide +kernel
theorem dX7_nearest_65 : decode cX7_nearest 65 = .ok (.invokevirtual 242, 3) := by decide +kernel
theorem dX7_nearest_68 : decode cX7_nearest 68 = .ok (.invokevirtual 304, 3) := by decide +kernel
theorem dX7_nearest_71 : decode cX7_nearest 71 = .ok (.iinc 4 1, 3) := by decide +kernel
theorem dX7_nearest_74 : decode cX7_nearest 74 = .ok (.goto (-30), 3) := by decide +kernel
theorem dX7_nearest_77 : decode cX7_nearest 77 = .ok (.iinc 3 1, 3) := by decide +kernel
theorem dX7_nearest_80 : decode cX7_nearest 80 = .ok (.goto (-44), 3) := by decide +kernel
theorem dX7_nearest_83 : decode cX7_nearest 83 = .ok (.aload_n 0, 1) := by decide +kernel
theorem dX7_nearest_84 : decode cX7_nearest 84 = .ok (.iload_n 2, 1) := by decide +kernel
theorem dX7_nearest_85 : decode cX7_nearest 85 = .ok (.invokevirtual 308, 3) := by decide +kernel
theorem dX7_nearest_88 : decode cX7_nearest 88 = .ok (.ireturn, 1) := by decide +kernel
theorem dX7_nearestOfAll_0 : decode cX7_nearestOfAll 0 = .ok (.aload_n 0, 1) := by decide +kernel
theorem dX7_nearestOfAll_1 : decode cX7_nearestOfAll 1 = .ok (.ldc 99, 2) := by decide +kernel
theorem dX7_nearestOfAll_3 : decode cX7_nearestOfAll 3 = .ok (.putfield 295, 3) := by decide +kernel
theorem dX7_nearestOfAll_6 : decode cX7_nearestOfAll 6 = .ok (.iconst 0, 1) := by decide +kernel
theorem dX7_nearestOfAll_7 : decode cX7_nearestOfAll 7 = .ok (.istore_n 2, 1) := by decide +kernel
theorem dX7_nearestOfAll_8 : decode cX7_nearestOfAll 8 = .ok (.iload_n 2, 1) := by decide +kernel
theorem dX7_nearestOfAll_9 : decode cX7_nearestOfAll 9 = .ok (.iconst 4, 1) := by decide +kernel
theorem dX7_nearestOfAll_10 : decode cX7_nearestOfAll 10 = .ok (.if_icmp .ge 39, 3) := by decide +kernel
theorem dX7_nearestOfAll_13 : decode cX7_nearestOfAll 13 = .ok (.iconst 1, 1) := by decide +kernel
theorem dX7_nearestOfAll_14 : decode cX7_nearestOfAll 14 = .ok (.istore_n 3, 1) := by decide +kernel
theorem dX7_nearestOfAll_15 : decode cX7_nearestOfAll 15 = .ok (.iload_n 3, 1) := by decide +kernel
theorem dX7_nearestOfAll_16 : decode cX7_nearestOfAll 16 = .ok (.bipush 6, 2) := by decide +kernel
theorem dX7_nearestOfAll_18 : decode cX7_nearestOfAll 18 = .ok (.if_icmp .ge 25, 3) := by decide +kernel
theorem dX7_nearestOfAll_21 : decode cX7_nearestOfAll 21 = .ok (.aload_n 0, 1) := by decide +kernel
theorem dX7_nearestOfAll_22 : decode cX7_nearestOfAll 22 = .ok (.iload_n 2, 1) := by decide +kernel
theorem dX7_nearestOfAll_23 : decode cX7_nearestOfAll 23 = .ok (.iload_n 3, 1) := by decide +kernel
theorem dX7_nearestOfAll_24 : decode cX7_nearestOfAll 24 = .ok (.aload_n 0, 1) := by decide +kernel
theorem dX7_nearestOfAll_25 : decode cX7_nearestOfAll 25 = .ok (.aload_n 0, 1) := by decide +kernel
theorem dX7_nearestOfAll_26 : decode cX7_nearestOfAll 26 = .ok (.getfield 19, 3) := by decide +kernel
theorem dX7_nearestOfAll_29 : decode cX7_nearestOfAll 29 = .ok (.iload_n 2, 1) := by decide +kernel
theorem dX7_nearestOfAll_30 : decode cX7_nearestOfAll 30 = .ok (.iload_n 3, 1) := by decide +kernel
theorem dX7_nearestOfAll_31 : decode cX7_nearestOfAll 31 = .ok (.invokevirtual 311, 3) := by decide +kernel
theorem dX7_nearestOfAll_34 : decode cX7_nearestOfAll 34 = .ok (.invokevirtual 304, 3) := by decide +kernel
theorem dX7_nearestOfAll_37 : decode cX7_nearestOfAll 37 = .ok (.iinc 3 1, 3) := by decide +kernel
theorem dX7_nearestOfAll_40 : decode cX7_nearestOfAll 40 = .ok (.goto (-25), 3) := by decide +kernel
theorem dX7_nearestOfAll_43 : decode cX7_nearestOfAll 43 = .ok (.iinc 2 1, 3) := by decide +kernel
theorem dX7_nearestOfAll_46 : decode cX7_nearestOfAll 46 = .ok (.goto (-38), 3) := by decide +kernel
theorem dX7_nearestOfAll_49 : decode cX7_nearestOfAll 49 = .ok (.aload_n 0, 1) := by decide +kernel
theorem dX7_nearestOfAll_50 : decode cX7_nearestOfAll 50 = .ok (.iload_n 1, 1) := by decide +kernel
theorem dX7_nearestOfAll_51 : decode cX7_nearestOfAll 51 = .ok (.invokevirtual 308, 3) := by decide +kernel
theorem dX7_nearestOfAll_54 : decode cX7_nearestOfAll 54 = .ok (.ireturn, 1) := by decide +kernel
theorem dX7_whole_0 : decode cX7_whole 0 = .ok (.aload_n 0, 1) := by decide +kernel
theorem dX7_whole_1 : decode cX7_whole 1 = .ok (.iconst 0, 1) := by decide +kernel
theorem dX7_whole_2 : decode cX7_whole 2 = .ok (.putfield 56, 3) := by decide +kernel
theorem dX7_whole_5 : decode cX7_whole 5 = .ok (.aload_n 0, 1) := by decide +kernel
theorem dX7_whole_6 : decode cX7_whole 6 = .ok (.invokevirtual 280, 3) := by decide +kernel
theorem dX7_whole_9 : decode cX7_whole 9 = .ok (.ifCond .ne 7, 3) := by decide +kernel
theorem dX7_whole_12 : decode cX7_whole 12 = .ok (.ldc_w 265, 3) := by decide +kernel
theorem dX7_whole_15 : decode cX7_whole 15 = .ok (.ireturn, 1) := by decide +kernel
theorem dX7_whole_16 : decode cX7_whole 16 = .ok (.iload_n 1, 1) := by decide +kernel
theorem dX7_whole_17 : decode cX7_whole 17 = .ok (.tableswitch 95 0 7 #[47, 47, 56, 77, 77, 77, 85, 90], 47) := by decide +kernel
theorem dX7_whole_64 : decode cX7_whole 64 = .ok (.aload_n 0, 1) := by decide +kernel
theorem dX7_whole_65 : decode cX7_whole 65 = .ok (.getfield 19, 3) := by decide +kernel
theorem dX7_whole_68 : decode cX7_whole 68 = .ok (.iconst 1, 1) := by decide +kernel
theorem dX7_whole_69 : decode cX7_whole 69 = .ok (.iload_n 1, 1) := by decide +kernel
theorem dX7_whole_70 : decode cX7_whole 70 = .ok (.iadd, 1) := by decide +kernel
theorem dX7_whole_71 : decode cX7_whole 71 = .ok (.iaload, 1) := by decide +kernel
theorem dX7_whole_72 : decode cX7_whole 72 = .ok (.ireturn, 1) := by decide +kernel
theorem dX7_whole_73 : decode cX7_whole 73 = .ok (.aload_n 0, 1) := by decide +kernel
theorem dX7_whole_74 : decode cX7_whole 74 = .ok (.aload_n 0, 1) := by decide +kernel
theorem dX7_whole_75 : decode cX7_whole 75 = .ok (.getfield 19, 3) := by decide +kernel
theorem dX7_whole_78 : decode cX7_whole 78 = .ok (.aload_n 0, 1) := by decide +kernel
theorem dX7_whole_79 : decode cX7_whole 79 = .ok (.getfield 19, 3) := by decide +kernel
theorem dX7_whole_82 : decode cX7_whole 82 = .ok (.iconst 1, 1) := by decide +kernel
theorem dX7_whole_83 : decode cX7_whole 83 = .ok (.iaload, 1) := by decide +kernel
theorem dX7_whole_84 : decode cX7_whole 84 = .ok (.aload_n 0, 1) := by decide +kernel
theorem dX7_whole_85 : decode cX7_whole 85 = .ok (.getfield 19, 3) := by decide +kernel
theorem dX7_whole_88 : decode cX7_whole 88 = .ok (.iconst 2, 1) := by decide +kernel
theorem dX7_whole_89 : decode cX7_whole 89 = .ok (.iaload, 1) := by decide +kernel
theorem dX7_whole_90 : decode cX7_whole 90 = .ok (.invokevirtual 311, 3) := by decide +kernel
theorem dX7_whole_93 : decode cX7_whole 93 = .ok (.ireturn, 1) := by decide +kernel
theorem dX7_whole_94 : decode cX7_whole 94 = .ok (.aload_n 0, 1) := by decide +kernel
theorem dX7_whole_95 : decode cX7_whole 95 = .ok (.iload_n 1, 1) := by decide +kernel
theorem dX7_whole_96 : decode cX7_whole 96 = .ok (.iconst 3, 1) := by decide +kernel
theorem dX7_whole_97 : decode cX7_whole 97 = .ok (.isub, 1) := by decide +kernel
theorem dX7_whole_98 : decode cX7_whole 98 = .ok (.invokevirtual 314, 3) := by decide +kernel
theorem dX7_whole_101 : decode cX7_whole 101 = .ok (.ireturn, 1) := by decide +kernel
theorem dX7_whole_102 : decode cX7_whole 102 = .ok (.aload_n 0, 1) := by decide +kernel
theorem dX7_whole_103 : decode cX7_whole 103 = .ok (.invokevirtual 317, 3) := by decide +kernel
theorem dX7_whole_106 : decode cX7_whole 106 = .ok (.ireturn, 1) := by decide +kernel
theorem dX7_whole_107 : decode cX7_whole 107 = .ok (.aload_n 0, 1) := by decide +kernel
theorem dX7_whole_108 : decode cX7_whole 108 = .ok (.invokevirtual 258, 3) := by decide +kernel
theorem dX7_whole_111 : decode cX7_whole 111 = .ok (.ireturn, 1) := by decide +kernel
theorem dX7_whole_112 : decode cX7_whole 112 = .ok (.ldc 76, 2) := by decide +kernel
theorem dX7_whole_114 : decode cX7_whole 114 = .ok (.ireturn, 1) := by decide +kernel
theorem dX7_rhymes_0 : decode cX7_rhymes 0 = .ok (.aload_n 0, 1) := by decide +kernel
theorem dX7_rhymes_1 : decode cX7_rhymes 1 = .ok (.iconst 0, 1) := by decide +kernel
theorem dX7_rhymes_2 : decode cX7_rhymes 2 = .ok (.putfield 56, 3) := by decide +kernel
theorem dX7_rhymes_5 : decode cX7_rhymes 5 = .ok (.aload_n 0, 1) := by decide +kernel
theorem dX7_rhymes_6 : decode cX7_rhymes 6 = .ok (.iload_n 1, 1) := by decide +kernel
theorem dX7_rhymes_7 : decode cX7_rhymes 7 = .ok (.invokevirtual 269, 3) := by decide +kernel
theorem dX7_rhymes_10 : decode cX7_rhymes 10 = .ok (.ifCond .eq 11, 3) := by decide +kernel
theorem dX7_rhymes_13 : decode cX7_rhymes 13 = .ok (.aload_n 0, 1) := by decide +kernel
theorem dX7_rhymes_14 : decode cX7_rhymes 14 = .ok (.iload_n 2, 1) := by decide +kernel
theorem dX7_rhymes_15 : decode cX7_rhymes 15 = .ok (.invokevirtual 269, 3) := by decide +kernel
theorem dX7_rhymes_18 : decode cX7_rhymes 18 = .ok (.ifCond .ne 6, 3) := by decide +kernel
theorem dX7_rhymes_21 : decode cX7_rhymes 21 = .ok (.ldc 76, 2) := by decide +kernel
theorem dX7_rhymes_23 : decode cX7_rhymes 23 = .ok (.ireturn, 1) := by decide +kernel
theorem dX7_rhymes_24 : decode cX7_rhymes 24 = .ok (.aload_n 0, 1) := by decide +kernel
theorem dX7_rhymes_25 : decode cX7_rhymes 25 = .ok (.getfield 19, 3) := by decide +kernel
theorem dX7_rhymes_28 : decode cX7_rhymes 28 = .ok (.aload_n 0, 1) := by decide +kernel
theorem dX7_rhymes_29 : decode cX7_rhymes 29 = .ok (.getfield 19, 3) := by decide +kernel
theorem dX7_rhymes_32 : decode cX7_rhymes 32 = .ok (.iload_n 1, 1) := by decide +kernel
theorem dX7_rhymes_33 : decode cX7_rhymes 33 = .ok (.invokestatic 252, 3) := by decide +kernel
theorem dX7_rhymes_36 : decode cX7_rhymes 36 = .ok (.aload_n 0, 1) := by decide +kernel
theorem dX7_rhymes_37 : decode cX7_rhymes 37 = .ok (.getfield 19, 3) := by decide +kernel
theorem dX7_rhymes_40 : decode cX7_rhymes 40 = .ok (.iload_n 2, 1) := by decide +kernel
theorem dX7_rhymes_41 : decode cX7_rhymes 41 = .ok (.invokestatic 252, 3) := by decide +kernel
theorem dX7_rhymes_44 : decode cX7_rhymes 44 = .ok (.invokestatic 255, 3) := by decide +kernel
theorem dX7_rhymes_47 : decode cX7_rhymes 47 = .ok (.ifCond .eq 7, 3) := by decide +kernel
theorem dX7_rhymes_50 : decode cX7_rhymes 50 = .ok (.iconst 1, 1) := by decide +kernel
theorem dX7_rhymes_51 : decode cX7_rhymes 51 = .ok (.goto 4, 3) := by decide +kernel
theorem dX7_rhymes_54 : decode cX7_rhymes 54 = .ok (.iconst 0, 1) := by decide +kernel
theorem dX7_rhymes_55 : decode cX7_rhymes 55 = .ok (.ireturn, 1) := by decide +kernel
theorem dX7_ends_0 : decode cX7_ends 0 = .ok (.aload_n 0, 1) := by decide +kernel
theorem dX7_ends_1 : decode cX7_ends 1 = .ok (.iconst 0, 1) := by decide +kernel
theorem dX7_ends_2 : decode cX7_ends 2 = .ok (.putfield 56, 3) := by decide +kernel
theorem dX7_ends_5 : decode cX7_ends 5 = .ok (.aload_n 0, 1) := by decide +kernel
theorem dX7_ends_6 : decode cX7_ends 6 = .ok (.iload_n 1, 1) := by decide +kernel
theorem dX7_ends_7 : decode cX7_ends 7 = .ok (.invokevirtual 269, 3) := by decide +kernel
theorem dX7_ends_10 : decode cX7_ends 10 = .ok (.ifCond .eq 16, 3) := by decide +kernel
theorem dX7_ends_13 : decode cX7_ends 13 = .ok (.aload_n 0, 1) := by decide +kernel
theorem dX7_ends_14 : decode cX7_ends 14 = .ok (.iload_n 2, 1) := by decide +kernel
theorem dX7_ends_15 : decode cX7_ends 15 = .ok (.invokevirtual 269, 3) := by decide +kernel
theorem dX7_ends_18 : decode cX7_ends 18 = .ok (.ifCond .eq 8, 3) := by decide +kernel
theorem dX7_ends_21 : decode cX7_ends 21 = .ok (.iload_n 1, 1) := by decide +kernel
theorem dX7_ends_22 : decode cX7_ends 22 = .ok (.iload_n 2, 1) := by decide +kernel
theorem dX7_ends_23 : decode cX7_ends 23 = .ok (.if_icmp .ne 6, 3) := by decide +kernel
theorem dX7_ends_26 : decode cX7_ends 26 = .ok (.ldc 76, 2) := by decide +kernel
theorem dX7_ends_28 : decode cX7_ends 28 = .ok (.ireturn, 1) := by decide +kernel
theorem dX7_ends_29 : decode cX7_ends 29 = .ok (.iconst 0, 1) := by decide +kernel
theorem dX7_ends_30 : decode cX7_ends 30 = .ok (.istore_n 3, 1) := by decide +kernel
theorem dX7_ends_31 : decode cX7_ends 31 = .ok (.iconst 0, 1) := by decide +kernel
theorem dX7_ends_32 : decode cX7_ends 32 = .ok (.istore 4, 2) := by decide +kernel
theorem dX7_ends_34 : decode cX7_ends 34 = .ok (.iload 4, 2) := by decide +kernel
theorem dX7_ends_36 : decode cX7_ends 36 = .ok (.aload_n 0, 1) := by decide +kernel
theorem dX7_ends_37 : decode cX7_ends 37 = .ok (.getfield 19, 3) := by decide +kernel
theorem dX7_ends_40 : decode cX7_ends 40 = .ok (.invokestatic 128, 3) := by decide +kernel
theorem dX7_ends_43 : decode cX7_ends 43 = .ok (.if_icmp .ge 40, 3) := by decide +kernel
theorem dX7_ends_46 : decode cX7_ends 46 = .ok (.iload_n 3, 1) := by decide +kernel
theorem dX7_ends_47 : decode cX7_ends 47 = .ok (.aload_n 0, 1) := by decide +kernel
theorem dX7_ends_48 : decode cX7_ends 48 = .ok (.getfield 19, 3) := by decide +kernel
theorem dX7_ends_51 : decode cX7_ends 51 = .ok (.iload 4, 2) := by decide +kernel
theorem dX7_ends_53 : decode cX7_ends 53 = .ok (.aload_n 0, 1) := by decide +kernel
theorem dX7_ends_54 : decode cX7_ends 54 = .ok (.getfield 19, 3) := by decide +kernel
theorem dX7_ends_57 : decode cX7_ends 57 = .ok (.iload_n 2, 1) := by decide +kernel
theorem dX7_ends_58 : decode cX7_ends 58 = .ok (.invokestatic 252, 3) := by decide +kernel
theorem dX7_ends_61 : decode cX7_ends 61 = .ok (.invokestatic 255, 3) := by decide +kernel
theorem dX7_ends_64 : decode cX7_ends 64 = .ok (.ifCond .eq 10, 3) := by decide +kernel
theorem dX7_ends_67 : decode cX7_ends 67 = .ok (.iconst 1, 1) := by decide +kernel
theorem dX7_ends_68 : decode cX7_ends 68 = .ok (.iload 4, 2) := by decide +kernel
theorem dX7_ends_70 : decode cX7_ends 70 = .ok (.ishl, 1) := by decide +kernel
theorem dX7_ends_71 : decode cX7_ends 71 = .ok (.goto 4, 3) := by decide +kernel
theorem dX7_ends_74 : decode cX7_ends 74 = .ok (.iconst 0, 1) := by decide +kernel
theorem dX7_ends_75 : decode cX7_ends 75 = .ok (.ior, 1) := by decide +kernel
theorem dX7_ends_76 : decode cX7_ends 76 = .ok (.istore_n 3, 1) := by decide +kernel
theorem dX7_ends_77 : decode cX7_ends 77 = .ok (.iinc 4 1, 3) := by decide +kernel
theorem dX7_ends_80 : decode cX7_ends 80 = .ok (.goto (-46), 3) := by decide +kernel
theorem dX7_ends_83 : decode cX7_ends 83 = .ok (.iload_n 3, 1) := by decide +kernel
theorem dX7_ends_84 : decode cX7_ends 84 = .ok (.ireturn, 1) := by decide +kernel
theorem dX7_kinds_0 : decode cX7_kinds 0 = .ok (.aload_n 0, 1) := by decide +kernel
theorem dX7_kinds_1 : decode cX7_kinds 1 = .ok (.iconst 0, 1) := by decide +kernel
theorem dX7_kinds_2 : decode cX7_kinds 2 = .ok (.putfield 56, 3) := by decide +kernel
theorem dX7_kinds_5 : decode cX7_kinds 5 = .ok (.aload_n 0, 1) := by decide +kernel
theorem dX7_kinds_6 : decode cX7_kinds 6 = .ok (.iload_n 1, 1) := by decide +kernel
theorem dX7_kinds_7 : decode cX7_kinds 7 = .ok (.invokevirtual 262, 3) := by decide +kernel
theorem dX7_kinds_10 : decode cX7_kinds 10 = .ok (.ifCond .eq 15, 3) := by decide +kernel
theorem dX7_kinds_13 : decode cX7_kinds 13 = .ok (.iload_n 2, 1) := by decide +kernel
theorem dX7_kinds_14 : decode cX7_kinds 14 = .ok (.i2l, 1) := by decide +kernel
theorem dX7_kinds_15 : decode cX7_kinds 15 = .ok (.lconst 0, 1) := by decide +kernel
theorem dX7_kinds_16 : decode cX7_kinds 16 = .ok (.ldc2_w 320, 3) := by decide +kernel
theorem dX7_kinds_19 : decode cX7_kinds 19 = .ok (.invokestatic 66, 3) := by decide +kernel
theorem dX7_kinds_22 : decode cX7_kinds 22 = .ok (.ifCond .ne 6, 3) := by decide +kernel
theorem dX7_kinds_25 : decode cX7_kinds 25 = .ok (.ldc 76, 2) := by decide +kernel
theorem dX7_kinds_27 : decode cX7_kinds 27 = .ok (.ireturn, 1) := by decide +kernel
theorem dX7_kinds_28 : decode cX7_kinds 28 = .ok (.iconst 0, 1) := by decide +kernel
theorem dX7_kinds_29 : decode cX7_kinds 29 = .ok (.istore_n 3, 1) := by decide +kernel
theorem dX7_kinds_30 : decode cX7_kinds 30 = .ok (.iconst 1, 1) := by decide +kernel
theorem dX7_kinds_31 : decode cX7_kinds 31 = .ok (.istore 4, 2) := by decide +kernel
theorem dX7_kinds_33 : decode cX7_kinds 33 = .ok (.iload 4, 2) := by decide +kernel
theorem dX7_kinds_35 : decode cX7_kinds 35 = .ok (.iconst 5, 1) := by decide +kernel
theorem dX7_kinds_36 : decode cX7_kinds 36 = .ok (.if_icmp .gt 58, 3) := by decide +kernel
theorem dX7_kinds_39 : decode cX7_kinds 39 = .ok (.aload_n 0, 1) := by decide +kernel
theorem dX7_kinds_40 : decode cX7_kinds 40 = .ok (.invokevirtual 322, 3) := by decide +kernel
theorem dX7_kinds_43 : decode cX7_kinds 43 = .ok (.aload_n 0, 1) := by decide +kernel
theorem dX7_kinds_44 : decode cX7_kinds 44 = .ok (.getfield 25, 3) := by decide +kernel
theorem dX7_kinds_47 : decode cX7_kinds 47 = .ok (.bipush 7, 2) := by decide +kernel
theorem dX7_kinds_49 : decode cX7_kinds 49 = .ok (.bipush 10, 2) := by decide +kernel
theorem dX7_kinds_51 : decode cX7_kinds 51 = .ok (.iload_n 1, 1) := by decide +kernel
theorem dX7_kinds_52 : decode cX7_kinds 52 = .ok (.imul, 1) := by decide +kernel
theorem dX7_kinds_53 : decode cX7_kinds 53 = .ok (.iadd, 1) := by decide +kernel
theorem dX7_kinds_54 : decode cX7_kinds 54 = .ok (.iload 4, 2) := by decide +kernel
theorem dX7_kinds_56 : decode cX7_kinds 56 = .ok (.iastore, 1) := by decide +kernel
theorem dX7_kinds_57 : decode cX7_kinds 57 = .ok (.iload_n 3, 1) := by decide +kernel
theorem dX7_kinds_58 : decode cX7_kinds 58 = .ok (.aload_n 0, 1) := by decide +kernel
theorem dX7_kinds_59 : decode cX7_kinds 59 = .ok (.aload_n 0, 1) := by decide +kernel
theorem dX7_kinds_60 : decode cX7_kinds 60 = .ok (.getfield 25, 3) := by decide +kernel
theorem dX7_kinds_63 : decode cX7_kinds 63 = .ok (.aload_n 0, 1) := by decide +kernel
theorem dX7_kinds_64 : decode cX7_kinds 64 = .ok (.getfield 25, 3) := by decide +kernel
theorem dX7_kinds_67 : decode cX7_kinds 67 = .ok (.iload_n 1, 1) := by decide +kernel
theorem dX7_kinds_68 : decode cX7_kinds 68 = .ok (.invokestatic 195, 3) := by decide +kernel
theorem dX7_kinds_71 : decode cX7_kinds 71 = .ok (.invokevirtual 325, 3) := by decide +kernel
theorem dX7_kinds_74 : decode cX7_kinds 74 = .ok (.iload_n 2, 1) := by decide +kernel
theorem dX7_kinds_75 : decode cX7_kinds 75 = .ok (.if_icmp .ne 10, 3) := by decide +kernel
theorem dX7_kinds_78 : decode cX7_kinds 78 = .ok (.iconst 1, 1) := by decide +kernel
theorem dX7_kinds_79 : decode cX7_kinds 79 = .ok (.iload 4, 2) := by decide +kernel
theorem dX7_kinds_81 : decode cX7_kinds 81 = .ok (.ishl, 1) := by decide +kernel
theorem dX7_kinds_82 : decode cX7_kinds 82 = .ok (.goto 4, 3) := by decide +kernel
theorem dX7_kinds_85 : decode cX7_kinds 85 = .ok (.iconst 0, 1) := by decide +kernel
theorem dX7_kinds_86 : decode cX7_kinds 86 = .ok (.ior, 1) := by decide +kernel
theorem dX7_kinds_87 : decode cX7_kinds 87 = .ok (.istore_n 3, 1) := by decide +kernel
theorem dX7_kinds_88 : decode cX7_kinds 88 = .ok (.iinc 4 1, 3) := by decide +kernel
theorem dX7_kinds_91 : decode cX7_kinds 91 = .ok (.goto (-58), 3) := by decide +kernel
theorem dX7_kinds_94 : decode cX7_kinds 94 = .ok (.iload_n 3, 1) := by decide +kernel
theorem dX7_kinds_95 : decode cX7_kinds 95 = .ok (.ireturn, 1) := by decide +kernel
theorem dX7_areCostsSo_0 : decode cX7_areCostsSo 0 = .ok (.iconst 1, 1) := by decide +kernel
theorem dX7_areCostsSo_1 : decode cX7_areCostsSo 1 = .ok (.istore_n 2, 1) := by decide +kernel
theorem dX7_areCostsSo_2 : decode cX7_areCostsSo 2 = .ok (.iconst 0, 1) := by decide +kernel
theorem dX7_areCostsSo_3 : decode cX7_areCostsSo 3 = .ok (.istore_n 3, 1) := by decide +kernel
theorem dX7_areCostsSo_4 : decode cX7_areCostsSo 4 = .ok (.iload_n 3, 1) := by decide +kernel
theorem dX7_areCostsSo_5 : decode cX7_areCostsSo 5 = .ok (.aload_n 0, 1) := by decide +kernel
theorem dX7_areCostsSo_6 : decode cX7_areCostsSo 6 = .ok (.getfield 25, 3) := by decide +kernel
theorem dX7_areCostsSo_9 : decode cX7_areCostsSo 9 = .ok (.iconst 0, 1) := by decide +kernel
theorem dX7_areCostsSo_10 : decode cX7_areCostsSo 10 = .ok (.iaload, 1) := by decide +kernel
theorem dX7_areCostsSo_11 : decode cX7_areCostsSo 11 = .ok (.if_icmp .ge 54, 3) := by decide +kernel
theorem dX7_areCostsSo_14 : decode cX7_areCostsSo 14 = .ok (.aload_n 0, 1) := by decide +kernel
theorem dX7_areCostsSo_15 : decode cX7_areCostsSo 15 = .ok (.aload_n 0, 1) := by decide +kernel
theorem dX7_areCostsSo_16 : decode cX7_areCostsSo 16 = .ok (.getfield 25, 3) := by decide +kernel
theorem dX7_areCostsSo_19 : decode cX7_areCostsSo 19 = .ok (.iload_n 3, 1) := by decide +kernel
theorem dX7_areCostsSo_20 : decode cX7_areCostsSo 20 = .ok (.invokevirtual 325, 3) := by decide +kernel
theorem dX7_areCostsSo_23 : decode cX7_areCostsSo 23 = .ok (.istore 4, 2) := by decide +kernel
theorem dX7_areCostsSo_25 : decode cX7_areCostsSo 25 = .ok (.iload_n 2, 1) := by decide +kernel
theorem dX7_areCostsSo_26 : decode cX7_areCostsSo 26 = .ok (.ifCond .eq 31, 3) := by decide +kernel
theorem dX7_areCostsSo_29 : decode cX7_areCostsSo 29 = .ok (.iload 4, 2) := by decide +kernel
theorem dX7_areCostsSo_31 : decode cX7_areCostsSo 31 = .ok (.ldc 99, 2) := by decide +kernel
theorem dX7_areCostsSo_33 : decode cX7_areCostsSo 33 = .ok (.if_icmp .ne 7, 3) := by decide +kernel
theorem dX7_areCostsSo_36 : decode cX7_areCostsSo 36 = .ok (.iconst (-1), 1) := by decide +kernel
theorem dX7_areCostsSo_37 : decode cX7_areCostsSo 37 = .ok (.goto 5, 3) := by decide +kernel
theorem dX7_areCostsSo_40 : decode cX7_areCostsSo 40 = .ok (.iload 4, 2) := by decide +kernel
theorem dX7_areCostsSo_42 : decode cX7_areCostsSo 42 = .ok (.aload_n 0, 1) := by decide +kernel
theorem dX7_areCostsSo_43 : decode cX7_areCostsSo 43 = .ok (.getfield 16, 3) := by decide +kernel
theorem dX7_areCostsSo_46 : decode cX7_areCostsSo 46 = .ok (.iload_n 1, 1) := by decide +kernel
theorem dX7_areCostsSo_47 : decode cX7_areCostsSo 47 = .ok (.iload_n 3, 1) := by decide +kernel
theorem dX7_areCostsSo_48 : decode cX7_areCostsSo 48 = .ok (.iadd, 1) := by decide +kernel
theorem dX7_areCostsSo_49 : decode cX7_areCostsSo 49 = .ok (.iaload, 1) := by decide +kernel
theorem dX7_areCostsSo_50 : decode cX7_areCostsSo 50 = .ok (.if_icmp .ne 7, 3) := by decide +kernel
theorem dX7_areCostsSo_53 : decode cX7_areCostsSo 53 = .ok (.iconst 1, 1) := by decide +kernel
theorem dX7_areCostsSo_54 : decode cX7_areCostsSo 54 = .ok (.goto 4, 3) := by decide +kernel
theorem dX7_areCostsSo_57 : decode cX7_areCostsSo 57 = .ok (.iconst 0, 1) := by decide +kernel
theorem dX7_areCostsSo_58 : decode cX7_areCostsSo 58 = .ok (.istore_n 2, 1) := by decide +kernel
theorem dX7_areCostsSo_59 : decode cX7_areCostsSo 59 = .ok (.iinc 3 1, 3) := by decide +kernel
theorem dX7_areCostsSo_62 : decode cX7_areCostsSo 62 = .ok (.goto (-58), 3) := by decide +kernel
theorem dX7_areCostsSo_65 : decode cX7_areCostsSo 65 = .ok (.iload_n 2, 1) := by decide +kernel
theorem dX7_areCostsSo_66 : decode cX7_areCostsSo 66 = .ok (.ireturn, 1) := by decide +kernel
theorem dX7_who_0 : decode cX7_who 0 = .ok (.aload_n 0, 1) := by decide +kernel
theorem dX7_who_1 : decode cX7_who 1 = .ok (.iconst 0, 1) := by decide +kernel
theorem dX7_who_2 : decode cX7_who 2 = .ok (.putfield 56, 3) := by decide +kernel
theorem dX7_who_5 : decode cX7_who 5 = .ok (.aload_n 0, 1) := by decide +kernel
theorem dX7_who_6 : decode cX7_who 6 = .ok (.iload_n 1, 1) := by decide +kernel
theorem dX7_who_7 : decode cX7_who 7 = .ok (.invokevirtual 262, 3) := by decide +kernel
theorem dX7_who_10 : decode cX7_who 10 = .ok (.ifCond .eq 22, 3) := by decide +kernel
theorem dX7_who_13 : decode cX7_who 13 = .ok (.iload_n 2, 1) := by decide +kernel
theorem dX7_who_14 : decode cX7_who 14 = .ok (.i2l, 1) := by decide +kernel
theorem dX7_who_15 : decode cX7_who 15 = .ok (.lconst 0, 1) := by decide +kernel
theorem dX7_who_16 : decode cX7_who 16 = .ok (.ldc2_w 74, 3) := by decide +kernel
theorem dX7_who_19 : decode cX7_who 19 = .ok (.invokestatic 66, 3) := by decide +kernel
theorem dX7_who_22 : decode cX7_who 22 = .ok (.ifCond .eq 10, 3) := by decide +kernel
theorem dX7_who_25 : decode cX7_who 25 = .ok (.iload_n 3, 1) := by decide +kernel
theorem dX7_who_26 : decode cX7_who 26 = .ok (.invokestatic 70, 3) := by decide +kernel
theorem dX7_who_29 : decode cX7_who 29 = .ok (.ifCond .ne 6, 3) := by decide +kernel
theorem dX7_who_32 : decode cX7_who 32 = .ok (.ldc 76, 2) := by decide +kernel
theorem dX7_who_34 : decode cX7_who 34 = .ok (.ireturn, 1) := by decide +kernel
theorem dX7_who_35 : decode cX7_who 35 = .ok (.aload_n 0, 1) := by decide +kernel
theorem dX7_who_36 : decode cX7_who 36 = .ok (.iload_n 3, 1) := by decide +kernel
theorem dX7_who_37 : decode cX7_who 37 = .ok (.iload 4, 2) := by decide +kernel
theorem dX7_who_39 : decode cX7_who 39 = .ok (.aload_n 0, 1) := by decide +kernel
theorem dX7_who_40 : decode cX7_who 40 = .ok (.getfield 19, 3) := by decide +kernel
theorem dX7_who_43 : decode cX7_who 43 = .ok (.iconst 0, 1) := by decide +kernel
theorem dX7_who_44 : decode cX7_who 44 = .ok (.iaload, 1) := by decide +kernel
theorem dX7_who_45 : decode cX7_who 45 = .ok (.invokevirtual 274, 3) := by decide +kernel
theorem dX7_who_48 : decode cX7_who 48 = .ok (.istore 5, 2) := by decide +kernel
theorem dX7_who_50 : decode cX7_who 50 = .ok (.iload 5, 2) := by decide +kernel
theorem dX7_who_52 : decode cX7_who 52 = .ok (.ifCond .eq 6, 3) := by decide +kernel
theorem dX7_who_55 : decode cX7_who 55 = .ok (.iload 5, 2) := by decide +kernel
theorem dX7_who_57 : decode cX7_who 57 = .ok (.ireturn, 1) := by decide +kernel
theorem dX7_who_58 : decode cX7_who 58 = .ok (.aload_n 0, 1) := by decide +kernel
theorem dX7_who_59 : decode cX7_who 59 = .ok (.iconst 0, 1) := by decide +kernel
theorem dX7_who_60 : decode cX7_who 60 = .ok (.putfield 60, 3) := by decide +kernel
theorem dX7_who_63 : decode cX7_who 63 = .ok (.iconst 0, 1) := by decide +kernel
theorem dX7_who_64 : decode cX7_who 64 = .ok (.istore 6, 2) := by decide +kernel
theorem dX7_who_66 : decode cX7_who 66 = .ok (.iload_n 2, 1) := by decide +kernel
theorem dX7_who_67 : decode cX7_who 67 = .ok (.iconst 1, 1) := by decide +kernel
theorem dX7_who_68 : decode cX7_who 68 = .ok (.if_icmp .ne 7, 3) := by decide +kernel
theorem dX7_who_71 : decode cX7_who 71 = .ok (.iconst 0, 1) := by decide +kernel
theorem dX7_who_72 : decode cX7_who 72 = .ok (.goto 4, 3) := by decide +kernel
theorem dX7_who_75 : decode cX7_who 75 = .ok (.iconst 1, 1) := by decide +kernel
theorem dX7_who_76 : decode cX7_who 76 = .ok (.istore 7, 2) := by decide +kernel
theorem dX7_who_78 : decode cX7_who 78 = .ok (.iload 7, 2) := by decide +kernel
theorem dX7_who_80 : decode cX7_who 80 = .ok (.iload_n 2, 1) := by decide +kernel
theorem dX7_who_81 : decode cX7_who 81 = .ok (.iconst 1, 1) := by decide +kernel
theorem dX7_who_82 : decode cX7_who 82 = .ok (.if_icmp .ne 7, 3) := by decide +kernel
theorem dX7_who_85 : decode cX7_who 85 = .ok (.iconst 3, 1) := by decide +kernel
theorem dX7_who_86 : decode cX7_who 86 = .ok (.goto 4, 3) := by decide +kernel
theorem dX7_who_89 : decode cX7_who 89 = .ok (.iconst 5, 1) := by decide +kernel
theorem dX7_who_90 : decode cX7_who 90 = .ok (.if_icmp .gt 71, 3) := by decide +kernel
theorem dX7_who_93 : decode cX7_who 93 = .ok (.aload_n 0, 1) := by decide +kernel
theorem dX7_who_94 : decode cX7_who 94 = .ok (.invokevirtual 322, 3) := by decide +kernel
theorem dX7_who_97 : decode cX7_who 97 = .ok (.aload_n 0, 1) := by decide +kernel
theorem dX7_who_98 : decode cX7_who 98 = .ok (.getfield 25, 3) := by decide +kernel
theorem dX7_who_101 : decode cX7_who 101 = .ok (.iload_n 2, 1) := by decide +kernel
theorem dX7_who_102 : decode cX7_who 102 = .ok (.ifCond .ne 7, 3) := by decide +kernel
theorem dX7_who_105 : decode cX7_who 105 = .ok (.iconst 2, 1) := by decide +kernel
theorem dX7_who_106 : decode cX7_who 106 = .ok (.goto 19, 3) := by decide +kernel
theorem dX7_who_109 : decode cX7_who 109 = .ok (.iload_n 2, 1) := by decide +kernel
theorem dX7_who_110 : decode cX7_who 110 = .ok (.iconst 1, 1) := by decide +kernel
theorem dX7_who_111 : decode cX7_who 111 = .ok (.if_icmp .ne 7, 3) := by decide +kernel
theorem dX7_who_114 : decode cX7_who 114 = .ok (.iconst 1, 1) := by decide +kernel
theorem dX7_who_115 : decode cX7_who 115 = .ok (.goto 10, 3) := by decide +kernel
theorem dX7_who_118 : decode cX7_who 118 = .ok (.bipush 7, 2) := by decide +kernel
theorem dX7_who_120 : decode cX7_who 120 = .ok (.bipush 10, 2) := by decide +kernel
theorem dX7_who_122 : decode cX7_who 122 = .ok (.iload_n 1, 1) := by decide +kernel
theorem dX7_who_123 : decode cX7_who 123 = .ok (.imul, 1) := by decide +kernel
theorem dX7_who_124 : decode cX7_who 124 = .ok (.iadd, 1) := by decide +kernel
theorem dX7_who_125 : decode cX7_who 125 = .ok (.iload 7, 2) := by decide +kernel
theorem dX7_who_127 : decode cX7_who 127 = .ok (.iastore, 1) := by decide +kernel
theorem dX7_who_128 : decode cX7_who 128 = .ok (.iload 6, 2) := by decide +kernel
theorem dX7_who_130 : decode cX7_who 130 = .ok (.aload_n 0, 1) := by decide +kernel
theorem dX7_who_131 : decode cX7_who 131 = .ok (.bipush 40, 2) := by decide +kernel
theorem dX7_who_133 : decode cX7_who 133 = .ok (.iload_n 3, 1) := by decide +kernel
theorem dX7_who_134 : decode cX7_who 134 = .ok (.imul, 1) := by decide +kernel
theorem dX7_who_135 : decode cX7_who 135 = .ok (.iload 4, 2) := by decide +kernel
theorem dX7_who_137 : decode cX7_who 137 = .ok (.iadd, 1) := by decide +kernel
theorem dX7_who_138 : decode cX7_who 138 = .ok (.invokevirtual 328, 3) := by decide +kernel
theorem dX7_who_141 : decode cX7_who 141 = .ok (.ifCond .eq 10, 3) := by decide +kernel
theorem dX7_who_144 : decode cX7_who 144 = .ok (.iconst 1, 1) := by decide +kernel
theorem dX7_who_145 : decode cX7_who 145 = .ok (.iload 7, 2) := by decide +kernel
theorem dX7_who_147 : decode cX7_who 147 = .ok (.ishl, 1) := by decide +kernel
theorem dX7_who_148 : decode cX7_who 148 = .ok (.goto 4, 3) := by decide +kernel
theorem dX7_who_151 : decode cX7_who 151 = .ok (.iconst 0, 1) := by decide +kernel
theorem dX7_who_152 : decode cX7_who 152 = .ok (.ior, 1) := by decide +kernel
theorem dX7_who_153 : decode cX7_who 153 = .ok (.istore 6, 2) := by decide +kernel
theorem dX7_who_155 : decode cX7_who 155 = .ok (.iinc 7 1, 3) := by decide +kernel
theorem dX7_who_158 : decode cX7_who 158 = .ok (.goto (-80), 3) := by decide +kernel
theorem dX7_who_161 : decode cX7_who 161 = .ok (.iload 6, 2) := by decide +kernel
theorem dX7_who_163 : decode cX7_who 163 = .ok (.ireturn, 1) := by decide +kernel
theorem dX7_stressed_0 : decode cX7_stressed 0 = .ok (.aload_n 0, 1) := by decide +kernel
theorem dX7_stressed_1 : decode cX7_stressed 1 = .ok (.iconst 0, 1) := by decide +kernel
theorem dX7_stressed_2 : decode cX7_stressed 2 = .ok (.putfield 56, 3) := by decide +kernel
theorem dX7_stressed_5 : decode cX7_stressed 5 = .ok (.aload_n 0, 1) := by decide +kernel
theorem dX7_stressed_6 : decode cX7_stressed 6 = .ok (.iload_n 1, 1) := by decide +kernel
theorem dX7_stressed_7 : decode cX7_stressed 7 = .ok (.invokevirtual 269, 3) := by decide +kernel
theorem dX7_stressed_10 : decode cX7_stressed 10 = .ok (.ifCond .eq 38, 3) := by decide +kernel
theorem dX7_stressed_13 : decode cX7_stressed 13 = .ok (.iload_n 2, 1) := by decide +kernel
theorem dX7_stressed_14 : decode cX7_stressed 14 = .ok (.i2l, 1) := by decide +kernel
theorem dX7_stressed_15 : decode cX7_stressed 15 = .ok (.lconst 0, 1) := by decide +kernel
theorem dX7_stressed_16 : decode cX7_stressed 16 = .ok (.ldc2_w 320, 3) := by decide +kernel
theorem dX7_stressed_19 : decode cX7_stressed 19 = .ok (.invokestatic 66, 3) := by decide +kernel
theorem dX7_stressed_22 : decode cX7_stressed 22 = .ok (.ifCond .eq 26, 3) := by decide +kernel
theorem dX7_stressed_25 : decode cX7_stressed 25 = .ok (.iload_n 3, 1) := by decide +kernel
theorem dX7_stressed_26 : decode cX7_stressed 26 = .ok (.i2l, 1) := by decide +kernel
theorem dX7_stressed_27 : decode cX7_stressed 27 = .ok (.lconst 0, 1) := by decide +kernel
theorem dX7_stressed_28 : decode cX7_stressed 28 = .ok (.ldc2_w 331, 3) := by decide +kernel
theorem dX7_stressed_31 : decode cX7_stressed 31 = .ok (.invokestatic 66, 3) := by decide +kernel
theorem dX7_stressed_34 : decode cX7_stressed 34 = .ok (.ifCond .eq 14, 3) := by decide +kernel
theorem dX7_stressed_37 : decode cX7_stressed 37 = .ok (.iload 4, 2) := by decide +kernel
theorem dX7_stressed_39 : decode cX7_stressed 39 = .ok (.i2l, 1) := by decide +kernel
theorem dX7_stressed_40 : decode cX7_stressed 40 = .ok (.lconst 0, 1) := by decide +kernel
theorem dX7_stressed_41 : decode cX7_stressed 41 = .ok (.lconst 1, 1) := by decide +kernel
theorem dX7_stressed_42 : decode cX7_stressed 42 = .ok (.invokestatic 66, 3) := by decide +kernel
theorem dX7_stressed_45 : decode cX7_stressed 45 = .ok (.ifCond .ne 7, 3) := by decide +kernel
theorem dX7_stressed_48 : decode cX7_stressed 48 = .ok (.ldc2_w 333, 3) := by decide +kernel
theorem dX7_stressed_51 : decode cX7_stressed 51 = .ok (.lreturn, 1) := by decide +kernel
theorem dX7_stressed_52 : decode cX7_stressed 52 = .ok (.aload_n 0, 1) := by decide +kernel
theorem dX7_stressed_53 : decode cX7_stressed 53 = .ok (.aload_n 0, 1) := by decide +kernel
theorem dX7_stressed_54 : decode cX7_stressed 54 = .ok (.getfield 19, 3) := by decide +kernel
theorem dX7_stressed_57 : decode cX7_stressed 57 = .ok (.iload_n 1, 1) := by decide +kernel
theorem dX7_stressed_58 : decode cX7_stressed 58 = .ok (.iconst (-1), 1) := by decide +kernel
theorem dX7_stressed_59 : decode cX7_stressed 59 = .ok (.invokevirtual 226, 3) := by decide +kernel
theorem dX7_stressed_62 : decode cX7_stressed 62 = .ok (.istore 5, 2) := by decide +kernel
theorem dX7_stressed_64 : decode cX7_stressed 64 = .ok (.iload 5, 2) := by decide +kernel
theorem dX7_stressed_66 : decode cX7_stressed 66 = .ok (.bipush 8, 2) := by decide +kernel
theorem dX7_stressed_68 : decode cX7_stressed 68 = .ok (.if_icmp .le 7, 3) := by decide +kernel
theorem dX7_stressed_71 : decode cX7_stressed 71 = .ok (.ldc2_w 335, 3) := by decide +kernel
theorem dX7_stressed_74 : decode cX7_stressed 74 = .ok (.lreturn, 1) := by decide +kernel
theorem dX7_stressed_75 : decode cX7_stressed 75 = .ok (.lconst 0, 1) := by decide +kernel
theorem dX7_stressed_76 : decode cX7_stressed 76 = .ok (.lstore 6, 2) := by decide +kernel
theorem dX7_stressed_78 : decode cX7_stressed 78 = .ok (.lconst 0, 1) := by decide +kernel
theorem dX7_stressed_79 : decode cX7_stressed 79 = .ok (.lstore 8, 2) := by decide +kernel
theorem dX7_stressed_81 : decode cX7_stressed 81 = .ok (.iconst 0, 1) := by decide +kernel
theorem dX7_stressed_82 : decode cX7_stressed 82 = .ok (.istore 10, 2) := by decide +kernel
theorem dX7_stressed_84 : decode cX7_stressed 84 = .ok (.iload 10, 2) := by decide +kernel
theorem dX7_stressed_86 : decode cX7_stressed 86 = .ok (.iconst 1, 1) := by decide +kernel
theorem dX7_stressed_87 : decode cX7_stressed 87 = .ok (.iload 5, 2) := by decide +kernel
theorem dX7_stressed_89 : decode cX7_stressed 89 = .ok (.ishl, 1) := by decide +kernel
theorem dX7_stressed_90 : decode cX7_stressed 90 = .ok (.if_icmp .ge 110, 3) := by decide +kernel
theorem dX7_stressed_93 : decode cX7_stressed 93 = .ok (.lconst 1, 1) := by decide +kernel
theorem dX7_stressed_94 : decode cX7_stressed 94 = .ok (.lstore 11, 2) := by decide +kernel
theorem dX7_stressed_96 : decode cX7_stressed 96 = .ok (.iconst 0, 1) := by decide +kernel
theorem dX7_stressed_97 : decode cX7_stressed 97 = .ok (.istore 13, 2) := by decide +kernel
theorem dX7_stressed_99 : decode cX7_stressed 99 = .ok (.iload 13, 2) := by decide +kernel
theorem dX7_stressed_101 : decode cX7_stressed 101 = .ok (.iload 5, 2) := by decide +kernel
theorem dX7_stressed_103 : decode cX7_stressed 103 = .ok (.if_icmp .ge 35, 3) := by decide +kernel
theorem dX7_stressed_106 : decode cX7_stressed 106 = .ok (.lload 11, 2) := by decide +kernel
theorem dX7_stressed_108 : decode cX7_stressed 108 = .ok (.iload 10, 2) := by decide +kernel
theorem dX7_stressed_110 : decode cX7_stressed 110 = .ok (.iload 13, 2) := by decide +kernel
theorem dX7_stressed_112 : decode cX7_stressed 112 = .ok (.invokestatic 204, 3) := by decide +kernel
theorem dX7_stressed_115 : decode cX7_stressed 115 = .ok (.ifCond .eq 8, 3) := by decide +kernel
theorem dX7_stressed_118 : decode cX7_stressed 118 = .ok (.iload_n 3, 1) := by decide +kernel
theorem dX7_stressed_119 : decode cX7_stressed 119 = .ok (.i2l, 1) := by decide +kernel
theorem dX7_stressed_120 : decode cX7_stressed 120 = .ok (.goto 9, 3) := by decide +kernel
theorem dX7_stressed_123 : decode cX7_stressed 123 = .ok (.ldc2_w 331, 3) := by decide +kernel
theorem dX7_stressed_126 : decode cX7_stressed 126 = .ok (.iload_n 3, 1) := by decide +kernel
theorem dX7_stressed_127 : decode cX7_stressed 127 = .ok (.i2l, 1) := by decide +kernel
theorem dX7_stressed_128 : decode cX7_stressed 128 = .ok (.lsub, 1) := by decide +kernel
theorem dX7_stressed_129 : decode cX7_stressed 129 = .ok (.lmul, 1) := by decide +kernel
theorem dX7_stressed_130 : decode cX7_stressed 130 = .ok (.lstore 11, 2) := by decide +kernel
theorem dX7_stressed_132 : decode cX7_stressed 132 = .ok (.iinc 13 1, 3) := by decide +kernel
theorem dX7_stressed_135 : decode cX7_stressed 135 = .ok (.goto (-36), 3) := by decide +kernel
theorem dX7_stressed_138 : decode cX7_stressed 138 = .ok (.aload_n 0, 1) := by decide +kernel
theorem dX7_stressed_139 : decode cX7_stressed 139 = .ok (.aload_n 0, 1) := by decide +kernel
theorem dX7_stressed_140 : decode cX7_stressed 140 = .ok (.getfield 19, 3) := by decide +kernel
theorem dX7_stressed_143 : decode cX7_stressed 143 = .ok (.iload_n 1, 1) := by decide +kernel
theorem dX7_stressed_144 : decode cX7_stressed 144 = .ok (.aload_n 0, 1) := by decide +kernel
theorem dX7_stressed_145 : decode cX7_stressed 145 = .ok (.getfield 19, 3) := by decide +kernel
theorem dX7_stressed_148 : decode cX7_stressed 148 = .ok (.iconst 1, 1) := by decide +kernel
theorem dX7_stressed_149 : decode cX7_stressed 149 = .ok (.iaload, 1) := by decide +kernel
theorem dX7_stressed_150 : decode cX7_stressed 150 = .ok (.aload_n 0, 1) := by decide +kernel
theorem dX7_stressed_151 : decode cX7_stressed 151 = .ok (.getfield 19, 3) := by decide +kernel
theorem dX7_stressed_154 : decode cX7_stressed 154 = .ok (.iconst 2, 1) := by decide +kernel
theorem dX7_stressed_155 : decode cX7_stressed 155 = .ok (.iaload, 1) := by decide +kernel
theorem dX7_stressed_156 : decode cX7_stressed 156 = .ok (.iload 10, 2) := by decide +kernel
theorem dX7_stressed_158 : decode cX7_stressed 158 = .ok (.invokevirtual 242, 3) := by decide +kernel
theorem dX7_stressed_161 : decode cX7_stressed 161 = .ok (.istore 13, 2) := by decide +kernel
theorem dX7_stressed_163 : decode cX7_stressed 163 = .ok (.lload 8, 2) := by decide +kernel
theorem dX7_stressed_165 : decode cX7_stressed 165 = .ok (.lload 11, 2) := by decide +kernel
theorem dX7_stressed_167 : decode cX7_stressed 167 = .ok (.ladd, 1) := by decide +kernel
theorem dX7_stressed_168 : decode cX7_stressed 168 = .ok (.lstore 8, 2) := by decide +kernel
theorem dX7_stressed_170 : decode cX7_stressed 170 = .ok (.lload 6, 2) := by decide +kernel
theorem dX7_stressed_172 : decode cX7_stressed 172 = .ok (.iload 13, 2) := by decide +kernel
theorem dX7_stressed_174 : decode cX7_stressed 174 = .ok (.ldc 99, 2) := by decide +kernel
theorem dX7_stressed_176 : decode cX7_stressed 176 = .ok (.if_icmp .eq 14, 3) := by decide +kernel
theorem dX7_stressed_179 : decode cX7_stressed 179 = .ok (.iload 13, 2) := by decide +kernel
theorem dX7_stressed_181 : decode cX7_stressed 181 = .ok (.iload_n 2, 1) := by decide +kernel
theorem dX7_stressed_182 : decode cX7_stressed 182 = .ok (.if_icmp .gt 8, 3) := by decide +kernel
theorem dX7_stressed_185 : decode cX7_stressed 185 = .ok (.lload 11, 2) := by decide +kernel
theorem dX7_stressed_187 : decode cX7_stressed 187 = .ok (.goto 4, 3) := by decide +kernel
theorem dX7_stressed_190 : decode cX7_stressed 190 = .ok (.lconst 0, 1) := by decide +kernel
theorem dX7_stressed_191 : decode cX7_stressed 191 = .ok (.ladd, 1) := by decide +kernel
theorem dX7_stressed_192 : decode cX7_stressed 192 = .ok (.lstore 6, 2) := by decide +kernel
theorem dX7_stressed_194 : decode cX7_stressed 194 = .ok (.iinc 10 1, 3) := by decide +kernel
theorem dX7_stressed_197 : decode cX7_stressed 197 = .ok (.goto (-113), 3) := by decide +kernel
theorem dX7_stressed_200 : decode cX7_stressed 200 = .ok (.lload 6, 2) := by decide +kernel
theorem dX7_stressed_202 : decode cX7_stressed 202 = .ok (.lstore 10, 2) := by decide +kernel
theorem dX7_stressed_204 : decode cX7_stressed 204 = .ok (.lload 8, 2) := by decide +kernel
theorem dX7_stressed_206 : decode cX7_stressed 206 = .ok (.lstore 12, 2) := by decide +kernel
theorem dX7_stressed_208 : decode cX7_stressed 208 = .ok (.lload 12, 2) := by decide +kernel
theorem dX7_stressed_210 : decode cX7_stressed 210 = .ok (.lconst 0, 1) := by decide +kernel
theorem dX7_stressed_211 : decode cX7_stressed 211 = .ok (.lcmp, 1) := by decide +kernel
theorem dX7_stressed_212 : decode cX7_stressed 212 = .ok (.ifCond .eq 21, 3) := by decide +kernel
theorem dX7_stressed_215 : decode cX7_stressed 215 = .ok (.lload 10, 2) := by decide +kernel
theorem dX7_stressed_217 : decode cX7_stressed 217 = .ok (.lload 12, 2) := by decide +kernel
theorem dX7_stressed_219 : decode cX7_stressed 219 = .ok (.lrem, 1) := by decide +kernel
theorem dX7_stressed_220 : decode cX7_stressed 220 = .ok (.lstore 14, 2) := by decide +kernel
theorem dX7_stressed_222 : decode cX7_stressed 222 = .ok (.lload 12, 2) := by decide +kernel
theorem dX7_stressed_224 : decode cX7_stressed 224 = .ok (.lstore 10, 2) := by decide +kernel
theorem dX7_stressed_226 : decode cX7_stressed 226 = .ok (.lload 14, 2) := by decide +kernel
theorem dX7_stressed_228 : decode cX7_stressed 228 = .ok (.lstore 12, 2) := by decide +kernel
theorem dX7_stressed_230 : decode cX7_stressed 230 = .ok (.goto (-22), 3) := by decide +kernel
theorem dX7_stressed_233 : decode cX7_stressed 233 = .ok (.iload 4, 2) := by decide +kernel
theorem dX7_stressed_235 : decode cX7_stressed 235 = .ok (.ifCond .ne 8, 3) := by decide +kernel
theorem dX7_stressed_238 : decode cX7_stressed 238 = .ok (.lload 6, 2) := by decide +kernel
theorem dX7_stressed_240 : decode cX7_stressed 240 = .ok (.goto 5, 3) := by decide +kernel
theorem dX7_stressed_243 : decode cX7_stressed 243 = .ok (.lload 8, 2) := by decide +kernel
theorem dX7_stressed_245 : decode cX7_stressed 245 = .ok (.lload 10, 2) := by decide +kernel
theorem dX7_stressed_247 : decode cX7_stressed 247 = .ok (.ldiv, 1) := by decide +kernel
theorem dX7_stressed_248 : decode cX7_stressed 248 = .ok (.lreturn, 1) := by decide +kernel
theorem dX7_drawn_0 : decode cX7_drawn 0 = .ok (.aload_n 0, 1) := by decide +kernel
theorem dX7_drawn_1 : decode cX7_drawn 1 = .ok (.iconst 0, 1) := by decide +kernel
theorem dX7_drawn_2 : decode cX7_drawn 2 = .ok (.putfield 56, 3) := by decide +kernel
theorem dX7_drawn_5 : decode cX7_drawn 5 = .ok (.aload_n 0, 1) := by decide +kernel
theorem dX7_drawn_6 : decode cX7_drawn 6 = .ok (.invokevirtual 280, 3) := by decide +kernel
theorem dX7_drawn_9 : decode cX7_drawn 9 = .ok (.ifCond .ne 7, 3) := by decide +kernel
theorem dX7_drawn_12 : decode cX7_drawn 12 = .ok (.ldc_w 265, 3) := by decide +kernel
theorem dX7_drawn_15 : decode cX7_drawn 15 = .ok (.ireturn, 1) := by decide +kernel
theorem dX7_drawn_16 : decode cX7_drawn 16 = .ok (.iload_n 1, 1) := by decide +kernel
theorem dX7_drawn_17 : decode cX7_drawn 17 = .ok (.i2l, 1) := by decide +kernel
theorem dX7_drawn_18 : decode cX7_drawn 18 = .ok (.lconst 0, 1) := by decide +kernel
theorem dX7_drawn_19 : decode cX7_drawn 19 = .ok (.ldc2_w 337, 3) := by decide +kernel
theorem dX7_drawn_22 : decode cX7_drawn 22 = .ok (.invokestatic 66, 3) := by decide +kernel
theorem dX7_drawn_25 : decode cX7_drawn 25 = .ok (.ifCond .eq 25, 3) := by decide +kernel
theorem dX7_drawn_28 : decode cX7_drawn 28 = .ok (.iload_n 2, 1) := by decide +kernel
theorem dX7_drawn_29 : decode cX7_drawn 29 = .ok (.i2l, 1) := by decide +kernel
theorem dX7_drawn_30 : decode cX7_drawn 30 = .ok (.lconst 1, 1) := by decide +kernel
theorem dX7_drawn_31 : decode cX7_drawn 31 = .ok (.ldc2_w 339, 3) := by decide +kernel
theorem dX7_drawn_34 : decode cX7_drawn 34 = .ok (.invokestatic 66, 3) := by decide +kernel
theorem dX7_drawn_37 : decode cX7_drawn 37 = .ok (.ifCond .eq 13, 3) := by decide +kernel
theorem dX7_drawn_40 : decode cX7_drawn 40 = .ok (.iload_n 3, 1) := by decide +kernel
theorem dX7_drawn_41 : decode cX7_drawn 41 = .ok (.i2l, 1) := by decide +kernel
theorem dX7_drawn_42 : decode cX7_drawn 42 = .ok (.lconst 0, 1) := by decide +kernel
theorem dX7_drawn_43 : decode cX7_drawn 43 = .ok (.lconst 1, 1) := by decide +kernel
theorem dX7_drawn_44 : decode cX7_drawn 44 = .ok (.invokestatic 66, 3) := by decide +kernel
theorem dX7_drawn_47 : decode cX7_drawn 47 = .ok (.ifCond .ne 6, 3) := by decide +kernel
theorem dX7_drawn_50 : decode cX7_drawn 50 = .ok (.ldc 76, 2) := by decide +kernel
theorem dX7_drawn_52 : decode cX7_drawn 52 = .ok (.ireturn, 1) := by decide +kernel
theorem dX7_drawn_53 : decode cX7_drawn 53 = .ok (.aload_n 0, 1) := by decide +kernel
theorem dX7_drawn_54 : decode cX7_drawn 54 = .ok (.invokevirtual 322, 3) := by decide +kernel
theorem dX7_drawn_57 : decode cX7_drawn 57 = .ok (.iload_n 2, 1) := by decide +kernel
theorem dX7_drawn_58 : decode cX7_drawn 58 = .ok (.i2l, 1) := by decide +kernel
theorem dX7_drawn_59 : decode cX7_drawn 59 = .ok (.lstore 4, 2) := by decide +kernel
theorem dX7_drawn_61 : decode cX7_drawn 61 = .ok (.iconst 0, 1) := by decide +kernel
theorem dX7_drawn_62 : decode cX7_drawn 62 = .ok (.istore 6, 2) := by decide +kernel
theorem dX7_drawn_64 : decode cX7_drawn 64 = .ok (.iconst 0, 1) := by decide +kernel
theorem dX7_drawn_65 : decode cX7_drawn 65 = .ok (.istore 7, 2) := by decide +kernel
theorem dX7_drawn_67 : decode cX7_drawn 67 = .ok (.iconst 0, 1) := by decide +kernel
theorem dX7_drawn_68 : decode cX7_drawn 68 = .ok (.istore 8, 2) := by decide +kernel
theorem dX7_drawn_70 : decode cX7_drawn 70 = .ok (.iload 8, 2) := by decide +kernel
theorem dX7_drawn_72 : decode cX7_drawn 72 = .ok (.iload_n 1, 1) := by decide +kernel
theorem dX7_drawn_73 : decode cX7_drawn 73 = .ok (.if_icmp .ge 115, 3) := by decide +kernel
theorem dX7_drawn_76 : decode cX7_drawn 76 = .ok (.lload 4, 2) := by decide +kernel
theorem dX7_drawn_78 : decode cX7_drawn 78 = .ok (.ldc2_w 341, 3) := by decide +kernel
theorem dX7_drawn_81 : decode cX7_drawn 81 = .ok (.lmul, 1) := by decide +kernel
theorem dX7_drawn_82 : decode cX7_drawn 82 = .ok (.ldc2_w 343, 3) := by decide +kernel
theorem dX7_drawn_85 : decode cX7_drawn 85 = .ok (.lrem, 1) := by decide +kernel
theorem dX7_drawn_86 : decode cX7_drawn 86 = .ok (.lstore 4, 2) := by decide +kernel
theorem dX7_drawn_88 : decode cX7_drawn 88 = .ok (.lload 4, 2) := by decide +kernel
theorem dX7_drawn_90 : decode cX7_drawn 90 = .ok (.aload_n 0, 1) := by decide +kernel
theorem dX7_drawn_91 : decode cX7_drawn 91 = .ok (.getfield 25, 3) := by decide +kernel
theorem dX7_drawn_94 : decode cX7_drawn 94 = .ok (.invokestatic 128, 3) := by decide +kernel
theorem dX7_drawn_97 : decode cX7_drawn 97 = .ok (.i2l, 1) := by decide +kernel
theorem dX7_drawn_98 : decode cX7_drawn 98 = .ok (.lrem, 1) := by decide +kernel
theorem dX7_drawn_99 : decode cX7_drawn 99 = .ok (.l2i, 1) := by decide +kernel
theorem dX7_drawn_100 : decode cX7_drawn 100 = .ok (.istore 9, 2) := by decide +kernel
theorem dX7_drawn_102 : decode cX7_drawn 102 = .ok (.aload_n 0, 1) := by decide +kernel
theorem dX7_drawn_103 : decode cX7_drawn 103 = .ok (.getfield 25, 3) := by decide +kernel
theorem dX7_drawn_106 : decode cX7_drawn 106 = .ok (.bipush 7, 2) := by decide +kernel
theorem dX7_drawn_108 : decode cX7_drawn 108 = .ok (.bipush 10, 2) := by decide +kernel
theorem dX7_drawn_110 : decode cX7_drawn 110 = .ok (.iload 9, 2) := by decide +kernel
theorem dX7_drawn_112 : decode cX7_drawn 112 = .ok (.imul, 1) := by decide +kernel
theorem dX7_drawn_113 : decode cX7_drawn 113 = .ok (.iadd, 1) := by decide +kernel
theorem dX7_drawn_114 : decode cX7_drawn 114 = .ok (.iconst 1, 1) := by decide +kernel
theorem dX7_drawn_115 : decode cX7_drawn 115 = .ok (.lload 4, 2) := by decide +kernel
theorem dX7_drawn_117 : decode cX7_drawn 117 = .ok (.ldc2_w 345, 3) := by decide +kernel
theorem dX7_drawn_120 : decode cX7_drawn 120 = .ok (.ldiv, 1) := by decide +kernel
theorem dX7_drawn_121 : decode cX7_drawn 121 = .ok (.ldc2_w 143, 3) := by decide +kernel
theorem dX7_drawn_124 : decode cX7_drawn 124 = .ok (.lrem, 1) := by decide +kernel
theorem dX7_drawn_125 : decode cX7_drawn 125 = .ok (.l2i, 1) := by decide +kernel
theorem dX7_drawn_126 : decode cX7_drawn 126 = .ok (.iadd, 1) := by decide +kernel
theorem dX7_drawn_127 : decode cX7_drawn 127 = .ok (.iastore, 1) := by decide +kernel
theorem dX7_drawn_128 : decode cX7_drawn 128 = .ok (.aload_n 0, 1) := by decide +kernel
theorem dX7_drawn_129 : decode cX7_drawn 129 = .ok (.aload_n 0, 1) := by decide +kernel
theorem dX7_drawn_130 : decode cX7_drawn 130 = .ok (.getfield 25, 3) := by decide +kernel
theorem dX7_drawn_133 : decode cX7_drawn 133 = .ok (.aload_n 0, 1) := by decide +kernel
theorem dX7_drawn_134 : decode cX7_drawn 134 = .ok (.getfield 25, 3) := by decide +kernel
theorem dX7_drawn_137 : decode cX7_drawn 137 = .ok (.iload 9, 2) := by decide +kernel
theorem dX7_drawn_139 : decode cX7_drawn 139 = .ok (.invokestatic 195, 3) := by decide +kernel
theorem dX7_drawn_142 : decode cX7_drawn 142 = .ok (.invokevirtual 325, 3) := by decide +kernel
theorem dX7_drawn_145 : decode cX7_drawn 145 = .ok (.istore 10, 2) := by decide +kernel
theorem dX7_drawn_147 : decode cX7_drawn 147 = .ok (.iload 6, 2) := by decide +kernel
theorem dX7_drawn_149 : decode cX7_drawn 149 = .ok (.iload 10, 2) := by decide +kernel
theorem dX7_drawn_151 : decode cX7_drawn 151 = .ok (.ldc 99, 2) := by decide +kernel
theorem dX7_drawn_153 : decode cX7_drawn 153 = .ok (.if_icmp .ne 7, 3) := by decide +kernel
theorem dX7_drawn_156 : decode cX7_drawn 156 = .ok (.iconst 0, 1) := by decide +kernel
theorem dX7_drawn_157 : decode cX7_drawn 157 = .ok (.goto 5, 3) := by decide +kernel
theorem dX7_drawn_160 : decode cX7_drawn 160 = .ok (.iload 10, 2) := by decide +kernel
theorem dX7_drawn_162 : decode cX7_drawn 162 = .ok (.iadd, 1) := by decide +kernel
theorem dX7_drawn_163 : decode cX7_drawn 163 = .ok (.istore 6, 2) := by decide +kernel
theorem dX7_drawn_165 : decode cX7_drawn 165 = .ok (.iload 7, 2) := by decide +kernel
theorem dX7_drawn_167 : decode cX7_drawn 167 = .ok (.iload 10, 2) := by decide +kernel
theorem dX7_drawn_169 : decode cX7_drawn 169 = .ok (.ldc 99, 2) := by decide +kernel
theorem dX7_drawn_171 : decode cX7_drawn 171 = .ok (.if_icmp .ne 7, 3) := by decide +kernel
theorem dX7_drawn_174 : decode cX7_drawn 174 = .ok (.iconst 1, 1) := by decide +kernel
theorem dX7_drawn_175 : decode cX7_drawn 175 = .ok (.goto 4, 3) := by decide +kernel
theorem dX7_drawn_178 : decode cX7_drawn 178 = .ok (.iconst 0, 1) := by decide +kernel
theorem dX7_drawn_179 : decode cX7_drawn 179 = .ok (.iadd, 1) := by decide +kernel
theorem dX7_drawn_180 : decode cX7_drawn 180 = .ok (.istore 7, 2) := by decide +kernel
theorem dX7_drawn_182 : decode cX7_drawn 182 = .ok (.iinc 8 1, 3) := by decide +kernel
theorem dX7_drawn_185 : decode cX7_drawn 185 = .ok (.goto (-115), 3) := by decide +kernel
theorem dX7_drawn_188 : decode cX7_drawn 188 = .ok (.iload_n 3, 1) := by decide +kernel
theorem dX7_drawn_189 : decode cX7_drawn 189 = .ok (.ifCond .ne 8, 3) := by decide +kernel
theorem dX7_drawn_192 : decode cX7_drawn 192 = .ok (.iload 6, 2) := by decide +kernel
theorem dX7_drawn_194 : decode cX7_drawn 194 = .ok (.goto 5, 3) := by decide +kernel
theorem dX7_drawn_197 : decode cX7_drawn 197 = .ok (.iload 7, 2) := by decide +kernel
theorem dX7_drawn_199 : decode cX7_drawn 199 = .ok (.ireturn, 1) := by decide +kernel
theorem dX7_image_0 : decode cX7_image 0 = .ok (.aload_n 0, 1) := by decide +kernel
theorem dX7_image_1 : decode cX7_image 1 = .ok (.iconst 0, 1) := by decide +kernel
theorem dX7_image_2 : decode cX7_image 2 = .ok (.putfield 56, 3) := by decide +kernel
theorem dX7_image_5 : decode cX7_image 5 = .ok (.iload_n 1, 1) := by decide +kernel
theorem dX7_image_6 : decode cX7_image 6 = .ok (.i2l, 1) := by decide +kernel
theorem dX7_image_7 : decode cX7_image 7 = .ok (.lconst 0, 1) := by decide +kernel
theorem dX7_image_8 : decode cX7_image 8 = .ok (.lconst 1, 1) := by decide +kernel
theorem dX7_image_9 : decode cX7_image 9 = .ok (.invokestatic 66, 3) := by decide +kernel
theorem dX7_image_12 : decode cX7_image 12 = .ok (.ifCond .ne 6, 3) := by decide +kernel
theorem dX7_image_15 : decode cX7_image 15 = .ok (.ldc 76, 2) := by decide +kernel
theorem dX7_image_17 : decode cX7_image 17 = .ok (.ireturn, 1) := by decide +kernel
theorem dX7_image_18 : decode cX7_image 18 = .ok (.aload_n 0, 1) := by decide +kernel
theorem dX7_image_19 : decode cX7_image 19 = .ok (.invokevirtual 280, 3) := by decide +kernel
theorem dX7_image_22 : decode cX7_image 22 = .ok (.ifCond .ne 7, 3) := by decide +kernel
theorem dX7_image_25 : decode cX7_image 25 = .ok (.ldc_w 265, 3) := by decide +kernel
theorem dX7_image_28 : decode cX7_image 28 = .ok (.ireturn, 1) := by decide +kernel
theorem dX7_image_29 : decode cX7_image 29 = .ok (.iconst 0, 1) := by decide +kernel
theorem dX7_image_30 : decode cX7_image 30 = .ok (.istore_n 2, 1) := by decide +kernel
theorem dX7_image_31 : decode cX7_image 31 = .ok (.iload_n 2, 1) := by decide +kernel
theorem dX7_image_32 : decode cX7_image 32 = .ok (.sipush 207, 3) := by decide +kernel
theorem dX7_image_35 : decode cX7_image 35 = .ok (.if_icmp .ge 27, 3) := by decide +kernel
theorem dX7_image_38 : decode cX7_image 38 = .ok (.aload_n 0, 1) := by decide +kernel
theorem dX7_image_39 : decode cX7_image 39 = .ok (.getfield 50, 3) := by decide +kernel
theorem dX7_image_42 : decode cX7_image 42 = .ok (.sipush 207, 3) := by decide +kernel
theorem dX7_image_45 : decode cX7_image 45 = .ok (.iload_n 1, 1) := by decide +kernel
theorem dX7_image_46 : decode cX7_image 46 = .ok (.imul, 1) := by decide +kernel
theorem dX7_image_47 : decode cX7_image 47 = .ok (.iload_n 2, 1) := by decide +kernel
theorem dX7_image_48 : decode cX7_image 48 = .ok (.iadd, 1) := by decide +kernel
theorem dX7_image_49 : decode cX7_image 49 = .ok (.aload_n 0, 1) := by decide +kernel
theorem dX7_image_50 : decode cX7_image 50 = .ok (.getfield 19, 3) := by decide +kernel
theorem dX7_image_53 : decode cX7_image 53 = .ok (.iload_n 2, 1) := by decide +kernel
theorem dX7_image_54 : decode cX7_image 54 = .ok (.iaload, 1) := by decide +kernel
theorem dX7_image_55 : decode cX7_image 55 = .ok (.iastore, 1) := by decide +kernel
theorem dX7_image_56 : decode cX7_image 56 = .ok (.iinc 2 1, 3) := by decide +kernel
theorem dX7_image_59 : decode cX7_image 59 = .ok (.goto (-28), 3) := by decide +kernel
theorem dX7_image_62 : decode cX7_image 62 = .ok (.aload_n 0, 1) := by decide +kernel
theorem dX7_image_63 : decode cX7_image 63 = .ok (.getfield 46, 3) := by decide +kernel
theorem dX7_image_66 : decode cX7_image 66 = .ok (.iload_n 1, 1) := by decide +kernel
theorem dX7_image_67 : decode cX7_image 67 = .ok (.iconst 1, 1) := by decide +kernel
theorem dX7_image_68 : decode cX7_image 68 = .ok (.bastore, 1) := by decide +kernel
theorem dX7_image_69 : decode cX7_image 69 = .ok (.iconst 1, 1) := by decide +kernel
theorem dX7_image_70 : decode cX7_image 70 = .ok (.ireturn, 1) := by decide +kernel
theorem dX7_restore_0 : decode cX7_restore 0 = .ok (.aload_n 0, 1) := by decide +kernel
theorem dX7_restore_1 : decode cX7_restore 1 = .ok (.iconst 0, 1) := by decide +kernel
theorem dX7_restore_2 : decode cX7_restore 2 = .ok (.putfield 56, 3) := by decide +kernel
theorem dX7_restore_5 : decode cX7_restore 5 = .ok (.iload_n 1, 1) := by decide +kernel
theorem dX7_restore_6 : decode cX7_restore 6 = .ok (.i2l, 1) := by decide +kernel
theorem dX7_restore_7 : decode cX7_restore 7 = .ok (.lconst 0, 1) := by decide +kernel
theorem dX7_restore_8 : decode cX7_restore 8 = .ok (.lconst 1, 1) := by decide +kernel
theorem dX7_restore_9 : decode cX7_restore 9 = .ok (.invokestatic 66, 3) := by decide +kernel
theorem dX7_restore_12 : decode cX7_restore 12 = .ok (.ifCond .ne 6, 3) := by decide +kernel
theorem dX7_restore_15 : decode cX7_restore 15 = .ok (.ldc 76, 2) := by decide +kernel
theorem dX7_restore_17 : decode cX7_restore 17 = .ok (.ireturn, 1) := by decide +kernel
theorem dX7_restore_18 : decode cX7_restore 18 = .ok (.aload_n 0, 1) := by decide +kernel
theorem dX7_restore_19 : decode cX7_restore 19 = .ok (.getfield 46, 3) := by decide +kernel
theorem dX7_restore_22 : decode cX7_restore 22 = .ok (.iload_n 1, 1) := by decide +kernel
theorem dX7_restore_23 : decode cX7_restore 23 = .ok (.baload, 1) := by decide +kernel
theorem dX7_restore_24 : decode cX7_restore 24 = .ok (.ifCond .ne 7, 3) := by decide +kernel
theorem dX7_restore_27 : decode cX7_restore 27 = .ok (.ldc_w 265, 3) := by decide +kernel
theorem dX7_restore_30 : decode cX7_restore 30 = .ok (.ireturn, 1) := by decide +kernel
theorem dX7_restore_31 : decode cX7_restore 31 = .ok (.iconst 0, 1) := by decide +kernel
theorem dX7_restore_32 : decode cX7_restore 32 = .ok (.istore_n 2, 1) := by decide +kernel
theorem dX7_restore_33 : decode cX7_restore 33 = .ok (.iload_n 2, 1) := by decide +kernel
theorem dX7_restore_34 : decode cX7_restore 34 = .ok (.sipush 207, 3) := by decide +kernel
theorem dX7_restore_37 : decode cX7_restore 37 = .ok (.if_icmp .ge 27, 3) := by decide +kernel
theorem dX7_restore_40 : decode cX7_restore 40 = .ok (.aload_n 0, 1) := by decide +kernel
theorem dX7_restore_41 : decode cX7_restore 41 = .ok (.getfield 19, 3) := by decide +kernel
theorem dX7_restore_44 : decode cX7_restore 44 = .ok (.iload_n 2, 1) := by decide +kernel
theorem dX7_restore_45 : decode cX7_restore 45 = .ok (.aload_n 0, 1) := by decide +kernel
theorem dX7_restore_46 : decode cX7_restore 46 = .ok (.getfield 50, 3) := by decide +kernel
theorem dX7_restore_49 : decode cX7_restore 49 = .ok (.sipush 207, 3) := by decide +kernel
theorem dX7_restore_52 : decode cX7_restore 52 = .ok (.iload_n 1, 1) := by decide +kernel
theorem dX7_restore_53 : decode cX7_restore 53 = .ok (.imul, 1) := by decide +kernel
theorem dX7_restore_54 : decode cX7_restore 54 = .ok (.iload_n 2, 1) := by decide +kernel
theorem dX7_restore_55 : decode cX7_restore 55 = .ok (.iadd, 1) := by decide +kernel
theorem dX7_restore_56 : decode cX7_restore 56 = .ok (.iaload, 1) := by decide +kernel
theorem dX7_restore_57 : decode cX7_restore 57 = .ok (.iastore, 1) := by decide +kernel
theorem dX7_restore_58 : decode cX7_restore 58 = .ok (.iinc 2 1, 3) := by decide +kernel
theorem dX7_restore_61 : decode cX7_restore 61 = .ok (.goto (-28), 3) := by decide +kernel
theorem dX7_restore_64 : decode cX7_restore 64 = .ok (.aload_n 0, 1) := by decide +kernel
theorem dX7_restore_65 : decode cX7_restore 65 = .ok (.iconst 0, 1) := by decide +kernel
theorem dX7_restore_66 : decode cX7_restore 66 = .ok (.putfield 165, 3) := by decide +kernel
theorem dX7_restore_69 : decode cX7_restore 69 = .ok (.iconst 1, 1) := by decide +kernel
theorem dX7_restore_70 : decode cX7_restore 70 = .ok (.ireturn, 1) := by decide +kernel
theorem dX7_isOf_0 : decode cX7_isOf 0 = .ok (.iload_n 1, 1) := by decide +kernel
theorem dX7_isOf_1 : decode cX7_isOf 1 = .ok (.ifCond .eq 28, 3) := by decide +kernel
theorem dX7_isOf_4 : decode cX7_isOf 4 = .ok (.iload_n 0, 1) := by decide +kernel
theorem dX7_isOf_5 : decode cX7_isOf 5 = .ok (.iload_n 1, 1) := by decide +kernel
theorem dX7_isOf_6 : decode cX7_isOf 6 = .ok (.if_icmp .eq 23, 3) := by decide +kernel
theorem dX7_isOf_9 : decode cX7_isOf 9 = .ok (.iload_n 1, 1) := by decide +kernel
theorem dX7_isOf_10 : decode cX7_isOf 10 = .ok (.iconst 1, 1) := by decide +kernel
theorem dX7_isOf_11 : decode cX7_isOf 11 = .ok (.if_icmp .ne 8, 3) := by decide +kernel
theorem dX7_isOf_14 : decode cX7_isOf 14 = .ok (.iload_n 0, 1) := by decide +kernel
theorem dX7_isOf_15 : decode cX7_isOf 15 = .ok (.iconst 4, 1) := by decide +kernel
theorem dX7_isOf_16 : decode cX7_isOf 16 = .ok (.if_icmp .lt 13, 3) := by decide +kernel
theorem dX7_isOf_19 : decode cX7_isOf 19 = .ok (.iload_n 1, 1) := by decide +kernel
theorem dX7_isOf_20 : decode cX7_isOf 20 = .ok (.iconst 4, 1) := by decide +kernel
theorem dX7_isOf_21 : decode cX7_isOf 21 = .ok (.if_icmp .ne 12, 3) := by decide +kernel
theorem dX7_isOf_24 : decode cX7_isOf 24 = .ok (.iload_n 0, 1) := by decide +kernel
theorem dX7_isOf_25 : decode cX7_isOf 25 = .ok (.iconst 5, 1) := by decide +kernel
theorem dX7_isOf_26 : decode cX7_isOf 26 = .ok (.if_icmp .ne 7, 3) := by decide +kernel
theorem dX7_isOf_29 : decode cX7_isOf 29 = .ok (.iconst 1, 1) := by decide +kernel
theorem dX7_isOf_30 : decode cX7_isOf 30 = .ok (.goto 4, 3) := by decide +kernel
theorem dX7_isOf_33 : decode cX7_isOf 33 = .ok (.iconst 0, 1) := by decide +kernel
theorem dX7_isOf_34 : decode cX7_isOf 34 = .ok (.ireturn, 1) := by decide +kernel
theorem dX7_kind_0 : decode cX7_kind 0 = .ok (.aload_n 0, 1) := by decide +kernel
theorem dX7_kind_1 : decode cX7_kind 1 = .ok (.iconst 0, 1) := by decide +kernel
theorem dX7_kind_2 : decode cX7_kind 2 = .ok (.putfield 56, 3) := by decide +kernel
theorem dX7_kind_5 : decode cX7_kind 5 = .ok (.aload_n 0, 1) := by decide +kernel
theorem dX7_kind_6 : decode cX7_kind 6 = .ok (.iload_n 1, 1) := by decide +kernel
theorem dX7_kind_7 : decode cX7_kind 7 = .ok (.invokevirtual 262, 3) := by decide +kernel
theorem dX7_kind_10 : decode cX7_kind 10 = .ok (.ifCond .eq 14, 3) := by decide +kernel
theorem dX7_kind_13 : decode cX7_kind 13 = .ok (.aload_n 0, 1) := by decide +kernel
theorem dX7_kind_14 : decode cX7_kind 14 = .ok (.getfield 19, 3) := by decide +kernel
theorem dX7_kind_17 : decode cX7_kind 17 = .ok (.iload_n 1, 1) := by decide +kernel
theorem dX7_kind_18 : decode cX7_kind 18 = .ok (.invokestatic 189, 3) := by decide +kernel
theorem dX7_kind_21 : decode cX7_kind 21 = .ok (.goto 5, 3) := by decide +kernel
theorem dX7_kind_24 : decode cX7_kind 24 = .ok (.ldc 76, 2) := by decide +kernel
theorem dX7_kind_26 : decode cX7_kind 26 = .ok (.ireturn, 1) := by decide +kernel
theorem dX7_as_0 : decode cX7_as 0 = .ok (.aload_n 0, 1) := by decide +kernel
theorem dX7_as_1 : decode cX7_as 1 = .ok (.iconst 0, 1) := by decide +kernel
theorem dX7_as_2 : decode cX7_as 2 = .ok (.putfield 56, 3) := by decide +kernel
theorem dX7_as_5 : decode cX7_as 5 = .ok (.aload_n 0, 1) := by decide +kernel
theorem dX7_as_6 : decode cX7_as 6 = .ok (.iload_n 1, 1) := by decide +kernel
theorem dX7_as_7 : decode cX7_as 7 = .ok (.invokevirtual 262, 3) := by decide +kernel
theorem dX7_as_10 : decode cX7_as 10 = .ok (.ifCond .eq 15, 3) := by decide +kernel
theorem dX7_as_13 : decode cX7_as 13 = .ok (.iload_n 2, 1) := by decide +kernel
theorem dX7_as_14 : decode cX7_as 14 = .ok (.i2l, 1) := by decide +kernel
theorem dX7_as_15 : decode cX7_as 15 = .ok (.lconst 0, 1) := by decide +kernel
theorem dX7_as_16 : decode cX7_as 16 = .ok (.ldc2_w 143, 3) := by decide +kernel
theorem dX7_as_19 : decode cX7_as 19 = .ok (.invokestatic 66, 3) := by decide +kernel
theorem dX7_as_22 : decode cX7_as 22 = .ok (.ifCond .ne 6, 3) := by decide +kernel
theorem dX7_as_25 : decode cX7_as 25 = .ok (.ldc 76, 2) := by decide +kernel
theorem dX7_as_27 : decode cX7_as 27 = .ok (.ireturn, 1) := by decide +kernel
theorem dX7_as_28 : decode cX7_as 28 = .ok (.aload_n 0, 1) := by decide +kernel
theorem dX7_as_29 : decode cX7_as 29 = .ok (.iconst 0, 1) := by decide +kernel
theorem dX7_as_30 : decode cX7_as 30 = .ok (.putfield 60, 3) := by decide +kernel
theorem dX7_as_33 : decode cX7_as 33 = .ok (.aload_n 0, 1) := by decide +kernel
theorem dX7_as_34 : decode cX7_as 34 = .ok (.getfield 19, 3) := by decide +kernel
theorem dX7_as_37 : decode cX7_as 37 = .ok (.iload_n 1, 1) := by decide +kernel
theorem dX7_as_38 : decode cX7_as 38 = .ok (.invokestatic 189, 3) := by decide +kernel
theorem dX7_as_41 : decode cX7_as 41 = .ok (.iload_n 2, 1) := by decide +kernel
theorem dX7_as_42 : decode cX7_as 42 = .ok (.invokestatic 347, 3) := by decide +kernel
theorem dX7_as_45 : decode cX7_as 45 = .ok (.ifCond .eq 7, 3) := by decide +kernel
theorem dX7_as_48 : decode cX7_as 48 = .ok (.iload_n 1, 1) := by decide +kernel
theorem dX7_as_49 : decode cX7_as 49 = .ok (.goto 8, 3) := by decide +kernel
theorem dX7_as_52 : decode cX7_as 52 = .ok (.aload_n 0, 1) := by decide +kernel
theorem dX7_as_53 : decode cX7_as 53 = .ok (.iconst 3, 1) := by decide +kernel
theorem dX7_as_54 : decode cX7_as 54 = .ok (.invokevirtual 77, 3) := by decide +kernel
theorem dX7_as_57 : decode cX7_as 57 = .ok (.ireturn, 1) := by decide +kernel
theorem dX7_began_0 : decode cX7_began 0 = .ok (.aload_n 0, 1) := by decide +kernel
theorem dX7_began_1 : decode cX7_began 1 = .ok (.getfield 350, 3) := by decide +kernel
theorem dX7_began_4 : decode cX7_began 4 = .ok (.bipush 16, 2) := by decide +kernel
theorem dX7_began_6 : decode cX7_began 6 = .ok (.if_icmp .ge 23, 3) := by decide +kernel
theorem dX7_began_9 : decode cX7_began 9 = .ok (.aload_n 0, 1) := by decide +kernel
theorem dX7_began_10 : decode cX7_began 10 = .ok (.getfield 53, 3) := by decide +kernel
theorem dX7_began_13 : decode cX7_began 13 = .ok (.aload_n 0, 1) := by decide +kernel
theorem dX7_began_14 : decode cX7_began 14 = .ok (.getfield 350, 3) := by decide +kernel
theorem dX7_began_17 : decode cX7_began 17 = .ok (.iload_n 1, 1) := by decide +kernel
theorem dX7_began_18 : decode cX7_began 18 = .ok (.iastore, 1) := by decide +kernel
theorem dX7_began_19 : decode cX7_began 19 = .ok (.aload_n 0, 1) := by decide +kernel
theorem dX7_began_20 : decode cX7_began 20 = .ok (.dup, 1) := by decide +kernel
theorem dX7_began_21 : decode cX7_began 21 = .ok (.getfield 350, 3) := by decide +kernel
theorem dX7_began_24 : decode cX7_began 24 = .ok (.iconst 1, 1) := by decide +kernel
theorem dX7_began_25 : decode cX7_began 25 = .ok (.iadd, 1) := by decide +kernel
theorem dX7_began_26 : decode cX7_began 26 = .ok (.putfield 350, 3) := by decide +kernel
theorem dX7_began_29 : decode cX7_began 29 = .ok (.return_, 1) := by decide +kernel
theorem dX7_plainSize_0 : decode cX7_plainSize 0 = .ok (.aload_n 0, 1) := by decide +kernel
theorem dX7_plainSize_1 : decode cX7_plainSize 1 = .ok (.bipush 10, 2) := by decide +kernel
theorem dX7_plainSize_3 : decode cX7_plainSize 3 = .ok (.invokevirtual 353, 3) := by decide +kernel
theorem dX7_plainSize_6 : decode cX7_plainSize 6 = .ok (.aload_n 0, 1) := by decide +kernel
theorem dX7_plainSize_7 : decode cX7_plainSize 7 = .ok (.getfield 19, 3) := by decide +kernel
theorem dX7_plainSize_10 : decode cX7_plainSize 10 = .ok (.iload_n 1, 1) := by decide +kernel
theorem dX7_plainSize_11 : decode cX7_plainSize 11 = .ok (.invokestatic 174, 3) := by decide +kernel
theorem dX7_plainSize_14 : decode cX7_plainSize 14 = .ok (.ireturn, 1) := by decide +kernel
theorem dX7_smallSize_0 : decode cX7_smallSize 0 = .ok (.aload_n 0, 1) := by decide +kernel
theorem dX7_smallSize_1 : decode cX7_smallSize 1 = .ok (.getfield 19, 3) := by decide +kernel
theorem dX7_smallSize_4 : decode cX7_smallSize 4 = .ok (.iload_n 1, 1) := by decide +kernel
theorem dX7_smallSize_5 : decode cX7_smallSize 5 = .ok (.invokestatic 189, 3) := by decide +kernel
theorem dX7_smallSize_8 : decode cX7_smallSize 8 = .ok (.iconst 5, 1) := by decide +kernel
theorem dX7_smallSize_9 : decode cX7_smallSize 9 = .ok (.if_icmp .ne 7, 3) := by decide +kernel
theorem dX7_smallSize_12 : decode cX7_smallSize 12 = .ok (.iconst 1, 1) := by decide +kernel
theorem dX7_smallSize_13 : decode cX7_smallSize 13 = .ok (.goto 4, 3) := by decide +kernel
theorem dX7_smallSize_16 : decode cX7_smallSize 16 = .ok (.iconst 0, 1) := by decide +kernel
theorem dX7_smallSize_17 : decode cX7_smallSize 17 = .ok (.istore_n 2, 1) := by decide +kernel
theorem dX7_smallSize_18 : decode cX7_smallSize 18 = .ok (.iload_n 2, 1) := by decide +kernel
theorem dX7_smallSize_19 : decode cX7_smallSize 19 = .ok (.ifCond .eq 9, 3) := by decide +kernel
theorem dX7_smallSize_22 : decode cX7_smallSize 22 = .ok (.aload_n 0, 1) := by decide +kernel
theorem dX7_smallSize_23 : decode cX7_smallSize 23 = .ok (.bipush 14, 2) := by decide +kernel
theorem dX7_smallSize_25 : decode cX7_smallSize 25 = .ok (.invokevirtual 353, 3) := by decide +kernel
theorem dX7_smallSize_28 : decode cX7_smallSize 28 = .ok (.aload_n 0, 1) := by decide +kernel
theorem dX7_smallSize_29 : decode cX7_smallSize 29 = .ok (.bipush 13, 2) := by decide +kernel
theorem dX7_smallSize_31 : decode cX7_smallSize 31 = .ok (.invokevirtual 353, 3) := by decide +kernel
theorem dX7_smallSize_34 : decode cX7_smallSize 34 = .ok (.aload_n 0, 1) := by decide +kernel
theorem dX7_smallSize_35 : decode cX7_smallSize 35 = .ok (.iload_n 1, 1) := by decide +kernel
theorem dX7_smallSize_36 : decode cX7_smallSize 36 = .ok (.invokevirtual 356, 3) := by decide +kernel
theorem dX7_smallSize_39 : decode cX7_smallSize 39 = .ok (.bipush 100, 2) := by decide +kernel
theorem dX7_smallSize_41 : decode cX7_smallSize 41 = .ok (.isub, 1) := by decide +kernel
theorem dX7_smallSize_42 : decode cX7_smallSize 42 = .ok (.istore_n 3, 1) := by decide +kernel
theorem dX7_smallSize_43 : decode cX7_smallSize 43 = .ok (.iload_n 2, 1) := by decide +kernel
theorem dX7_smallSize_44 : decode cX7_smallSize 44 = .ok (.ifCond .eq 9, 3) := by decide +kernel
theorem dX7_smallSize_47 : decode cX7_smallSize 47 = .ok (.iconst 2, 1) := by decide +kernel
theorem dX7_smallSize_48 : decode cX7_smallSize 48 = .ok (.iload_n 3, 1) := by decide +kernel
theorem dX7_smallSize_49 : decode cX7_smallSize 49 = .ok (.imul, 1) := by decide +kernel
theorem dX7_smallSize_50 : decode cX7_smallSize 50 = .ok (.goto 4, 3) := by decide +kernel
theorem dX7_smallSize_53 : decode cX7_smallSize 53 = .ok (.iload_n 3, 1) := by decide +kernel
theorem dX7_smallSize_54 : decode cX7_smallSize 54 = .ok (.ireturn, 1) := by decide +kernel
theorem dX7_markOf_0 : decode cX7_markOf 0 = .ok (.aload_n 0, 1) := by decide +kernel
theorem dX7_markOf_1 : decode cX7_markOf 1 = .ok (.getfield 19, 3) := by decide +kernel
theorem dX7_markOf_4 : decode cX7_markOf 4 = .ok (.iload_n 1, 1) := by decide +kernel
theorem dX7_markOf_5 : decode cX7_markOf 5 = .ok (.invokestatic 189, 3) := by decide +kernel
theorem dX7_markOf_8 : decode cX7_markOf 8 = .ok (.istore_n 2, 1) := by decide +kernel
theorem dX7_markOf_9 : decode cX7_markOf 9 = .ok (.iload_n 2, 1) := by decide +kernel
theorem dX7_markOf_10 : decode cX7_markOf 10 = .ok (.iconst 4, 1) := by decide +kernel
theorem dX7_markOf_11 : decode cX7_markOf 11 = .ok (.if_icmp .lt 23, 3) := by decide +kernel
theorem dX7_markOf_14 : decode cX7_markOf 14 = .ok (.aload_n 0, 1) := by decide +kernel
theorem dX7_markOf_15 : decode cX7_markOf 15 = .ok (.bipush 23, 2) := by decide +kernel
theorem dX7_markOf_17 : decode cX7_markOf 17 = .ok (.invokevirtual 353, 3) := by decide +kernel
theorem dX7_markOf_20 : decode cX7_markOf 20 = .ok (.aload_n 0, 1) := by decide +kernel
theorem dX7_markOf_21 : decode cX7_markOf 21 = .ok (.bipush 20, 2) := by decide +kernel
theorem dX7_markOf_23 : decode cX7_markOf 23 = .ok (.invokevirtual 353, 3) := by decide +kernel
theorem dX7_markOf_26 : decode cX7_markOf 26 = .ok (.iload_n 1, 1) := by decide +kernel
theorem dX7_markOf_27 : decode cX7_markOf 27 = .ok (.aload_n 0, 1) := by decide +kernel
theorem dX7_markOf_28 : decode cX7_markOf 28 = .ok (.iload_n 1, 1) := by decide +kernel
theorem dX7_markOf_29 : decode cX7_markOf 29 = .ok (.invokevirtual 359, 3) := by decide +kernel
theorem dX7_markOf_32 : decode cX7_markOf 32 = .ok (.isub, 1) := by decide +kernel
theorem dX7_markOf_33 : decode cX7_markOf 33 = .ok (.ireturn, 1) := by decide +kernel
theorem dX7_markOf_34 : decode cX7_markOf 34 = .ok (.iload_n 2, 1) := by decide +kernel
theorem dX7_markOf_35 : decode cX7_markOf 35 = .ok (.iconst 1, 1) := by decide +kernel
theorem dX7_markOf_36 : decode cX7_markOf 36 = .ok (.if_icmp .eq 19, 3) := by decide +kernel
theorem dX7_markOf_39 : decode cX7_markOf 39 = .ok (.aload_n 0, 1) := by decide +kernel
theorem dX7_markOf_40 : decode cX7_markOf 40 = .ok (.iload_n 2, 1) := by decide +kernel
theorem dX7_markOf_41 : decode cX7_markOf 41 = .ok (.iconst 3, 1) := by decide +kernel
theorem dX7_markOf_42 : decode cX7_markOf 42 = .ok (.if_icmp .ne 8, 3) := by decide +kernel
theorem dX7_markOf_45 : decode cX7_markOf 45 = .ok (.bipush 22, 2) := by decide +kernel
theorem dX7_markOf_47 : decode cX7_markOf 47 = .ok (.goto 5, 3) := by decide +kernel
theorem dX7_markOf_50 : decode cX7_markOf 50 = .ok (.bipush 24, 2) := by decide +kernel
theorem dX7_markOf_52 : decode cX7_markOf 52 = .ok (.invokevirtual 353, 3) := by decide +kernel
theorem dX7_markOf_55 : decode cX7_markOf 55 = .ok (.aload_n 0, 1) := by decide +kernel
theorem dX7_markOf_56 : decode cX7_markOf 56 = .ok (.bipush 21, 2) := by decide +kernel
theorem dX7_markOf_58 : decode cX7_markOf 58 = .ok (.invokevirtual 353, 3) := by decide +kernel
theorem dX7_markOf_61 : decode cX7_markOf 61 = .ok (.aload_n 0, 1) := by decide +kernel
theorem dX7_markOf_62 : decode cX7_markOf 62 = .ok (.bipush 20, 2) := by decide +kernel
theorem dX7_markOf_64 : decode cX7_markOf 64 = .ok (.invokevirtual 353, 3) := by decide +kernel
theorem dX7_markOf_67 : decode cX7_markOf 67 = .ok (.iload_n 1, 1) := by decide +kernel
theorem dX7_markOf_68 : decode cX7_markOf 68 = .ok (.aload_n 0, 1) := by decide +kernel
theorem dX7_markOf_69 : decode cX7_markOf 69 = .ok (.getfield 19, 3) := by decide +kernel
theorem dX7_markOf_72 : decode cX7_markOf 72 = .ok (.iload_n 1, 1) := by decide +kernel
theorem dX7_markOf_73 : decode cX7_markOf 73 = .ok (.invokestatic 192, 3) := by decide +kernel
theorem dX7_markOf_76 : decode cX7_markOf 76 = .ok (.iadd, 1) := by decide +kernel
theorem dX7_markOf_77 : decode cX7_markOf 77 = .ok (.istore_n 3, 1) := by decide +kernel
theorem dX7_markOf_78 : decode cX7_markOf 78 = .ok (.iload_n 2, 1) := by decide +kernel
theorem dX7_markOf_79 : decode cX7_markOf 79 = .ok (.iconst 1, 1) := by decide +kernel
theorem dX7_markOf_80 : decode cX7_markOf 80 = .ok (.if_icmp .ne 7, 3) := by decide +kernel
theorem dX7_markOf_83 : decode cX7_markOf 83 = .ok (.iload_n 3, 1) := by decide +kernel
theorem dX7_markOf_84 : decode cX7_markOf 84 = .ok (.goto 19, 3) := by decide +kernel
theorem dX7_markOf_87 : decode cX7_markOf 87 = .ok (.iload_n 2, 1) := by decide +kernel
theorem dX7_markOf_88 : decode cX7_markOf 88 = .ok (.iconst 3, 1) := by decide +kernel
theorem dX7_markOf_89 : decode cX7_markOf 89 = .ok (.if_icmp .ne 11, 3) := by decide +kernel
theorem dX7_markOf_92 : decode cX7_markOf 92 = .ok (.iload_n 3, 1) := by decide +kernel
theorem dX7_markOf_93 : decode cX7_markOf 93 = .ok (.sipush 1000, 3) := by decide +kernel
theorem dX7_markOf_96 : decode cX7_markOf 96 = .ok (.isub, 1) := by decide +kernel
theorem dX7_markOf_97 : decode cX7_markOf 97 = .ok (.goto 6, 3) := by decide +kernel
theorem dX7_markOf_100 : decode cX7_markOf 100 = .ok (.iconst 2, 1) := by decide +kernel
theorem dX7_markOf_101 : decode cX7_markOf 101 = .ok (.iload_n 3, 1) := by decide +kernel
theorem dX7_markOf_102 : decode cX7_markOf 102 = .ok (.imul, 1) := by decide +kernel
theorem dX7_markOf_103 : decode cX7_markOf 103 = .ok (.ireturn, 1) := by decide +kernel
theorem dX7_askedSize_0 : decode cX7_askedSize 0 = .ok (.aload_n 0, 1) := by decide +kernel
theorem dX7_askedSize_1 : decode cX7_askedSize 1 = .ok (.getfield 19, 3) := by decide +kernel
theorem dX7_askedSize_4 : decode cX7_askedSize 4 = .ok (.iload_n 1, 1) := by decide +kernel
theorem dX7_askedSize_5 : decode cX7_askedSize 5 = .ok (.invokestatic 189, 3) := by decide +kernel
theorem dX7_askedSize_8 : decode cX7_askedSize 8 = .ok (.istore_n 2, 1) := by decide +kernel
theorem dX7_askedSize_9 : decode cX7_askedSize 9 = .ok (.iload_n 2, 1) := by decide +kernel
theorem dX7_askedSize_10 : decode cX7_askedSize 10 = .ok (.iconst 4, 1) := by decide +kernel
theorem dX7_askedSize_11 : decode cX7_askedSize 11 = .ok (.if_icmp .lt 9, 3) := by decide +kernel
theorem dX7_askedSize_14 : decode cX7_askedSize 14 = .ok (.aload_n 0, 1) := by decide +kernel
theorem dX7_askedSize_15 : decode cX7_askedSize 15 = .ok (.iload_n 1, 1) := by decide +kernel
theorem dX7_askedSize_16 : decode cX7_askedSize 16 = .ok (.invokevirtual 359, 3) := by decide +kernel
theorem dX7_askedSize_19 : decode cX7_askedSize 19 = .ok (.ireturn, 1) := by decide +kernel
theorem dX7_askedSize_20 : decode cX7_askedSize 20 = .ok (.iload_n 2, 1) := by decide +kernel
theorem dX7_askedSize_21 : decode cX7_askedSize 21 = .ok (.iconst 2, 1) := by decide +kernel
theorem dX7_askedSize_22 : decode cX7_askedSize 22 = .ok (.if_icmp .ne 9, 3) := by decide +kernel
theorem dX7_askedSize_25 : decode cX7_askedSize 25 = .ok (.aload_n 0, 1) := by decide +kernel
theorem dX7_askedSize_26 : decode cX7_askedSize 26 = .ok (.bipush 12, 2) := by decide +kernel
theorem dX7_askedSize_28 : decode cX7_askedSize 28 = .ok (.invokevirtual 353, 3) := by decide +kernel
theorem dX7_askedSize_31 : decode cX7_askedSize 31 = .ok (.aload_n 0, 1) := by decide +kernel
theorem dX7_askedSize_32 : decode cX7_askedSize 32 = .ok (.bipush 11, 2) := by decide +kernel
theorem dX7_askedSize_34 : decode cX7_askedSize 34 = .ok (.invokevirtual 353, 3) := by decide +kernel
theorem dX7_askedSize_37 : decode cX7_askedSize 37 = .ok (.aload_n 0, 1) := by decide +kernel
theorem dX7_askedSize_38 : decode cX7_askedSize 38 = .ok (.iload_n 1, 1) := by decide +kernel
theorem dX7_askedSize_39 : decode cX7_askedSize 39 = .ok (.invokevirtual 356, 3) := by decide +kernel
theorem dX7_askedSize_42 : decode cX7_askedSize 42 = .ok (.istore_n 3, 1) := by decide +kernel
theorem dX7_askedSize_43 : decode cX7_askedSize 43 = .ok (.iload_n 3, 1) := by decide +kernel
theorem dX7_askedSize_44 : decode cX7_askedSize 44 = .ok (.aload_n 0, 1) := by decide +kernel
theorem dX7_askedSize_45 : decode cX7_askedSize 45 = .ok (.iload_n 1, 1) := by decide +kernel
theorem dX7_askedSize_46 : decode cX7_askedSize 46 = .ok (.invokevirtual 362, 3) := by decide +kernel
theorem dX7_askedSize_49 : decode cX7_askedSize 49 = .ok (.iadd, 1) := by decide +kernel
theorem dX7_askedSize_50 : decode cX7_askedSize 50 = .ok (.istore_n 3, 1) := by decide +kernel
theorem dX7_askedSize_51 : decode cX7_askedSize 51 = .ok (.iload_n 2, 1) := by decide +kernel
theorem dX7_askedSize_52 : decode cX7_askedSize 52 = .ok (.iconst 2, 1) := by decide +kernel
theorem dX7_askedSize_53 : decode cX7_askedSize 53 = .ok (.if_icmp .ne 8, 3) := by decide +kernel
theorem dX7_askedSize_56 : decode cX7_askedSize 56 = .ok (.iload_n 3, 1) := by decide +kernel
theorem dX7_askedSize_57 : decode cX7_askedSize 57 = .ok (.ineg, 1) := by decide +kernel
theorem dX7_askedSize_58 : decode cX7_askedSize 58 = .ok (.goto 4, 3) := by decide +kernel
theorem dX7_askedSize_61 : decode cX7_askedSize 61 = .ok (.iload_n 3, 1) := by decide +kernel
theorem dX7_askedSize_62 : decode cX7_askedSize 62 = .ok (.ireturn, 1) := by decide +kernel
theorem dX7_ask_0 : decode cX7_ask 0 = .ok (.aload_n 0, 1) := by decide +kernel
theorem dX7_ask_1 : decode cX7_ask 1 = .ok (.iconst 0, 1) := by decide +kernel
theorem dX7_ask_2 : decode cX7_ask 2 = .ok (.putfield 56, 3) := by decide +kernel
theorem dX7_ask_5 : decode cX7_ask 5 = .ok (.aload_n 0, 1) := by decide +kernel
theorem dX7_ask_6 : decode cX7_ask 6 = .ok (.iload_n 1, 1) := by decide +kernel
theorem dX7_ask_7 : decode cX7_ask 7 = .ok (.invokevirtual 262, 3) := by decide +kernel
theorem dX7_ask_10 : decode cX7_ask 10 = .ok (.ifCond .eq 13, 3) := by decide +kernel
theorem dX7_ask_13 : decode cX7_ask 13 = .ok (.iload_n 2, 1) := by decide +kernel
theorem dX7_ask_14 : decode cX7_ask 14 = .ok (.i2l, 1) := by decide +kernel
theorem dX7_ask_15 : decode cX7_ask 15 = .ok (.lconst 0, 1) := by decide +kernel
theorem dX7_ask_16 : decode cX7_ask 16 = .ok (.lconst 1, 1) := by decide +kernel
theorem dX7_ask_17 : decode cX7_ask 17 = .ok (.invokestatic 66, 3) := by decide +kernel
theorem dX7_ask_20 : decode cX7_ask 20 = .ok (.ifCond .ne 6, 3) := by decide +kernel
theorem dX7_ask_23 : decode cX7_ask 23 = .ok (.ldc 76, 2) := by decide +kernel
theorem dX7_ask_25 : decode cX7_ask 25 = .ok (.ireturn, 1) := by decide +kernel
theorem dX7_ask_26 : decode cX7_ask 26 = .ok (.aload_n 0, 1) := by decide +kernel
theorem dX7_ask_27 : decode cX7_ask 27 = .ok (.iconst 0, 1) := by decide +kernel
theorem dX7_ask_28 : decode cX7_ask 28 = .ok (.putfield 350, 3) := by decide +kernel
theorem dX7_ask_31 : decode cX7_ask 31 = .ok (.iload_n 2, 1) := by decide +kernel
theorem dX7_ask_32 : decode cX7_ask 32 = .ok (.ifCond .ne 11, 3) := by decide +kernel
theorem dX7_ask_35 : decode cX7_ask 35 = .ok (.aload_n 0, 1) := by decide +kernel
theorem dX7_ask_36 : decode cX7_ask 36 = .ok (.iload_n 1, 1) := by decide +kernel
theorem dX7_ask_37 : decode cX7_ask 37 = .ok (.invokevirtual 365, 3) := by decide +kernel
theorem dX7_ask_40 : decode cX7_ask 40 = .ok (.goto 8, 3) := by decide +kernel
theorem dX7_ask_43 : decode cX7_ask 43 = .ok (.aload_n 0, 1) := by decide +kernel
theorem dX7_ask_44 : decode cX7_ask 44 = .ok (.iload_n 1, 1) := by decide +kernel
theorem dX7_ask_45 : decode cX7_ask 45 = .ok (.invokevirtual 362, 3) := by decide +kernel
theorem dX7_ask_48 : decode cX7_ask 48 = .ok (.ireturn, 1) := by decide +kernel
theorem dX7_trace_0 : decode cX7_trace 0 = .ok (.aload_n 0, 1) := by decide +kernel
theorem dX7_trace_1 : decode cX7_trace 1 = .ok (.iconst 0, 1) := by decide +kernel
theorem dX7_trace_2 : decode cX7_trace 2 = .ok (.putfield 56, 3) := by decide +kernel
theorem dX7_trace_5 : decode cX7_trace 5 = .ok (.iload_n 1, 1) := by decide +kernel
theorem dX7_trace_6 : decode cX7_trace 6 = .ok (.i2l, 1) := by decide +kernel
theorem dX7_trace_7 : decode cX7_trace 7 = .ok (.lconst 0, 1) := by decide +kernel
theorem dX7_trace_8 : decode cX7_trace 8 = .ok (.aload_n 0, 1) := by decide +kernel
theorem dX7_trace_9 : decode cX7_trace 9 = .ok (.getfield 350, 3) := by decide +kernel
theorem dX7_trace_12 : decode cX7_trace 12 = .ok (.iconst 1, 1) := by decide +kernel
theorem dX7_trace_13 : decode cX7_trace 13 = .ok (.isub, 1) := by decide +kernel
theorem dX7_trace_14 : decode cX7_trace 14 = .ok (.i2l, 1) := by decide +kernel
theorem dX7_trace_15 : decode cX7_trace 15 = .ok (.invokestatic 66, 3) := by decide +kernel
theorem dX7_trace_18 : decode cX7_trace 18 = .ok (.ifCond .eq 12, 3) := by decide +kernel
theorem dX7_trace_21 : decode cX7_trace 21 = .ok (.aload_n 0, 1) := by decide +kernel
theorem dX7_trace_22 : decode cX7_trace 22 = .ok (.getfield 53, 3) := by decide +kernel
theorem dX7_trace_25 : decode cX7_trace 25 = .ok (.iload_n 1, 1) := by decide +kernel
theorem dX7_trace_26 : decode cX7_trace 26 = .ok (.iaload, 1) := by decide +kernel
theorem dX7_trace_27 : decode cX7_trace 27 = .ok (.goto 5, 3) := by decide +kernel
theorem dX7_trace_30 : decode cX7_trace 30 = .ok (.ldc 99, 2) := by decide +kernel
theorem dX7_trace_32 : decode cX7_trace 32 = .ok (.ireturn, 1) := by decide +kernel
theorem dX7_count_0 : decode cX7_count 0 = .ok (.aload_n 0, 1) := by decide +kernel
theorem dX7_count_1 : decode cX7_count 1 = .ok (.iconst 0, 1) := by decide +kernel
theorem dX7_count_2 : decode cX7_count 2 = .ok (.putfield 56, 3) := by decide +kernel
theorem dX7_count_5 : decode cX7_count 5 = .ok (.iconst 0, 1) := by decide +kernel
theorem dX7_count_6 : decode cX7_count 6 = .ok (.istore_n 2, 1) := by decide +kernel
theorem dX7_count_7 : decode cX7_count 7 = .ok (.iload_n 1, 1) := by decide +kernel
theorem dX7_count_8 : decode cX7_count 8 = .ok (.tableswitch 166 0 6 #[44, 77, 85, 92, 124, 156, 161], 44) := by decide +kernel
theorem dX7_count_52 : decode cX7_count 52 = .ok (.iconst 0, 1) := by decide +kernel
theorem dX7_count_53 : decode cX7_count 53 = .ok (.istore_n 3, 1) := by decide +kernel
theorem dX7_count_54 : decode cX7_count 54 = .ok (.iload_n 3, 1) := by decide +kernel
theorem dX7_count_55 : decode cX7_count 55 = .ok (.bipush 8, 2) := by decide +kernel
theorem dX7_count_57 : decode cX7_count 57 = .ok (.if_icmp .ge 26, 3) := by decide +kernel
theorem dX7_count_60 : decode cX7_count 60 = .ok (.iload_n 2, 1) := by decide +kernel
theorem dX7_count_61 : decode cX7_count 61 = .ok (.aload_n 0, 1) := by decide +kernel
theorem dX7_count_62 : decode cX7_count 62 = .ok (.getfield 7, 3) := by decide +kernel
theorem dX7_count_65 : decode cX7_count 65 = .ok (.iload_n 3, 1) := by decide +kernel
theorem dX7_count_66 : decode cX7_count 66 = .ok (.iaload, 1) := by decide +kernel
theorem dX7_count_67 : decode cX7_count 67 = .ok (.ifCond .lt 7, 3) := by decide +kernel
theorem dX7_count_70 : decode cX7_count 70 = .ok (.iconst 1, 1) := by decide +kernel
theorem dX7_count_71 : decode cX7_count 71 = .ok (.goto 4, 3) := by decide +kernel
theorem dX7_count_74 : decode cX7_count 74 = .ok (.iconst 0, 1) := by decide +kernel
theorem dX7_count_75 : decode cX7_count 75 = .ok (.iadd, 1) := by decide +kernel
theorem dX7_count_76 : decode cX7_count 76 = .ok (.istore_n 2, 1) := by decide +kernel
theorem dX7_count_77 : decode cX7_count 77 = .ok (.iinc 3 1, 3) := by decide +kernel
theorem dX7_count_80 : decode cX7_count 80 = .ok (.goto (-26), 3) := by decide +kernel
theorem dX7_count_83 : decode cX7_count 83 = .ok (.iload_n 2, 1) := by decide +kernel
theorem dX7_count_84 : decode cX7_count 84 = .ok (.ireturn, 1) := by decide +kernel
theorem dX7_count_85 : decode cX7_count 85 = .ok (.aload_n 0, 1) := by decide +kernel
theorem dX7_count_86 : decode cX7_count 86 = .ok (.getfield 19, 3) := by decide +kernel
theorem dX7_count_89 : decode cX7_count 89 = .ok (.invokestatic 128, 3) := by decide +kernel
theorem dX7_count_92 : decode cX7_count 92 = .ok (.ireturn, 1) := by decide +kernel
theorem dX7_count_93 : decode cX7_count 93 = .ok (.aload_n 0, 1) := by decide +kernel
theorem dX7_count_94 : decode cX7_count 94 = .ok (.getfield 19, 3) := by decide +kernel
theorem dX7_count_97 : decode cX7_count 97 = .ok (.iconst 0, 1) := by decide +kernel
theorem dX7_count_98 : decode cX7_count 98 = .ok (.iaload, 1) := by decide +kernel
theorem dX7_count_99 : decode cX7_count 99 = .ok (.ireturn, 1) := by decide +kernel
theorem dX7_count_100 : decode cX7_count 100 = .ok (.iconst 0, 1) := by decide +kernel
theorem dX7_count_101 : decode cX7_count 101 = .ok (.istore_n 3, 1) := by decide +kernel
theorem dX7_count_102 : decode cX7_count 102 = .ok (.iload_n 3, 1) := by decide +kernel
theorem dX7_count_103 : decode cX7_count 103 = .ok (.aload_n 0, 1) := by decide +kernel
theorem dX7_count_104 : decode cX7_count 104 = .ok (.getfield 19, 3) := by decide +kernel
theorem dX7_count_107 : decode cX7_count 107 = .ok (.invokestatic 128, 3) := by decide +kernel
theorem dX7_count_110 : decode cX7_count 110 = .ok (.if_icmp .ge 20, 3) := by decide +kernel
theorem dX7_count_113 : decode cX7_count 113 = .ok (.iload_n 2, 1) := by decide +kernel
theorem dX7_count_114 : decode cX7_count 114 = .ok (.aload_n 0, 1) := by decide +kernel
theorem dX7_count_115 : decode cX7_count 115 = .ok (.getfield 19, 3) := by decide +kernel
theorem dX7_count_118 : decode cX7_count 118 = .ok (.iload_n 3, 1) := by decide +kernel
theorem dX7_count_119 : decode cX7_count 119 = .ok (.invokestatic 174, 3) := by decide +kernel
theorem dX7_count_122 : decode cX7_count 122 = .ok (.iadd, 1) := by decide +kernel
theorem dX7_count_123 : decode cX7_count 123 = .ok (.istore_n 2, 1) := by decide +kernel
theorem dX7_count_124 : decode cX7_count 124 = .ok (.iinc 3 1, 3) := by decide +kernel
theorem dX7_count_127 : decode cX7_count 127 = .ok (.goto (-25), 3) := by decide +kernel
theorem dX7_count_130 : decode cX7_count 130 = .ok (.iload_n 2, 1) := by decide +kernel
theorem dX7_count_131 : decode cX7_count 131 = .ok (.ireturn, 1) := by decide +kernel
theorem dX7_count_132 : decode cX7_count 132 = .ok (.iconst 0, 1) := by decide +kernel
theorem dX7_count_133 : decode cX7_count 133 = .ok (.istore_n 3, 1) := by decide +kernel
theorem dX7_count_134 : decode cX7_count 134 = .ok (.iload_n 3, 1) := by decide +kernel
theorem dX7_count_135 : decode cX7_count 135 = .ok (.aload_n 0, 1) := by decide +kernel
theorem dX7_count_136 : decode cX7_count 136 = .ok (.getfield 19, 3) := by decide +kernel
theorem dX7_count_139 : decode cX7_count 139 = .ok (.invokestatic 128, 3) := by decide +kernel
theorem dX7_count_142 : decode cX7_count 142 = .ok (.if_icmp .ge 20, 3) := by decide +kernel
theorem dX7_count_145 : decode cX7_count 145 = .ok (.iload_n 2, 1) := by decide +kernel
theorem dX7_count_146 : decode cX7_count 146 = .ok (.aload_n 0, 1) := by decide +kernel
theorem dX7_count_147 : decode cX7_count 147 = .ok (.getfield 19, 3) := by decide +kernel
theorem dX7_count_150 : decode cX7_count 150 = .ok (.iload_n 3, 1) := by decide +kernel
theorem dX7_count_151 : decode cX7_count 151 = .ok (.invokestatic 192, 3) := by decide +kernel
theorem dX7_count_154 : decode cX7_count 154 = .ok (.iadd, 1) := by decide +kernel
theorem dX7_count_155 : decode cX7_count 155 = .ok (.istore_n 2, 1) := by decide +kernel
theorem dX7_count_156 : decode cX7_count 156 = .ok (.iinc 3 1, 3) := by decide +kernel
theorem dX7_count_159 : decode cX7_count 159 = .ok (.goto (-25), 3) := by decide +kernel
theorem dX7_count_162 : decode cX7_count 162 = .ok (.iload_n 2, 1) := by decide +kernel
theorem dX7_count_163 : decode cX7_count 163 = .ok (.ireturn, 1) := by decide +kernel
theorem dX7_count_164 : decode cX7_count 164 = .ok (.aload_n 0, 1) := by decide +kernel
theorem dX7_count_165 : decode cX7_count 165 = .ok (.getfield 165, 3) := by decide +kernel
theorem dX7_count_168 : decode cX7_count 168 = .ok (.ireturn, 1) := by decide +kernel
theorem dX7_count_169 : decode cX7_count 169 = .ok (.aload_n 0, 1) := by decide +kernel
theorem dX7_count_170 : decode cX7_count 170 = .ok (.getfield 83, 3) := by decide +kernel
theorem dX7_count_173 : decode cX7_count 173 = .ok (.ireturn, 1) := by decide +kernel
theorem dX7_count_174 : decode cX7_count 174 = .ok (.ldc 76, 2) := by decide +kernel
theorem dX7_count_176 : decode cX7_count 176 = .ok (.ireturn, 1) := by decide +kernel
theorem dX7_status_0 : decode cX7_status 0 = .ok (.aload_n 0, 1) := by decide +kernel
theorem dX7_status_1 : decode cX7_status 1 = .ok (.iconst 0, 1) := by decide +kernel
theorem dX7_status_2 : decode cX7_status 2 = .ok (.putfield 56, 3) := by decide +kernel
theorem dX7_status_5 : decode cX7_status 5 = .ok (.aload_n 0, 1) := by decide +kernel
theorem dX7_status_6 : decode cX7_status 6 = .ok (.getfield 60, 3) := by decide +kernel
theorem dX7_status_9 : decode cX7_status 9 = .ok (.ireturn, 1) := by decide +kernel
