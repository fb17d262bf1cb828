theorem dX6_init_0 : decode cX6_init 0 = .ok (.aload_n 0, 1) := by decide +kernel
theorem dX6_init_1 : decode cX6_init 1 = .ok (.invokespecial 3, 3) := by decide +kernel
theorem dX6_init_4 : decode cX6_init 4 = .ok (.aload_n 0, 1) := by decide +kernel
theorem dX6_init_5 : decode cX6_init 5 = .ok (.bipush 8, 2) := by decide +kernel
theorem dX6_init_7 : decode cX6_init 7 = .ok (.anewarray 9, 3) := by decide +kernel
theorem dX6_init_10 : decode cX6_init 10 = .ok (.putfield 11, 3) := by decide +kernel
theorem dX6_init_13 : decode cX6_init 13 = .ok (.aload_n 0, 1) := by decide +kernel
theorem dX6_init_14 : decode cX6_init 14 = .ok (.new 15, 3) := by decide +kernel
theorem dX6_init_17 : decode cX6_init 17 = .ok (.dup, 1) := by decide +kernel
theorem dX6_init_18 : decode cX6_init 18 = .ok (.invokespecial 17, 3) := by decide +kernel
theorem dX6_init_21 : decode cX6_init 21 = .ok (.putfield 18, 3) := by decide +kernel
theorem dX6_init_24 : decode cX6_init 24 = .ok (.aload_n 0, 1) := by decide +kernel
theorem dX6_init_25 : decode cX6_init 25 = .ok (.iconst 2, 1) := by decide +kernel
theorem dX6_init_26 : decode cX6_init 26 = .ok (.anewarray 22, 3) := by decide +kernel
theorem dX6_init_29 : decode cX6_init 29 = .ok (.putfield 24, 3) := by decide +kernel
theorem dX6_init_32 : decode cX6_init 32 = .ok (.aload_n 0, 1) := by decide +kernel
theorem dX6_init_33 : decode cX6_init 33 = .ok (.new 28, 3) := by decide +kernel
theorem dX6_init_36 : decode cX6_init 36 = .ok (.dup, 1) := by decide +kernel
theorem dX6_init_37 : decode cX6_init 37 = .ok (.invokespecial 30, 3) := by decide +kernel
theorem dX6_init_40 : decode cX6_init 40 = .ok (.putfield 31, 3) := by decide +kernel
theorem dX6_init_43 : decode cX6_init 43 = .ok (.aload_n 0, 1) := by decide +kernel
theorem dX6_init_44 : decode cX6_init 44 = .ok (.bipush 9, 2) := by decide +kernel
theorem dX6_init_46 : decode cX6_init 46 = .ok (.newarray .int, 2) := by decide +kernel
theorem dX6_init_48 : decode cX6_init 48 = .ok (.putfield 35, 3) := by decide +kernel
theorem dX6_init_51 : decode cX6_init 51 = .ok (.aload_n 0, 1) := by decide +kernel
theorem dX6_init_52 : decode cX6_init 52 = .ok (.bipush 16, 2) := by decide +kernel
theorem dX6_init_54 : decode cX6_init 54 = .ok (.newarray .int, 2) := by decide +kernel
theorem dX6_init_56 : decode cX6_init 56 = .ok (.putfield 39, 3) := by decide +kernel
theorem dX6_init_59 : decode cX6_init 59 = .ok (.new 42, 3) := by decide +kernel
theorem dX6_init_62 : decode cX6_init 62 = .ok (.dup, 1) := by decide +kernel
theorem dX6_init_63 : decode cX6_init 63 = .ok (.iconst 0, 1) := by decide +kernel
theorem dX6_init_64 : decode cX6_init 64 = .ok (.newarray .int, 2) := by decide +kernel
theorem dX6_init_66 : decode cX6_init 66 = .ok (.iconst 0, 1) := by decide +kernel
theorem dX6_init_67 : decode cX6_init 67 = .ok (.invokespecial 44, 3) := by decide +kernel
theorem dX6_init_70 : decode cX6_init 70 = .ok (.astore_n 1, 1) := by decide +kernel
theorem dX6_init_71 : decode cX6_init 71 = .ok (.iconst 0, 1) := by decide +kernel
theorem dX6_init_72 : decode cX6_init 72 = .ok (.istore_n 2, 1) := by decide +kernel
theorem dX6_init_73 : decode cX6_init 73 = .ok (.iload_n 2, 1) := by decide +kernel
theorem dX6_init_74 : decode cX6_init 74 = .ok (.bipush 8, 2) := by decide +kernel
theorem dX6_init_76 : decode cX6_init 76 = .ok (.if_icmp .ge 22, 3) := by decide +kernel
theorem dX6_init_79 : decode cX6_init 79 = .ok (.aload_n 0, 1) := by decide +kernel
theorem dX6_init_80 : decode cX6_init 80 = .ok (.getfield 11, 3) := by decide +kernel
theorem dX6_init_83 : decode cX6_init 83 = .ok (.iload_n 2, 1) := by decide +kernel
theorem dX6_init_84 : decode cX6_init 84 = .ok (.new 9, 3) := by decide +kernel
theorem dX6_init_87 : decode cX6_init 87 = .ok (.dup, 1) := by decide +kernel
theorem dX6_init_88 : decode cX6_init 88 = .ok (.invokespecial 47, 3) := by decide +kernel
theorem dX6_init_91 : decode cX6_init 91 = .ok (.aastore, 1) := by decide +kernel
theorem dX6_init_92 : decode cX6_init 92 = .ok (.iinc 2 1, 3) := by decide +kernel
theorem dX6_init_95 : decode cX6_init 95 = .ok (.goto (-22), 3) := by decide +kernel
theorem dX6_init_98 : decode cX6_init 98 = .ok (.aload_n 0, 1) := by decide +kernel
theorem dX6_init_99 : decode cX6_init 99 = .ok (.new 22, 3) := by decide +kernel
theorem dX6_init_102 : decode cX6_init 102 = .ok (.dup, 1) := by decide +kernel
theorem dX6_init_103 : decode cX6_init 103 = .ok (.aload_n 1, 1) := by decide +kernel
theorem dX6_init_104 : decode cX6_init 104 = .ok (.invokespecial 48, 3) := by decide +kernel
theorem dX6_init_107 : decode cX6_init 107 = .ok (.putfield 51, 3) := by decide +kernel
theorem dX6_init_110 : decode cX6_init 110 = .ok (.aload_n 0, 1) := by decide +kernel
theorem dX6_init_111 : decode cX6_init 111 = .ok (.new 22, 3) := by decide +kernel
theorem dX6_init_114 : decode cX6_init 114 = .ok (.dup, 1) := by decide +kernel
theorem dX6_init_115 : decode cX6_init 115 = .ok (.aload_n 1, 1) := by decide +kernel
theorem dX6_init_116 : decode cX6_init 116 = .ok (.invokespecial 48, 3) := by decide +kernel
theorem dX6_init_119 : decode cX6_init 119 = .ok (.putfield 55, 3) := by decide +kernel
theorem dX6_init_122 : decode cX6_init 122 = .ok (.iconst 0, 1) := by decide +kernel
theorem dX6_init_123 : decode cX6_init 123 = .ok (.istore_n 2, 1) := by decide +kernel
theorem dX6_init_124 : decode cX6_init 124 = .ok (.iload_n 2, 1) := by decide +kernel
theorem dX6_init_125 : decode cX6_init 125 = .ok (.iconst 2, 1) := by decide +kernel
theorem dX6_init_126 : decode cX6_init 126 = .ok (.if_icmp .ge 23, 3) := by decide +kernel
theorem dX6_init_129 : decode cX6_init 129 = .ok (.aload_n 0, 1) := by decide +kernel
theorem dX6_init_130 : decode cX6_init 130 = .ok (.getfield 24, 3) := by decide +kernel
theorem dX6_init_133 : decode cX6_init 133 = .ok (.iload_n 2, 1) := by decide +kernel
theorem dX6_init_134 : decode cX6_init 134 = .ok (.new 22, 3) := by decide +kernel
theorem dX6_init_137 : decode cX6_init 137 = .ok (.dup, 1) := by decide +kernel
theorem dX6_init_138 : decode cX6_init 138 = .ok (.aload_n 1, 1) := by decide +kernel
theorem dX6_init_139 : decode cX6_init 139 = .ok (.invokespecial 48, 3) := by decide +kernel
theorem dX6_init_142 : decode cX6_init 142 = .ok (.aastore, 1) := by decide +kernel
theorem dX6_init_143 : decode cX6_init 143 = .ok (.iinc 2 1, 3) := by decide +kernel
theorem dX6_init_146 : decode cX6_init 146 = .ok (.goto (-22), 3) := by decide +kernel
theorem dX6_init_149 : decode cX6_init 149 = .ok (.aload_n 0, 1) := by decide +kernel
theorem dX6_init_150 : decode cX6_init 150 = .ok (.new 58, 3) := by decide +kernel
theorem dX6_init_153 : decode cX6_init 153 = .ok (.dup, 1) := by decide +kernel
theorem dX6_init_154 : decode cX6_init 154 = .ok (.aload_n 1, 1) := by decide +kernel
theorem dX6_init_155 : decode cX6_init 155 = .ok (.invokespecial 60, 3) := by decide +kernel
theorem dX6_init_158 : decode cX6_init 158 = .ok (.putfield 61, 3) := by decide +kernel
theorem dX6_init_161 : decode cX6_init 161 = .ok (.return_, 1) := by decide +kernel
theorem dX6_row_0 : decode cX6_row 0 = .ok (.iload_n 1, 1) := by decide +kernel
theorem dX6_row_1 : decode cX6_row 1 = .ok (.invokestatic 65, 3) := by decide +kernel
theorem dX6_row_4 : decode cX6_row 4 = .ok (.ifCond .eq 18, 3) := by decide +kernel
theorem dX6_row_7 : decode cX6_row 7 = .ok (.iload_n 2, 1) := by decide +kernel
theorem dX6_row_8 : decode cX6_row 8 = .ok (.ifCond .lt 14, 3) := by decide +kernel
theorem dX6_row_11 : decode cX6_row 11 = .ok (.iload_n 2, 1) := by decide +kernel
theorem dX6_row_12 : decode cX6_row 12 = .ok (.iconst 3, 1) := by decide +kernel
theorem dX6_row_13 : decode cX6_row 13 = .ok (.if_icmp .ge 9, 3) := by decide +kernel
theorem dX6_row_16 : decode cX6_row 16 = .ok (.iload_n 3, 1) := by decide +kernel
theorem dX6_row_17 : decode cX6_row 17 = .ok (.bipush 40, 2) := by decide +kernel
theorem dX6_row_19 : decode cX6_row 19 = .ok (.if_icmp .le 6, 3) := by decide +kernel
theorem dX6_row_22 : decode cX6_row 22 = .ok (.ldc 69, 2) := by decide +kernel
theorem dX6_row_24 : decode cX6_row 24 = .ok (.ireturn, 1) := by decide +kernel
theorem dX6_row_25 : decode cX6_row 25 = .ok (.iload_n 3, 1) := by decide +kernel
theorem dX6_row_26 : decode cX6_row 26 = .ok (.ifCond .ge 9, 3) := by decide +kernel
theorem dX6_row_29 : decode cX6_row 29 = .ok (.aload_n 0, 1) := by decide +kernel
theorem dX6_row_30 : decode cX6_row 30 = .ok (.iconst 4, 1) := by decide +kernel
theorem dX6_row_31 : decode cX6_row 31 = .ok (.invokevirtual 70, 3) := by decide +kernel
theorem dX6_row_34 : decode cX6_row 34 = .ok (.ireturn, 1) := by decide +kernel
theorem dX6_row_35 : decode cX6_row 35 = .ok (.aload_n 0, 1) := by decide +kernel
theorem dX6_row_36 : decode cX6_row 36 = .ok (.iconst 0, 1) := by decide +kernel
theorem dX6_row_37 : decode cX6_row 37 = .ok (.putfield 74, 3) := by decide +kernel
theorem dX6_row_40 : decode cX6_row 40 = .ok (.aload_n 0, 1) := by decide +kernel
theorem dX6_row_41 : decode cX6_row 41 = .ok (.getfield 11, 3) := by decide +kernel
theorem dX6_row_44 : decode cX6_row 44 = .ok (.iload_n 1, 1) := by decide +kernel
theorem dX6_row_45 : decode cX6_row 45 = .ok (.aaload, 1) := by decide +kernel
theorem dX6_row_46 : decode cX6_row 46 = .ok (.iload_n 2, 1) := by decide +kernel
theorem dX6_row_47 : decode cX6_row 47 = .ok (.iload_n 3, 1) := by decide +kernel
theorem dX6_row_48 : decode cX6_row 48 = .ok (.invokevirtual 78, 3) := by decide +kernel
theorem dX6_row_51 : decode cX6_row 51 = .ok (.iload_n 3, 1) := by decide +kernel
theorem dX6_row_52 : decode cX6_row 52 = .ok (.ireturn, 1) := by decide +kernel
theorem dX6_set_0 : decode cX6_set 0 = .ok (.iload_n 1, 1) := by decide +kernel
theorem dX6_set_1 : decode cX6_set 1 = .ok (.invokestatic 65, 3) := by decide +kernel
theorem dX6_set_4 : decode cX6_set 4 = .ok (.ifCond .ne 6, 3) := by decide +kernel
theorem dX6_set_7 : decode cX6_set 7 = .ok (.ldc 69, 2) := by decide +kernel
theorem dX6_set_9 : decode cX6_set 9 = .ok (.ireturn, 1) := by decide +kernel
theorem dX6_set_10 : decode cX6_set 10 = .ok (.aload_n 0, 1) := by decide +kernel
theorem dX6_set_11 : decode cX6_set 11 = .ok (.getfield 11, 3) := by decide +kernel
theorem dX6_set_14 : decode cX6_set 14 = .ok (.iload_n 1, 1) := by decide +kernel
theorem dX6_set_15 : decode cX6_set 15 = .ok (.aaload, 1) := by decide +kernel
theorem dX6_set_16 : decode cX6_set 16 = .ok (.astore 4, 2) := by decide +kernel
theorem dX6_set_18 : decode cX6_set 18 = .ok (.aload 4, 2) := by decide +kernel
theorem dX6_set_20 : decode cX6_set 20 = .ok (.invokevirtual 82, 3) := by decide +kernel
theorem dX6_set_23 : decode cX6_set 23 = .ok (.ifCond .eq 9, 3) := by decide +kernel
theorem dX6_set_26 : decode cX6_set 26 = .ok (.aload_n 0, 1) := by decide +kernel
theorem dX6_set_27 : decode cX6_set 27 = .ok (.iconst 1, 1) := by decide +kernel
theorem dX6_set_28 : decode cX6_set 28 = .ok (.invokevirtual 70, 3) := by decide +kernel
theorem dX6_set_31 : decode cX6_set 31 = .ok (.ireturn, 1) := by decide +kernel
theorem dX6_set_32 : decode cX6_set 32 = .ok (.aload 4, 2) := by decide +kernel
theorem dX6_set_34 : decode cX6_set 34 = .ok (.iload_n 2, 1) := by decide +kernel
theorem dX6_set_35 : decode cX6_set 35 = .ok (.iconst 1, 1) := by decide +kernel
theorem dX6_set_36 : decode cX6_set 36 = .ok (.invokevirtual 86, 3) := by decide +kernel
theorem dX6_set_39 : decode cX6_set 39 = .ok (.ifCond .ne 9, 3) := by decide +kernel
theorem dX6_set_42 : decode cX6_set 42 = .ok (.aload_n 0, 1) := by decide +kernel
theorem dX6_set_43 : decode cX6_set 43 = .ok (.iconst 2, 1) := by decide +kernel
theorem dX6_set_44 : decode cX6_set 44 = .ok (.invokevirtual 70, 3) := by decide +kernel
theorem dX6_set_47 : decode cX6_set 47 = .ok (.ireturn, 1) := by decide +kernel
theorem dX6_set_48 : decode cX6_set 48 = .ok (.aload_n 0, 1) := by decide +kernel
theorem dX6_set_49 : decode cX6_set 49 = .ok (.iconst 0, 1) := by decide +kernel
theorem dX6_set_50 : decode cX6_set 50 = .ok (.putfield 74, 3) := by decide +kernel
theorem dX6_set_53 : decode cX6_set 53 = .ok (.aload 4, 2) := by decide +kernel
theorem dX6_set_55 : decode cX6_set 55 = .ok (.getfield 90, 3) := by decide +kernel
theorem dX6_set_58 : decode cX6_set 58 = .ok (.iload_n 2, 1) := by decide +kernel
theorem dX6_set_59 : decode cX6_set 59 = .ok (.aload 4, 2) := by decide +kernel
theorem dX6_set_61 : decode cX6_set 61 = .ok (.iload_n 3, 1) := by decide +kernel
theorem dX6_set_62 : decode cX6_set 62 = .ok (.invokevirtual 93, 3) := by decide +kernel
theorem dX6_set_65 : decode cX6_set 65 = .ok (.iastore, 1) := by decide +kernel
theorem dX6_set_66 : decode cX6_set 66 = .ok (.aload 4, 2) := by decide +kernel
theorem dX6_set_68 : decode cX6_set 68 = .ok (.getfield 90, 3) := by decide +kernel
theorem dX6_set_71 : decode cX6_set 71 = .ok (.iload_n 2, 1) := by decide +kernel
theorem dX6_set_72 : decode cX6_set 72 = .ok (.iaload, 1) := by decide +kernel
theorem dX6_set_73 : decode cX6_set 73 = .ok (.ireturn, 1) := by decide +kernel
theorem dX6_copy_0 : decode cX6_copy 0 = .ok (.iload_n 1, 1) := by decide +kernel
theorem dX6_copy_1 : decode cX6_copy 1 = .ok (.invokestatic 65, 3) := by decide +kernel
theorem dX6_copy_4 : decode cX6_copy 4 = .ok (.ifCond .eq 10, 3) := by decide +kernel
theorem dX6_copy_7 : decode cX6_copy 7 = .ok (.iload_n 3, 1) := by decide +kernel
theorem dX6_copy_8 : decode cX6_copy 8 = .ok (.invokestatic 65, 3) := by decide +kernel
theorem dX6_copy_11 : decode cX6_copy 11 = .ok (.ifCond .ne 6, 3) := by decide +kernel
theorem dX6_copy_14 : decode cX6_copy 14 = .ok (.ldc 69, 2) := by decide +kernel
theorem dX6_copy_16 : decode cX6_copy 16 = .ok (.ireturn, 1) := by decide +kernel
theorem dX6_copy_17 : decode cX6_copy 17 = .ok (.aload_n 0, 1) := by decide +kernel
theorem dX6_copy_18 : decode cX6_copy 18 = .ok (.getfield 11, 3) := by decide +kernel
theorem dX6_copy_21 : decode cX6_copy 21 = .ok (.iload_n 1, 1) := by decide +kernel
theorem dX6_copy_22 : decode cX6_copy 22 = .ok (.aaload, 1) := by decide +kernel
theorem dX6_copy_23 : decode cX6_copy 23 = .ok (.astore 6, 2) := by decide +kernel
theorem dX6_copy_25 : decode cX6_copy 25 = .ok (.aload_n 0, 1) := by decide +kernel
theorem dX6_copy_26 : decode cX6_copy 26 = .ok (.getfield 11, 3) := by decide +kernel
theorem dX6_copy_29 : decode cX6_copy 29 = .ok (.iload_n 3, 1) := by decide +kernel
theorem dX6_copy_30 : decode cX6_copy 30 = .ok (.aaload, 1) := by decide +kernel
theorem dX6_copy_31 : decode cX6_copy 31 = .ok (.astore 7, 2) := by decide +kernel
theorem dX6_copy_33 : decode cX6_copy 33 = .ok (.aload 6, 2) := by decide +kernel
theorem dX6_copy_35 : decode cX6_copy 35 = .ok (.invokevirtual 82, 3) := by decide +kernel
theorem dX6_copy_38 : decode cX6_copy 38 = .ok (.ifCond .ne 11, 3) := by decide +kernel
theorem dX6_copy_41 : decode cX6_copy 41 = .ok (.aload 7, 2) := by decide +kernel
theorem dX6_copy_43 : decode cX6_copy 43 = .ok (.invokevirtual 82, 3) := by decide +kernel
theorem dX6_copy_46 : decode cX6_copy 46 = .ok (.ifCond .eq 9, 3) := by decide +kernel
theorem dX6_copy_49 : decode cX6_copy 49 = .ok (.aload_n 0, 1) := by decide +kernel
theorem dX6_copy_50 : decode cX6_copy 50 = .ok (.iconst 1, 1) := by decide +kernel
theorem dX6_copy_51 : decode cX6_copy 51 = .ok (.invokevirtual 70, 3) := by decide +kernel
theorem dX6_copy_54 : decode cX6_copy 54 = .ok (.ireturn, 1) := by decide +kernel
theorem dX6_copy_55 : decode cX6_copy 55 = .ok (.aload 6, 2) := by decide +kernel
theorem dX6_copy_57 : decode cX6_copy 57 = .ok (.getfield 96, 3) := by decide +kernel
theorem dX6_copy_60 : decode cX6_copy 60 = .ok (.aload 7, 2) := by decide +kernel
theorem dX6_copy_62 : decode cX6_copy 62 = .ok (.getfield 96, 3) := by decide +kernel
theorem dX6_copy_65 : decode cX6_copy 65 = .ok (.if_icmp .eq 9, 3) := by decide +kernel
theorem dX6_copy_68 : decode cX6_copy 68 = .ok (.aload_n 0, 1) := by decide +kernel
theorem dX6_copy_69 : decode cX6_copy 69 = .ok (.iconst 5, 1) := by decide +kernel
theorem dX6_copy_70 : decode cX6_copy 70 = .ok (.invokevirtual 70, 3) := by decide +kernel
theorem dX6_copy_73 : decode cX6_copy 73 = .ok (.ireturn, 1) := by decide +kernel
theorem dX6_copy_74 : decode cX6_copy 74 = .ok (.aload 6, 2) := by decide +kernel
theorem dX6_copy_76 : decode cX6_copy 76 = .ok (.iload_n 2, 1) := by decide +kernel
theorem dX6_copy_77 : decode cX6_copy 77 = .ok (.iload 5, 2) := by decide +kernel
theorem dX6_copy_79 : decode cX6_copy 79 = .ok (.invokevirtual 86, 3) := by decide +kernel
theorem dX6_copy_82 : decode cX6_copy 82 = .ok (.ifCond .eq 15, 3) := by decide +kernel
theorem dX6_copy_85 : decode cX6_copy 85 = .ok (.aload 7, 2) := by decide +kernel
theorem dX6_copy_87 : decode cX6_copy 87 = .ok (.iload 4, 2) := by decide +kernel
theorem dX6_copy_89 : decode cX6_copy 89 = .ok (.iload 5, 2) := by decide +kernel
theorem dX6_copy_91 : decode cX6_copy 91 = .ok (.invokevirtual 86, 3) := by decide +kernel
theorem dX6_copy_94 : decode cX6_copy 94 = .ok (.ifCond .ne 9, 3) := by decide +kernel
theorem dX6_copy_97 : decode cX6_copy 97 = .ok (.aload_n 0, 1) := by decide +kernel
theorem dX6_copy_98 : decode cX6_copy 98 = .ok (.iconst 2, 1) := by decide +kernel
theorem dX6_copy_99 : decode cX6_copy 99 = .ok (.invokevirtual 70, 3) := by decide +kernel
theorem dX6_copy_102 : decode cX6_copy 102 = .ok (.ireturn, 1) := by decide +kernel
theorem dX6_copy_103 : decode cX6_copy 103 = .ok (.aload_n 0, 1) := by decide +kernel
theorem dX6_copy_104 : decode cX6_copy 104 = .ok (.iconst 0, 1) := by decide +kernel
theorem dX6_copy_105 : decode cX6_copy 105 = .ok (.putfield 74, 3) := by decide +kernel
theorem dX6_copy_108 : decode cX6_copy 108 = .ok (.aload 6, 2) := by decide +kernel
theorem dX6_copy_110 : decode cX6_copy 110 = .ok (.getfield 90, 3) := by decide +kernel
theorem dX6_copy_113 : decode cX6_copy 113 = .ok (.iload_n 2, 1) := by decide +kernel
theorem dX6_copy_114 : decode cX6_copy 114 = .ok (.aload 7, 2) := by decide +kernel
theorem dX6_copy_116 : decode cX6_copy 116 = .ok (.getfield 90, 3) := by decide +kernel
theorem dX6_copy_119 : decode cX6_copy 119 = .ok (.iload 4, 2) := by decide +kernel
theorem dX6_copy_121 : decode cX6_copy 121 = .ok (.iload 5, 2) := by decide +kernel
theorem dX6_copy_123 : decode cX6_copy 123 = .ok (.invokestatic 99, 3) := by decide +kernel
theorem dX6_copy_126 : decode cX6_copy 126 = .ok (.iload 5, 2) := by decide +kernel
theorem dX6_copy_128 : decode cX6_copy 128 = .ok (.ireturn, 1) := by decide +kernel
theorem dX6_drop_0 : decode cX6_drop 0 = .ok (.iload_n 1, 1) := by decide +kernel
theorem dX6_drop_1 : decode cX6_drop 1 = .ok (.invokestatic 65, 3) := by decide +kernel
theorem dX6_drop_4 : decode cX6_drop 4 = .ok (.ifCond .ne 6, 3) := by decide +kernel
theorem dX6_drop_7 : decode cX6_drop 7 = .ok (.ldc 69, 2) := by decide +kernel
theorem dX6_drop_9 : decode cX6_drop 9 = .ok (.ireturn, 1) := by decide +kernel
theorem dX6_drop_10 : decode cX6_drop 10 = .ok (.aload_n 0, 1) := by decide +kernel
theorem dX6_drop_11 : decode cX6_drop 11 = .ok (.getfield 11, 3) := by decide +kernel
theorem dX6_drop_14 : decode cX6_drop 14 = .ok (.iload_n 1, 1) := by decide +kernel
theorem dX6_drop_15 : decode cX6_drop 15 = .ok (.aaload, 1) := by decide +kernel
theorem dX6_drop_16 : decode cX6_drop 16 = .ok (.astore_n 2, 1) := by decide +kernel
theorem dX6_drop_17 : decode cX6_drop 17 = .ok (.aload_n 2, 1) := by decide +kernel
theorem dX6_drop_18 : decode cX6_drop 18 = .ok (.invokevirtual 82, 3) := by decide +kernel
theorem dX6_drop_21 : decode cX6_drop 21 = .ok (.ifCond .eq 9, 3) := by decide +kernel
theorem dX6_drop_24 : decode cX6_drop 24 = .ok (.aload_n 0, 1) := by decide +kernel
theorem dX6_drop_25 : decode cX6_drop 25 = .ok (.iconst 1, 1) := by decide +kernel
theorem dX6_drop_26 : decode cX6_drop 26 = .ok (.invokevirtual 70, 3) := by decide +kernel
theorem dX6_drop_29 : decode cX6_drop 29 = .ok (.ireturn, 1) := by decide +kernel
theorem dX6_drop_30 : decode cX6_drop 30 = .ok (.aload_n 0, 1) := by decide +kernel
theorem dX6_drop_31 : decode cX6_drop 31 = .ok (.iconst 0, 1) := by decide +kernel
theorem dX6_drop_32 : decode cX6_drop 32 = .ok (.putfield 74, 3) := by decide +kernel
theorem dX6_drop_35 : decode cX6_drop 35 = .ok (.aload_n 2, 1) := by decide +kernel
theorem dX6_drop_36 : decode cX6_drop 36 = .ok (.iconst (-1), 1) := by decide +kernel
theorem dX6_drop_37 : decode cX6_drop 37 = .ok (.putfield 96, 3) := by decide +kernel
theorem dX6_drop_40 : decode cX6_drop 40 = .ok (.aload_n 2, 1) := by decide +kernel
theorem dX6_drop_41 : decode cX6_drop 41 = .ok (.getfield 105, 3) := by decide +kernel
theorem dX6_drop_44 : decode cX6_drop 44 = .ok (.ireturn, 1) := by decide +kernel
theorem dX6_feed_0 : decode cX6_feed 0 = .ok (.iload_n 1, 1) := by decide +kernel
theorem dX6_feed_1 : decode cX6_feed 1 = .ok (.ifCond .lt 10, 3) := by decide +kernel
theorem dX6_feed_4 : decode cX6_feed 4 = .ok (.iload_n 1, 1) := by decide +kernel
theorem dX6_feed_5 : decode cX6_feed 5 = .ok (.sipush 255, 3) := by decide +kernel
theorem dX6_feed_8 : decode cX6_feed 8 = .ok (.if_icmp .le 6, 3) := by decide +kernel
theorem dX6_feed_11 : decode cX6_feed 11 = .ok (.ldc 69, 2) := by decide +kernel
theorem dX6_feed_13 : decode cX6_feed 13 = .ok (.ireturn, 1) := by decide +kernel
theorem dX6_feed_14 : decode cX6_feed 14 = .ok (.aload_n 0, 1) := by decide +kernel
theorem dX6_feed_15 : decode cX6_feed 15 = .ok (.getfield 18, 3) := by decide +kernel
theorem dX6_feed_18 : decode cX6_feed 18 = .ok (.getfield 108, 3) := by decide +kernel
theorem dX6_feed_21 : decode cX6_feed 21 = .ok (.sipush 130, 3) := by decide +kernel
theorem dX6_feed_24 : decode cX6_feed 24 = .ok (.if_icmp .lt 6, 3) := by decide +kernel
theorem dX6_feed_27 : decode cX6_feed 27 = .ok (.ldc 111, 2) := by decide +kernel
theorem dX6_feed_29 : decode cX6_feed 29 = .ok (.ireturn, 1) := by decide +kernel
theorem dX6_feed_30 : decode cX6_feed 30 = .ok (.aload_n 0, 1) := by decide +kernel
theorem dX6_feed_31 : decode cX6_feed 31 = .ok (.getfield 18, 3) := by decide +kernel
theorem dX6_feed_34 : decode cX6_feed 34 = .ok (.getfield 112, 3) := by decide +kernel
theorem dX6_feed_37 : decode cX6_feed 37 = .ok (.aload_n 0, 1) := by decide +kernel
theorem dX6_feed_38 : decode cX6_feed 38 = .ok (.getfield 18, 3) := by decide +kernel
theorem dX6_feed_41 : decode cX6_feed 41 = .ok (.getfield 108, 3) := by decide +kernel
theorem dX6_feed_44 : decode cX6_feed 44 = .ok (.iload_n 1, 1) := by decide +kernel
theorem dX6_feed_45 : decode cX6_feed 45 = .ok (.iastore, 1) := by decide +kernel
theorem dX6_feed_46 : decode cX6_feed 46 = .ok (.aload_n 0, 1) := by decide +kernel
theorem dX6_feed_47 : decode cX6_feed 47 = .ok (.getfield 18, 3) := by decide +kernel
theorem dX6_feed_50 : decode cX6_feed 50 = .ok (.dup, 1) := by decide +kernel
theorem dX6_feed_51 : decode cX6_feed 51 = .ok (.getfield 108, 3) := by decide +kernel
theorem dX6_feed_54 : decode cX6_feed 54 = .ok (.iconst 1, 1) := by decide +kernel
theorem dX6_feed_55 : decode cX6_feed 55 = .ok (.iadd, 1) := by decide +kernel
theorem dX6_feed_56 : decode cX6_feed 56 = .ok (.putfield 108, 3) := by decide +kernel
theorem dX6_feed_59 : decode cX6_feed 59 = .ok (.aload_n 0, 1) := by decide +kernel
theorem dX6_feed_60 : decode cX6_feed 60 = .ok (.getfield 18, 3) := by decide +kernel
theorem dX6_feed_63 : decode cX6_feed 63 = .ok (.getfield 108, 3) := by decide +kernel
theorem dX6_feed_66 : decode cX6_feed 66 = .ok (.ireturn, 1) := by decide +kernel
theorem dX6_poem_0 : decode cX6_poem 0 = .ok (.aload_n 0, 1) := by decide +kernel
theorem dX6_poem_1 : decode cX6_poem 1 = .ok (.getfield 18, 3) := by decide +kernel
theorem dX6_poem_4 : decode cX6_poem 4 = .ok (.aload_n 0, 1) := by decide +kernel
theorem dX6_poem_5 : decode cX6_poem 5 = .ok (.getfield 55, 3) := by decide +kernel
theorem dX6_poem_8 : decode cX6_poem 8 = .ok (.invokevirtual 115, 3) := by decide +kernel
theorem dX6_poem_11 : decode cX6_poem 11 = .ok (.aload_n 0, 1) := by decide +kernel
theorem dX6_poem_12 : decode cX6_poem 12 = .ok (.getfield 18, 3) := by decide +kernel
theorem dX6_poem_15 : decode cX6_poem 15 = .ok (.iconst 0, 1) := by decide +kernel
theorem dX6_poem_16 : decode cX6_poem 16 = .ok (.putfield 108, 3) := by decide +kernel
theorem dX6_poem_19 : decode cX6_poem 19 = .ok (.aload_n 0, 1) := by decide +kernel
theorem dX6_poem_20 : decode cX6_poem 20 = .ok (.getfield 18, 3) := by decide +kernel
theorem dX6_poem_23 : decode cX6_poem 23 = .ok (.getfield 119, 3) := by decide +kernel
theorem dX6_poem_26 : decode cX6_poem 26 = .ok (.ifCond .eq 25, 3) := by decide +kernel
theorem dX6_poem_29 : decode cX6_poem 29 = .ok (.aload_n 0, 1) := by decide +kernel
theorem dX6_poem_30 : decode cX6_poem 30 = .ok (.aload_n 0, 1) := by decide +kernel
theorem dX6_poem_31 : decode cX6_poem 31 = .ok (.getfield 18, 3) := by decide +kernel
theorem dX6_poem_34 : decode cX6_poem 34 = .ok (.getfield 119, 3) := by decide +kernel
theorem dX6_poem_37 : decode cX6_poem 37 = .ok (.putfield 122, 3) := by decide +kernel
theorem dX6_poem_40 : decode cX6_poem 40 = .ok (.ldc 125, 2) := by decide +kernel
theorem dX6_poem_42 : decode cX6_poem 42 = .ok (.aload_n 0, 1) := by decide +kernel
theorem dX6_poem_43 : decode cX6_poem 43 = .ok (.getfield 18, 3) := by decide +kernel
theorem dX6_poem_46 : decode cX6_poem 46 = .ok (.getfield 126, 3) := by decide +kernel
theorem dX6_poem_49 : decode cX6_poem 49 = .ok (.isub, 1) := by decide +kernel
theorem dX6_poem_50 : decode cX6_poem 50 = .ok (.ireturn, 1) := by decide +kernel
theorem dX6_poem_51 : decode cX6_poem 51 = .ok (.aload_n 0, 1) := by decide +kernel
theorem dX6_poem_52 : decode cX6_poem 52 = .ok (.getfield 51, 3) := by decide +kernel
theorem dX6_poem_55 : decode cX6_poem 55 = .ok (.aload_n 0, 1) := by decide +kernel
theorem dX6_poem_56 : decode cX6_poem 56 = .ok (.getfield 55, 3) := by decide +kernel
theorem dX6_poem_59 : decode cX6_poem 59 = .ok (.invokevirtual 129, 3) := by decide +kernel
theorem dX6_poem_62 : decode cX6_poem 62 = .ok (.aload_n 0, 1) := by decide +kernel
theorem dX6_poem_63 : decode cX6_poem 63 = .ok (.getfield 61, 3) := by decide +kernel
theorem dX6_poem_66 : decode cX6_poem 66 = .ok (.iconst 0, 1) := by decide +kernel
theorem dX6_poem_67 : decode cX6_poem 67 = .ok (.putfield 132, 3) := by decide +kernel
theorem dX6_poem_70 : decode cX6_poem 70 = .ok (.aload_n 0, 1) := by decide +kernel
theorem dX6_poem_71 : decode cX6_poem 71 = .ok (.getfield 51, 3) := by decide +kernel
theorem dX6_poem_74 : decode cX6_poem 74 = .ok (.getfield 135, 3) := by decide +kernel
theorem dX6_poem_77 : decode cX6_poem 77 = .ok (.ireturn, 1) := by decide +kernel
theorem dX6_fault_0 : decode cX6_fault 0 = .ok (.aload_n 0, 1) := by decide +kernel
theorem dX6_fault_1 : decode cX6_fault 1 = .ok (.getfield 122, 3) := by decide +kernel
theorem dX6_fault_4 : decode cX6_fault 4 = .ok (.ireturn, 1) := by decide +kernel
theorem dX6_undo_0 : decode cX6_undo 0 = .ok (.aload_n 0, 1) := by decide +kernel
theorem dX6_undo_1 : decode cX6_undo 1 = .ok (.getfield 61, 3) := by decide +kernel
theorem dX6_undo_4 : decode cX6_undo 4 = .ok (.getfield 132, 3) := by decide +kernel
theorem dX6_undo_7 : decode cX6_undo 7 = .ok (.ifCond .gt 6, 3) := by decide +kernel
theorem dX6_undo_10 : decode cX6_undo 10 = .ok (.ldc 138, 2) := by decide +kernel
theorem dX6_undo_12 : decode cX6_undo 12 = .ok (.ireturn, 1) := by decide +kernel
theorem dX6_undo_13 : decode cX6_undo 13 = .ok (.aload_n 0, 1) := by decide +kernel
theorem dX6_undo_14 : decode cX6_undo 14 = .ok (.getfield 61, 3) := by decide +kernel
theorem dX6_undo_17 : decode cX6_undo 17 = .ok (.aload_n 0, 1) := by decide +kernel
theorem dX6_undo_18 : decode cX6_undo 18 = .ok (.getfield 51, 3) := by decide +kernel
theorem dX6_undo_21 : decode cX6_undo 21 = .ok (.invokevirtual 139, 3) := by decide +kernel
theorem dX6_undo_24 : decode cX6_undo 24 = .ok (.aload_n 0, 1) := by decide +kernel
theorem dX6_undo_25 : decode cX6_undo 25 = .ok (.getfield 61, 3) := by decide +kernel
theorem dX6_undo_28 : decode cX6_undo 28 = .ok (.getfield 132, 3) := by decide +kernel
theorem dX6_undo_31 : decode cX6_undo 31 = .ok (.ireturn, 1) := by decide +kernel
theorem dX6_become_0 : decode cX6_become 0 = .ok (.aload_n 0, 1) := by decide +kernel
theorem dX6_become_1 : decode cX6_become 1 = .ok (.getfield 51, 3) := by decide +kernel
theorem dX6_become_4 : decode cX6_become 4 = .ok (.iload_n 1, 1) := by decide +kernel
theorem dX6_become_5 : decode cX6_become 5 = .ok (.invokevirtual 142, 3) := by decide +kernel
theorem dX6_become_8 : decode cX6_become 8 = .ok (.ifCond .eq 10, 3) := by decide +kernel
theorem dX6_become_11 : decode cX6_become 11 = .ok (.iload_n 2, 1) := by decide +kernel
theorem dX6_become_12 : decode cX6_become 12 = .ok (.invokestatic 145, 3) := by decide +kernel
theorem dX6_become_15 : decode cX6_become 15 = .ok (.ifCond .ne 6, 3) := by decide +kernel
theorem dX6_become_18 : decode cX6_become 18 = .ok (.ldc 69, 2) := by decide +kernel
theorem dX6_become_20 : decode cX6_become 20 = .ok (.ireturn, 1) := by decide +kernel
theorem dX6_become_21 : decode cX6_become 21 = .ok (.aload_n 0, 1) := by decide +kernel
theorem dX6_become_22 : decode cX6_become 22 = .ok (.getfield 51, 3) := by decide +kernel
theorem dX6_become_25 : decode cX6_become 25 = .ok (.getfield 148, 3) := by decide +kernel
theorem dX6_become_28 : decode cX6_become 28 = .ok (.iload_n 1, 1) := by decide +kernel
theorem dX6_become_29 : decode cX6_become 29 = .ok (.iaload, 1) := by decide +kernel
theorem dX6_become_30 : decode cX6_become 30 = .ok (.istore_n 3, 1) := by decide +kernel
theorem dX6_become_31 : decode cX6_become 31 = .ok (.iload_n 3, 1) := by decide +kernel
theorem dX6_become_32 : decode cX6_become 32 = .ok (.iload_n 2, 1) := by decide +kernel
theorem dX6_become_33 : decode cX6_become 33 = .ok (.if_icmp .ne 6, 3) := by decide +kernel
theorem dX6_become_36 : decode cX6_become 36 = .ok (.ldc 138, 2) := by decide +kernel
theorem dX6_become_38 : decode cX6_become 38 = .ok (.ireturn, 1) := by decide +kernel
theorem dX6_become_39 : decode cX6_become 39 = .ok (.aload_n 0, 1) := by decide +kernel
theorem dX6_become_40 : decode cX6_become 40 = .ok (.getfield 61, 3) := by decide +kernel
theorem dX6_become_43 : decode cX6_become 43 = .ok (.iconst 0, 1) := by decide +kernel
theorem dX6_become_44 : decode cX6_become 44 = .ok (.iload_n 1, 1) := by decide +kernel
theorem dX6_become_45 : decode cX6_become 45 = .ok (.iload_n 3, 1) := by decide +kernel
theorem dX6_become_46 : decode cX6_become 46 = .ok (.invokevirtual 151, 3) := by decide +kernel
theorem dX6_become_49 : decode cX6_become 49 = .ok (.aload_n 0, 1) := by decide +kernel
theorem dX6_become_50 : decode cX6_become 50 = .ok (.getfield 51, 3) := by decide +kernel
theorem dX6_become_53 : decode cX6_become 53 = .ok (.getfield 148, 3) := by decide +kernel
theorem dX6_become_56 : decode cX6_become 56 = .ok (.iload_n 1, 1) := by decide +kernel
theorem dX6_become_57 : decode cX6_become 57 = .ok (.iload_n 2, 1) := by decide +kernel
theorem dX6_become_58 : decode cX6_become 58 = .ok (.iastore, 1) := by decide +kernel
theorem dX6_become_59 : decode cX6_become 59 = .ok (.iload_n 3, 1) := by decide +kernel
theorem dX6_become_60 : decode cX6_become 60 = .ok (.ireturn, 1) := by decide +kernel
theorem dX6_put_0 : decode cX6_put 0 = .ok (.aload_n 0, 1) := by decide +kernel
theorem dX6_put_1 : decode cX6_put 1 = .ok (.getfield 51, 3) := by decide +kernel
theorem dX6_put_4 : decode cX6_put 4 = .ok (.iload_n 1, 1) := by decide +kernel
theorem dX6_put_5 : decode cX6_put 5 = .ok (.invokevirtual 155, 3) := by decide +kernel
theorem dX6_put_8 : decode cX6_put 8 = .ok (.ifCond .eq 20, 3) := by decide +kernel
theorem dX6_put_11 : decode cX6_put 11 = .ok (.iload_n 2, 1) := by decide +kernel
theorem dX6_put_12 : decode cX6_put 12 = .ok (.ifCond .lt 16, 3) := by decide +kernel
theorem dX6_put_15 : decode cX6_put 15 = .ok (.iload_n 2, 1) := by decide +kernel
theorem dX6_put_16 : decode cX6_put 16 = .ok (.aload_n 0, 1) := by decide +kernel
theorem dX6_put_17 : decode cX6_put 17 = .ok (.getfield 51, 3) := by decide +kernel
theorem dX6_put_20 : decode cX6_put 20 = .ok (.getfield 158, 3) := by decide +kernel
theorem dX6_put_23 : decode cX6_put 23 = .ok (.iload_n 1, 1) := by decide +kernel
theorem dX6_put_24 : decode cX6_put 24 = .ok (.iaload, 1) := by decide +kernel
theorem dX6_put_25 : decode cX6_put 25 = .ok (.if_icmp .le 6, 3) := by decide +kernel
theorem dX6_put_28 : decode cX6_put 28 = .ok (.ldc 69, 2) := by decide +kernel
theorem dX6_put_30 : decode cX6_put 30 = .ok (.ireturn, 1) := by decide +kernel
theorem dX6_put_31 : decode cX6_put 31 = .ok (.iload_n 3, 1) := by decide +kernel
theorem dX6_put_32 : decode cX6_put 32 = .ok (.invokestatic 145, 3) := by decide +kernel
theorem dX6_put_35 : decode cX6_put 35 = .ok (.ifCond .eq 24, 3) := by decide +kernel
theorem dX6_put_38 : decode cX6_put 38 = .ok (.iload 4, 2) := by decide +kernel
theorem dX6_put_40 : decode cX6_put 40 = .ok (.invokestatic 65, 3) := by decide +kernel
theorem dX6_put_43 : decode cX6_put 43 = .ok (.ifCond .eq 16, 3) := by decide +kernel
theorem dX6_put_46 : decode cX6_put 46 = .ok (.iload 5, 2) := by decide +kernel
theorem dX6_put_48 : decode cX6_put 48 = .ok (.iconst 1, 1) := by decide +kernel
theorem dX6_put_49 : decode cX6_put 49 = .ok (.if_icmp .lt 10, 3) := by decide +kernel
theorem dX6_put_52 : decode cX6_put 52 = .ok (.iload 5, 2) := by decide +kernel
theorem dX6_put_54 : decode cX6_put 54 = .ok (.bipush 8, 2) := by decide +kernel
theorem dX6_put_56 : decode cX6_put 56 = .ok (.if_icmp .le 6, 3) := by decide +kernel
theorem dX6_put_59 : decode cX6_put 59 = .ok (.ldc 69, 2) := by decide +kernel
theorem dX6_put_61 : decode cX6_put 61 = .ok (.ireturn, 1) := by decide +kernel
theorem dX6_put_62 : decode cX6_put 62 = .ok (.aload_n 0, 1) := by decide +kernel
theorem dX6_put_63 : decode cX6_put 63 = .ok (.getfield 51, 3) := by decide +kernel
theorem dX6_put_66 : decode cX6_put 66 = .ok (.getfield 158, 3) := by decide +kernel
theorem dX6_put_69 : decode cX6_put 69 = .ok (.iload_n 1, 1) := by decide +kernel
theorem dX6_put_70 : decode cX6_put 70 = .ok (.iaload, 1) := by decide +kernel
theorem dX6_put_71 : decode cX6_put 71 = .ok (.iconst 5, 1) := by decide +kernel
theorem dX6_put_72 : decode cX6_put 72 = .ok (.if_icmp .lt 6, 3) := by decide +kernel
theorem dX6_put_75 : decode cX6_put 75 = .ok (.ldc 111, 2) := by decide +kernel
theorem dX6_put_77 : decode cX6_put 77 = .ok (.ireturn, 1) := by decide +kernel
theorem dX6_put_78 : decode cX6_put 78 = .ok (.aload_n 0, 1) := by decide +kernel
theorem dX6_put_79 : decode cX6_put 79 = .ok (.getfield 11, 3) := by decide +kernel
theorem dX6_put_82 : decode cX6_put 82 = .ok (.iload 4, 2) := by decide +kernel
theorem dX6_put_84 : decode cX6_put 84 = .ok (.aaload, 1) := by decide +kernel
theorem dX6_put_85 : decode cX6_put 85 = .ok (.astore 6, 2) := by decide +kernel
theorem dX6_put_87 : decode cX6_put 87 = .ok (.aload 6, 2) := by decide +kernel
theorem dX6_put_89 : decode cX6_put 89 = .ok (.invokevirtual 82, 3) := by decide +kernel
theorem dX6_put_92 : decode cX6_put 92 = .ok (.ifCond .eq 9, 3) := by decide +kernel
theorem dX6_put_95 : decode cX6_put 95 = .ok (.aload_n 0, 1) := by decide +kernel
theorem dX6_put_96 : decode cX6_put 96 = .ok (.iconst 1, 1) := by decide +kernel
theorem dX6_put_97 : decode cX6_put 97 = .ok (.invokevirtual 70, 3) := by decide +kernel
theorem dX6_put_100 : decode cX6_put 100 = .ok (.ireturn, 1) := by decide +kernel
theorem dX6_put_101 : decode cX6_put 101 = .ok (.aload 6, 2) := by decide +kernel
theorem dX6_put_103 : decode cX6_put 103 = .ok (.iconst 0, 1) := by decide +kernel
theorem dX6_put_104 : decode cX6_put 104 = .ok (.iload 5, 2) := by decide +kernel
theorem dX6_put_106 : decode cX6_put 106 = .ok (.invokevirtual 86, 3) := by decide +kernel
theorem dX6_put_109 : decode cX6_put 109 = .ok (.ifCond .eq 16, 3) := by decide +kernel
theorem dX6_put_112 : decode cX6_put 112 = .ok (.aload 6, 2) := by decide +kernel
theorem dX6_put_114 : decode cX6_put 114 = .ok (.getfield 90, 3) := by decide +kernel
theorem dX6_put_117 : decode cX6_put 117 = .ok (.iload 5, 2) := by decide +kernel
theorem dX6_put_119 : decode cX6_put 119 = .ok (.invokestatic 161, 3) := by decide +kernel
theorem dX6_put_122 : decode cX6_put 122 = .ok (.ifCond .ne 9, 3) := by decide +kernel
theorem dX6_put_125 : decode cX6_put 125 = .ok (.aload_n 0, 1) := by decide +kernel
theorem dX6_put_126 : decode cX6_put 126 = .ok (.iconst 2, 1) := by decide +kernel
theorem dX6_put_127 : decode cX6_put 127 = .ok (.invokevirtual 70, 3) := by decide +kernel
theorem dX6_put_130 : decode cX6_put 130 = .ok (.ireturn, 1) := by decide +kernel
theorem dX6_put_131 : decode cX6_put 131 = .ok (.aload 6, 2) := by decide +kernel
theorem dX6_put_133 : decode cX6_put 133 = .ok (.getfield 90, 3) := by decide +kernel
theorem dX6_put_136 : decode cX6_put 136 = .ok (.iload 5, 2) := by decide +kernel
theorem dX6_put_138 : decode cX6_put 138 = .ok (.invokestatic 165, 3) := by decide +kernel
theorem dX6_put_141 : decode cX6_put 141 = .ok (.ifCond .ne 6, 3) := by decide +kernel
theorem dX6_put_144 : decode cX6_put 144 = .ok (.ldc 138, 2) := by decide +kernel
theorem dX6_put_146 : decode cX6_put 146 = .ok (.ireturn, 1) := by decide +kernel
theorem dX6_put_147 : decode cX6_put 147 = .ok (.aload_n 0, 1) := by decide +kernel
theorem dX6_put_148 : decode cX6_put 148 = .ok (.iconst 0, 1) := by decide +kernel
theorem dX6_put_149 : decode cX6_put 149 = .ok (.putfield 74, 3) := by decide +kernel
theorem dX6_put_152 : decode cX6_put 152 = .ok (.aload_n 0, 1) := by decide +kernel
theorem dX6_put_153 : decode cX6_put 153 = .ok (.getfield 51, 3) := by decide +kernel
theorem dX6_put_156 : decode cX6_put 156 = .ok (.iload_n 1, 1) := by decide +kernel
theorem dX6_put_157 : decode cX6_put 157 = .ok (.invokevirtual 168, 3) := by decide +kernel
theorem dX6_put_160 : decode cX6_put 160 = .ok (.iload_n 2, 1) := by decide +kernel
theorem dX6_put_161 : decode cX6_put 161 = .ok (.iadd, 1) := by decide +kernel
theorem dX6_put_162 : decode cX6_put 162 = .ok (.istore 7, 2) := by decide +kernel
theorem dX6_put_164 : decode cX6_put 164 = .ok (.aload_n 0, 1) := by decide +kernel
theorem dX6_put_165 : decode cX6_put 165 = .ok (.getfield 51, 3) := by decide +kernel
theorem dX6_put_168 : decode cX6_put 168 = .ok (.iload_n 1, 1) := by decide +kernel
theorem dX6_put_169 : decode cX6_put 169 = .ok (.iload 7, 2) := by decide +kernel
theorem dX6_put_171 : decode cX6_put 171 = .ok (.new 42, 3) := by decide +kernel
theorem dX6_put_174 : decode cX6_put 174 = .ok (.dup, 1) := by decide +kernel
theorem dX6_put_175 : decode cX6_put 175 = .ok (.aload 6, 2) := by decide +kernel
theorem dX6_put_177 : decode cX6_put 177 = .ok (.getfield 90, 3) := by decide +kernel
theorem dX6_put_180 : decode cX6_put 180 = .ok (.iload 5, 2) := by decide +kernel
theorem dX6_put_182 : decode cX6_put 182 = .ok (.invokespecial 44, 3) := by decide +kernel
theorem dX6_put_185 : decode cX6_put 185 = .ok (.iload_n 3, 1) := by decide +kernel
theorem dX6_put_186 : decode cX6_put 186 = .ok (.invokevirtual 171, 3) := by decide +kernel
theorem dX6_put_189 : decode cX6_put 189 = .ok (.aload_n 0, 1) := by decide +kernel
theorem dX6_put_190 : decode cX6_put 190 = .ok (.getfield 61, 3) := by decide +kernel
theorem dX6_put_193 : decode cX6_put 193 = .ok (.iconst 1, 1) := by decide +kernel
theorem dX6_put_194 : decode cX6_put 194 = .ok (.iload 7, 2) := by decide +kernel
theorem dX6_put_196 : decode cX6_put 196 = .ok (.iload_n 1, 1) := by decide +kernel
theorem dX6_put_197 : decode cX6_put 197 = .ok (.invokevirtual 151, 3) := by decide +kernel
theorem dX6_put_200 : decode cX6_put 200 = .ok (.iload 7, 2) := by decide +kernel
theorem dX6_put_202 : decode cX6_put 202 = .ok (.ireturn, 1) := by decide +kernel
theorem dX6_take_0 : decode cX6_take 0 = .ok (.aload_n 0, 1) := by decide +kernel
theorem dX6_take_1 : decode cX6_take 1 = .ok (.getfield 51, 3) := by decide +kernel
theorem dX6_take_4 : decode cX6_take 4 = .ok (.iload_n 1, 1) := by decide +kernel
theorem dX6_take_5 : decode cX6_take 5 = .ok (.invokevirtual 142, 3) := by decide +kernel
theorem dX6_take_8 : decode cX6_take 8 = .ok (.ifCond .ne 6, 3) := by decide +kernel
theorem dX6_take_11 : decode cX6_take 11 = .ok (.ldc 69, 2) := by decide +kernel
theorem dX6_take_13 : decode cX6_take 13 = .ok (.ireturn, 1) := by decide +kernel
theorem dX6_take_14 : decode cX6_take 14 = .ok (.aload_n 0, 1) := by decide +kernel
theorem dX6_take_15 : decode cX6_take 15 = .ok (.getfield 51, 3) := by decide +kernel
theorem dX6_take_18 : decode cX6_take 18 = .ok (.iload_n 1, 1) := by decide +kernel
theorem dX6_take_19 : decode cX6_take 19 = .ok (.invokevirtual 175, 3) := by decide +kernel
theorem dX6_take_22 : decode cX6_take 22 = .ok (.istore_n 2, 1) := by decide +kernel
theorem dX6_take_23 : decode cX6_take 23 = .ok (.aload_n 0, 1) := by decide +kernel
theorem dX6_take_24 : decode cX6_take 24 = .ok (.getfield 51, 3) := by decide +kernel
theorem dX6_take_27 : decode cX6_take 27 = .ok (.getfield 158, 3) := by decide +kernel
theorem dX6_take_30 : decode cX6_take 30 = .ok (.iload_n 2, 1) := by decide +kernel
theorem dX6_take_31 : decode cX6_take 31 = .ok (.iaload, 1) := by decide +kernel
theorem dX6_take_32 : decode cX6_take 32 = .ok (.iconst 1, 1) := by decide +kernel
theorem dX6_take_33 : decode cX6_take 33 = .ok (.if_icmp .gt 6, 3) := by decide +kernel
theorem dX6_take_36 : decode cX6_take 36 = .ok (.ldc 138, 2) := by decide +kernel
theorem dX6_take_38 : decode cX6_take 38 = .ok (.ireturn, 1) := by decide +kernel
theorem dX6_take_39 : decode cX6_take 39 = .ok (.aload_n 0, 1) := by decide +kernel
theorem dX6_take_40 : decode cX6_take 40 = .ok (.getfield 61, 3) := by decide +kernel
theorem dX6_take_43 : decode cX6_take 43 = .ok (.iload_n 1, 1) := by decide +kernel
theorem dX6_take_44 : decode cX6_take 44 = .ok (.iload_n 2, 1) := by decide +kernel
theorem dX6_take_45 : decode cX6_take 45 = .ok (.aload_n 0, 1) := by decide +kernel
theorem dX6_take_46 : decode cX6_take 46 = .ok (.getfield 51, 3) := by decide +kernel
theorem dX6_take_49 : decode cX6_take 49 = .ok (.getfield 148, 3) := by decide +kernel
theorem dX6_take_52 : decode cX6_take 52 = .ok (.iload_n 1, 1) := by decide +kernel
theorem dX6_take_53 : decode cX6_take 53 = .ok (.iaload, 1) := by decide +kernel
theorem dX6_take_54 : decode cX6_take 54 = .ok (.aload_n 0, 1) := by decide +kernel
theorem dX6_take_55 : decode cX6_take 55 = .ok (.getfield 51, 3) := by decide +kernel
theorem dX6_take_58 : decode cX6_take 58 = .ok (.getfield 178, 3) := by decide +kernel
theorem dX6_take_61 : decode cX6_take 61 = .ok (.iload_n 1, 1) := by decide +kernel
theorem dX6_take_62 : decode cX6_take 62 = .ok (.aaload, 1) := by decide +kernel
theorem dX6_take_63 : decode cX6_take 63 = .ok (.invokevirtual 182, 3) := by decide +kernel
theorem dX6_take_66 : decode cX6_take 66 = .ok (.aload_n 0, 1) := by decide +kernel
theorem dX6_take_67 : decode cX6_take 67 = .ok (.getfield 51, 3) := by decide +kernel
theorem dX6_take_70 : decode cX6_take 70 = .ok (.iload_n 2, 1) := by decide +kernel
theorem dX6_take_71 : decode cX6_take 71 = .ok (.iload_n 1, 1) := by decide +kernel
theorem dX6_take_72 : decode cX6_take 72 = .ok (.invokevirtual 186, 3) := by decide +kernel
theorem dX6_take_75 : decode cX6_take 75 = .ok (.aload_n 0, 1) := by decide +kernel
theorem dX6_take_76 : decode cX6_take 76 = .ok (.getfield 51, 3) := by decide +kernel
theorem dX6_take_79 : decode cX6_take 79 = .ok (.getfield 158, 3) := by decide +kernel
theorem dX6_take_82 : decode cX6_take 82 = .ok (.iload_n 2, 1) := by decide +kernel
theorem dX6_take_83 : decode cX6_take 83 = .ok (.iaload, 1) := by decide +kernel
theorem dX6_take_84 : decode cX6_take 84 = .ok (.ireturn, 1) := by decide +kernel
theorem dX6_swap_0 : decode cX6_swap 0 = .ok (.aload_n 0, 1) := by decide +kernel
theorem dX6_swap_1 : decode cX6_swap 1 = .ok (.getfield 51, 3) := by decide +kernel
theorem dX6_swap_4 : decode cX6_swap 4 = .ok (.iload_n 1, 1) := by decide +kernel
theorem dX6_swap_5 : decode cX6_swap 5 = .ok (.invokevirtual 142, 3) := by decide +kernel
theorem dX6_swap_8 : decode cX6_swap 8 = .ok (.ifCond .eq 14, 3) := by decide +kernel
theorem dX6_swap_11 : decode cX6_swap 11 = .ok (.aload_n 0, 1) := by decide +kernel
theorem dX6_swap_12 : decode cX6_swap 12 = .ok (.getfield 51, 3) := by decide +kernel
theorem dX6_swap_15 : decode cX6_swap 15 = .ok (.iload_n 2, 1) := by decide +kernel
theorem dX6_swap_16 : decode cX6_swap 16 = .ok (.invokevirtual 142, 3) := by decide +kernel
theorem dX6_swap_19 : decode cX6_swap 19 = .ok (.ifCond .ne 6, 3) := by decide +kernel
theorem dX6_swap_22 : decode cX6_swap 22 = .ok (.ldc 69, 2) := by decide +kernel
theorem dX6_swap_24 : decode cX6_swap 24 = .ok (.ireturn, 1) := by decide +kernel
theorem dX6_swap_25 : decode cX6_swap 25 = .ok (.iload_n 1, 1) := by decide +kernel
theorem dX6_swap_26 : decode cX6_swap 26 = .ok (.iload_n 2, 1) := by decide +kernel
theorem dX6_swap_27 : decode cX6_swap 27 = .ok (.if_icmp .ne 6, 3) := by decide +kernel
theorem dX6_swap_30 : decode cX6_swap 30 = .ok (.ldc 138, 2) := by decide +kernel
theorem dX6_swap_32 : decode cX6_swap 32 = .ok (.ireturn, 1) := by decide +kernel
theorem dX6_swap_33 : decode cX6_swap 33 = .ok (.aload_n 0, 1) := by decide +kernel
theorem dX6_swap_34 : decode cX6_swap 34 = .ok (.getfield 51, 3) := by decide +kernel
theorem dX6_swap_37 : decode cX6_swap 37 = .ok (.iload_n 1, 1) := by decide +kernel
theorem dX6_swap_38 : decode cX6_swap 38 = .ok (.iload_n 2, 1) := by decide +kernel
theorem dX6_swap_39 : decode cX6_swap 39 = .ok (.invokevirtual 189, 3) := by decide +kernel
theorem dX6_swap_42 : decode cX6_swap 42 = .ok (.aload_n 0, 1) := by decide +kernel
theorem dX6_swap_43 : decode cX6_swap 43 = .ok (.getfield 61, 3) := by decide +kernel
theorem dX6_swap_46 : decode cX6_swap 46 = .ok (.iconst 3, 1) := by decide +kernel
theorem dX6_swap_47 : decode cX6_swap 47 = .ok (.iload_n 1, 1) := by decide +kernel
theorem dX6_swap_48 : decode cX6_swap 48 = .ok (.iload_n 2, 1) := by decide +kernel
theorem dX6_swap_49 : decode cX6_swap 49 = .ok (.invokevirtual 151, 3) := by decide +kernel
theorem dX6_swap_52 : decode cX6_swap 52 = .ok (.iload_n 1, 1) := by decide +kernel
theorem dX6_swap_53 : decode cX6_swap 53 = .ok (.iload_n 2, 1) := by decide +kernel
theorem dX6_swap_54 : decode cX6_swap 54 = .ok (.isub, 1) := by decide +kernel
theorem dX6_swap_55 : decode cX6_swap 55 = .ok (.invokestatic 192, 3) := by decide +kernel
theorem dX6_swap_58 : decode cX6_swap 58 = .ok (.iconst 1, 1) := by decide +kernel
theorem dX6_swap_59 : decode cX6_swap 59 = .ok (.iadd, 1) := by decide +kernel
theorem dX6_swap_60 : decode cX6_swap 60 = .ok (.ireturn, 1) := by decide +kernel
theorem dX6_metre_0 : decode cX6_metre 0 = .ok (.aload_n 0, 1) := by decide +kernel
theorem dX6_metre_1 : decode cX6_metre 1 = .ok (.getfield 51, 3) := by decide +kernel
theorem dX6_metre_4 : decode cX6_metre 4 = .ok (.getfield 135, 3) := by decide +kernel
theorem dX6_metre_7 : decode cX6_metre 7 = .ok (.ifCond .ne 6, 3) := by decide +kernel
theorem dX6_metre_10 : decode cX6_metre 10 = .ok (.ldc 138, 2) := by decide +kernel
theorem dX6_metre_12 : decode cX6_metre 12 = .ok (.ireturn, 1) := by decide +kernel
theorem dX6_metre_13 : decode cX6_metre 13 = .ok (.iload_n 1, 1) := by decide +kernel
theorem dX6_metre_14 : decode cX6_metre 14 = .ok (.iload_n 2, 1) := by decide +kernel
theorem dX6_metre_15 : decode cX6_metre 15 = .ok (.invokestatic 197, 3) := by decide +kernel
theorem dX6_metre_18 : decode cX6_metre 18 = .ok (.ifCond .ne 6, 3) := by decide +kernel
theorem dX6_metre_21 : decode cX6_metre 21 = .ok (.ldc 69, 2) := by decide +kernel
theorem dX6_metre_23 : decode cX6_metre 23 = .ok (.ireturn, 1) := by decide +kernel
theorem dX6_metre_24 : decode cX6_metre 24 = .ok (.bipush 10, 2) := by decide +kernel
theorem dX6_metre_26 : decode cX6_metre 26 = .ok (.aload_n 0, 1) := by decide +kernel
theorem dX6_metre_27 : decode cX6_metre 27 = .ok (.getfield 51, 3) := by decide +kernel
theorem dX6_metre_30 : decode cX6_metre 30 = .ok (.getfield 200, 3) := by decide +kernel
theorem dX6_metre_33 : decode cX6_metre 33 = .ok (.imul, 1) := by decide +kernel
theorem dX6_metre_34 : decode cX6_metre 34 = .ok (.aload_n 0, 1) := by decide +kernel
theorem dX6_metre_35 : decode cX6_metre 35 = .ok (.getfield 51, 3) := by decide +kernel
theorem dX6_metre_38 : decode cX6_metre 38 = .ok (.getfield 203, 3) := by decide +kernel
theorem dX6_metre_41 : decode cX6_metre 41 = .ok (.iadd, 1) := by decide +kernel
theorem dX6_metre_42 : decode cX6_metre 42 = .ok (.istore_n 3, 1) := by decide +kernel
theorem dX6_metre_43 : decode cX6_metre 43 = .ok (.aload_n 0, 1) := by decide +kernel
theorem dX6_metre_44 : decode cX6_metre 44 = .ok (.getfield 61, 3) := by decide +kernel
theorem dX6_metre_47 : decode cX6_metre 47 = .ok (.iconst 4, 1) := by decide +kernel
theorem dX6_metre_48 : decode cX6_metre 48 = .ok (.aload_n 0, 1) := by decide +kernel
theorem dX6_metre_49 : decode cX6_metre 49 = .ok (.getfield 51, 3) := by decide +kernel
theorem dX6_metre_52 : decode cX6_metre 52 = .ok (.getfield 200, 3) := by decide +kernel
theorem dX6_metre_55 : decode cX6_metre 55 = .ok (.aload_n 0, 1) := by decide +kernel
theorem dX6_metre_56 : decode cX6_metre 56 = .ok (.getfield 51, 3) := by decide +kernel
theorem dX6_metre_59 : decode cX6_metre 59 = .ok (.getfield 203, 3) := by decide +kernel
theorem dX6_metre_62 : decode cX6_metre 62 = .ok (.invokevirtual 151, 3) := by decide +kernel
theorem dX6_metre_65 : decode cX6_metre 65 = .ok (.aload_n 0, 1) := by decide +kernel
theorem dX6_metre_66 : decode cX6_metre 66 = .ok (.getfield 51, 3) := by decide +kernel
theorem dX6_metre_69 : decode cX6_metre 69 = .ok (.iload_n 1, 1) := by decide +kernel
theorem dX6_metre_70 : decode cX6_metre 70 = .ok (.putfield 200, 3) := by decide +kernel
theorem dX6_metre_73 : decode cX6_metre 73 = .ok (.aload_n 0, 1) := by decide +kernel
theorem dX6_metre_74 : decode cX6_metre 74 = .ok (.getfield 51, 3) := by decide +kernel
theorem dX6_metre_77 : decode cX6_metre 77 = .ok (.iload_n 2, 1) := by decide +kernel
theorem dX6_metre_78 : decode cX6_metre 78 = .ok (.putfield 203, 3) := by decide +kernel
theorem dX6_metre_81 : decode cX6_metre 81 = .ok (.iload_n 3, 1) := by decide +kernel
theorem dX6_metre_82 : decode cX6_metre 82 = .ok (.ireturn, 1) := by decide +kernel
theorem dX6_word_0 : decode cX6_word 0 = .ok (.aload_n 0, 1) := by decide +kernel
theorem dX6_word_1 : decode cX6_word 1 = .ok (.getfield 51, 3) := by decide +kernel
theorem dX6_word_4 : decode cX6_word 4 = .ok (.iload_n 1, 1) := by decide +kernel
theorem dX6_word_5 : decode cX6_word 5 = .ok (.invokevirtual 142, 3) := by decide +kernel
theorem dX6_word_8 : decode cX6_word 8 = .ok (.ifCond .ne 6, 3) := by decide +kernel
theorem dX6_word_11 : decode cX6_word 11 = .ok (.ldc 69, 2) := by decide +kernel
theorem dX6_word_13 : decode cX6_word 13 = .ok (.ireturn, 1) := by decide +kernel
theorem dX6_word_14 : decode cX6_word 14 = .ok (.aload_n 0, 1) := by decide +kernel
theorem dX6_word_15 : decode cX6_word 15 = .ok (.getfield 51, 3) := by decide +kernel
theorem dX6_word_18 : decode cX6_word 18 = .ok (.getfield 178, 3) := by decide +kernel
theorem dX6_word_21 : decode cX6_word 21 = .ok (.iload_n 1, 1) := by decide +kernel
theorem dX6_word_22 : decode cX6_word 22 = .ok (.aaload, 1) := by decide +kernel
theorem dX6_word_23 : decode cX6_word 23 = .ok (.astore_n 3, 1) := by decide +kernel
theorem dX6_word_24 : decode cX6_word 24 = .ok (.iload_n 2, 1) := by decide +kernel
theorem dX6_word_25 : decode cX6_word 25 = .ok (.bipush 10, 2) := by decide +kernel
theorem dX6_word_27 : decode cX6_word 27 = .ok (.if_icmp .lt 31, 3) := by decide +kernel
theorem dX6_word_30 : decode cX6_word 30 = .ok (.iload_n 2, 1) := by decide +kernel
theorem dX6_word_31 : decode cX6_word 31 = .ok (.bipush 10, 2) := by decide +kernel
theorem dX6_word_33 : decode cX6_word 33 = .ok (.isub, 1) := by decide +kernel
theorem dX6_word_34 : decode cX6_word 34 = .ok (.istore 4, 2) := by decide +kernel
theorem dX6_word_36 : decode cX6_word 36 = .ok (.iload 4, 2) := by decide +kernel
theorem dX6_word_38 : decode cX6_word 38 = .ok (.aload_n 3, 1) := by decide +kernel
theorem dX6_word_39 : decode cX6_word 39 = .ok (.getfield 206, 3) := by decide +kernel
theorem dX6_word_42 : decode cX6_word 42 = .ok (.if_icmp .ge 13, 3) := by decide +kernel
theorem dX6_word_45 : decode cX6_word 45 = .ok (.aload_n 3, 1) := by decide +kernel
theorem dX6_word_46 : decode cX6_word 46 = .ok (.getfield 207, 3) := by decide +kernel
theorem dX6_word_49 : decode cX6_word 49 = .ok (.iload 4, 2) := by decide +kernel
theorem dX6_word_51 : decode cX6_word 51 = .ok (.iaload, 1) := by decide +kernel
theorem dX6_word_52 : decode cX6_word 52 = .ok (.goto 5, 3) := by decide +kernel
theorem dX6_word_55 : decode cX6_word 55 = .ok (.ldc 210, 2) := by decide +kernel
theorem dX6_word_57 : decode cX6_word 57 = .ok (.ireturn, 1) := by decide +kernel
theorem dX6_word_58 : decode cX6_word 58 = .ok (.aload_n 0, 1) := by decide +kernel
theorem dX6_word_59 : decode cX6_word 59 = .ok (.getfield 51, 3) := by decide +kernel
theorem dX6_word_62 : decode cX6_word 62 = .ok (.iload_n 1, 1) := by decide +kernel
theorem dX6_word_63 : decode cX6_word 63 = .ok (.invokevirtual 175, 3) := by decide +kernel
theorem dX6_word_66 : decode cX6_word 66 = .ok (.istore 4, 2) := by decide +kernel
theorem dX6_word_68 : decode cX6_word 68 = .ok (.iload_n 2, 1) := by decide +kernel
theorem dX6_word_69 : decode cX6_word 69 = .ok (.tableswitch 82 0 5 #[39, 42, 54, 59, 64, 73], 39) := by decide +kernel
theorem dX6_word_108 : decode cX6_word 108 = .ok (.iload 4, 2) := by decide +kernel
theorem dX6_word_110 : decode cX6_word 110 = .ok (.ireturn, 1) := by decide +kernel
theorem dX6_word_111 : decode cX6_word 111 = .ok (.iload_n 1, 1) := by decide +kernel
theorem dX6_word_112 : decode cX6_word 112 = .ok (.aload_n 0, 1) := by decide +kernel
theorem dX6_word_113 : decode cX6_word 113 = .ok (.getfield 51, 3) := by decide +kernel
theorem dX6_word_116 : decode cX6_word 116 = .ok (.iload 4, 2) := by decide +kernel
theorem dX6_word_118 : decode cX6_word 118 = .ok (.invokevirtual 168, 3) := by decide +kernel
theorem dX6_word_121 : decode cX6_word 121 = .ok (.isub, 1) := by decide +kernel
theorem dX6_word_122 : decode cX6_word 122 = .ok (.ireturn, 1) := by decide +kernel
theorem dX6_word_123 : decode cX6_word 123 = .ok (.aload_n 3, 1) := by decide +kernel
theorem dX6_word_124 : decode cX6_word 124 = .ok (.getfield 206, 3) := by decide +kernel
theorem dX6_word_127 : decode cX6_word 127 = .ok (.ireturn, 1) := by decide +kernel
theorem dX6_word_128 : decode cX6_word 128 = .ok (.aload_n 3, 1) := by decide +kernel
theorem dX6_word_129 : decode cX6_word 129 = .ok (.getfield 211, 3) := by decide +kernel
theorem dX6_word_132 : decode cX6_word 132 = .ok (.ireturn, 1) := by decide +kernel
theorem dX6_word_133 : decode cX6_word 133 = .ok (.aload_n 0, 1) := by decide +kernel
theorem dX6_word_134 : decode cX6_word 134 = .ok (.getfield 51, 3) := by decide +kernel
theorem dX6_word_137 : decode cX6_word 137 = .ok (.iload_n 1, 1) := by decide +kernel
theorem dX6_word_138 : decode cX6_word 138 = .ok (.invokevirtual 214, 3) := by decide +kernel
theorem dX6_word_141 : decode cX6_word 141 = .ok (.ireturn, 1) := by decide +kernel
theorem dX6_word_142 : decode cX6_word 142 = .ok (.aload_n 0, 1) := by decide +kernel
theorem dX6_word_143 : decode cX6_word 143 = .ok (.getfield 51, 3) := by decide +kernel
theorem dX6_word_146 : decode cX6_word 146 = .ok (.iload_n 1, 1) := by decide +kernel
theorem dX6_word_147 : decode cX6_word 147 = .ok (.invokevirtual 217, 3) := by decide +kernel
theorem dX6_word_150 : decode cX6_word 150 = .ok (.ireturn, 1) := by decide +kernel
theorem dX6_word_151 : decode cX6_word 151 = .ok (.ldc 69, 2) := by decide +kernel
theorem dX6_word_153 : decode cX6_word 153 = .ok (.ireturn, 1) := by decide +kernel
theorem dX6_line_0 : decode cX6_line 0 = .ok (.aload_n 0, 1) := by decide +kernel
theorem dX6_line_1 : decode cX6_line 1 = .ok (.getfield 51, 3) := by decide +kernel
theorem dX6_line_4 : decode cX6_line 4 = .ok (.iload_n 1, 1) := by decide +kernel
theorem dX6_line_5 : decode cX6_line 5 = .ok (.invokevirtual 155, 3) := by decide +kernel
theorem dX6_line_8 : decode cX6_line 8 = .ok (.ifCond .ne 6, 3) := by decide +kernel
theorem dX6_line_11 : decode cX6_line 11 = .ok (.ldc 69, 2) := by decide +kernel
theorem dX6_line_13 : decode cX6_line 13 = .ok (.ireturn, 1) := by decide +kernel
theorem dX6_line_14 : decode cX6_line 14 = .ok (.aload_n 0, 1) := by decide +kernel
theorem dX6_line_15 : decode cX6_line 15 = .ok (.getfield 51, 3) := by decide +kernel
theorem dX6_line_18 : decode cX6_line 18 = .ok (.iload_n 1, 1) := by decide +kernel
theorem dX6_line_19 : decode cX6_line 19 = .ok (.invokevirtual 220, 3) := by decide +kernel
theorem dX6_line_22 : decode cX6_line 22 = .ok (.istore_n 3, 1) := by decide +kernel
theorem dX6_line_23 : decode cX6_line 23 = .ok (.iload_n 2, 1) := by decide +kernel
theorem dX6_line_24 : decode cX6_line 24 = .ok (.bipush 10, 2) := by decide +kernel
theorem dX6_line_26 : decode cX6_line 26 = .ok (.if_icmp .lt 16, 3) := by decide +kernel
theorem dX6_line_29 : decode cX6_line 29 = .ok (.aload_n 0, 1) := by decide +kernel
theorem dX6_line_30 : decode cX6_line 30 = .ok (.getfield 51, 3) := by decide +kernel
theorem dX6_line_33 : decode cX6_line 33 = .ok (.iload_n 3, 1) := by decide +kernel
theorem dX6_line_34 : decode cX6_line 34 = .ok (.iload_n 2, 1) := by decide +kernel
theorem dX6_line_35 : decode cX6_line 35 = .ok (.bipush 10, 2) := by decide +kernel
theorem dX6_line_37 : decode cX6_line 37 = .ok (.isub, 1) := by decide +kernel
theorem dX6_line_38 : decode cX6_line 38 = .ok (.invokevirtual 223, 3) := by decide +kernel
theorem dX6_line_41 : decode cX6_line 41 = .ok (.ireturn, 1) := by decide +kernel
theorem dX6_line_42 : decode cX6_line 42 = .ok (.iload_n 2, 1) := by decide +kernel
theorem dX6_line_43 : decode cX6_line 43 = .ok (.tableswitch 92 0 5 #[37, 47, 56, 65, 74, 83], 37) := by decide +kernel
theorem dX6_line_80 : decode cX6_line 80 = .ok (.aload_n 0, 1) := by decide +kernel
theorem dX6_line_81 : decode cX6_line 81 = .ok (.getfield 51, 3) := by decide +kernel
theorem dX6_line_84 : decode cX6_line 84 = .ok (.getfield 158, 3) := by decide +kernel
theorem dX6_line_87 : decode cX6_line 87 = .ok (.iload_n 1, 1) := by decide +kernel
theorem dX6_line_88 : decode cX6_line 88 = .ok (.iaload, 1) := by decide +kernel
theorem dX6_line_89 : decode cX6_line 89 = .ok (.ireturn, 1) := by decide +kernel
theorem dX6_line_90 : decode cX6_line 90 = .ok (.aload_n 0, 1) := by decide +kernel
theorem dX6_line_91 : decode cX6_line 91 = .ok (.getfield 51, 3) := by decide +kernel
theorem dX6_line_94 : decode cX6_line 94 = .ok (.iload_n 1, 1) := by decide +kernel
theorem dX6_line_95 : decode cX6_line 95 = .ok (.invokevirtual 168, 3) := by decide +kernel
theorem dX6_line_98 : decode cX6_line 98 = .ok (.ireturn, 1) := by decide +kernel
theorem dX6_line_99 : decode cX6_line 99 = .ok (.aload_n 0, 1) := by decide +kernel
theorem dX6_line_100 : decode cX6_line 100 = .ok (.getfield 51, 3) := by decide +kernel
theorem dX6_line_103 : decode cX6_line 103 = .ok (.iload_n 1, 1) := by decide +kernel
theorem dX6_line_104 : decode cX6_line 104 = .ok (.invokevirtual 227, 3) := by decide +kernel
theorem dX6_line_107 : decode cX6_line 107 = .ok (.ireturn, 1) := by decide +kernel
theorem dX6_line_108 : decode cX6_line 108 = .ok (.aload_n 0, 1) := by decide +kernel
theorem dX6_line_109 : decode cX6_line 109 = .ok (.getfield 51, 3) := by decide +kernel
theorem dX6_line_112 : decode cX6_line 112 = .ok (.iload_n 1, 1) := by decide +kernel
theorem dX6_line_113 : decode cX6_line 113 = .ok (.invokevirtual 230, 3) := by decide +kernel
theorem dX6_line_116 : decode cX6_line 116 = .ok (.ireturn, 1) := by decide +kernel
theorem dX6_line_117 : decode cX6_line 117 = .ok (.aload_n 0, 1) := by decide +kernel
theorem dX6_line_118 : decode cX6_line 118 = .ok (.getfield 51, 3) := by decide +kernel
theorem dX6_line_121 : decode cX6_line 121 = .ok (.iload_n 3, 1) := by decide +kernel
theorem dX6_line_122 : decode cX6_line 122 = .ok (.invokevirtual 233, 3) := by decide +kernel
theorem dX6_line_125 : decode cX6_line 125 = .ok (.ireturn, 1) := by decide +kernel
theorem dX6_line_126 : decode cX6_line 126 = .ok (.aload_n 0, 1) := by decide +kernel
theorem dX6_line_127 : decode cX6_line 127 = .ok (.getfield 51, 3) := by decide +kernel
theorem dX6_line_130 : decode cX6_line 130 = .ok (.iload_n 1, 1) := by decide +kernel
theorem dX6_line_131 : decode cX6_line 131 = .ok (.invokevirtual 236, 3) := by decide +kernel
theorem dX6_line_134 : decode cX6_line 134 = .ok (.ireturn, 1) := by decide +kernel
theorem dX6_line_135 : decode cX6_line 135 = .ok (.ldc 69, 2) := by decide +kernel
theorem dX6_line_137 : decode cX6_line 137 = .ok (.ireturn, 1) := by decide +kernel
theorem dX6_scan_0 : decode cX6_scan 0 = .ok (.aload_n 0, 1) := by decide +kernel
theorem dX6_scan_1 : decode cX6_scan 1 = .ok (.getfield 51, 3) := by decide +kernel
theorem dX6_scan_4 : decode cX6_scan 4 = .ok (.iload_n 1, 1) := by decide +kernel
theorem dX6_scan_5 : decode cX6_scan 5 = .ok (.invokevirtual 155, 3) := by decide +kernel
theorem dX6_scan_8 : decode cX6_scan 8 = .ok (.ifCond .eq 22, 3) := by decide +kernel
theorem dX6_scan_11 : decode cX6_scan 11 = .ok (.iload_n 2, 1) := by decide +kernel
theorem dX6_scan_12 : decode cX6_scan 12 = .ok (.iload_n 3, 1) := by decide +kernel
theorem dX6_scan_13 : decode cX6_scan 13 = .ok (.invokestatic 197, 3) := by decide +kernel
theorem dX6_scan_16 : decode cX6_scan 16 = .ok (.ifCond .eq 14, 3) := by decide +kernel
theorem dX6_scan_19 : decode cX6_scan 19 = .ok (.iload 4, 2) := by decide +kernel
theorem dX6_scan_21 : decode cX6_scan 21 = .ok (.ifCond .lt 9, 3) := by decide +kernel
theorem dX6_scan_24 : decode cX6_scan 24 = .ok (.iload 4, 2) := by decide +kernel
theorem dX6_scan_26 : decode cX6_scan 26 = .ok (.iconst 1, 1) := by decide +kernel
theorem dX6_scan_27 : decode cX6_scan 27 = .ok (.if_icmp .le 6, 3) := by decide +kernel
theorem dX6_scan_30 : decode cX6_scan 30 = .ok (.ldc 69, 2) := by decide +kernel
theorem dX6_scan_32 : decode cX6_scan 32 = .ok (.ireturn, 1) := by decide +kernel
theorem dX6_scan_33 : decode cX6_scan 33 = .ok (.aload_n 0, 1) := by decide +kernel
theorem dX6_scan_34 : decode cX6_scan 34 = .ok (.getfield 31, 3) := by decide +kernel
theorem dX6_scan_37 : decode cX6_scan 37 = .ok (.aload_n 0, 1) := by decide +kernel
theorem dX6_scan_38 : decode cX6_scan 38 = .ok (.getfield 51, 3) := by decide +kernel
theorem dX6_scan_41 : decode cX6_scan 41 = .ok (.iload_n 1, 1) := by decide +kernel
theorem dX6_scan_42 : decode cX6_scan 42 = .ok (.invokevirtual 239, 3) := by decide +kernel
theorem dX6_scan_45 : decode cX6_scan 45 = .ok (.aload_n 0, 1) := by decide +kernel
theorem dX6_scan_46 : decode cX6_scan 46 = .ok (.getfield 31, 3) := by decide +kernel
theorem dX6_scan_49 : decode cX6_scan 49 = .ok (.iload_n 2, 1) := by decide +kernel
theorem dX6_scan_50 : decode cX6_scan 50 = .ok (.iload_n 3, 1) := by decide +kernel
theorem dX6_scan_51 : decode cX6_scan 51 = .ok (.invokevirtual 243, 3) := by decide +kernel
theorem dX6_scan_54 : decode cX6_scan 54 = .ok (.istore 5, 2) := by decide +kernel
theorem dX6_scan_56 : decode cX6_scan 56 = .ok (.iload 4, 2) := by decide +kernel
theorem dX6_scan_58 : decode cX6_scan 58 = .ok (.ifCond .ne 8, 3) := by decide +kernel
theorem dX6_scan_61 : decode cX6_scan 61 = .ok (.iload 5, 2) := by decide +kernel
theorem dX6_scan_63 : decode cX6_scan 63 = .ok (.goto 10, 3) := by decide +kernel
theorem dX6_scan_66 : decode cX6_scan 66 = .ok (.aload_n 0, 1) := by decide +kernel
theorem dX6_scan_67 : decode cX6_scan 67 = .ok (.getfield 31, 3) := by decide +kernel
theorem dX6_scan_70 : decode cX6_scan 70 = .ok (.getfield 246, 3) := by decide +kernel
theorem dX6_scan_73 : decode cX6_scan 73 = .ok (.ireturn, 1) := by decide +kernel
theorem dX6_nearest_0 : decode cX6_nearest 0 = .ok (.aload_n 0, 1) := by decide +kernel
theorem dX6_nearest_1 : decode cX6_nearest 1 = .ok (.getfield 51, 3) := by decide +kernel
theorem dX6_nearest_4 : decode cX6_nearest 4 = .ok (.iload_n 1, 1) := by decide +kernel
theorem dX6_nearest_5 : decode cX6_nearest 5 = .ok (.invokevirtual 155, 3) := by decide +kernel
theorem dX6_nearest_8 : decode cX6_nearest 8 = .ok (.ifCond .eq 12, 3) := by decide +kernel
theorem dX6_nearest_11 : decode cX6_nearest 11 = .ok (.iload_n 2, 1) := by decide +kernel
theorem dX6_nearest_12 : decode cX6_nearest 12 = .ok (.ifCond .lt 8, 3) := by decide +kernel
theorem dX6_nearest_15 : decode cX6_nearest 15 = .ok (.iload_n 2, 1) := by decide +kernel
theorem dX6_nearest_16 : decode cX6_nearest 16 = .ok (.iconst 2, 1) := by decide +kernel
theorem dX6_nearest_17 : decode cX6_nearest 17 = .ok (.if_icmp .le 6, 3) := by decide +kernel
theorem dX6_nearest_20 : decode cX6_nearest 20 = .ok (.ldc 69, 2) := by decide +kernel
theorem dX6_nearest_22 : decode cX6_nearest 22 = .ok (.ireturn, 1) := by decide +kernel
theorem dX6_nearest_23 : decode cX6_nearest 23 = .ok (.aload_n 0, 1) := by decide +kernel
theorem dX6_nearest_24 : decode cX6_nearest 24 = .ok (.iload_n 1, 1) := by decide +kernel
theorem dX6_nearest_25 : decode cX6_nearest 25 = .ok (.iload_n 1, 1) := by decide +kernel
theorem dX6_nearest_26 : decode cX6_nearest 26 = .ok (.iconst 1, 1) := by decide +kernel
theorem dX6_nearest_27 : decode cX6_nearest 27 = .ok (.iadd, 1) := by decide +kernel
theorem dX6_nearest_28 : decode cX6_nearest 28 = .ok (.iload_n 2, 1) := by decide +kernel
theorem dX6_nearest_29 : decode cX6_nearest 29 = .ok (.invokevirtual 249, 3) := by decide +kernel
theorem dX6_nearest_32 : decode cX6_nearest 32 = .ok (.ireturn, 1) := by decide +kernel
theorem dX6_whole_0 : decode cX6_whole 0 = .ok (.aload_n 0, 1) := by decide +kernel
theorem dX6_whole_1 : decode cX6_whole 1 = .ok (.getfield 51, 3) := by decide +kernel
theorem dX6_whole_4 : decode cX6_whole 4 = .ok (.getfield 135, 3) := by decide +kernel
theorem dX6_whole_7 : decode cX6_whole 7 = .ok (.ifCond .ne 6, 3) := by decide +kernel
theorem dX6_whole_10 : decode cX6_whole 10 = .ok (.ldc 138, 2) := by decide +kernel
theorem dX6_whole_12 : decode cX6_whole 12 = .ok (.ireturn, 1) := by decide +kernel
theorem dX6_whole_13 : decode cX6_whole 13 = .ok (.iload_n 1, 1) := by decide +kernel
theorem dX6_whole_14 : decode cX6_whole 14 = .ok (.tableswitch 118 0 7 #[46, 54, 62, 89, 89, 89, 105, 110], 46) := by decide +kernel
theorem dX6_whole_60 : decode cX6_whole 60 = .ok (.aload_n 0, 1) := by decide +kernel
theorem dX6_whole_61 : decode cX6_whole 61 = .ok (.getfield 51, 3) := by decide +kernel
theorem dX6_whole_64 : decode cX6_whole 64 = .ok (.getfield 200, 3) := by decide +kernel
theorem dX6_whole_67 : decode cX6_whole 67 = .ok (.ireturn, 1) := by decide +kernel
theorem dX6_whole_68 : decode cX6_whole 68 = .ok (.aload_n 0, 1) := by decide +kernel
theorem dX6_whole_69 : decode cX6_whole 69 = .ok (.getfield 51, 3) := by decide +kernel
theorem dX6_whole_72 : decode cX6_whole 72 = .ok (.getfield 203, 3) := by decide +kernel
theorem dX6_whole_75 : decode cX6_whole 75 = .ok (.ireturn, 1) := by decide +kernel
theorem dX6_whole_76 : decode cX6_whole 76 = .ok (.aload_n 0, 1) := by decide +kernel
theorem dX6_whole_77 : decode cX6_whole 77 = .ok (.iconst 0, 1) := by decide +kernel
theorem dX6_whole_78 : decode cX6_whole 78 = .ok (.aload_n 0, 1) := by decide +kernel
theorem dX6_whole_79 : decode cX6_whole 79 = .ok (.getfield 51, 3) := by decide +kernel
theorem dX6_whole_82 : decode cX6_whole 82 = .ok (.getfield 135, 3) := by decide +kernel
theorem dX6_whole_85 : decode cX6_whole 85 = .ok (.aload_n 0, 1) := by decide +kernel
theorem dX6_whole_86 : decode cX6_whole 86 = .ok (.getfield 51, 3) := by decide +kernel
theorem dX6_whole_89 : decode cX6_whole 89 = .ok (.getfield 200, 3) := by decide +kernel
theorem dX6_whole_92 : decode cX6_whole 92 = .ok (.aload_n 0, 1) := by decide +kernel
theorem dX6_whole_93 : decode cX6_whole 93 = .ok (.getfield 51, 3) := by decide +kernel
theorem dX6_whole_96 : decode cX6_whole 96 = .ok (.getfield 203, 3) := by decide +kernel
theorem dX6_whole_99 : decode cX6_whole 99 = .ok (.invokevirtual 253, 3) := by decide +kernel
theorem dX6_whole_102 : decode cX6_whole 102 = .ok (.ireturn, 1) := by decide +kernel
theorem dX6_whole_103 : decode cX6_whole 103 = .ok (.aload_n 0, 1) := by decide +kernel
theorem dX6_whole_104 : decode cX6_whole 104 = .ok (.iconst 0, 1) := by decide +kernel
theorem dX6_whole_105 : decode cX6_whole 105 = .ok (.aload_n 0, 1) := by decide +kernel
theorem dX6_whole_106 : decode cX6_whole 106 = .ok (.getfield 51, 3) := by decide +kernel
theorem dX6_whole_109 : decode cX6_whole 109 = .ok (.getfield 135, 3) := by decide +kernel
theorem dX6_whole_112 : decode cX6_whole 112 = .ok (.iload_n 1, 1) := by decide +kernel
theorem dX6_whole_113 : decode cX6_whole 113 = .ok (.iconst 3, 1) := by decide +kernel
theorem dX6_whole_114 : decode cX6_whole 114 = .ok (.isub, 1) := by decide +kernel
theorem dX6_whole_115 : decode cX6_whole 115 = .ok (.invokevirtual 249, 3) := by decide +kernel
theorem dX6_whole_118 : decode cX6_whole 118 = .ok (.ireturn, 1) := by decide +kernel
theorem dX6_whole_119 : decode cX6_whole 119 = .ok (.aload_n 0, 1) := by decide +kernel
theorem dX6_whole_120 : decode cX6_whole 120 = .ok (.invokevirtual 257, 3) := by decide +kernel
theorem dX6_whole_123 : decode cX6_whole 123 = .ok (.ireturn, 1) := by decide +kernel
theorem dX6_whole_124 : decode cX6_whole 124 = .ok (.aload_n 0, 1) := by decide +kernel
theorem dX6_whole_125 : decode cX6_whole 125 = .ok (.getfield 51, 3) := by decide +kernel
theorem dX6_whole_128 : decode cX6_whole 128 = .ok (.invokevirtual 261, 3) := by decide +kernel
theorem dX6_whole_131 : decode cX6_whole 131 = .ok (.ireturn, 1) := by decide +kernel
theorem dX6_whole_132 : decode cX6_whole 132 = .ok (.ldc 69, 2) := by decide +kernel
theorem dX6_whole_134 : decode cX6_whole 134 = .ok (.ireturn, 1) := by decide +kernel
theorem dX6_rhymes_0 : decode cX6_rhymes 0 = .ok (.aload_n 0, 1) := by decide +kernel
theorem dX6_rhymes_1 : decode cX6_rhymes 1 = .ok (.getfield 51, 3) := by decide +kernel
theorem dX6_rhymes_4 : decode cX6_rhymes 4 = .ok (.iload_n 1, 1) := by decide +kernel
theorem dX6_rhymes_5 : decode cX6_rhymes 5 = .ok (.invokevirtual 155, 3) := by decide +kernel
theorem dX6_rhymes_8 : decode cX6_rhymes 8 = .ok (.ifCond .eq 14, 3) := by decide +kernel
theorem dX6_rhymes_11 : decode cX6_rhymes 11 = .ok (.aload_n 0, 1) := by decide +kernel
theorem dX6_rhymes_12 : decode cX6_rhymes 12 = .ok (.getfield 51, 3) := by decide +kernel
theorem dX6_rhymes_15 : decode cX6_rhymes 15 = .ok (.iload_n 2, 1) := by decide +kernel
theorem dX6_rhymes_16 : decode cX6_rhymes 16 = .ok (.invokevirtual 155, 3) := by decide +kernel
theorem dX6_rhymes_19 : decode cX6_rhymes 19 = .ok (.ifCond .ne 6, 3) := by decide +kernel
theorem dX6_rhymes_22 : decode cX6_rhymes 22 = .ok (.ldc 69, 2) := by decide +kernel
theorem dX6_rhymes_24 : decode cX6_rhymes 24 = .ok (.ireturn, 1) := by decide +kernel
theorem dX6_rhymes_25 : decode cX6_rhymes 25 = .ok (.aload_n 0, 1) := by decide +kernel
theorem dX6_rhymes_26 : decode cX6_rhymes 26 = .ok (.getfield 51, 3) := by decide +kernel
theorem dX6_rhymes_29 : decode cX6_rhymes 29 = .ok (.aload_n 0, 1) := by decide +kernel
theorem dX6_rhymes_30 : decode cX6_rhymes 30 = .ok (.getfield 51, 3) := by decide +kernel
theorem dX6_rhymes_33 : decode cX6_rhymes 33 = .ok (.iload_n 1, 1) := by decide +kernel
theorem dX6_rhymes_34 : decode cX6_rhymes 34 = .ok (.invokevirtual 220, 3) := by decide +kernel
theorem dX6_rhymes_37 : decode cX6_rhymes 37 = .ok (.aload_n 0, 1) := by decide +kernel
theorem dX6_rhymes_38 : decode cX6_rhymes 38 = .ok (.getfield 51, 3) := by decide +kernel
theorem dX6_rhymes_41 : decode cX6_rhymes 41 = .ok (.iload_n 2, 1) := by decide +kernel
theorem dX6_rhymes_42 : decode cX6_rhymes 42 = .ok (.invokevirtual 220, 3) := by decide +kernel
theorem dX6_rhymes_45 : decode cX6_rhymes 45 = .ok (.invokevirtual 264, 3) := by decide +kernel
theorem dX6_rhymes_48 : decode cX6_rhymes 48 = .ok (.ifCond .eq 7, 3) := by decide +kernel
theorem dX6_rhymes_51 : decode cX6_rhymes 51 = .ok (.iconst 1, 1) := by decide +kernel
theorem dX6_rhymes_52 : decode cX6_rhymes 52 = .ok (.goto 4, 3) := by decide +kernel
theorem dX6_rhymes_55 : decode cX6_rhymes 55 = .ok (.iconst 0, 1) := by decide +kernel
theorem dX6_rhymes_56 : decode cX6_rhymes 56 = .ok (.ireturn, 1) := by decide +kernel
theorem dX6_ends_0 : decode cX6_ends 0 = .ok (.aload_n 0, 1) := by decide +kernel
theorem dX6_ends_1 : decode cX6_ends 1 = .ok (.getfield 51, 3) := by decide +kernel
theorem dX6_ends_4 : decode cX6_ends 4 = .ok (.iload_n 1, 1) := by decide +kernel
theorem dX6_ends_5 : decode cX6_ends 5 = .ok (.invokevirtual 155, 3) := by decide +kernel
theorem dX6_ends_8 : decode cX6_ends 8 = .ok (.ifCond .eq 19, 3) := by decide +kernel
theorem dX6_ends_11 : decode cX6_ends 11 = .ok (.aload_n 0, 1) := by decide +kernel
theorem dX6_ends_12 : decode cX6_ends 12 = .ok (.getfield 51, 3) := by decide +kernel
theorem dX6_ends_15 : decode cX6_ends 15 = .ok (.iload_n 2, 1) := by decide +kernel
theorem dX6_ends_16 : decode cX6_ends 16 = .ok (.invokevirtual 155, 3) := by decide +kernel
theorem dX6_ends_19 : decode cX6_ends 19 = .ok (.ifCond .eq 8, 3) := by decide +kernel
theorem dX6_ends_22 : decode cX6_ends 22 = .ok (.iload_n 1, 1) := by decide +kernel
theorem dX6_ends_23 : decode cX6_ends 23 = .ok (.iload_n 2, 1) := by decide +kernel
theorem dX6_ends_24 : decode cX6_ends 24 = .ok (.if_icmp .ne 6, 3) := by decide +kernel
theorem dX6_ends_27 : decode cX6_ends 27 = .ok (.ldc 69, 2) := by decide +kernel
theorem dX6_ends_29 : decode cX6_ends 29 = .ok (.ireturn, 1) := by decide +kernel
theorem dX6_ends_30 : decode cX6_ends 30 = .ok (.aload_n 0, 1) := by decide +kernel
theorem dX6_ends_31 : decode cX6_ends 31 = .ok (.getfield 51, 3) := by decide +kernel
theorem dX6_ends_34 : decode cX6_ends 34 = .ok (.iload_n 2, 1) := by decide +kernel
theorem dX6_ends_35 : decode cX6_ends 35 = .ok (.invokevirtual 220, 3) := by decide +kernel
theorem dX6_ends_38 : decode cX6_ends 38 = .ok (.istore_n 3, 1) := by decide +kernel
theorem dX6_ends_39 : decode cX6_ends 39 = .ok (.iconst 0, 1) := by decide +kernel
theorem dX6_ends_40 : decode cX6_ends 40 = .ok (.istore 4, 2) := by decide +kernel
theorem dX6_ends_42 : decode cX6_ends 42 = .ok (.iconst 0, 1) := by decide +kernel
theorem dX6_ends_43 : decode cX6_ends 43 = .ok (.istore 5, 2) := by decide +kernel
theorem dX6_ends_45 : decode cX6_ends 45 = .ok (.iload 5, 2) := by decide +kernel
theorem dX6_ends_47 : decode cX6_ends 47 = .ok (.aload_n 0, 1) := by decide +kernel
theorem dX6_ends_48 : decode cX6_ends 48 = .ok (.getfield 51, 3) := by decide +kernel
theorem dX6_ends_51 : decode cX6_ends 51 = .ok (.getfield 267, 3) := by decide +kernel
theorem dX6_ends_54 : decode cX6_ends 54 = .ok (.if_icmp .ge 31, 3) := by decide +kernel
theorem dX6_ends_57 : decode cX6_ends 57 = .ok (.aload_n 0, 1) := by decide +kernel
theorem dX6_ends_58 : decode cX6_ends 58 = .ok (.getfield 51, 3) := by decide +kernel
theorem dX6_ends_61 : decode cX6_ends 61 = .ok (.iload 5, 2) := by decide +kernel
theorem dX6_ends_63 : decode cX6_ends 63 = .ok (.iload_n 3, 1) := by decide +kernel
theorem dX6_ends_64 : decode cX6_ends 64 = .ok (.invokevirtual 264, 3) := by decide +kernel
theorem dX6_ends_67 : decode cX6_ends 67 = .ok (.ifCond .eq 12, 3) := by decide +kernel
theorem dX6_ends_70 : decode cX6_ends 70 = .ok (.iload 4, 2) := by decide +kernel
theorem dX6_ends_72 : decode cX6_ends 72 = .ok (.iconst 1, 1) := by decide +kernel
theorem dX6_ends_73 : decode cX6_ends 73 = .ok (.iload 5, 2) := by decide +kernel
theorem dX6_ends_75 : decode cX6_ends 75 = .ok (.ishl, 1) := by decide +kernel
theorem dX6_ends_76 : decode cX6_ends 76 = .ok (.ior, 1) := by decide +kernel
theorem dX6_ends_77 : decode cX6_ends 77 = .ok (.istore 4, 2) := by decide +kernel
theorem dX6_ends_79 : decode cX6_ends 79 = .ok (.iinc 5 1, 3) := by decide +kernel
theorem dX6_ends_82 : decode cX6_ends 82 = .ok (.goto (-37), 3) := by decide +kernel
theorem dX6_ends_85 : decode cX6_ends 85 = .ok (.iload 4, 2) := by decide +kernel
theorem dX6_ends_87 : decode cX6_ends 87 = .ok (.ireturn, 1) := by decide +kernel
theorem dX6_kinds_0 : decode cX6_kinds 0 = .ok (.aload_n 0, 1) := by decide +kernel
theorem dX6_kinds_1 : decode cX6_kinds 1 = .ok (.getfield 51, 3) := by decide +kernel
theorem dX6_kinds_4 : decode cX6_kinds 4 = .ok (.iload_n 1, 1) := by decide +kernel
theorem dX6_kinds_5 : decode cX6_kinds 5 = .ok (.invokevirtual 142, 3) := by decide +kernel
theorem dX6_kinds_8 : decode cX6_kinds 8 = .ok (.ifCond .eq 13, 3) := by decide +kernel
theorem dX6_kinds_11 : decode cX6_kinds 11 = .ok (.iload_n 2, 1) := by decide +kernel
theorem dX6_kinds_12 : decode cX6_kinds 12 = .ok (.ifCond .lt 9, 3) := by decide +kernel
theorem dX6_kinds_15 : decode cX6_kinds 15 = .ok (.iload_n 2, 1) := by decide +kernel
theorem dX6_kinds_16 : decode cX6_kinds 16 = .ok (.bipush 99, 2) := by decide +kernel
theorem dX6_kinds_18 : decode cX6_kinds 18 = .ok (.if_icmp .le 6, 3) := by decide +kernel
theorem dX6_kinds_21 : decode cX6_kinds 21 = .ok (.ldc 69, 2) := by decide +kernel
theorem dX6_kinds_23 : decode cX6_kinds 23 = .ok (.ireturn, 1) := by decide +kernel
theorem dX6_kinds_24 : decode cX6_kinds 24 = .ok (.aload_n 0, 1) := by decide +kernel
theorem dX6_kinds_25 : decode cX6_kinds 25 = .ok (.getfield 55, 3) := by decide +kernel
theorem dX6_kinds_28 : decode cX6_kinds 28 = .ok (.aload_n 0, 1) := by decide +kernel
theorem dX6_kinds_29 : decode cX6_kinds 29 = .ok (.getfield 51, 3) := by decide +kernel
theorem dX6_kinds_32 : decode cX6_kinds 32 = .ok (.invokevirtual 129, 3) := by decide +kernel
theorem dX6_kinds_35 : decode cX6_kinds 35 = .ok (.aload_n 0, 1) := by decide +kernel
theorem dX6_kinds_36 : decode cX6_kinds 36 = .ok (.getfield 55, 3) := by decide +kernel
theorem dX6_kinds_39 : decode cX6_kinds 39 = .ok (.iload_n 1, 1) := by decide +kernel
theorem dX6_kinds_40 : decode cX6_kinds 40 = .ok (.invokevirtual 175, 3) := by decide +kernel
theorem dX6_kinds_43 : decode cX6_kinds 43 = .ok (.istore_n 3, 1) := by decide +kernel
theorem dX6_kinds_44 : decode cX6_kinds 44 = .ok (.iconst 0, 1) := by decide +kernel
theorem dX6_kinds_45 : decode cX6_kinds 45 = .ok (.istore 4, 2) := by decide +kernel
theorem dX6_kinds_47 : decode cX6_kinds 47 = .ok (.iconst 1, 1) := by decide +kernel
theorem dX6_kinds_48 : decode cX6_kinds 48 = .ok (.istore 5, 2) := by decide +kernel
theorem dX6_kinds_50 : decode cX6_kinds 50 = .ok (.iload 5, 2) := by decide +kernel
theorem dX6_kinds_52 : decode cX6_kinds 52 = .ok (.iconst 5, 1) := by decide +kernel
theorem dX6_kinds_53 : decode cX6_kinds 53 = .ok (.if_icmp .gt 66, 3) := by decide +kernel
theorem dX6_kinds_56 : decode cX6_kinds 56 = .ok (.aload_n 0, 1) := by decide +kernel
theorem dX6_kinds_57 : decode cX6_kinds 57 = .ok (.getfield 55, 3) := by decide +kernel
theorem dX6_kinds_60 : decode cX6_kinds 60 = .ok (.getfield 148, 3) := by decide +kernel
theorem dX6_kinds_63 : decode cX6_kinds 63 = .ok (.iload_n 1, 1) := by decide +kernel
theorem dX6_kinds_64 : decode cX6_kinds 64 = .ok (.iload 5, 2) := by decide +kernel
theorem dX6_kinds_66 : decode cX6_kinds 66 = .ok (.iastore, 1) := by decide +kernel
theorem dX6_kinds_67 : decode cX6_kinds 67 = .ok (.aload_n 0, 1) := by decide +kernel
theorem dX6_kinds_68 : decode cX6_kinds 68 = .ok (.getfield 31, 3) := by decide +kernel
theorem dX6_kinds_71 : decode cX6_kinds 71 = .ok (.aload_n 0, 1) := by decide +kernel
theorem dX6_kinds_72 : decode cX6_kinds 72 = .ok (.getfield 55, 3) := by decide +kernel
theorem dX6_kinds_75 : decode cX6_kinds 75 = .ok (.iload_n 3, 1) := by decide +kernel
theorem dX6_kinds_76 : decode cX6_kinds 76 = .ok (.invokevirtual 239, 3) := by decide +kernel
theorem dX6_kinds_79 : decode cX6_kinds 79 = .ok (.aload_n 0, 1) := by decide +kernel
theorem dX6_kinds_80 : decode cX6_kinds 80 = .ok (.getfield 31, 3) := by decide +kernel
theorem dX6_kinds_83 : decode cX6_kinds 83 = .ok (.aload_n 0, 1) := by decide +kernel
theorem dX6_kinds_84 : decode cX6_kinds 84 = .ok (.getfield 55, 3) := by decide +kernel
theorem dX6_kinds_87 : decode cX6_kinds 87 = .ok (.getfield 200, 3) := by decide +kernel
theorem dX6_kinds_90 : decode cX6_kinds 90 = .ok (.aload_n 0, 1) := by decide +kernel
theorem dX6_kinds_91 : decode cX6_kinds 91 = .ok (.getfield 55, 3) := by decide +kernel
theorem dX6_kinds_94 : decode cX6_kinds 94 = .ok (.getfield 203, 3) := by decide +kernel
theorem dX6_kinds_97 : decode cX6_kinds 97 = .ok (.invokevirtual 243, 3) := by decide +kernel
theorem dX6_kinds_100 : decode cX6_kinds 100 = .ok (.iload_n 2, 1) := by decide +kernel
theorem dX6_kinds_101 : decode cX6_kinds 101 = .ok (.if_icmp .ne 12, 3) := by decide +kernel
theorem dX6_kinds_104 : decode cX6_kinds 104 = .ok (.iload 4, 2) := by decide +kernel
theorem dX6_kinds_106 : decode cX6_kinds 106 = .ok (.iconst 1, 1) := by decide +kernel
theorem dX6_kinds_107 : decode cX6_kinds 107 = .ok (.iload 5, 2) := by decide +kernel
theorem dX6_kinds_109 : decode cX6_kinds 109 = .ok (.ishl, 1) := by decide +kernel
theorem dX6_kinds_110 : decode cX6_kinds 110 = .ok (.ior, 1) := by decide +kernel
theorem dX6_kinds_111 : decode cX6_kinds 111 = .ok (.istore 4, 2) := by decide +kernel
theorem dX6_kinds_113 : decode cX6_kinds 113 = .ok (.iinc 5 1, 3) := by decide +kernel
theorem dX6_kinds_116 : decode cX6_kinds 116 = .ok (.goto (-66), 3) := by decide +kernel
theorem dX6_kinds_119 : decode cX6_kinds 119 = .ok (.iload 4, 2) := by decide +kernel
theorem dX6_kinds_121 : decode cX6_kinds 121 = .ok (.ireturn, 1) := by decide +kernel
theorem dX6_who_0 : decode cX6_who 0 = .ok (.aload_n 0, 1) := by decide +kernel
theorem dX6_who_1 : decode cX6_who 1 = .ok (.getfield 51, 3) := by decide +kernel
theorem dX6_who_4 : decode cX6_who 4 = .ok (.iload_n 1, 1) := by decide +kernel
theorem dX6_who_5 : decode cX6_who 5 = .ok (.invokevirtual 142, 3) := by decide +kernel
theorem dX6_who_8 : decode cX6_who 8 = .ok (.ifCond .eq 19, 3) := by decide +kernel
theorem dX6_who_11 : decode cX6_who 11 = .ok (.iload_n 2, 1) := by decide +kernel
theorem dX6_who_12 : decode cX6_who 12 = .ok (.ifCond .lt 15, 3) := by decide +kernel
theorem dX6_who_15 : decode cX6_who 15 = .ok (.iload_n 2, 1) := by decide +kernel
theorem dX6_who_16 : decode cX6_who 16 = .ok (.iconst 2, 1) := by decide +kernel
theorem dX6_who_17 : decode cX6_who 17 = .ok (.if_icmp .gt 10, 3) := by decide +kernel
theorem dX6_who_20 : decode cX6_who 20 = .ok (.iload_n 3, 1) := by decide +kernel
theorem dX6_who_21 : decode cX6_who 21 = .ok (.invokestatic 65, 3) := by decide +kernel
theorem dX6_who_24 : decode cX6_who 24 = .ok (.ifCond .ne 6, 3) := by decide +kernel
theorem dX6_who_27 : decode cX6_who 27 = .ok (.ldc 69, 2) := by decide +kernel
theorem dX6_who_29 : decode cX6_who 29 = .ok (.ireturn, 1) := by decide +kernel
theorem dX6_who_30 : decode cX6_who 30 = .ok (.aload_n 0, 1) := by decide +kernel
theorem dX6_who_31 : decode cX6_who 31 = .ok (.getfield 11, 3) := by decide +kernel
theorem dX6_who_34 : decode cX6_who 34 = .ok (.iload_n 3, 1) := by decide +kernel
theorem dX6_who_35 : decode cX6_who 35 = .ok (.aaload, 1) := by decide +kernel
theorem dX6_who_36 : decode cX6_who 36 = .ok (.astore 5, 2) := by decide +kernel
theorem dX6_who_38 : decode cX6_who 38 = .ok (.aload 5, 2) := by decide +kernel
theorem dX6_who_40 : decode cX6_who 40 = .ok (.invokevirtual 82, 3) := by decide +kernel
theorem dX6_who_43 : decode cX6_who 43 = .ok (.ifCond .eq 9, 3) := by decide +kernel
theorem dX6_who_46 : decode cX6_who 46 = .ok (.aload_n 0, 1) := by decide +kernel
theorem dX6_who_47 : decode cX6_who 47 = .ok (.iconst 1, 1) := by decide +kernel
theorem dX6_who_48 : decode cX6_who 48 = .ok (.invokevirtual 70, 3) := by decide +kernel
theorem dX6_who_51 : decode cX6_who 51 = .ok (.ireturn, 1) := by decide +kernel
theorem dX6_who_52 : decode cX6_who 52 = .ok (.aload 5, 2) := by decide +kernel
theorem dX6_who_54 : decode cX6_who 54 = .ok (.iload 4, 2) := by decide +kernel
theorem dX6_who_56 : decode cX6_who 56 = .ok (.aload_n 0, 1) := by decide +kernel
theorem dX6_who_57 : decode cX6_who 57 = .ok (.getfield 51, 3) := by decide +kernel
theorem dX6_who_60 : decode cX6_who 60 = .ok (.getfield 135, 3) := by decide +kernel
theorem dX6_who_63 : decode cX6_who 63 = .ok (.invokevirtual 86, 3) := by decide +kernel
theorem dX6_who_66 : decode cX6_who 66 = .ok (.ifCond .ne 9, 3) := by decide +kernel
theorem dX6_who_69 : decode cX6_who 69 = .ok (.aload_n 0, 1) := by decide +kernel
theorem dX6_who_70 : decode cX6_who 70 = .ok (.iconst 2, 1) := by decide +kernel
theorem dX6_who_71 : decode cX6_who 71 = .ok (.invokevirtual 70, 3) := by decide +kernel
theorem dX6_who_74 : decode cX6_who 74 = .ok (.ireturn, 1) := by decide +kernel
theorem dX6_who_75 : decode cX6_who 75 = .ok (.aload_n 0, 1) := by decide +kernel
theorem dX6_who_76 : decode cX6_who 76 = .ok (.iconst 0, 1) := by decide +kernel
theorem dX6_who_77 : decode cX6_who 77 = .ok (.putfield 74, 3) := by decide +kernel
theorem dX6_who_80 : decode cX6_who 80 = .ok (.iload_n 2, 1) := by decide +kernel
theorem dX6_who_81 : decode cX6_who 81 = .ok (.ifCond .ne 12, 3) := by decide +kernel
theorem dX6_who_84 : decode cX6_who 84 = .ok (.aload_n 0, 1) := by decide +kernel
theorem dX6_who_85 : decode cX6_who 85 = .ok (.aload 5, 2) := by decide +kernel
theorem dX6_who_87 : decode cX6_who 87 = .ok (.iload 4, 2) := by decide +kernel
theorem dX6_who_89 : decode cX6_who 89 = .ok (.invokevirtual 270, 3) := by decide +kernel
theorem dX6_who_92 : decode cX6_who 92 = .ok (.ireturn, 1) := by decide +kernel
theorem dX6_who_93 : decode cX6_who 93 = .ok (.iload_n 2, 1) := by decide +kernel
theorem dX6_who_94 : decode cX6_who 94 = .ok (.iconst 1, 1) := by decide +kernel
theorem dX6_who_95 : decode cX6_who 95 = .ok (.if_icmp .ne 14, 3) := by decide +kernel
theorem dX6_who_98 : decode cX6_who 98 = .ok (.aload_n 0, 1) := by decide +kernel
theorem dX6_who_99 : decode cX6_who 99 = .ok (.aload 5, 2) := by decide +kernel
theorem dX6_who_101 : decode cX6_who 101 = .ok (.iload 4, 2) := by decide +kernel
theorem dX6_who_103 : decode cX6_who 103 = .ok (.invokevirtual 274, 3) := by decide +kernel
theorem dX6_who_106 : decode cX6_who 106 = .ok (.goto 12, 3) := by decide +kernel
theorem dX6_who_109 : decode cX6_who 109 = .ok (.aload_n 0, 1) := by decide +kernel
theorem dX6_who_110 : decode cX6_who 110 = .ok (.iload_n 1, 1) := by decide +kernel
theorem dX6_who_111 : decode cX6_who 111 = .ok (.aload 5, 2) := by decide +kernel
theorem dX6_who_113 : decode cX6_who 113 = .ok (.iload 4, 2) := by decide +kernel
theorem dX6_who_115 : decode cX6_who 115 = .ok (.invokevirtual 277, 3) := by decide +kernel
theorem dX6_who_118 : decode cX6_who 118 = .ok (.ireturn, 1) := by decide +kernel
theorem dX6_stressed_0 : decode cX6_stressed 0 = .ok (.aload_n 0, 1) := by decide +kernel
theorem dX6_stressed_1 : decode cX6_stressed 1 = .ok (.getfield 51, 3) := by decide +kernel
theorem dX6_stressed_4 : decode cX6_stressed 4 = .ok (.iload_n 1, 1) := by decide +kernel
theorem dX6_stressed_5 : decode cX6_stressed 5 = .ok (.invokevirtual 155, 3) := by decide +kernel
theorem dX6_stressed_8 : decode cX6_stressed 8 = .ok (.ifCond .eq 13, 3) := by decide +kernel
theorem dX6_stressed_11 : decode cX6_stressed 11 = .ok (.iload_n 2, 1) := by decide +kernel
theorem dX6_stressed_12 : decode cX6_stressed 12 = .ok (.ifCond .lt 9, 3) := by decide +kernel
theorem dX6_stressed_15 : decode cX6_stressed 15 = .ok (.iload_n 2, 1) := by decide +kernel
theorem dX6_stressed_16 : decode cX6_stressed 16 = .ok (.bipush 99, 2) := by decide +kernel
theorem dX6_stressed_18 : decode cX6_stressed 18 = .ok (.if_icmp .le 7, 3) := by decide +kernel
theorem dX6_stressed_21 : decode cX6_stressed 21 = .ok (.ldc2_w 281, 3) := by decide +kernel
theorem dX6_stressed_24 : decode cX6_stressed 24 = .ok (.lreturn, 1) := by decide +kernel
theorem dX6_stressed_25 : decode cX6_stressed 25 = .ok (.iload_n 3, 1) := by decide +kernel
theorem dX6_stressed_26 : decode cX6_stressed 26 = .ok (.ifCond .lt 20, 3) := by decide +kernel
theorem dX6_stressed_29 : decode cX6_stressed 29 = .ok (.iload_n 3, 1) := by decide +kernel
theorem dX6_stressed_30 : decode cX6_stressed 30 = .ok (.bipush 10, 2) := by decide +kernel
theorem dX6_stressed_32 : decode cX6_stressed 32 = .ok (.if_icmp .gt 14, 3) := by decide +kernel
theorem dX6_stressed_35 : decode cX6_stressed 35 = .ok (.iload 4, 2) := by decide +kernel
theorem dX6_stressed_37 : decode cX6_stressed 37 = .ok (.ifCond .lt 9, 3) := by decide +kernel
theorem dX6_stressed_40 : decode cX6_stressed 40 = .ok (.iload 4, 2) := by decide +kernel
theorem dX6_stressed_42 : decode cX6_stressed 42 = .ok (.iconst 1, 1) := by decide +kernel
theorem dX6_stressed_43 : decode cX6_stressed 43 = .ok (.if_icmp .le 7, 3) := by decide +kernel
theorem dX6_stressed_46 : decode cX6_stressed 46 = .ok (.ldc2_w 281, 3) := by decide +kernel
theorem dX6_stressed_49 : decode cX6_stressed 49 = .ok (.lreturn, 1) := by decide +kernel
theorem dX6_stressed_50 : decode cX6_stressed 50 = .ok (.aload_n 0, 1) := by decide +kernel
theorem dX6_stressed_51 : decode cX6_stressed 51 = .ok (.getfield 31, 3) := by decide +kernel
theorem dX6_stressed_54 : decode cX6_stressed 54 = .ok (.aload_n 0, 1) := by decide +kernel
theorem dX6_stressed_55 : decode cX6_stressed 55 = .ok (.getfield 51, 3) := by decide +kernel
theorem dX6_stressed_58 : decode cX6_stressed 58 = .ok (.iload_n 1, 1) := by decide +kernel
theorem dX6_stressed_59 : decode cX6_stressed 59 = .ok (.invokevirtual 239, 3) := by decide +kernel
theorem dX6_stressed_62 : decode cX6_stressed 62 = .ok (.aload_n 0, 1) := by decide +kernel
theorem dX6_stressed_63 : decode cX6_stressed 63 = .ok (.getfield 31, 3) := by decide +kernel
theorem dX6_stressed_66 : decode cX6_stressed 66 = .ok (.getfield 283, 3) := by decide +kernel
theorem dX6_stressed_69 : decode cX6_stressed 69 = .ok (.invokestatic 286, 3) := by decide +kernel
theorem dX6_stressed_72 : decode cX6_stressed 72 = .ok (.istore 5, 2) := by decide +kernel
theorem dX6_stressed_74 : decode cX6_stressed 74 = .ok (.iload 5, 2) := by decide +kernel
theorem dX6_stressed_76 : decode cX6_stressed 76 = .ok (.bipush 8, 2) := by decide +kernel
theorem dX6_stressed_78 : decode cX6_stressed 78 = .ok (.if_icmp .le 7, 3) := by decide +kernel
theorem dX6_stressed_81 : decode cX6_stressed 81 = .ok (.ldc2_w 291, 3) := by decide +kernel
theorem dX6_stressed_84 : decode cX6_stressed 84 = .ok (.lreturn, 1) := by decide +kernel
theorem dX6_stressed_85 : decode cX6_stressed 85 = .ok (.aload_n 0, 1) := by decide +kernel
theorem dX6_stressed_86 : decode cX6_stressed 86 = .ok (.iload_n 2, 1) := by decide +kernel
theorem dX6_stressed_87 : decode cX6_stressed 87 = .ok (.iload 5, 2) := by decide +kernel
theorem dX6_stressed_89 : decode cX6_stressed 89 = .ok (.invokevirtual 293, 3) := by decide +kernel
theorem dX6_stressed_92 : decode cX6_stressed 92 = .ok (.lconst 0, 1) := by decide +kernel
theorem dX6_stressed_93 : decode cX6_stressed 93 = .ok (.lstore 6, 2) := by decide +kernel
theorem dX6_stressed_95 : decode cX6_stressed 95 = .ok (.iconst 0, 1) := by decide +kernel
theorem dX6_stressed_96 : decode cX6_stressed 96 = .ok (.istore 8, 2) := by decide +kernel
theorem dX6_stressed_98 : decode cX6_stressed 98 = .ok (.iload 8, 2) := by decide +kernel
theorem dX6_stressed_100 : decode cX6_stressed 100 = .ok (.iload 5, 2) := by decide +kernel
theorem dX6_stressed_102 : decode cX6_stressed 102 = .ok (.if_icmp .gt 42, 3) := by decide +kernel
theorem dX6_stressed_105 : decode cX6_stressed 105 = .ok (.lload 6, 2) := by decide +kernel
theorem dX6_stressed_107 : decode cX6_stressed 107 = .ok (.aload_n 0, 1) := by decide +kernel
theorem dX6_stressed_108 : decode cX6_stressed 108 = .ok (.getfield 35, 3) := by decide +kernel
theorem dX6_stressed_111 : decode cX6_stressed 111 = .ok (.iload 8, 2) := by decide +kernel
theorem dX6_stressed_113 : decode cX6_stressed 113 = .ok (.iaload, 1) := by decide +kernel
theorem dX6_stressed_114 : decode cX6_stressed 114 = .ok (.i2l, 1) := by decide +kernel
theorem dX6_stressed_115 : decode cX6_stressed 115 = .ok (.iload_n 3, 1) := by decide +kernel
theorem dX6_stressed_116 : decode cX6_stressed 116 = .ok (.iload 8, 2) := by decide +kernel
theorem dX6_stressed_118 : decode cX6_stressed 118 = .ok (.invokestatic 296, 3) := by decide +kernel
theorem dX6_stressed_121 : decode cX6_stressed 121 = .ok (.lmul, 1) := by decide +kernel
theorem dX6_stressed_122 : decode cX6_stressed 122 = .ok (.bipush 10, 2) := by decide +kernel
theorem dX6_stressed_124 : decode cX6_stressed 124 = .ok (.iload_n 3, 1) := by decide +kernel
theorem dX6_stressed_125 : decode cX6_stressed 125 = .ok (.isub, 1) := by decide +kernel
theorem dX6_stressed_126 : decode cX6_stressed 126 = .ok (.iload 5, 2) := by decide +kernel
theorem dX6_stressed_128 : decode cX6_stressed 128 = .ok (.iload 8, 2) := by decide +kernel
theorem dX6_stressed_130 : decode cX6_stressed 130 = .ok (.isub, 1) := by decide +kernel
theorem dX6_stressed_131 : decode cX6_stressed 131 = .ok (.invokestatic 296, 3) := by decide +kernel
theorem dX6_stressed_134 : decode cX6_stressed 134 = .ok (.lmul, 1) := by decide +kernel
theorem dX6_stressed_135 : decode cX6_stressed 135 = .ok (.ladd, 1) := by decide +kernel
theorem dX6_stressed_136 : decode cX6_stressed 136 = .ok (.lstore 6, 2) := by decide +kernel
theorem dX6_stressed_138 : decode cX6_stressed 138 = .ok (.iinc 8 1, 3) := by decide +kernel
theorem dX6_stressed_141 : decode cX6_stressed 141 = .ok (.goto (-43), 3) := by decide +kernel
theorem dX6_stressed_144 : decode cX6_stressed 144 = .ok (.bipush 10, 2) := by decide +kernel
theorem dX6_stressed_146 : decode cX6_stressed 146 = .ok (.iload 5, 2) := by decide +kernel
theorem dX6_stressed_148 : decode cX6_stressed 148 = .ok (.invokestatic 296, 3) := by decide +kernel
theorem dX6_stressed_151 : decode cX6_stressed 151 = .ok (.lstore 8, 2) := by decide +kernel
theorem dX6_stressed_153 : decode cX6_stressed 153 = .ok (.lconst 1, 1) := by decide +kernel
theorem dX6_stressed_154 : decode cX6_stressed 154 = .ok (.lload 8, 2) := by decide +kernel
theorem dX6_stressed_156 : decode cX6_stressed 156 = .ok (.lload 6, 2) := by decide +kernel
theorem dX6_stressed_158 : decode cX6_stressed 158 = .ok (.invokestatic 300, 3) := by decide +kernel
theorem dX6_stressed_161 : decode cX6_stressed 161 = .ok (.invokestatic 304, 3) := by decide +kernel
theorem dX6_stressed_164 : decode cX6_stressed 164 = .ok (.lstore 10, 2) := by decide +kernel
theorem dX6_stressed_166 : decode cX6_stressed 166 = .ok (.iload 4, 2) := by decide +kernel
theorem dX6_stressed_168 : decode cX6_stressed 168 = .ok (.ifCond .ne 11, 3) := by decide +kernel
theorem dX6_stressed_171 : decode cX6_stressed 171 = .ok (.lload 6, 2) := by decide +kernel
theorem dX6_stressed_173 : decode cX6_stressed 173 = .ok (.lload 10, 2) := by decide +kernel
theorem dX6_stressed_175 : decode cX6_stressed 175 = .ok (.ldiv, 1) := by decide +kernel
theorem dX6_stressed_176 : decode cX6_stressed 176 = .ok (.goto 8, 3) := by decide +kernel
theorem dX6_stressed_179 : decode cX6_stressed 179 = .ok (.lload 8, 2) := by decide +kernel
theorem dX6_stressed_181 : decode cX6_stressed 181 = .ok (.lload 10, 2) := by decide +kernel
theorem dX6_stressed_183 : decode cX6_stressed 183 = .ok (.ldiv, 1) := by decide +kernel
theorem dX6_stressed_184 : decode cX6_stressed 184 = .ok (.lreturn, 1) := by decide +kernel
theorem dX6_drawn_0 : decode cX6_drawn 0 = .ok (.aload_n 0, 1) := by decide +kernel
theorem dX6_drawn_1 : decode cX6_drawn 1 = .ok (.getfield 51, 3) := by decide +kernel
theorem dX6_drawn_4 : decode cX6_drawn 4 = .ok (.getfield 135, 3) := by decide +kernel
theorem dX6_drawn_7 : decode cX6_drawn 7 = .ok (.ifCond .ne 6, 3) := by decide +kernel
theorem dX6_drawn_10 : decode cX6_drawn 10 = .ok (.ldc 138, 2) := by decide +kernel
theorem dX6_drawn_12 : decode cX6_drawn 12 = .ok (.ireturn, 1) := by decide +kernel
theorem dX6_drawn_13 : decode cX6_drawn 13 = .ok (.iload_n 1, 1) := by decide +kernel
theorem dX6_drawn_14 : decode cX6_drawn 14 = .ok (.ifCond .lt 30, 3) := by decide +kernel
theorem dX6_drawn_17 : decode cX6_drawn 17 = .ok (.iload_n 1, 1) := by decide +kernel
theorem dX6_drawn_18 : decode cX6_drawn 18 = .ok (.bipush 20, 2) := by decide +kernel
theorem dX6_drawn_20 : decode cX6_drawn 20 = .ok (.if_icmp .gt 24, 3) := by decide +kernel
theorem dX6_drawn_23 : decode cX6_drawn 23 = .ok (.iload_n 2, 1) := by decide +kernel
theorem dX6_drawn_24 : decode cX6_drawn 24 = .ok (.iconst 1, 1) := by decide +kernel
theorem dX6_drawn_25 : decode cX6_drawn 25 = .ok (.if_icmp .lt 19, 3) := by decide +kernel
theorem dX6_drawn_28 : decode cX6_drawn 28 = .ok (.iload_n 2, 1) := by decide +kernel
theorem dX6_drawn_29 : decode cX6_drawn 29 = .ok (.ldc_w 307, 3) := by decide +kernel
theorem dX6_drawn_32 : decode cX6_drawn 32 = .ok (.if_icmp .gt 12, 3) := by decide +kernel
theorem dX6_drawn_35 : decode cX6_drawn 35 = .ok (.iload_n 3, 1) := by decide +kernel
theorem dX6_drawn_36 : decode cX6_drawn 36 = .ok (.ifCond .lt 8, 3) := by decide +kernel
theorem dX6_drawn_39 : decode cX6_drawn 39 = .ok (.iload_n 3, 1) := by decide +kernel
theorem dX6_drawn_40 : decode cX6_drawn 40 = .ok (.iconst 1, 1) := by decide +kernel
theorem dX6_drawn_41 : decode cX6_drawn 41 = .ok (.if_icmp .le 6, 3) := by decide +kernel
theorem dX6_drawn_44 : decode cX6_drawn 44 = .ok (.ldc 69, 2) := by decide +kernel
theorem dX6_drawn_46 : decode cX6_drawn 46 = .ok (.ireturn, 1) := by decide +kernel
theorem dX6_drawn_47 : decode cX6_drawn 47 = .ok (.aload_n 0, 1) := by decide +kernel
theorem dX6_drawn_48 : decode cX6_drawn 48 = .ok (.getfield 55, 3) := by decide +kernel
theorem dX6_drawn_51 : decode cX6_drawn 51 = .ok (.aload_n 0, 1) := by decide +kernel
theorem dX6_drawn_52 : decode cX6_drawn 52 = .ok (.getfield 51, 3) := by decide +kernel
theorem dX6_drawn_55 : decode cX6_drawn 55 = .ok (.invokevirtual 129, 3) := by decide +kernel
theorem dX6_drawn_58 : decode cX6_drawn 58 = .ok (.iload_n 2, 1) := by decide +kernel
theorem dX6_drawn_59 : decode cX6_drawn 59 = .ok (.i2l, 1) := by decide +kernel
theorem dX6_drawn_60 : decode cX6_drawn 60 = .ok (.lstore 4, 2) := by decide +kernel
theorem dX6_drawn_62 : decode cX6_drawn 62 = .ok (.iconst 0, 1) := by decide +kernel
theorem dX6_drawn_63 : decode cX6_drawn 63 = .ok (.istore 6, 2) := by decide +kernel
theorem dX6_drawn_65 : decode cX6_drawn 65 = .ok (.iconst 0, 1) := by decide +kernel
theorem dX6_drawn_66 : decode cX6_drawn 66 = .ok (.istore 7, 2) := by decide +kernel
theorem dX6_drawn_68 : decode cX6_drawn 68 = .ok (.iconst 0, 1) := by decide +kernel
theorem dX6_drawn_69 : decode cX6_drawn 69 = .ok (.istore 8, 2) := by decide +kernel
theorem dX6_drawn_71 : decode cX6_drawn 71 = .ok (.iload 8, 2) := by decide +kernel
theorem dX6_drawn_73 : decode cX6_drawn 73 = .ok (.iload_n 1, 1) := by decide +kernel
theorem dX6_drawn_74 : decode cX6_drawn 74 = .ok (.if_icmp .ge 49, 3) := by decide +kernel
theorem dX6_drawn_77 : decode cX6_drawn 77 = .ok (.lload 4, 2) := by decide +kernel
theorem dX6_drawn_79 : decode cX6_drawn 79 = .ok (.ldc2_w 308, 3) := by decide +kernel
theorem dX6_drawn_82 : decode cX6_drawn 82 = .ok (.lmul, 1) := by decide +kernel
theorem dX6_drawn_83 : decode cX6_drawn 83 = .ok (.ldc2_w 310, 3) := by decide +kernel
theorem dX6_drawn_86 : decode cX6_drawn 86 = .ok (.lrem, 1) := by decide +kernel
theorem dX6_drawn_87 : decode cX6_drawn 87 = .ok (.lstore 4, 2) := by decide +kernel
theorem dX6_drawn_89 : decode cX6_drawn 89 = .ok (.aload_n 0, 1) := by decide +kernel
theorem dX6_drawn_90 : decode cX6_drawn 90 = .ok (.lload 4, 2) := by decide +kernel
theorem dX6_drawn_92 : decode cX6_drawn 92 = .ok (.invokevirtual 312, 3) := by decide +kernel
theorem dX6_drawn_95 : decode cX6_drawn 95 = .ok (.istore 9, 2) := by decide +kernel
theorem dX6_drawn_97 : decode cX6_drawn 97 = .ok (.iload 9, 2) := by decide +kernel
theorem dX6_drawn_99 : decode cX6_drawn 99 = .ok (.ldc 210, 2) := by decide +kernel
theorem dX6_drawn_101 : decode cX6_drawn 101 = .ok (.if_icmp .ne 9, 3) := by decide +kernel
theorem dX6_drawn_104 : decode cX6_drawn 104 = .ok (.iinc 7 1, 3) := by decide +kernel
theorem dX6_drawn_107 : decode cX6_drawn 107 = .ok (.goto 10, 3) := by decide +kernel
theorem dX6_drawn_110 : decode cX6_drawn 110 = .ok (.iload 6, 2) := by decide +kernel
theorem dX6_drawn_112 : decode cX6_drawn 112 = .ok (.iload 9, 2) := by decide +kernel
theorem dX6_drawn_114 : decode cX6_drawn 114 = .ok (.iadd, 1) := by decide +kernel
theorem dX6_drawn_115 : decode cX6_drawn 115 = .ok (.istore 6, 2) := by decide +kernel
theorem dX6_drawn_117 : decode cX6_drawn 117 = .ok (.iinc 8 1, 3) := by decide +kernel
theorem dX6_drawn_120 : decode cX6_drawn 120 = .ok (.goto (-49), 3) := by decide +kernel
theorem dX6_drawn_123 : decode cX6_drawn 123 = .ok (.iload_n 3, 1) := by decide +kernel
theorem dX6_drawn_124 : decode cX6_drawn 124 = .ok (.ifCond .ne 8, 3) := by decide +kernel
theorem dX6_drawn_127 : decode cX6_drawn 127 = .ok (.iload 6, 2) := by decide +kernel
theorem dX6_drawn_129 : decode cX6_drawn 129 = .ok (.goto 5, 3) := by decide +kernel
theorem dX6_drawn_132 : decode cX6_drawn 132 = .ok (.iload 7, 2) := by decide +kernel
theorem dX6_drawn_134 : decode cX6_drawn 134 = .ok (.ireturn, 1) := by decide +kernel
theorem dX6_image_0 : decode cX6_image 0 = .ok (.iload_n 1, 1) := by decide +kernel
theorem dX6_image_1 : decode cX6_image 1 = .ok (.ifCond .lt 8, 3) := by decide +kernel
theorem dX6_image_4 : decode cX6_image 4 = .ok (.iload_n 1, 1) := by decide +kernel
theorem dX6_image_5 : decode cX6_image 5 = .ok (.iconst 2, 1) := by decide +kernel
theorem dX6_image_6 : decode cX6_image 6 = .ok (.if_icmp .lt 6, 3) := by decide +kernel
theorem dX6_image_9 : decode cX6_image 9 = .ok (.ldc 69, 2) := by decide +kernel
theorem dX6_image_11 : decode cX6_image 11 = .ok (.ireturn, 1) := by decide +kernel
theorem dX6_image_12 : decode cX6_image 12 = .ok (.aload_n 0, 1) := by decide +kernel
theorem dX6_image_13 : decode cX6_image 13 = .ok (.getfield 51, 3) := by decide +kernel
theorem dX6_image_16 : decode cX6_image 16 = .ok (.getfield 135, 3) := by decide +kernel
theorem dX6_image_19 : decode cX6_image 19 = .ok (.ifCond .ne 6, 3) := by decide +kernel
theorem dX6_image_22 : decode cX6_image 22 = .ok (.ldc 138, 2) := by decide +kernel
theorem dX6_image_24 : decode cX6_image 24 = .ok (.ireturn, 1) := by decide +kernel
theorem dX6_image_25 : decode cX6_image 25 = .ok (.aload_n 0, 1) := by decide +kernel
theorem dX6_image_26 : decode cX6_image 26 = .ok (.getfield 24, 3) := by decide +kernel
theorem dX6_image_29 : decode cX6_image 29 = .ok (.iload_n 1, 1) := by decide +kernel
theorem dX6_image_30 : decode cX6_image 30 = .ok (.aaload, 1) := by decide +kernel
theorem dX6_image_31 : decode cX6_image 31 = .ok (.aload_n 0, 1) := by decide +kernel
theorem dX6_image_32 : decode cX6_image 32 = .ok (.getfield 51, 3) := by decide +kernel
theorem dX6_image_35 : decode cX6_image 35 = .ok (.invokevirtual 129, 3) := by decide +kernel
theorem dX6_image_38 : decode cX6_image 38 = .ok (.iconst 1, 1) := by decide +kernel
theorem dX6_image_39 : decode cX6_image 39 = .ok (.ireturn, 1) := by decide +kernel
theorem dX6_restore_0 : decode cX6_restore 0 = .ok (.iload_n 1, 1) := by decide +kernel
theorem dX6_restore_1 : decode cX6_restore 1 = .ok (.ifCond .lt 8, 3) := by decide +kernel
theorem dX6_restore_4 : decode cX6_restore 4 = .ok (.iload_n 1, 1) := by decide +kernel
theorem dX6_restore_5 : decode cX6_restore 5 = .ok (.iconst 2, 1) := by decide +kernel
theorem dX6_restore_6 : decode cX6_restore 6 = .ok (.if_icmp .lt 6, 3) := by decide +kernel
theorem dX6_restore_9 : decode cX6_restore 9 = .ok (.ldc 69, 2) := by decide +kernel
theorem dX6_restore_11 : decode cX6_restore 11 = .ok (.ireturn, 1) := by decide +kernel
theorem dX6_restore_12 : decode cX6_restore 12 = .ok (.aload_n 0, 1) := by decide +kernel
theorem dX6_restore_13 : decode cX6_restore 13 = .ok (.getfield 24, 3) := by decide +kernel
theorem dX6_restore_16 : decode cX6_restore 16 = .ok (.iload_n 1, 1) := by decide +kernel
theorem dX6_restore_17 : decode cX6_restore 17 = .ok (.aaload, 1) := by decide +kernel
theorem dX6_restore_18 : decode cX6_restore 18 = .ok (.getfield 135, 3) := by decide +kernel
theorem dX6_restore_21 : decode cX6_restore 21 = .ok (.ifCond .ne 6, 3) := by decide +kernel
theorem dX6_restore_24 : decode cX6_restore 24 = .ok (.ldc 138, 2) := by decide +kernel
theorem dX6_restore_26 : decode cX6_restore 26 = .ok (.ireturn, 1) := by decide +kernel
theorem dX6_restore_27 : decode cX6_restore 27 = .ok (.aload_n 0, 1) := by decide +kernel
theorem dX6_restore_28 : decode cX6_restore 28 = .ok (.getfield 51, 3) := by decide +kernel
theorem dX6_restore_31 : decode cX6_restore 31 = .ok (.aload_n 0, 1) := by decide +kernel
theorem dX6_restore_32 : decode cX6_restore 32 = .ok (.getfield 24, 3) := by decide +kernel
theorem dX6_restore_35 : decode cX6_restore 35 = .ok (.iload_n 1, 1) := by decide +kernel
theorem dX6_restore_36 : decode cX6_restore 36 = .ok (.aaload, 1) := by decide +kernel
theorem dX6_restore_37 : decode cX6_restore 37 = .ok (.invokevirtual 129, 3) := by decide +kernel
theorem dX6_restore_40 : decode cX6_restore 40 = .ok (.aload_n 0, 1) := by decide +kernel
theorem dX6_restore_41 : decode cX6_restore 41 = .ok (.getfield 61, 3) := by decide +kernel
theorem dX6_restore_44 : decode cX6_restore 44 = .ok (.iconst 0, 1) := by decide +kernel
theorem dX6_restore_45 : decode cX6_restore 45 = .ok (.putfield 132, 3) := by decide +kernel
theorem dX6_restore_48 : decode cX6_restore 48 = .ok (.iconst 1, 1) := by decide +kernel
theorem dX6_restore_49 : decode cX6_restore 49 = .ok (.ireturn, 1) := by decide +kernel
theorem dX6_kind_0 : decode cX6_kind 0 = .ok (.aload_n 0, 1) := by decide +kernel
theorem dX6_kind_1 : decode cX6_kind 1 = .ok (.getfield 51, 3) := by decide +kernel
theorem dX6_kind_4 : decode cX6_kind 4 = .ok (.iload_n 1, 1) := by decide +kernel
theorem dX6_kind_5 : decode cX6_kind 5 = .ok (.invokevirtual 142, 3) := by decide +kernel
theorem dX6_kind_8 : decode cX6_kind 8 = .ok (.ifCond .eq 15, 3) := by decide +kernel
theorem dX6_kind_11 : decode cX6_kind 11 = .ok (.aload_n 0, 1) := by decide +kernel
theorem dX6_kind_12 : decode cX6_kind 12 = .ok (.getfield 51, 3) := by decide +kernel
theorem dX6_kind_15 : decode cX6_kind 15 = .ok (.getfield 148, 3) := by decide +kernel
theorem dX6_kind_18 : decode cX6_kind 18 = .ok (.iload_n 1, 1) := by decide +kernel
theorem dX6_kind_19 : decode cX6_kind 19 = .ok (.iaload, 1) := by decide +kernel
theorem dX6_kind_20 : decode cX6_kind 20 = .ok (.goto 5, 3) := by decide +kernel
theorem dX6_kind_23 : decode cX6_kind 23 = .ok (.ldc 69, 2) := by decide +kernel
theorem dX6_kind_25 : decode cX6_kind 25 = .ok (.ireturn, 1) := by decide +kernel
theorem dX6_as_0 : decode cX6_as 0 = .ok (.aload_n 0, 1) := by decide +kernel
theorem dX6_as_1 : decode cX6_as 1 = .ok (.getfield 51, 3) := by decide +kernel
theorem dX6_as_4 : decode cX6_as 4 = .ok (.iload_n 1, 1) := by decide +kernel
theorem dX6_as_5 : decode cX6_as 5 = .ok (.invokevirtual 142, 3) := by decide +kernel
theorem dX6_as_8 : decode cX6_as 8 = .ok (.ifCond .eq 12, 3) := by decide +kernel
theorem dX6_as_11 : decode cX6_as 11 = .ok (.iload_n 2, 1) := by decide +kernel
theorem dX6_as_12 : decode cX6_as 12 = .ok (.ifCond .lt 8, 3) := by decide +kernel
theorem dX6_as_15 : decode cX6_as 15 = .ok (.iload_n 2, 1) := by decide +kernel
theorem dX6_as_16 : decode cX6_as 16 = .ok (.iconst 5, 1) := by decide +kernel
theorem dX6_as_17 : decode cX6_as 17 = .ok (.if_icmp .le 6, 3) := by decide +kernel
theorem dX6_as_20 : decode cX6_as 20 = .ok (.ldc 69, 2) := by decide +kernel
theorem dX6_as_22 : decode cX6_as 22 = .ok (.ireturn, 1) := by decide +kernel
theorem dX6_as_23 : decode cX6_as 23 = .ok (.aload_n 0, 1) := by decide +kernel
theorem dX6_as_24 : decode cX6_as 24 = .ok (.getfield 51, 3) := by decide +kernel
theorem dX6_as_27 : decode cX6_as 27 = .ok (.getfield 148, 3) := by decide +kernel
theorem dX6_as_30 : decode cX6_as 30 = .ok (.iload_n 1, 1) := by decide +kernel
theorem dX6_as_31 : decode cX6_as 31 = .ok (.iaload, 1) := by decide +kernel
theorem dX6_as_32 : decode cX6_as 32 = .ok (.iload_n 2, 1) := by decide +kernel
theorem dX6_as_33 : decode cX6_as 33 = .ok (.invokestatic 316, 3) := by decide +kernel
theorem dX6_as_36 : decode cX6_as 36 = .ok (.ifCond .ne 9, 3) := by decide +kernel
theorem dX6_as_39 : decode cX6_as 39 = .ok (.aload_n 0, 1) := by decide +kernel
theorem dX6_as_40 : decode cX6_as 40 = .ok (.iconst 3, 1) := by decide +kernel
theorem dX6_as_41 : decode cX6_as 41 = .ok (.invokevirtual 70, 3) := by decide +kernel
theorem dX6_as_44 : decode cX6_as 44 = .ok (.ireturn, 1) := by decide +kernel
theorem dX6_as_45 : decode cX6_as 45 = .ok (.aload_n 0, 1) := by decide +kernel
theorem dX6_as_46 : decode cX6_as 46 = .ok (.iconst 0, 1) := by decide +kernel
theorem dX6_as_47 : decode cX6_as 47 = .ok (.putfield 74, 3) := by decide +kernel
theorem dX6_as_50 : decode cX6_as 50 = .ok (.iload_n 1, 1) := by decide +kernel
theorem dX6_as_51 : decode cX6_as 51 = .ok (.ireturn, 1) := by decide +kernel
theorem dX6_ask_0 : decode cX6_ask 0 = .ok (.aload_n 0, 1) := by decide +kernel
theorem dX6_ask_1 : decode cX6_ask 1 = .ok (.getfield 51, 3) := by decide +kernel
theorem dX6_ask_4 : decode cX6_ask 4 = .ok (.iload_n 1, 1) := by decide +kernel
theorem dX6_ask_5 : decode cX6_ask 5 = .ok (.invokevirtual 142, 3) := by decide +kernel
theorem dX6_ask_8 : decode cX6_ask 8 = .ok (.ifCond .eq 12, 3) := by decide +kernel
theorem dX6_ask_11 : decode cX6_ask 11 = .ok (.iload_n 2, 1) := by decide +kernel
theorem dX6_ask_12 : decode cX6_ask 12 = .ok (.ifCond .lt 8, 3) := by decide +kernel
theorem dX6_ask_15 : decode cX6_ask 15 = .ok (.iload_n 2, 1) := by decide +kernel
theorem dX6_ask_16 : decode cX6_ask 16 = .ok (.iconst 1, 1) := by decide +kernel
theorem dX6_ask_17 : decode cX6_ask 17 = .ok (.if_icmp .le 6, 3) := by decide +kernel
theorem dX6_ask_20 : decode cX6_ask 20 = .ok (.ldc 69, 2) := by decide +kernel
theorem dX6_ask_22 : decode cX6_ask 22 = .ok (.ireturn, 1) := by decide +kernel
theorem dX6_ask_23 : decode cX6_ask 23 = .ok (.aload_n 0, 1) := by decide +kernel
theorem dX6_ask_24 : decode cX6_ask 24 = .ok (.iconst 0, 1) := by decide +kernel
theorem dX6_ask_25 : decode cX6_ask 25 = .ok (.putfield 319, 3) := by decide +kernel
theorem dX6_ask_28 : decode cX6_ask 28 = .ok (.aload_n 0, 1) := by decide +kernel
theorem dX6_ask_29 : decode cX6_ask 29 = .ok (.aload_n 0, 1) := by decide +kernel
theorem dX6_ask_30 : decode cX6_ask 30 = .ok (.getfield 51, 3) := by decide +kernel
theorem dX6_ask_33 : decode cX6_ask 33 = .ok (.getfield 148, 3) := by decide +kernel
theorem dX6_ask_36 : decode cX6_ask 36 = .ok (.iload_n 1, 1) := by decide +kernel
theorem dX6_ask_37 : decode cX6_ask 37 = .ok (.iaload, 1) := by decide +kernel
theorem dX6_ask_38 : decode cX6_ask 38 = .ok (.iload_n 2, 1) := by decide +kernel
theorem dX6_ask_39 : decode cX6_ask 39 = .ok (.invokestatic 322, 3) := by decide +kernel
theorem dX6_ask_42 : decode cX6_ask 42 = .ok (.iload_n 1, 1) := by decide +kernel
theorem dX6_ask_43 : decode cX6_ask 43 = .ok (.iconst 0, 1) := by decide +kernel
theorem dX6_ask_44 : decode cX6_ask 44 = .ok (.invokevirtual 325, 3) := by decide +kernel
theorem dX6_ask_47 : decode cX6_ask 47 = .ok (.ireturn, 1) := by decide +kernel
theorem dX6_trace_0 : decode cX6_trace 0 = .ok (.iload_n 1, 1) := by decide +kernel
theorem dX6_trace_1 : decode cX6_trace 1 = .ok (.ifCond .lt 20, 3) := by decide +kernel
theorem dX6_trace_4 : decode cX6_trace 4 = .ok (.iload_n 1, 1) := by decide +kernel
theorem dX6_trace_5 : decode cX6_trace 5 = .ok (.aload_n 0, 1) := by decide +kernel
theorem dX6_trace_6 : decode cX6_trace 6 = .ok (.getfield 319, 3) := by decide +kernel
theorem dX6_trace_9 : decode cX6_trace 9 = .ok (.if_icmp .ge 12, 3) := by decide +kernel
theorem dX6_trace_12 : decode cX6_trace 12 = .ok (.aload_n 0, 1) := by decide +kernel
theorem dX6_trace_13 : decode cX6_trace 13 = .ok (.getfield 39, 3) := by decide +kernel
theorem dX6_trace_16 : decode cX6_trace 16 = .ok (.iload_n 1, 1) := by decide +kernel
theorem dX6_trace_17 : decode cX6_trace 17 = .ok (.iaload, 1) := by decide +kernel
theorem dX6_trace_18 : decode cX6_trace 18 = .ok (.goto 5, 3) := by decide +kernel
theorem dX6_trace_21 : decode cX6_trace 21 = .ok (.ldc 210, 2) := by decide +kernel
theorem dX6_trace_23 : decode cX6_trace 23 = .ok (.ireturn, 1) := by decide +kernel
theorem dX6_count_0 : decode cX6_count 0 = .ok (.iload_n 1, 1) := by decide +kernel
theorem dX6_count_1 : decode cX6_count 1 = .ok (.tableswitch 96 0 6 #[43, 48, 56, 64, 72, 80, 88], 43) := by decide +kernel
theorem dX6_count_44 : decode cX6_count 44 = .ok (.aload_n 0, 1) := by decide +kernel
theorem dX6_count_45 : decode cX6_count 45 = .ok (.invokevirtual 328, 3) := by decide +kernel
theorem dX6_count_48 : decode cX6_count 48 = .ok (.ireturn, 1) := by decide +kernel
theorem dX6_count_49 : decode cX6_count 49 = .ok (.aload_n 0, 1) := by decide +kernel
theorem dX6_count_50 : decode cX6_count 50 = .ok (.getfield 51, 3) := by decide +kernel
theorem dX6_count_53 : decode cX6_count 53 = .ok (.getfield 267, 3) := by decide +kernel
theorem dX6_count_56 : decode cX6_count 56 = .ok (.ireturn, 1) := by decide +kernel
theorem dX6_count_57 : decode cX6_count 57 = .ok (.aload_n 0, 1) := by decide +kernel
theorem dX6_count_58 : decode cX6_count 58 = .ok (.getfield 51, 3) := by decide +kernel
theorem dX6_count_61 : decode cX6_count 61 = .ok (.getfield 135, 3) := by decide +kernel
theorem dX6_count_64 : decode cX6_count 64 = .ok (.ireturn, 1) := by decide +kernel
theorem dX6_count_65 : decode cX6_count 65 = .ok (.aload_n 0, 1) := by decide +kernel
theorem dX6_count_66 : decode cX6_count 66 = .ok (.getfield 51, 3) := by decide +kernel
theorem dX6_count_69 : decode cX6_count 69 = .ok (.invokevirtual 331, 3) := by decide +kernel
theorem dX6_count_72 : decode cX6_count 72 = .ok (.ireturn, 1) := by decide +kernel
theorem dX6_count_73 : decode cX6_count 73 = .ok (.aload_n 0, 1) := by decide +kernel
theorem dX6_count_74 : decode cX6_count 74 = .ok (.getfield 51, 3) := by decide +kernel
theorem dX6_count_77 : decode cX6_count 77 = .ok (.invokevirtual 334, 3) := by decide +kernel
theorem dX6_count_80 : decode cX6_count 80 = .ok (.ireturn, 1) := by decide +kernel
theorem dX6_count_81 : decode cX6_count 81 = .ok (.aload_n 0, 1) := by decide +kernel
theorem dX6_count_82 : decode cX6_count 82 = .ok (.getfield 61, 3) := by decide +kernel
theorem dX6_count_85 : decode cX6_count 85 = .ok (.getfield 132, 3) := by decide +kernel
theorem dX6_count_88 : decode cX6_count 88 = .ok (.ireturn, 1) := by decide +kernel
theorem dX6_count_89 : decode cX6_count 89 = .ok (.aload_n 0, 1) := by decide +kernel
theorem dX6_count_90 : decode cX6_count 90 = .ok (.getfield 18, 3) := by decide +kernel
theorem dX6_count_93 : decode cX6_count 93 = .ok (.getfield 108, 3) := by decide +kernel
theorem dX6_count_96 : decode cX6_count 96 = .ok (.ireturn, 1) := by decide +kernel
theorem dX6_count_97 : decode cX6_count 97 = .ok (.ldc 69, 2) := by decide +kernel
theorem dX6_count_99 : decode cX6_count 99 = .ok (.ireturn, 1) := by decide +kernel
theorem dX6_status_0 : decode cX6_status 0 = .ok (.aload_n 0, 1) := by decide +kernel
theorem dX6_status_1 : decode cX6_status 1 = .ok (.getfield 74, 3) := by decide +kernel
theorem dX6_status_4 : decode cX6_status 4 = .ok (.ireturn, 1) := by decide +kernel
theorem dX6_isRow_0 : decode cX6_isRow 0 = .ok (.iload_n 0, 1) := by decide +kernel
theorem dX6_isRow_1 : decode cX6_isRow 1 = .ok (.ifCond .lt 13, 3) := by decide +kernel
theorem dX6_isRow_4 : decode cX6_isRow 4 = .ok (.iload_n 0, 1) := by decide +kernel
theorem dX6_isRow_5 : decode cX6_isRow 5 = .ok (.bipush 8, 2) := by decide +kernel
theorem dX6_isRow_7 : decode cX6_isRow 7 = .ok (.if_icmp .ge 7, 3) := by decide +kernel
theorem dX6_isRow_10 : decode cX6_isRow 10 = .ok (.iconst 1, 1) := by decide +kernel
theorem dX6_isRow_11 : decode cX6_isRow 11 = .ok (.goto 4, 3) := by decide +kernel
theorem dX6_isRow_14 : decode cX6_isRow 14 = .ok (.iconst 0, 1) := by decide +kernel
theorem dX6_isRow_15 : decode cX6_isRow 15 = .ok (.ireturn, 1) := by decide +kernel
theorem dX6_isKind_0 : decode cX6_isKind 0 = .ok (.iload_n 0, 1) := by decide +kernel
theorem dX6_isKind_1 : decode cX6_isKind 1 = .ok (.iconst 1, 1) := by decide +kernel
theorem dX6_isKind_2 : decode cX6_isKind 2 = .ok (.if_icmp .lt 12, 3) := by decide +kernel
theorem dX6_isKind_5 : decode cX6_isKind 5 = .ok (.iload_n 0, 1) := by decide +kernel
theorem dX6_isKind_6 : decode cX6_isKind 6 = .ok (.iconst 5, 1) := by decide +kernel
theorem dX6_isKind_7 : decode cX6_isKind 7 = .ok (.if_icmp .gt 7, 3) := by decide +kernel
theorem dX6_isKind_10 : decode cX6_isKind 10 = .ok (.iconst 1, 1) := by decide +kernel
theorem dX6_isKind_11 : decode cX6_isKind 11 = .ok (.goto 4, 3) := by decide +kernel
theorem dX6_isKind_14 : decode cX6_isKind 14 = .ok (.iconst 0, 1) := by decide +kernel
theorem dX6_isKind_15 : decode cX6_isKind 15 = .ok (.ireturn, 1) := by decide +kernel
theorem dX6_isMetre_0 : decode cX6_isMetre 0 = .ok (.iload_n 0, 1) := by decide +kernel
theorem dX6_isMetre_1 : decode cX6_isMetre 1 = .ok (.ifCond .lt 25, 3) := by decide +kernel
theorem dX6_isMetre_4 : decode cX6_isMetre 4 = .ok (.iload_n 0, 1) := by decide +kernel
theorem dX6_isMetre_5 : decode cX6_isMetre 5 = .ok (.getstatic 337, 3) := by decide +kernel
theorem dX6_isMetre_8 : decode cX6_isMetre 8 = .ok (.arraylength, 1) := by decide +kernel
theorem dX6_isMetre_9 : decode cX6_isMetre 9 = .ok (.if_icmp .ge 17, 3) := by decide +kernel
theorem dX6_isMetre_12 : decode cX6_isMetre 12 = .ok (.iload_n 1, 1) := by decide +kernel
theorem dX6_isMetre_13 : decode cX6_isMetre 13 = .ok (.iconst 1, 1) := by decide +kernel
theorem dX6_isMetre_14 : decode cX6_isMetre 14 = .ok (.if_icmp .lt 12, 3) := by decide +kernel
theorem dX6_isMetre_17 : decode cX6_isMetre 17 = .ok (.iload_n 1, 1) := by decide +kernel
theorem dX6_isMetre_18 : decode cX6_isMetre 18 = .ok (.iconst 5, 1) := by decide +kernel
theorem dX6_isMetre_19 : decode cX6_isMetre 19 = .ok (.if_icmp .gt 7, 3) := by decide +kernel
theorem dX6_isMetre_22 : decode cX6_isMetre 22 = .ok (.iconst 1, 1) := by decide +kernel
theorem dX6_isMetre_23 : decode cX6_isMetre 23 = .ok (.goto 4, 3) := by decide +kernel
theorem dX6_isMetre_26 : decode cX6_isMetre 26 = .ok (.iconst 0, 1) := by decide +kernel
theorem dX6_isMetre_27 : decode cX6_isMetre 27 = .ok (.ireturn, 1) := by decide +kernel
theorem dX6_isVowel_0 : decode cX6_isVowel 0 = .ok (.iload_n 0, 1) := by decide +kernel
theorem dX6_isVowel_1 : decode cX6_isVowel 1 = .ok (.ifCond .lt 24, 3) := by decide +kernel
theorem dX6_isVowel_4 : decode cX6_isVowel 4 = .ok (.iload_n 0, 1) := by decide +kernel
theorem dX6_isVowel_5 : decode cX6_isVowel 5 = .ok (.bipush 26, 2) := by decide +kernel
theorem dX6_isVowel_7 : decode cX6_isVowel 7 = .ok (.if_icmp .ge 18, 3) := by decide +kernel
theorem dX6_isVowel_10 : decode cX6_isVowel 10 = .ok (.ldc_w 340, 3) := by decide +kernel
theorem dX6_isVowel_13 : decode cX6_isVowel 13 = .ok (.iload_n 0, 1) := by decide +kernel
theorem dX6_isVowel_14 : decode cX6_isVowel 14 = .ok (.ishr, 1) := by decide +kernel
theorem dX6_isVowel_15 : decode cX6_isVowel 15 = .ok (.iconst 1, 1) := by decide +kernel
theorem dX6_isVowel_16 : decode cX6_isVowel 16 = .ok (.iand, 1) := by decide +kernel
theorem dX6_isVowel_17 : decode cX6_isVowel 17 = .ok (.iconst 1, 1) := by decide +kernel
theorem dX6_isVowel_18 : decode cX6_isVowel 18 = .ok (.if_icmp .ne 7, 3) := by decide +kernel
theorem dX6_isVowel_21 : decode cX6_isVowel 21 = .ok (.iconst 1, 1) := by decide +kernel
theorem dX6_isVowel_22 : decode cX6_isVowel 22 = .ok (.goto 4, 3) := by decide +kernel
theorem dX6_isVowel_25 : decode cX6_isVowel 25 = .ok (.iconst 0, 1) := by decide +kernel
theorem dX6_isVowel_26 : decode cX6_isVowel 26 = .ok (.ireturn, 1) := by decide +kernel
theorem dX6_areLetters_0 : decode cX6_areLetters 0 = .ok (.iconst 0, 1) := by decide +kernel
theorem dX6_areLetters_1 : decode cX6_areLetters 1 = .ok (.istore_n 2, 1) := by decide +kernel
theorem dX6_areLetters_2 : decode cX6_areLetters 2 = .ok (.iload_n 2, 1) := by decide +kernel
theorem dX6_areLetters_3 : decode cX6_areLetters 3 = .ok (.iload_n 1, 1) := by decide +kernel
theorem dX6_areLetters_4 : decode cX6_areLetters 4 = .ok (.if_icmp .ge 31, 3) := by decide +kernel
theorem dX6_areLetters_7 : decode cX6_areLetters 7 = .ok (.iload_n 2, 1) := by decide +kernel
theorem dX6_areLetters_8 : decode cX6_areLetters 8 = .ok (.aload_n 0, 1) := by decide +kernel
theorem dX6_areLetters_9 : decode cX6_areLetters 9 = .ok (.arraylength, 1) := by decide +kernel
theorem dX6_areLetters_10 : decode cX6_areLetters 10 = .ok (.if_icmp .ge 25, 3) := by decide +kernel
theorem dX6_areLetters_13 : decode cX6_areLetters 13 = .ok (.aload_n 0, 1) := by decide +kernel
theorem dX6_areLetters_14 : decode cX6_areLetters 14 = .ok (.iload_n 2, 1) := by decide +kernel
theorem dX6_areLetters_15 : decode cX6_areLetters 15 = .ok (.iaload, 1) := by decide +kernel
theorem dX6_areLetters_16 : decode cX6_areLetters 16 = .ok (.ifCond .lt 11, 3) := by decide +kernel
theorem dX6_areLetters_19 : decode cX6_areLetters 19 = .ok (.aload_n 0, 1) := by decide +kernel
theorem dX6_areLetters_20 : decode cX6_areLetters 20 = .ok (.iload_n 2, 1) := by decide +kernel
theorem dX6_areLetters_21 : decode cX6_areLetters 21 = .ok (.iaload, 1) := by decide +kernel
theorem dX6_areLetters_22 : decode cX6_areLetters 22 = .ok (.bipush 25, 2) := by decide +kernel
theorem dX6_areLetters_24 : decode cX6_areLetters 24 = .ok (.if_icmp .le 5, 3) := by decide +kernel
theorem dX6_areLetters_27 : decode cX6_areLetters 27 = .ok (.iconst 0, 1) := by decide +kernel
theorem dX6_areLetters_28 : decode cX6_areLetters 28 = .ok (.ireturn, 1) := by decide +kernel
theorem dX6_areLetters_29 : decode cX6_areLetters 29 = .ok (.iinc 2 1, 3) := by decide +kernel
theorem dX6_areLetters_32 : decode cX6_areLetters 32 = .ok (.goto (-30), 3) := by decide +kernel
theorem dX6_areLetters_35 : decode cX6_areLetters 35 = .ok (.iconst 1, 1) := by decide +kernel
theorem dX6_areLetters_36 : decode cX6_areLetters 36 = .ok (.ireturn, 1) := by decide +kernel
theorem dX6_hasVowel_0 : decode cX6_hasVowel 0 = .ok (.iconst 0, 1) := by decide +kernel
theorem dX6_hasVowel_1 : decode cX6_hasVowel 1 = .ok (.istore_n 2, 1) := by decide +kernel
theorem dX6_hasVowel_2 : decode cX6_hasVowel 2 = .ok (.iload_n 2, 1) := by decide +kernel
theorem dX6_hasVowel_3 : decode cX6_hasVowel 3 = .ok (.iload_n 1, 1) := by decide +kernel
theorem dX6_hasVowel_4 : decode cX6_hasVowel 4 = .ok (.if_icmp .ge 26, 3) := by decide +kernel
theorem dX6_hasVowel_7 : decode cX6_hasVowel 7 = .ok (.iload_n 2, 1) := by decide +kernel
theorem dX6_hasVowel_8 : decode cX6_hasVowel 8 = .ok (.aload_n 0, 1) := by decide +kernel
theorem dX6_hasVowel_9 : decode cX6_hasVowel 9 = .ok (.arraylength, 1) := by decide +kernel
theorem dX6_hasVowel_10 : decode cX6_hasVowel 10 = .ok (.if_icmp .ge 20, 3) := by decide +kernel
theorem dX6_hasVowel_13 : decode cX6_hasVowel 13 = .ok (.aload_n 0, 1) := by decide +kernel
theorem dX6_hasVowel_14 : decode cX6_hasVowel 14 = .ok (.iload_n 2, 1) := by decide +kernel
theorem dX6_hasVowel_15 : decode cX6_hasVowel 15 = .ok (.iaload, 1) := by decide +kernel
theorem dX6_hasVowel_16 : decode cX6_hasVowel 16 = .ok (.invokestatic 341, 3) := by decide +kernel
theorem dX6_hasVowel_19 : decode cX6_hasVowel 19 = .ok (.ifCond .eq 5, 3) := by decide +kernel
theorem dX6_hasVowel_22 : decode cX6_hasVowel 22 = .ok (.iconst 1, 1) := by decide +kernel
theorem dX6_hasVowel_23 : decode cX6_hasVowel 23 = .ok (.ireturn, 1) := by decide +kernel
theorem dX6_hasVowel_24 : decode cX6_hasVowel 24 = .ok (.iinc 2 1, 3) := by decide +kernel
theorem dX6_hasVowel_27 : decode cX6_hasVowel 27 = .ok (.goto (-25), 3) := by decide +kernel
theorem dX6_hasVowel_30 : decode cX6_hasVowel 30 = .ok (.iconst 0, 1) := by decide +kernel
theorem dX6_hasVowel_31 : decode cX6_hasVowel 31 = .ok (.ireturn, 1) := by decide +kernel
theorem dX6_isAlso_0 : decode cX6_isAlso 0 = .ok (.iload_n 0, 1) := by decide +kernel
theorem dX6_isAlso_1 : decode cX6_isAlso 1 = .ok (.istore_n 2, 1) := by decide +kernel
theorem dX6_isAlso_2 : decode cX6_isAlso 2 = .ok (.iconst 0, 1) := by decide +kernel
theorem dX6_isAlso_3 : decode cX6_isAlso 3 = .ok (.istore_n 3, 1) := by decide +kernel
theorem dX6_isAlso_4 : decode cX6_isAlso 4 = .ok (.iload_n 3, 1) := by decide +kernel
theorem dX6_isAlso_5 : decode cX6_isAlso 5 = .ok (.getstatic 344, 3) := by decide +kernel
theorem dX6_isAlso_8 : decode cX6_isAlso 8 = .ok (.arraylength, 1) := by decide +kernel
theorem dX6_isAlso_9 : decode cX6_isAlso 9 = .ok (.if_icmp .ge 34, 3) := by decide +kernel
theorem dX6_isAlso_12 : decode cX6_isAlso 12 = .ok (.iload_n 2, 1) := by decide +kernel
theorem dX6_isAlso_13 : decode cX6_isAlso 13 = .ok (.ifCond .lt 30, 3) := by decide +kernel
theorem dX6_isAlso_16 : decode cX6_isAlso 16 = .ok (.iload_n 2, 1) := by decide +kernel
theorem dX6_isAlso_17 : decode cX6_isAlso 17 = .ok (.getstatic 344, 3) := by decide +kernel
theorem dX6_isAlso_20 : decode cX6_isAlso 20 = .ok (.arraylength, 1) := by decide +kernel
theorem dX6_isAlso_21 : decode cX6_isAlso 21 = .ok (.if_icmp .ge 22, 3) := by decide +kernel
theorem dX6_isAlso_24 : decode cX6_isAlso 24 = .ok (.iload_n 2, 1) := by decide +kernel
theorem dX6_isAlso_25 : decode cX6_isAlso 25 = .ok (.iload_n 1, 1) := by decide +kernel
theorem dX6_isAlso_26 : decode cX6_isAlso 26 = .ok (.if_icmp .ne 5, 3) := by decide +kernel
theorem dX6_isAlso_29 : decode cX6_isAlso 29 = .ok (.iconst 1, 1) := by decide +kernel
theorem dX6_isAlso_30 : decode cX6_isAlso 30 = .ok (.ireturn, 1) := by decide +kernel
theorem dX6_isAlso_31 : decode cX6_isAlso 31 = .ok (.getstatic 344, 3) := by decide +kernel
theorem dX6_isAlso_34 : decode cX6_isAlso 34 = .ok (.iload_n 2, 1) := by decide +kernel
theorem dX6_isAlso_35 : decode cX6_isAlso 35 = .ok (.iaload, 1) := by decide +kernel
theorem dX6_isAlso_36 : decode cX6_isAlso 36 = .ok (.istore_n 2, 1) := by decide +kernel
theorem dX6_isAlso_37 : decode cX6_isAlso 37 = .ok (.iinc 3 1, 3) := by decide +kernel
theorem dX6_isAlso_40 : decode cX6_isAlso 40 = .ok (.goto (-36), 3) := by decide +kernel
theorem dX6_isAlso_43 : decode cX6_isAlso 43 = .ok (.iconst 0, 1) := by decide +kernel
theorem dX6_isAlso_44 : decode cX6_isAlso 44 = .ok (.ireturn, 1) := by decide +kernel
theorem dX6_found_0 : decode cX6_found 0 = .ok (.aload_n 0, 1) := by decide +kernel
theorem dX6_found_1 : decode cX6_found 1 = .ok (.iload_n 1, 1) := by decide +kernel
theorem dX6_found_2 : decode cX6_found 2 = .ok (.putfield 74, 3) := by decide +kernel
theorem dX6_found_5 : decode cX6_found 5 = .ok (.ldc_w 347, 3) := by decide +kernel
theorem dX6_found_8 : decode cX6_found 8 = .ok (.iload_n 1, 1) := by decide +kernel
theorem dX6_found_9 : decode cX6_found 9 = .ok (.isub, 1) := by decide +kernel
theorem dX6_found_10 : decode cX6_found 10 = .ok (.ireturn, 1) := by decide +kernel
theorem dX6_rowsThere_0 : decode cX6_rowsThere 0 = .ok (.iconst 0, 1) := by decide +kernel
theorem dX6_rowsThere_1 : decode cX6_rowsThere 1 = .ok (.istore_n 1, 1) := by decide +kernel
theorem dX6_rowsThere_2 : decode cX6_rowsThere 2 = .ok (.iconst 0, 1) := by decide +kernel
theorem dX6_rowsThere_3 : decode cX6_rowsThere 3 = .ok (.istore_n 2, 1) := by decide +kernel
theorem dX6_rowsThere_4 : decode cX6_rowsThere 4 = .ok (.iload_n 2, 1) := by decide +kernel
theorem dX6_rowsThere_5 : decode cX6_rowsThere 5 = .ok (.bipush 8, 2) := by decide +kernel
theorem dX6_rowsThere_7 : decode cX6_rowsThere 7 = .ok (.if_icmp .ge 24, 3) := by decide +kernel
theorem dX6_rowsThere_10 : decode cX6_rowsThere 10 = .ok (.aload_n 0, 1) := by decide +kernel
theorem dX6_rowsThere_11 : decode cX6_rowsThere 11 = .ok (.getfield 11, 3) := by decide +kernel
theorem dX6_rowsThere_14 : decode cX6_rowsThere 14 = .ok (.iload_n 2, 1) := by decide +kernel
theorem dX6_rowsThere_15 : decode cX6_rowsThere 15 = .ok (.aaload, 1) := by decide +kernel
theorem dX6_rowsThere_16 : decode cX6_rowsThere 16 = .ok (.invokevirtual 82, 3) := by decide +kernel
theorem dX6_rowsThere_19 : decode cX6_rowsThere 19 = .ok (.ifCond .ne 6, 3) := by decide +kernel
theorem dX6_rowsThere_22 : decode cX6_rowsThere 22 = .ok (.iinc 1 1, 3) := by decide +kernel
theorem dX6_rowsThere_25 : decode cX6_rowsThere 25 = .ok (.iinc 2 1, 3) := by decide +kernel
theorem dX6_rowsThere_28 : decode cX6_rowsThere 28 = .ok (.goto (-24), 3) := by decide +kernel
theorem dX6_rowsThere_31 : decode cX6_rowsThere 31 = .ok (.iload_n 1, 1) := by decide +kernel
theorem dX6_rowsThere_32 : decode cX6_rowsThere 32 = .ok (.ireturn, 1) := by decide +kernel
theorem dX6_together_0 : decode cX6_together 0 = .ok (.iconst 0, 1) := by decide +kernel
theorem dX6_together_1 : decode cX6_together 1 = .ok (.istore 5, 2) := by decide +kernel
theorem dX6_together_3 : decode cX6_together 3 = .ok (.iload_n 1, 1) := by decide +kernel
theorem dX6_together_4 : decode cX6_together 4 = .ok (.istore 6, 2) := by decide +kernel
theorem dX6_together_6 : decode cX6_together 6 = .ok (.iload 6, 2) := by decide +kernel
theorem dX6_together_8 : decode cX6_together 8 = .ok (.iload_n 2, 1) := by decide +kernel
theorem dX6_together_9 : decode cX6_together 9 = .ok (.if_icmp .ge 57, 3) := by decide +kernel
theorem dX6_together_12 : decode cX6_together 12 = .ok (.iload 6, 2) := by decide +kernel
theorem dX6_together_14 : decode cX6_together 14 = .ok (.iconst 4, 1) := by decide +kernel
theorem dX6_together_15 : decode cX6_together 15 = .ok (.if_icmp .ge 51, 3) := by decide +kernel
theorem dX6_together_18 : decode cX6_together 18 = .ok (.aload_n 0, 1) := by decide +kernel
theorem dX6_together_19 : decode cX6_together 19 = .ok (.getfield 31, 3) := by decide +kernel
theorem dX6_together_22 : decode cX6_together 22 = .ok (.aload_n 0, 1) := by decide +kernel
theorem dX6_together_23 : decode cX6_together 23 = .ok (.getfield 51, 3) := by decide +kernel
theorem dX6_together_26 : decode cX6_together 26 = .ok (.iload 6, 2) := by decide +kernel
theorem dX6_together_28 : decode cX6_together 28 = .ok (.invokevirtual 239, 3) := by decide +kernel
theorem dX6_together_31 : decode cX6_together 31 = .ok (.aload_n 0, 1) := by decide +kernel
theorem dX6_together_32 : decode cX6_together 32 = .ok (.getfield 31, 3) := by decide +kernel
theorem dX6_together_35 : decode cX6_together 35 = .ok (.iload_n 3, 1) := by decide +kernel
theorem dX6_together_36 : decode cX6_together 36 = .ok (.iload 4, 2) := by decide +kernel
theorem dX6_together_38 : decode cX6_together 38 = .ok (.invokevirtual 243, 3) := by decide +kernel
theorem dX6_together_41 : decode cX6_together 41 = .ok (.istore 7, 2) := by decide +kernel
theorem dX6_together_43 : decode cX6_together 43 = .ok (.iload 7, 2) := by decide +kernel
theorem dX6_together_45 : decode cX6_together 45 = .ok (.ldc 210, 2) := by decide +kernel
theorem dX6_together_47 : decode cX6_together 47 = .ok (.if_icmp .ne 6, 3) := by decide +kernel
theorem dX6_together_50 : decode cX6_together 50 = .ok (.ldc 210, 2) := by decide +kernel
theorem dX6_together_52 : decode cX6_together 52 = .ok (.ireturn, 1) := by decide +kernel
theorem dX6_together_53 : decode cX6_together 53 = .ok (.iload 5, 2) := by decide +kernel
theorem dX6_together_55 : decode cX6_together 55 = .ok (.iload 7, 2) := by decide +kernel
theorem dX6_together_57 : decode cX6_together 57 = .ok (.iadd, 1) := by decide +kernel
theorem dX6_together_58 : decode cX6_together 58 = .ok (.istore 5, 2) := by decide +kernel
theorem dX6_together_60 : decode cX6_together 60 = .ok (.iinc 6 1, 3) := by decide +kernel
theorem dX6_together_63 : decode cX6_together 63 = .ok (.goto (-57), 3) := by decide +kernel
theorem dX6_together_66 : decode cX6_together 66 = .ok (.iload 5, 2) := by decide +kernel
theorem dX6_together_68 : decode cX6_together 68 = .ok (.ireturn, 1) := by decide +kernel
theorem dX6_nearestOf_0 : decode cX6_nearestOf 0 = .ok (.ldc 210, 2) := by decide +kernel
theorem dX6_nearestOf_2 : decode cX6_nearestOf 2 = .ok (.istore 4, 2) := by decide +kernel
theorem dX6_nearestOf_4 : decode cX6_nearestOf 4 = .ok (.ldc 210, 2) := by decide +kernel
theorem dX6_nearestOf_6 : decode cX6_nearestOf 6 = .ok (.istore 5, 2) := by decide +kernel
theorem dX6_nearestOf_8 : decode cX6_nearestOf 8 = .ok (.ldc 210, 2) := by decide +kernel
theorem dX6_nearestOf_10 : decode cX6_nearestOf 10 = .ok (.istore 6, 2) := by decide +kernel
theorem dX6_nearestOf_12 : decode cX6_nearestOf 12 = .ok (.iconst 0, 1) := by decide +kernel
theorem dX6_nearestOf_13 : decode cX6_nearestOf 13 = .ok (.istore 7, 2) := by decide +kernel
theorem dX6_nearestOf_15 : decode cX6_nearestOf 15 = .ok (.iload 7, 2) := by decide +kernel
theorem dX6_nearestOf_17 : decode cX6_nearestOf 17 = .ok (.getstatic 337, 3) := by decide +kernel
theorem dX6_nearestOf_20 : decode cX6_nearestOf 20 = .ok (.arraylength, 1) := by decide +kernel
theorem dX6_nearestOf_21 : decode cX6_nearestOf 21 = .ok (.if_icmp .ge 69, 3) := by decide +kernel
theorem dX6_nearestOf_24 : decode cX6_nearestOf 24 = .ok (.iconst 1, 1) := by decide +kernel
theorem dX6_nearestOf_25 : decode cX6_nearestOf 25 = .ok (.istore 8, 2) := by decide +kernel
theorem dX6_nearestOf_27 : decode cX6_nearestOf 27 = .ok (.iload 8, 2) := by decide +kernel
theorem dX6_nearestOf_29 : decode cX6_nearestOf 29 = .ok (.iconst 5, 1) := by decide +kernel
theorem dX6_nearestOf_30 : decode cX6_nearestOf 30 = .ok (.if_icmp .gt 54, 3) := by decide +kernel
theorem dX6_nearestOf_33 : decode cX6_nearestOf 33 = .ok (.aload_n 0, 1) := by decide +kernel
theorem dX6_nearestOf_34 : decode cX6_nearestOf 34 = .ok (.iload_n 1, 1) := by decide +kernel
theorem dX6_nearestOf_35 : decode cX6_nearestOf 35 = .ok (.iload_n 2, 1) := by decide +kernel
theorem dX6_nearestOf_36 : decode cX6_nearestOf 36 = .ok (.iload 7, 2) := by decide +kernel
theorem dX6_nearestOf_38 : decode cX6_nearestOf 38 = .ok (.iload 8, 2) := by decide +kernel
theorem dX6_nearestOf_40 : decode cX6_nearestOf 40 = .ok (.invokevirtual 253, 3) := by decide +kernel
theorem dX6_nearestOf_43 : decode cX6_nearestOf 43 = .ok (.istore 9, 2) := by decide +kernel
theorem dX6_nearestOf_45 : decode cX6_nearestOf 45 = .ok (.iload 9, 2) := by decide +kernel
theorem dX6_nearestOf_47 : decode cX6_nearestOf 47 = .ok (.ldc 210, 2) := by decide +kernel
theorem dX6_nearestOf_49 : decode cX6_nearestOf 49 = .ok (.if_icmp .eq 29, 3) := by decide +kernel
theorem dX6_nearestOf_52 : decode cX6_nearestOf 52 = .ok (.iload 4, 2) := by decide +kernel
theorem dX6_nearestOf_54 : decode cX6_nearestOf 54 = .ok (.ldc 210, 2) := by decide +kernel
theorem dX6_nearestOf_56 : decode cX6_nearestOf 56 = .ok (.if_icmp .eq 10, 3) := by decide +kernel
theorem dX6_nearestOf_59 : decode cX6_nearestOf 59 = .ok (.iload 9, 2) := by decide +kernel
theorem dX6_nearestOf_61 : decode cX6_nearestOf 61 = .ok (.iload 4, 2) := by decide +kernel
theorem dX6_nearestOf_63 : decode cX6_nearestOf 63 = .ok (.if_icmp .ge 15, 3) := by decide +kernel
theorem dX6_nearestOf_66 : decode cX6_nearestOf 66 = .ok (.iload 9, 2) := by decide +kernel
theorem dX6_nearestOf_68 : decode cX6_nearestOf 68 = .ok (.istore 4, 2) := by decide +kernel
theorem dX6_nearestOf_70 : decode cX6_nearestOf 70 = .ok (.iload 7, 2) := by decide +kernel
theorem dX6_nearestOf_72 : decode cX6_nearestOf 72 = .ok (.istore 5, 2) := by decide +kernel
theorem dX6_nearestOf_74 : decode cX6_nearestOf 74 = .ok (.iload 8, 2) := by decide +kernel
theorem dX6_nearestOf_76 : decode cX6_nearestOf 76 = .ok (.istore 6, 2) := by decide +kernel
theorem dX6_nearestOf_78 : decode cX6_nearestOf 78 = .ok (.iinc 8 1, 3) := by decide +kernel
theorem dX6_nearestOf_81 : decode cX6_nearestOf 81 = .ok (.goto (-54), 3) := by decide +kernel
theorem dX6_nearestOf_84 : decode cX6_nearestOf 84 = .ok (.iinc 7 1, 3) := by decide +kernel
theorem dX6_nearestOf_87 : decode cX6_nearestOf 87 = .ok (.goto (-72), 3) := by decide +kernel
theorem dX6_nearestOf_90 : decode cX6_nearestOf 90 = .ok (.iload_n 3, 1) := by decide +kernel
theorem dX6_nearestOf_91 : decode cX6_nearestOf 91 = .ok (.ifCond .ne 6, 3) := by decide +kernel
theorem dX6_nearestOf_94 : decode cX6_nearestOf 94 = .ok (.iload 5, 2) := by decide +kernel
theorem dX6_nearestOf_96 : decode cX6_nearestOf 96 = .ok (.ireturn, 1) := by decide +kernel
theorem dX6_nearestOf_97 : decode cX6_nearestOf 97 = .ok (.iload_n 3, 1) := by decide +kernel
theorem dX6_nearestOf_98 : decode cX6_nearestOf 98 = .ok (.iconst 1, 1) := by decide +kernel
theorem dX6_nearestOf_99 : decode cX6_nearestOf 99 = .ok (.if_icmp .ne 8, 3) := by decide +kernel
theorem dX6_nearestOf_102 : decode cX6_nearestOf 102 = .ok (.iload 6, 2) := by decide +kernel
theorem dX6_nearestOf_104 : decode cX6_nearestOf 104 = .ok (.goto 5, 3) := by decide +kernel
theorem dX6_nearestOf_107 : decode cX6_nearestOf 107 = .ok (.iload 4, 2) := by decide +kernel
theorem dX6_nearestOf_109 : decode cX6_nearestOf 109 = .ok (.ireturn, 1) := by decide +kernel
theorem dX6_schemeName_0 : decode cX6_schemeName 0 = .ok (.aload_n 0, 1) := by decide +kernel
theorem dX6_schemeName_1 : decode cX6_schemeName 1 = .ok (.getfield 51, 3) := by decide +kernel
theorem dX6_schemeName_4 : decode cX6_schemeName 4 = .ok (.getfield 135, 3) := by decide +kernel
theorem dX6_schemeName_7 : decode cX6_schemeName 7 = .ok (.iconst 4, 1) := by decide +kernel
theorem dX6_schemeName_8 : decode cX6_schemeName 8 = .ok (.if_icmp .eq 5, 3) := by decide +kernel
theorem dX6_schemeName_11 : decode cX6_schemeName 11 = .ok (.iconst 0, 1) := by decide +kernel
theorem dX6_schemeName_12 : decode cX6_schemeName 12 = .ok (.ireturn, 1) := by decide +kernel
theorem dX6_schemeName_13 : decode cX6_schemeName 13 = .ok (.aload_n 0, 1) := by decide +kernel
theorem dX6_schemeName_14 : decode cX6_schemeName 14 = .ok (.getfield 51, 3) := by decide +kernel
theorem dX6_schemeName_17 : decode cX6_schemeName 17 = .ok (.invokevirtual 261, 3) := by decide +kernel
theorem dX6_schemeName_20 : decode cX6_schemeName 20 = .ok (.pop, 1) := by decide +kernel
theorem dX6_schemeName_21 : decode cX6_schemeName 21 = .ok (.iconst 0, 1) := by decide +kernel
theorem dX6_schemeName_22 : decode cX6_schemeName 22 = .ok (.istore_n 1, 1) := by decide +kernel
theorem dX6_schemeName_23 : decode cX6_schemeName 23 = .ok (.iconst 0, 1) := by decide +kernel
theorem dX6_schemeName_24 : decode cX6_schemeName 24 = .ok (.istore_n 2, 1) := by decide +kernel
theorem dX6_schemeName_25 : decode cX6_schemeName 25 = .ok (.iload_n 2, 1) := by decide +kernel
theorem dX6_schemeName_26 : decode cX6_schemeName 26 = .ok (.iconst 4, 1) := by decide +kernel
theorem dX6_schemeName_27 : decode cX6_schemeName 27 = .ok (.if_icmp .ge 23, 3) := by decide +kernel
theorem dX6_schemeName_30 : decode cX6_schemeName 30 = .ok (.iload_n 1, 1) := by decide +kernel
theorem dX6_schemeName_31 : decode cX6_schemeName 31 = .ok (.iconst 4, 1) := by decide +kernel
theorem dX6_schemeName_32 : decode cX6_schemeName 32 = .ok (.ishl, 1) := by decide +kernel
theorem dX6_schemeName_33 : decode cX6_schemeName 33 = .ok (.aload_n 0, 1) := by decide +kernel
theorem dX6_schemeName_34 : decode cX6_schemeName 34 = .ok (.getfield 51, 3) := by decide +kernel
theorem dX6_schemeName_37 : decode cX6_schemeName 37 = .ok (.getfield 348, 3) := by decide +kernel
theorem dX6_schemeName_40 : decode cX6_schemeName 40 = .ok (.iload_n 2, 1) := by decide +kernel
theorem dX6_schemeName_41 : decode cX6_schemeName 41 = .ok (.iaload, 1) := by decide +kernel
theorem dX6_schemeName_42 : decode cX6_schemeName 42 = .ok (.ior, 1) := by decide +kernel
theorem dX6_schemeName_43 : decode cX6_schemeName 43 = .ok (.istore_n 1, 1) := by decide +kernel
theorem dX6_schemeName_44 : decode cX6_schemeName 44 = .ok (.iinc 2 1, 3) := by decide +kernel
theorem dX6_schemeName_47 : decode cX6_schemeName 47 = .ok (.goto (-22), 3) := by decide +kernel
theorem dX6_schemeName_50 : decode cX6_schemeName 50 = .ok (.iconst 0, 1) := by decide +kernel
theorem dX6_schemeName_51 : decode cX6_schemeName 51 = .ok (.istore_n 2, 1) := by decide +kernel
theorem dX6_schemeName_52 : decode cX6_schemeName 52 = .ok (.iload_n 2, 1) := by decide +kernel
theorem dX6_schemeName_53 : decode cX6_schemeName 53 = .ok (.getstatic 351, 3) := by decide +kernel
theorem dX6_schemeName_56 : decode cX6_schemeName 56 = .ok (.arraylength, 1) := by decide +kernel
theorem dX6_schemeName_57 : decode cX6_schemeName 57 = .ok (.if_icmp .ge 22, 3) := by decide +kernel
theorem dX6_schemeName_60 : decode cX6_schemeName 60 = .ok (.getstatic 351, 3) := by decide +kernel
theorem dX6_schemeName_63 : decode cX6_schemeName 63 = .ok (.iload_n 2, 1) := by decide +kernel
theorem dX6_schemeName_64 : decode cX6_schemeName 64 = .ok (.iaload, 1) := by decide +kernel
theorem dX6_schemeName_65 : decode cX6_schemeName 65 = .ok (.iload_n 1, 1) := by decide +kernel
theorem dX6_schemeName_66 : decode cX6_schemeName 66 = .ok (.if_icmp .ne 7, 3) := by decide +kernel
theorem dX6_schemeName_69 : decode cX6_schemeName 69 = .ok (.iload_n 2, 1) := by decide +kernel
theorem dX6_schemeName_70 : decode cX6_schemeName 70 = .ok (.iconst 1, 1) := by decide +kernel
theorem dX6_schemeName_71 : decode cX6_schemeName 71 = .ok (.iadd, 1) := by decide +kernel
theorem dX6_schemeName_72 : decode cX6_schemeName 72 = .ok (.ireturn, 1) := by decide +kernel
theorem dX6_schemeName_73 : decode cX6_schemeName 73 = .ok (.iinc 2 1, 3) := by decide +kernel
theorem dX6_schemeName_76 : decode cX6_schemeName 76 = .ok (.goto (-24), 3) := by decide +kernel
theorem dX6_schemeName_79 : decode cX6_schemeName 79 = .ok (.iconst 0, 1) := by decide +kernel
theorem dX6_schemeName_80 : decode cX6_schemeName 80 = .ok (.ireturn, 1) := by decide +kernel
theorem dX6_feetAsTold_0 : decode cX6_feetAsTold 0 = .ok (.iconst 0, 1) := by decide +kernel
theorem dX6_feetAsTold_1 : decode cX6_feetAsTold 1 = .ok (.istore_n 3, 1) := by decide +kernel
theorem dX6_feetAsTold_2 : decode cX6_feetAsTold 2 = .ok (.iconst 1, 1) := by decide +kernel
theorem dX6_feetAsTold_3 : decode cX6_feetAsTold 3 = .ok (.istore 4, 2) := by decide +kernel
theorem dX6_feetAsTold_5 : decode cX6_feetAsTold 5 = .ok (.iload 4, 2) := by decide +kernel
theorem dX6_feetAsTold_7 : decode cX6_feetAsTold 7 = .ok (.iconst 5, 1) := by decide +kernel
theorem dX6_feetAsTold_8 : decode cX6_feetAsTold 8 = .ok (.if_icmp .gt 38, 3) := by decide +kernel
theorem dX6_feetAsTold_11 : decode cX6_feetAsTold 11 = .ok (.aload_n 0, 1) := by decide +kernel
theorem dX6_feetAsTold_12 : decode cX6_feetAsTold 12 = .ok (.aload_n 0, 1) := by decide +kernel
theorem dX6_feetAsTold_13 : decode cX6_feetAsTold 13 = .ok (.getfield 51, 3) := by decide +kernel
theorem dX6_feetAsTold_16 : decode cX6_feetAsTold 16 = .ok (.aload_n 0, 1) := by decide +kernel
theorem dX6_feetAsTold_17 : decode cX6_feetAsTold 17 = .ok (.getfield 51, 3) := by decide +kernel
theorem dX6_feetAsTold_20 : decode cX6_feetAsTold 20 = .ok (.getfield 200, 3) := by decide +kernel
theorem dX6_feetAsTold_23 : decode cX6_feetAsTold 23 = .ok (.iload 4, 2) := by decide +kernel
theorem dX6_feetAsTold_25 : decode cX6_feetAsTold 25 = .ok (.aload_n 1, 1) := by decide +kernel
theorem dX6_feetAsTold_26 : decode cX6_feetAsTold 26 = .ok (.iload_n 2, 1) := by decide +kernel
theorem dX6_feetAsTold_27 : decode cX6_feetAsTold 27 = .ok (.invokevirtual 354, 3) := by decide +kernel
theorem dX6_feetAsTold_30 : decode cX6_feetAsTold 30 = .ok (.ifCond .eq 10, 3) := by decide +kernel
theorem dX6_feetAsTold_33 : decode cX6_feetAsTold 33 = .ok (.iload_n 3, 1) := by decide +kernel
theorem dX6_feetAsTold_34 : decode cX6_feetAsTold 34 = .ok (.iconst 1, 1) := by decide +kernel
theorem dX6_feetAsTold_35 : decode cX6_feetAsTold 35 = .ok (.iload 4, 2) := by decide +kernel
theorem dX6_feetAsTold_37 : decode cX6_feetAsTold 37 = .ok (.ishl, 1) := by decide +kernel
theorem dX6_feetAsTold_38 : decode cX6_feetAsTold 38 = .ok (.ior, 1) := by decide +kernel
theorem dX6_feetAsTold_39 : decode cX6_feetAsTold 39 = .ok (.istore_n 3, 1) := by decide +kernel
theorem dX6_feetAsTold_40 : decode cX6_feetAsTold 40 = .ok (.iinc 4 1, 3) := by decide +kernel
theorem dX6_feetAsTold_43 : decode cX6_feetAsTold 43 = .ok (.goto (-38), 3) := by decide +kernel
theorem dX6_feetAsTold_46 : decode cX6_feetAsTold 46 = .ok (.iload_n 3, 1) := by decide +kernel
theorem dX6_feetAsTold_47 : decode cX6_feetAsTold 47 = .ok (.ireturn, 1) := by decide +kernel
theorem dX6_footAsTold_0 : decode cX6_footAsTold 0 = .ok (.iconst 0, 1) := by decide +kernel
theorem dX6_footAsTold_1 : decode cX6_footAsTold 1 = .ok (.istore_n 3, 1) := by decide +kernel
theorem dX6_footAsTold_2 : decode cX6_footAsTold 2 = .ok (.iconst 0, 1) := by decide +kernel
theorem dX6_footAsTold_3 : decode cX6_footAsTold 3 = .ok (.istore 4, 2) := by decide +kernel
theorem dX6_footAsTold_5 : decode cX6_footAsTold 5 = .ok (.iload 4, 2) := by decide +kernel
theorem dX6_footAsTold_7 : decode cX6_footAsTold 7 = .ok (.getstatic 337, 3) := by decide +kernel
theorem dX6_footAsTold_10 : decode cX6_footAsTold 10 = .ok (.arraylength, 1) := by decide +kernel
theorem dX6_footAsTold_11 : decode cX6_footAsTold 11 = .ok (.if_icmp .ge 38, 3) := by decide +kernel
theorem dX6_footAsTold_14 : decode cX6_footAsTold 14 = .ok (.aload_n 0, 1) := by decide +kernel
theorem dX6_footAsTold_15 : decode cX6_footAsTold 15 = .ok (.aload_n 0, 1) := by decide +kernel
theorem dX6_footAsTold_16 : decode cX6_footAsTold 16 = .ok (.getfield 51, 3) := by decide +kernel
theorem dX6_footAsTold_19 : decode cX6_footAsTold 19 = .ok (.iload 4, 2) := by decide +kernel
theorem dX6_footAsTold_21 : decode cX6_footAsTold 21 = .ok (.aload_n 0, 1) := by decide +kernel
theorem dX6_footAsTold_22 : decode cX6_footAsTold 22 = .ok (.getfield 51, 3) := by decide +kernel
theorem dX6_footAsTold_25 : decode cX6_footAsTold 25 = .ok (.getfield 203, 3) := by decide +kernel
theorem dX6_footAsTold_28 : decode cX6_footAsTold 28 = .ok (.aload_n 1, 1) := by decide +kernel
theorem dX6_footAsTold_29 : decode cX6_footAsTold 29 = .ok (.iload_n 2, 1) := by decide +kernel
theorem dX6_footAsTold_30 : decode cX6_footAsTold 30 = .ok (.invokevirtual 354, 3) := by decide +kernel
theorem dX6_footAsTold_33 : decode cX6_footAsTold 33 = .ok (.ifCond .eq 10, 3) := by decide +kernel
theorem dX6_footAsTold_36 : decode cX6_footAsTold 36 = .ok (.iload_n 3, 1) := by decide +kernel
theorem dX6_footAsTold_37 : decode cX6_footAsTold 37 = .ok (.iconst 1, 1) := by decide +kernel
theorem dX6_footAsTold_38 : decode cX6_footAsTold 38 = .ok (.iload 4, 2) := by decide +kernel
theorem dX6_footAsTold_40 : decode cX6_footAsTold 40 = .ok (.ishl, 1) := by decide +kernel
theorem dX6_footAsTold_41 : decode cX6_footAsTold 41 = .ok (.ior, 1) := by decide +kernel
theorem dX6_footAsTold_42 : decode cX6_footAsTold 42 = .ok (.istore_n 3, 1) := by decide +kernel
theorem dX6_footAsTold_43 : decode cX6_footAsTold 43 = .ok (.iinc 4 1, 3) := by decide +kernel
theorem dX6_footAsTold_46 : decode cX6_footAsTold 46 = .ok (.goto (-41), 3) := by decide +kernel
theorem dX6_footAsTold_49 : decode cX6_footAsTold 49 = .ok (.iload_n 3, 1) := by decide +kernel
theorem dX6_footAsTold_50 : decode cX6_footAsTold 50 = .ok (.ireturn, 1) := by decide +kernel
theorem dX6_kindsAsTold_0 : decode cX6_kindsAsTold 0 = .ok (.aload_n 0, 1) := by decide +kernel
theorem dX6_kindsAsTold_1 : decode cX6_kindsAsTold 1 = .ok (.getfield 55, 3) := by decide +kernel
theorem dX6_kindsAsTold_4 : decode cX6_kindsAsTold 4 = .ok (.aload_n 0, 1) := by decide +kernel
theorem dX6_kindsAsTold_5 : decode cX6_kindsAsTold 5 = .ok (.getfield 51, 3) := by decide +kernel
theorem dX6_kindsAsTold_8 : decode cX6_kindsAsTold 8 = .ok (.invokevirtual 129, 3) := by decide +kernel
theorem dX6_kindsAsTold_11 : decode cX6_kindsAsTold 11 = .ok (.iconst 0, 1) := by decide +kernel
theorem dX6_kindsAsTold_12 : decode cX6_kindsAsTold 12 = .ok (.istore 4, 2) := by decide +kernel
theorem dX6_kindsAsTold_14 : decode cX6_kindsAsTold 14 = .ok (.iconst 1, 1) := by decide +kernel
theorem dX6_kindsAsTold_15 : decode cX6_kindsAsTold 15 = .ok (.istore 5, 2) := by decide +kernel
theorem dX6_kindsAsTold_17 : decode cX6_kindsAsTold 17 = .ok (.iload 5, 2) := by decide +kernel
theorem dX6_kindsAsTold_19 : decode cX6_kindsAsTold 19 = .ok (.iconst 5, 1) := by decide +kernel
theorem dX6_kindsAsTold_20 : decode cX6_kindsAsTold 20 = .ok (.if_icmp .gt 56, 3) := by decide +kernel
theorem dX6_kindsAsTold_23 : decode cX6_kindsAsTold 23 = .ok (.aload_n 0, 1) := by decide +kernel
theorem dX6_kindsAsTold_24 : decode cX6_kindsAsTold 24 = .ok (.getfield 55, 3) := by decide +kernel
theorem dX6_kindsAsTold_27 : decode cX6_kindsAsTold 27 = .ok (.getfield 148, 3) := by decide +kernel
theorem dX6_kindsAsTold_30 : decode cX6_kindsAsTold 30 = .ok (.iload_n 1, 1) := by decide +kernel
theorem dX6_kindsAsTold_31 : decode cX6_kindsAsTold 31 = .ok (.iload 5, 2) := by decide +kernel
theorem dX6_kindsAsTold_33 : decode cX6_kindsAsTold 33 = .ok (.iastore, 1) := by decide +kernel
theorem dX6_kindsAsTold_34 : decode cX6_kindsAsTold 34 = .ok (.aload_n 0, 1) := by decide +kernel
theorem dX6_kindsAsTold_35 : decode cX6_kindsAsTold 35 = .ok (.aload_n 0, 1) := by decide +kernel
theorem dX6_kindsAsTold_36 : decode cX6_kindsAsTold 36 = .ok (.getfield 55, 3) := by decide +kernel
theorem dX6_kindsAsTold_39 : decode cX6_kindsAsTold 39 = .ok (.aload_n 0, 1) := by decide +kernel
theorem dX6_kindsAsTold_40 : decode cX6_kindsAsTold 40 = .ok (.getfield 55, 3) := by decide +kernel
theorem dX6_kindsAsTold_43 : decode cX6_kindsAsTold 43 = .ok (.getfield 200, 3) := by decide +kernel
theorem dX6_kindsAsTold_46 : decode cX6_kindsAsTold 46 = .ok (.aload_n 0, 1) := by decide +kernel
theorem dX6_kindsAsTold_47 : decode cX6_kindsAsTold 47 = .ok (.getfield 55, 3) := by decide +kernel
theorem dX6_kindsAsTold_50 : decode cX6_kindsAsTold 50 = .ok (.getfield 203, 3) := by decide +kernel
theorem dX6_kindsAsTold_53 : decode cX6_kindsAsTold 53 = .ok (.aload_n 2, 1) := by decide +kernel
theorem dX6_kindsAsTold_54 : decode cX6_kindsAsTold 54 = .ok (.iload_n 3, 1) := by decide +kernel
theorem dX6_kindsAsTold_55 : decode cX6_kindsAsTold 55 = .ok (.invokevirtual 354, 3) := by decide +kernel
theorem dX6_kindsAsTold_58 : decode cX6_kindsAsTold 58 = .ok (.ifCond .eq 12, 3) := by decide +kernel
theorem dX6_kindsAsTold_61 : decode cX6_kindsAsTold 61 = .ok (.iload 4, 2) := by decide +kernel
theorem dX6_kindsAsTold_63 : decode cX6_kindsAsTold 63 = .ok (.iconst 1, 1) := by decide +kernel
theorem dX6_kindsAsTold_64 : decode cX6_kindsAsTold 64 = .ok (.iload 5, 2) := by decide +kernel
theorem dX6_kindsAsTold_66 : decode cX6_kindsAsTold 66 = .ok (.ishl, 1) := by decide +kernel
theorem dX6_kindsAsTold_67 : decode cX6_kindsAsTold 67 = .ok (.ior, 1) := by decide +kernel
theorem dX6_kindsAsTold_68 : decode cX6_kindsAsTold 68 = .ok (.istore 4, 2) := by decide +kernel
theorem dX6_kindsAsTold_70 : decode cX6_kindsAsTold 70 = .ok (.iinc 5 1, 3) := by decide +kernel
theorem dX6_kindsAsTold_73 : decode cX6_kindsAsTold 73 = .ok (.goto (-56), 3) := by decide +kernel
theorem dX6_kindsAsTold_76 : decode cX6_kindsAsTold 76 = .ok (.iload 4, 2) := by decide +kernel
theorem dX6_kindsAsTold_78 : decode cX6_kindsAsTold 78 = .ok (.ireturn, 1) := by decide +kernel
theorem dX6_isAsTold_0 : decode cX6_isAsTold 0 = .ok (.aload 4, 2) := by decide +kernel
theorem dX6_isAsTold_2 : decode cX6_isAsTold 2 = .ok (.iload 5, 2) := by decide +kernel
theorem dX6_isAsTold_4 : decode cX6_isAsTold 4 = .ok (.aload_n 1, 1) := by decide +kernel
theorem dX6_isAsTold_5 : decode cX6_isAsTold 5 = .ok (.getfield 135, 3) := by decide +kernel
theorem dX6_isAsTold_8 : decode cX6_isAsTold 8 = .ok (.invokevirtual 86, 3) := by decide +kernel
theorem dX6_isAsTold_11 : decode cX6_isAsTold 11 = .ok (.ifCond .ne 5, 3) := by decide +kernel
theorem dX6_isAsTold_14 : decode cX6_isAsTold 14 = .ok (.iconst 0, 1) := by decide +kernel
theorem dX6_isAsTold_15 : decode cX6_isAsTold 15 = .ok (.ireturn, 1) := by decide +kernel
theorem dX6_isAsTold_16 : decode cX6_isAsTold 16 = .ok (.iconst 0, 1) := by decide +kernel
theorem dX6_isAsTold_17 : decode cX6_isAsTold 17 = .ok (.istore 6, 2) := by decide +kernel
theorem dX6_isAsTold_19 : decode cX6_isAsTold 19 = .ok (.iload 6, 2) := by decide +kernel
theorem dX6_isAsTold_21 : decode cX6_isAsTold 21 = .ok (.aload_n 1, 1) := by decide +kernel
theorem dX6_isAsTold_22 : decode cX6_isAsTold 22 = .ok (.getfield 135, 3) := by decide +kernel
theorem dX6_isAsTold_25 : decode cX6_isAsTold 25 = .ok (.if_icmp .ge 59, 3) := by decide +kernel
theorem dX6_isAsTold_28 : decode cX6_isAsTold 28 = .ok (.aload_n 0, 1) := by decide +kernel
theorem dX6_isAsTold_29 : decode cX6_isAsTold 29 = .ok (.getfield 31, 3) := by decide +kernel
theorem dX6_isAsTold_32 : decode cX6_isAsTold 32 = .ok (.aload_n 1, 1) := by decide +kernel
theorem dX6_isAsTold_33 : decode cX6_isAsTold 33 = .ok (.iload 6, 2) := by decide +kernel
theorem dX6_isAsTold_35 : decode cX6_isAsTold 35 = .ok (.invokevirtual 239, 3) := by decide +kernel
theorem dX6_isAsTold_38 : decode cX6_isAsTold 38 = .ok (.aload_n 0, 1) := by decide +kernel
theorem dX6_isAsTold_39 : decode cX6_isAsTold 39 = .ok (.getfield 31, 3) := by decide +kernel
theorem dX6_isAsTold_42 : decode cX6_isAsTold 42 = .ok (.iload_n 2, 1) := by decide +kernel
theorem dX6_isAsTold_43 : decode cX6_isAsTold 43 = .ok (.iload_n 3, 1) := by decide +kernel
theorem dX6_isAsTold_44 : decode cX6_isAsTold 44 = .ok (.invokevirtual 243, 3) := by decide +kernel
theorem dX6_isAsTold_47 : decode cX6_isAsTold 47 = .ok (.istore 7, 2) := by decide +kernel
theorem dX6_isAsTold_49 : decode cX6_isAsTold 49 = .ok (.aload 4, 2) := by decide +kernel
theorem dX6_isAsTold_51 : decode cX6_isAsTold 51 = .ok (.getfield 90, 3) := by decide +kernel
theorem dX6_isAsTold_54 : decode cX6_isAsTold 54 = .ok (.iload 5, 2) := by decide +kernel
theorem dX6_isAsTold_56 : decode cX6_isAsTold 56 = .ok (.iload 6, 2) := by decide +kernel
theorem dX6_isAsTold_58 : decode cX6_isAsTold 58 = .ok (.iadd, 1) := by decide +kernel
theorem dX6_isAsTold_59 : decode cX6_isAsTold 59 = .ok (.iaload, 1) := by decide +kernel
theorem dX6_isAsTold_60 : decode cX6_isAsTold 60 = .ok (.iload 7, 2) := by decide +kernel
theorem dX6_isAsTold_62 : decode cX6_isAsTold 62 = .ok (.ldc 210, 2) := by decide +kernel
theorem dX6_isAsTold_64 : decode cX6_isAsTold 64 = .ok (.if_icmp .ne 7, 3) := by decide +kernel
theorem dX6_isAsTold_67 : decode cX6_isAsTold 67 = .ok (.iconst (-1), 1) := by decide +kernel
theorem dX6_isAsTold_68 : decode cX6_isAsTold 68 = .ok (.goto 5, 3) := by decide +kernel
theorem dX6_isAsTold_71 : decode cX6_isAsTold 71 = .ok (.iload 7, 2) := by decide +kernel
theorem dX6_isAsTold_73 : decode cX6_isAsTold 73 = .ok (.if_icmp .eq 5, 3) := by decide +kernel
theorem dX6_isAsTold_76 : decode cX6_isAsTold 76 = .ok (.iconst 0, 1) := by decide +kernel
theorem dX6_isAsTold_77 : decode cX6_isAsTold 77 = .ok (.ireturn, 1) := by decide +kernel
theorem dX6_isAsTold_78 : decode cX6_isAsTold 78 = .ok (.iinc 6 1, 3) := by decide +kernel
theorem dX6_isAsTold_81 : decode cX6_isAsTold 81 = .ok (.goto (-62), 3) := by decide +kernel
theorem dX6_isAsTold_84 : decode cX6_isAsTold 84 = .ok (.iconst 1, 1) := by decide +kernel
theorem dX6_isAsTold_85 : decode cX6_isAsTold 85 = .ok (.ireturn, 1) := by decide +kernel
theorem dX6_countHits_0 : decode cX6_countHits 0 = .ok (.iconst 0, 1) := by decide +kernel
theorem dX6_countHits_1 : decode cX6_countHits 1 = .ok (.istore_n 3, 1) := by decide +kernel
theorem dX6_countHits_2 : decode cX6_countHits 2 = .ok (.iload_n 3, 1) := by decide +kernel
theorem dX6_countHits_3 : decode cX6_countHits 3 = .ok (.aload_n 0, 1) := by decide +kernel
theorem dX6_countHits_4 : decode cX6_countHits 4 = .ok (.getfield 35, 3) := by decide +kernel
theorem dX6_countHits_7 : decode cX6_countHits 7 = .ok (.arraylength, 1) := by decide +kernel
theorem dX6_countHits_8 : decode cX6_countHits 8 = .ok (.if_icmp .ge 16, 3) := by decide +kernel
theorem dX6_countHits_11 : decode cX6_countHits 11 = .ok (.aload_n 0, 1) := by decide +kernel
theorem dX6_countHits_12 : decode cX6_countHits 12 = .ok (.getfield 35, 3) := by decide +kernel
theorem dX6_countHits_15 : decode cX6_countHits 15 = .ok (.iload_n 3, 1) := by decide +kernel
theorem dX6_countHits_16 : decode cX6_countHits 16 = .ok (.iconst 0, 1) := by decide +kernel
theorem dX6_countHits_17 : decode cX6_countHits 17 = .ok (.iastore, 1) := by decide +kernel
theorem dX6_countHits_18 : decode cX6_countHits 18 = .ok (.iinc 3 1, 3) := by decide +kernel
theorem dX6_countHits_21 : decode cX6_countHits 21 = .ok (.goto (-19), 3) := by decide +kernel
theorem dX6_countHits_24 : decode cX6_countHits 24 = .ok (.aload_n 0, 1) := by decide +kernel
theorem dX6_countHits_25 : decode cX6_countHits 25 = .ok (.getfield 31, 3) := by decide +kernel
theorem dX6_countHits_28 : decode cX6_countHits 28 = .ok (.aload_n 0, 1) := by decide +kernel
theorem dX6_countHits_29 : decode cX6_countHits 29 = .ok (.getfield 51, 3) := by decide +kernel
theorem dX6_countHits_32 : decode cX6_countHits 32 = .ok (.getfield 200, 3) := by decide +kernel
theorem dX6_countHits_35 : decode cX6_countHits 35 = .ok (.aload_n 0, 1) := by decide +kernel
theorem dX6_countHits_36 : decode cX6_countHits 36 = .ok (.getfield 51, 3) := by decide +kernel
theorem dX6_countHits_39 : decode cX6_countHits 39 = .ok (.getfield 203, 3) := by decide +kernel
theorem dX6_countHits_42 : decode cX6_countHits 42 = .ok (.invokevirtual 358, 3) := by decide +kernel
theorem dX6_countHits_45 : decode cX6_countHits 45 = .ok (.iconst 0, 1) := by decide +kernel
theorem dX6_countHits_46 : decode cX6_countHits 46 = .ok (.istore_n 3, 1) := by decide +kernel
theorem dX6_countHits_47 : decode cX6_countHits 47 = .ok (.iconst 0, 1) := by decide +kernel
theorem dX6_countHits_48 : decode cX6_countHits 48 = .ok (.istore 4, 2) := by decide +kernel
theorem dX6_countHits_50 : decode cX6_countHits 50 = .ok (.iload 4, 2) := by decide +kernel
theorem dX6_countHits_52 : decode cX6_countHits 52 = .ok (.iconst 1, 1) := by decide +kernel
theorem dX6_countHits_53 : decode cX6_countHits 53 = .ok (.iload_n 2, 1) := by decide +kernel
theorem dX6_countHits_54 : decode cX6_countHits 54 = .ok (.ishl, 1) := by decide +kernel
theorem dX6_countHits_55 : decode cX6_countHits 55 = .ok (.if_icmp .ge 88, 3) := by decide +kernel
theorem dX6_countHits_58 : decode cX6_countHits 58 = .ok (.aload_n 0, 1) := by decide +kernel
theorem dX6_countHits_59 : decode cX6_countHits 59 = .ok (.getfield 31, 3) := by decide +kernel
theorem dX6_countHits_62 : decode cX6_countHits 62 = .ok (.getfield 361, 3) := by decide +kernel
theorem dX6_countHits_65 : decode cX6_countHits 65 = .ok (.iload_n 3, 1) := by decide +kernel
theorem dX6_countHits_66 : decode cX6_countHits 66 = .ok (.ior, 1) := by decide +kernel
theorem dX6_countHits_67 : decode cX6_countHits 67 = .ok (.istore 5, 2) := by decide +kernel
theorem dX6_countHits_69 : decode cX6_countHits 69 = .ok (.aload_n 0, 1) := by decide +kernel
theorem dX6_countHits_70 : decode cX6_countHits 70 = .ok (.getfield 31, 3) := by decide +kernel
theorem dX6_countHits_73 : decode cX6_countHits 73 = .ok (.iload 5, 2) := by decide +kernel
theorem dX6_countHits_75 : decode cX6_countHits 75 = .ok (.iload 5, 2) := by decide +kernel
theorem dX6_countHits_77 : decode cX6_countHits 77 = .ok (.iconst (-1), 1) := by decide +kernel
theorem dX6_countHits_78 : decode cX6_countHits 78 = .ok (.ixor, 1) := by decide +kernel
theorem dX6_countHits_79 : decode cX6_countHits 79 = .ok (.invokevirtual 364, 3) := by decide +kernel
theorem dX6_countHits_82 : decode cX6_countHits 82 = .ok (.aload_n 0, 1) := by decide +kernel
theorem dX6_countHits_83 : decode cX6_countHits 83 = .ok (.getfield 31, 3) := by decide +kernel
theorem dX6_countHits_86 : decode cX6_countHits 86 = .ok (.getfield 367, 3) := by decide +kernel
theorem dX6_countHits_89 : decode cX6_countHits 89 = .ok (.ldc 210, 2) := by decide +kernel
theorem dX6_countHits_91 : decode cX6_countHits 91 = .ok (.if_icmp .eq 28, 3) := by decide +kernel
theorem dX6_countHits_94 : decode cX6_countHits 94 = .ok (.aload_n 0, 1) := by decide +kernel
theorem dX6_countHits_95 : decode cX6_countHits 95 = .ok (.getfield 31, 3) := by decide +kernel
theorem dX6_countHits_98 : decode cX6_countHits 98 = .ok (.getfield 367, 3) := by decide +kernel
theorem dX6_countHits_101 : decode cX6_countHits 101 = .ok (.iload_n 1, 1) := by decide +kernel
theorem dX6_countHits_102 : decode cX6_countHits 102 = .ok (.if_icmp .gt 17, 3) := by decide +kernel
theorem dX6_countHits_105 : decode cX6_countHits 105 = .ok (.aload_n 0, 1) := by decide +kernel
theorem dX6_countHits_106 : decode cX6_countHits 106 = .ok (.getfield 35, 3) := by decide +kernel
theorem dX6_countHits_109 : decode cX6_countHits 109 = .ok (.iload 4, 2) := by decide +kernel
theorem dX6_countHits_111 : decode cX6_countHits 111 = .ok (.invokestatic 286, 3) := by decide +kernel
theorem dX6_countHits_114 : decode cX6_countHits 114 = .ok (.dup2, 1) := by decide +kernel
theorem dX6_countHits_115 : decode cX6_countHits 115 = .ok (.iaload, 1) := by decide +kernel
theorem dX6_countHits_116 : decode cX6_countHits 116 = .ok (.iconst 1, 1) := by decide +kernel
theorem dX6_countHits_117 : decode cX6_countHits 117 = .ok (.iadd, 1) := by decide +kernel
theorem dX6_countHits_118 : decode cX6_countHits 118 = .ok (.iastore, 1) := by decide +kernel
theorem dX6_countHits_119 : decode cX6_countHits 119 = .ok (.iload_n 3, 1) := by decide +kernel
theorem dX6_countHits_120 : decode cX6_countHits 120 = .ok (.aload_n 0, 1) := by decide +kernel
theorem dX6_countHits_121 : decode cX6_countHits 121 = .ok (.getfield 31, 3) := by decide +kernel
theorem dX6_countHits_124 : decode cX6_countHits 124 = .ok (.getfield 283, 3) := by decide +kernel
theorem dX6_countHits_127 : decode cX6_countHits 127 = .ok (.isub, 1) := by decide +kernel
theorem dX6_countHits_128 : decode cX6_countHits 128 = .ok (.aload_n 0, 1) := by decide +kernel
theorem dX6_countHits_129 : decode cX6_countHits 129 = .ok (.getfield 31, 3) := by decide +kernel
theorem dX6_countHits_132 : decode cX6_countHits 132 = .ok (.getfield 283, 3) := by decide +kernel
theorem dX6_countHits_135 : decode cX6_countHits 135 = .ok (.iand, 1) := by decide +kernel
theorem dX6_countHits_136 : decode cX6_countHits 136 = .ok (.istore_n 3, 1) := by decide +kernel
theorem dX6_countHits_137 : decode cX6_countHits 137 = .ok (.iinc 4 1, 3) := by decide +kernel
theorem dX6_countHits_140 : decode cX6_countHits 140 = .ok (.goto (-90), 3) := by decide +kernel
theorem dX6_countHits_143 : decode cX6_countHits 143 = .ok (.return_, 1) := by decide +kernel
theorem dX6_power_0 : decode cX6_power 0 = .ok (.lconst 1, 1) := by decide +kernel
theorem dX6_power_1 : decode cX6_power 1 = .ok (.lstore_n 2, 1) := by decide +kernel
theorem dX6_power_2 : decode cX6_power 2 = .ok (.iconst 0, 1) := by decide +kernel
theorem dX6_power_3 : decode cX6_power 3 = .ok (.istore 4, 2) := by decide +kernel
theorem dX6_power_5 : decode cX6_power 5 = .ok (.iload 4, 2) := by decide +kernel
theorem dX6_power_7 : decode cX6_power 7 = .ok (.iload_n 1, 1) := by decide +kernel
theorem dX6_power_8 : decode cX6_power 8 = .ok (.if_icmp .ge 14, 3) := by decide +kernel
theorem dX6_power_11 : decode cX6_power 11 = .ok (.lload_n 2, 1) := by decide +kernel
theorem dX6_power_12 : decode cX6_power 12 = .ok (.iload_n 0, 1) := by decide +kernel
theorem dX6_power_13 : decode cX6_power 13 = .ok (.i2l, 1) := by decide +kernel
theorem dX6_power_14 : decode cX6_power 14 = .ok (.lmul, 1) := by decide +kernel
theorem dX6_power_15 : decode cX6_power 15 = .ok (.lstore_n 2, 1) := by decide +kernel
theorem dX6_power_16 : decode cX6_power 16 = .ok (.iinc 4 1, 3) := by decide +kernel
theorem dX6_power_19 : decode cX6_power 19 = .ok (.goto (-14), 3) := by decide +kernel
theorem dX6_power_22 : decode cX6_power 22 = .ok (.lload_n 2, 1) := by decide +kernel
theorem dX6_power_23 : decode cX6_power 23 = .ok (.lreturn, 1) := by decide +kernel
theorem dX6_commonDivisor_0 : decode cX6_commonDivisor 0 = .ok (.lload_n 0, 1) := by decide +kernel
theorem dX6_commonDivisor_1 : decode cX6_commonDivisor 1 = .ok (.lstore 4, 2) := by decide +kernel
theorem dX6_commonDivisor_3 : decode cX6_commonDivisor 3 = .ok (.lload_n 2, 1) := by decide +kernel
theorem dX6_commonDivisor_4 : decode cX6_commonDivisor 4 = .ok (.lstore 6, 2) := by decide +kernel
theorem dX6_commonDivisor_6 : decode cX6_commonDivisor 6 = .ok (.iconst 0, 1) := by decide +kernel
theorem dX6_commonDivisor_7 : decode cX6_commonDivisor 7 = .ok (.istore 8, 2) := by decide +kernel
theorem dX6_commonDivisor_9 : decode cX6_commonDivisor 9 = .ok (.iload 8, 2) := by decide +kernel
theorem dX6_commonDivisor_11 : decode cX6_commonDivisor 11 = .ok (.bipush 100, 2) := by decide +kernel
theorem dX6_commonDivisor_13 : decode cX6_commonDivisor 13 = .ok (.if_icmp .ge 31, 3) := by decide +kernel
theorem dX6_commonDivisor_16 : decode cX6_commonDivisor 16 = .ok (.lload 6, 2) := by decide +kernel
theorem dX6_commonDivisor_18 : decode cX6_commonDivisor 18 = .ok (.lconst 0, 1) := by decide +kernel
theorem dX6_commonDivisor_19 : decode cX6_commonDivisor 19 = .ok (.lcmp, 1) := by decide +kernel
theorem dX6_commonDivisor_20 : decode cX6_commonDivisor 20 = .ok (.ifCond .eq 24, 3) := by decide +kernel
theorem dX6_commonDivisor_23 : decode cX6_commonDivisor 23 = .ok (.lload 4, 2) := by decide +kernel
theorem dX6_commonDivisor_25 : decode cX6_commonDivisor 25 = .ok (.lload 6, 2) := by decide +kernel
theorem dX6_commonDivisor_27 : decode cX6_commonDivisor 27 = .ok (.lrem, 1) := by decide +kernel
theorem dX6_commonDivisor_28 : decode cX6_commonDivisor 28 = .ok (.lstore 9, 2) := by decide +kernel
theorem dX6_commonDivisor_30 : decode cX6_commonDivisor 30 = .ok (.lload 6, 2) := by decide +kernel
theorem dX6_commonDivisor_32 : decode cX6_commonDivisor 32 = .ok (.lstore 4, 2) := by decide +kernel
theorem dX6_commonDivisor_34 : decode cX6_commonDivisor 34 = .ok (.lload 9, 2) := by decide +kernel
theorem dX6_commonDivisor_36 : decode cX6_commonDivisor 36 = .ok (.lstore 6, 2) := by decide +kernel
theorem dX6_commonDivisor_38 : decode cX6_commonDivisor 38 = .ok (.iinc 8 1, 3) := by decide +kernel
theorem dX6_commonDivisor_41 : decode cX6_commonDivisor 41 = .ok (.goto (-32), 3) := by decide +kernel
theorem dX6_commonDivisor_44 : decode cX6_commonDivisor 44 = .ok (.lload 4, 2) := by decide +kernel
theorem dX6_commonDivisor_46 : decode cX6_commonDivisor 46 = .ok (.lreturn, 1) := by decide +kernel
theorem dX6_leastOfDrawn_0 : decode cX6_leastOfDrawn 0 = .ok (.aload_n 0, 1) := by decide +kernel
theorem dX6_leastOfDrawn_1 : decode cX6_leastOfDrawn 1 = .ok (.getfield 55, 3) := by decide +kernel
theorem dX6_leastOfDrawn_4 : decode cX6_leastOfDrawn 4 = .ok (.getfield 267, 3) := by decide +kernel
theorem dX6_leastOfDrawn_7 : decode cX6_leastOfDrawn 7 = .ok (.iconst 1, 1) := by decide +kernel
theorem dX6_leastOfDrawn_8 : decode cX6_leastOfDrawn 8 = .ok (.if_icmp .ge 6, 3) := by decide +kernel
theorem dX6_leastOfDrawn_11 : decode cX6_leastOfDrawn 11 = .ok (.ldc 210, 2) := by decide +kernel
theorem dX6_leastOfDrawn_13 : decode cX6_leastOfDrawn 13 = .ok (.ireturn, 1) := by decide +kernel
theorem dX6_leastOfDrawn_14 : decode cX6_leastOfDrawn 14 = .ok (.lload_n 1, 1) := by decide +kernel
theorem dX6_leastOfDrawn_15 : decode cX6_leastOfDrawn 15 = .ok (.aload_n 0, 1) := by decide +kernel
theorem dX6_leastOfDrawn_16 : decode cX6_leastOfDrawn 16 = .ok (.getfield 55, 3) := by decide +kernel
theorem dX6_leastOfDrawn_19 : decode cX6_leastOfDrawn 19 = .ok (.getfield 267, 3) := by decide +kernel
theorem dX6_leastOfDrawn_22 : decode cX6_leastOfDrawn 22 = .ok (.i2l, 1) := by decide +kernel
theorem dX6_leastOfDrawn_23 : decode cX6_leastOfDrawn 23 = .ok (.lrem, 1) := by decide +kernel
theorem dX6_leastOfDrawn_24 : decode cX6_leastOfDrawn 24 = .ok (.l2i, 1) := by decide +kernel
theorem dX6_leastOfDrawn_25 : decode cX6_leastOfDrawn 25 = .ok (.istore_n 3, 1) := by decide +kernel
theorem dX6_leastOfDrawn_26 : decode cX6_leastOfDrawn 26 = .ok (.aload_n 0, 1) := by decide +kernel
theorem dX6_leastOfDrawn_27 : decode cX6_leastOfDrawn 27 = .ok (.getfield 55, 3) := by decide +kernel
theorem dX6_leastOfDrawn_30 : decode cX6_leastOfDrawn 30 = .ok (.iload_n 3, 1) := by decide +kernel
theorem dX6_leastOfDrawn_31 : decode cX6_leastOfDrawn 31 = .ok (.invokevirtual 142, 3) := by decide +kernel
theorem dX6_leastOfDrawn_34 : decode cX6_leastOfDrawn 34 = .ok (.ifCond .ne 6, 3) := by decide +kernel
theorem dX6_leastOfDrawn_37 : decode cX6_leastOfDrawn 37 = .ok (.ldc 210, 2) := by decide +kernel
theorem dX6_leastOfDrawn_39 : decode cX6_leastOfDrawn 39 = .ok (.ireturn, 1) := by decide +kernel
theorem dX6_leastOfDrawn_40 : decode cX6_leastOfDrawn 40 = .ok (.aload_n 0, 1) := by decide +kernel
theorem dX6_leastOfDrawn_41 : decode cX6_leastOfDrawn 41 = .ok (.getfield 55, 3) := by decide +kernel
theorem dX6_leastOfDrawn_44 : decode cX6_leastOfDrawn 44 = .ok (.getfield 148, 3) := by decide +kernel
theorem dX6_leastOfDrawn_47 : decode cX6_leastOfDrawn 47 = .ok (.iload_n 3, 1) := by decide +kernel
theorem dX6_leastOfDrawn_48 : decode cX6_leastOfDrawn 48 = .ok (.lload_n 1, 1) := by decide +kernel
theorem dX6_leastOfDrawn_49 : decode cX6_leastOfDrawn 49 = .ok (.ldc2_w 370, 3) := by decide +kernel
theorem dX6_leastOfDrawn_52 : decode cX6_leastOfDrawn 52 = .ok (.ldiv, 1) := by decide +kernel
theorem dX6_leastOfDrawn_53 : decode cX6_leastOfDrawn 53 = .ok (.ldc2_w 372, 3) := by decide +kernel
theorem dX6_leastOfDrawn_56 : decode cX6_leastOfDrawn 56 = .ok (.lrem, 1) := by decide +kernel
theorem dX6_leastOfDrawn_57 : decode cX6_leastOfDrawn 57 = .ok (.l2i, 1) := by decide +kernel
theorem dX6_leastOfDrawn_58 : decode cX6_leastOfDrawn 58 = .ok (.iconst 1, 1) := by decide +kernel
theorem dX6_leastOfDrawn_59 : decode cX6_leastOfDrawn 59 = .ok (.iadd, 1) := by decide +kernel
theorem dX6_leastOfDrawn_60 : decode cX6_leastOfDrawn 60 = .ok (.iastore, 1) := by decide +kernel
theorem dX6_leastOfDrawn_61 : decode cX6_leastOfDrawn 61 = .ok (.aload_n 0, 1) := by decide +kernel
theorem dX6_leastOfDrawn_62 : decode cX6_leastOfDrawn 62 = .ok (.getfield 31, 3) := by decide +kernel
theorem dX6_leastOfDrawn_65 : decode cX6_leastOfDrawn 65 = .ok (.aload_n 0, 1) := by decide +kernel
theorem dX6_leastOfDrawn_66 : decode cX6_leastOfDrawn 66 = .ok (.getfield 55, 3) := by decide +kernel
theorem dX6_leastOfDrawn_69 : decode cX6_leastOfDrawn 69 = .ok (.aload_n 0, 1) := by decide +kernel
theorem dX6_leastOfDrawn_70 : decode cX6_leastOfDrawn 70 = .ok (.getfield 55, 3) := by decide +kernel
theorem dX6_leastOfDrawn_73 : decode cX6_leastOfDrawn 73 = .ok (.iload_n 3, 1) := by decide +kernel
theorem dX6_leastOfDrawn_74 : decode cX6_leastOfDrawn 74 = .ok (.invokevirtual 175, 3) := by decide +kernel
theorem dX6_leastOfDrawn_77 : decode cX6_leastOfDrawn 77 = .ok (.invokevirtual 239, 3) := by decide +kernel
theorem dX6_leastOfDrawn_80 : decode cX6_leastOfDrawn 80 = .ok (.aload_n 0, 1) := by decide +kernel
theorem dX6_leastOfDrawn_81 : decode cX6_leastOfDrawn 81 = .ok (.getfield 31, 3) := by decide +kernel
theorem dX6_leastOfDrawn_84 : decode cX6_leastOfDrawn 84 = .ok (.aload_n 0, 1) := by decide +kernel
theorem dX6_leastOfDrawn_85 : decode cX6_leastOfDrawn 85 = .ok (.getfield 55, 3) := by decide +kernel
theorem dX6_leastOfDrawn_88 : decode cX6_leastOfDrawn 88 = .ok (.getfield 200, 3) := by decide +kernel
theorem dX6_leastOfDrawn_91 : decode cX6_leastOfDrawn 91 = .ok (.aload_n 0, 1) := by decide +kernel
theorem dX6_leastOfDrawn_92 : decode cX6_leastOfDrawn 92 = .ok (.getfield 55, 3) := by decide +kernel
theorem dX6_leastOfDrawn_95 : decode cX6_leastOfDrawn 95 = .ok (.getfield 203, 3) := by decide +kernel
theorem dX6_leastOfDrawn_98 : decode cX6_leastOfDrawn 98 = .ok (.invokevirtual 243, 3) := by decide +kernel
theorem dX6_leastOfDrawn_101 : decode cX6_leastOfDrawn 101 = .ok (.ireturn, 1) := by decide +kernel
theorem dX6_leave_0 : decode cX6_leave 0 = .ok (.aload_n 0, 1) := by decide +kernel
theorem dX6_leave_1 : decode cX6_leave 1 = .ok (.getfield 319, 3) := by decide +kernel
theorem dX6_leave_4 : decode cX6_leave 4 = .ok (.bipush 16, 2) := by decide +kernel
theorem dX6_leave_6 : decode cX6_leave 6 = .ok (.if_icmp .ge 23, 3) := by decide +kernel
theorem dX6_leave_9 : decode cX6_leave 9 = .ok (.aload_n 0, 1) := by decide +kernel
theorem dX6_leave_10 : decode cX6_leave 10 = .ok (.getfield 39, 3) := by decide +kernel
theorem dX6_leave_13 : decode cX6_leave 13 = .ok (.aload_n 0, 1) := by decide +kernel
theorem dX6_leave_14 : decode cX6_leave 14 = .ok (.getfield 319, 3) := by decide +kernel
theorem dX6_leave_17 : decode cX6_leave 17 = .ok (.iload_n 1, 1) := by decide +kernel
theorem dX6_leave_18 : decode cX6_leave 18 = .ok (.iastore, 1) := by decide +kernel
theorem dX6_leave_19 : decode cX6_leave 19 = .ok (.aload_n 0, 1) := by decide +kernel
theorem dX6_leave_20 : decode cX6_leave 20 = .ok (.dup, 1) := by decide +kernel
theorem dX6_leave_21 : decode cX6_leave 21 = .ok (.getfield 319, 3) := by decide +kernel
theorem dX6_leave_24 : decode cX6_leave 24 = .ok (.iconst 1, 1) := by decide +kernel
theorem dX6_leave_25 : decode cX6_leave 25 = .ok (.iadd, 1) := by decide +kernel
theorem dX6_leave_26 : decode cX6_leave 26 = .ok (.putfield 319, 3) := by decide +kernel
theorem dX6_leave_29 : decode cX6_leave 29 = .ok (.return_, 1) := by decide +kernel
theorem dX6_bodyOf_0 : decode cX6_bodyOf 0 = .ok (.iload_n 0, 1) := by decide +kernel
theorem dX6_bodyOf_1 : decode cX6_bodyOf 1 = .ok (.ifCond .lt 8, 3) := by decide +kernel
theorem dX6_bodyOf_4 : decode cX6_bodyOf 4 = .ok (.iload_n 0, 1) := by decide +kernel
theorem dX6_bodyOf_5 : decode cX6_bodyOf 5 = .ok (.iconst 5, 1) := by decide +kernel
theorem dX6_bodyOf_6 : decode cX6_bodyOf 6 = .ok (.if_icmp .le 15, 3) := by decide +kernel
theorem dX6_bodyOf_9 : decode cX6_bodyOf 9 = .ok (.iload_n 1, 1) := by decide +kernel
theorem dX6_bodyOf_10 : decode cX6_bodyOf 10 = .ok (.ifCond .ne 8, 3) := by decide +kernel
theorem dX6_bodyOf_13 : decode cX6_bodyOf 13 = .ok (.bipush 10, 2) := by decide +kernel
theorem dX6_bodyOf_15 : decode cX6_bodyOf 15 = .ok (.goto 5, 3) := by decide +kernel
theorem dX6_bodyOf_18 : decode cX6_bodyOf 18 = .ok (.bipush 20, 2) := by decide +kernel
theorem dX6_bodyOf_20 : decode cX6_bodyOf 20 = .ok (.ireturn, 1) := by decide +kernel
theorem dX6_bodyOf_21 : decode cX6_bodyOf 21 = .ok (.iload_n 1, 1) := by decide +kernel
theorem dX6_bodyOf_22 : decode cX6_bodyOf 22 = .ok (.ifCond .ne 11, 3) := by decide +kernel
theorem dX6_bodyOf_25 : decode cX6_bodyOf 25 = .ok (.getstatic 374, 3) := by decide +kernel
theorem dX6_bodyOf_28 : decode cX6_bodyOf 28 = .ok (.iload_n 0, 1) := by decide +kernel
theorem dX6_bodyOf_29 : decode cX6_bodyOf 29 = .ok (.iaload, 1) := by decide +kernel
theorem dX6_bodyOf_30 : decode cX6_bodyOf 30 = .ok (.goto 8, 3) := by decide +kernel
theorem dX6_bodyOf_33 : decode cX6_bodyOf 33 = .ok (.getstatic 377, 3) := by decide +kernel
theorem dX6_bodyOf_36 : decode cX6_bodyOf 36 = .ok (.iload_n 0, 1) := by decide +kernel
theorem dX6_bodyOf_37 : decode cX6_bodyOf 37 = .ok (.iaload, 1) := by decide +kernel
theorem dX6_bodyOf_38 : decode cX6_bodyOf 38 = .ok (.ireturn, 1) := by decide +kernel
theorem dX6_answerOf_0 : decode cX6_answerOf 0 = .ok (.iload_n 3, 1) := by decide +kernel
theorem dX6_answerOf_1 : decode cX6_answerOf 1 = .ok (.bipush 10, 2) := by decide +kernel
theorem dX6_answerOf_3 : decode cX6_answerOf 3 = .ok (.if_icmp .gt 14, 3) := by decide +kernel
theorem dX6_answerOf_6 : decode cX6_answerOf 6 = .ok (.aload_n 0, 1) := by decide +kernel
theorem dX6_answerOf_7 : decode cX6_answerOf 7 = .ok (.getfield 51, 3) := by decide +kernel
theorem dX6_answerOf_10 : decode cX6_answerOf 10 = .ok (.iload_n 2, 1) := by decide +kernel
theorem dX6_answerOf_11 : decode cX6_answerOf 11 = .ok (.invokevirtual 142, 3) := by decide +kernel
theorem dX6_answerOf_14 : decode cX6_answerOf 14 = .ok (.ifCond .ne 5, 3) := by decide +kernel
theorem dX6_answerOf_17 : decode cX6_answerOf 17 = .ok (.iconst 0, 1) := by decide +kernel
theorem dX6_answerOf_18 : decode cX6_answerOf 18 = .ok (.ireturn, 1) := by decide +kernel
theorem dX6_answerOf_19 : decode cX6_answerOf 19 = .ok (.aload_n 0, 1) := by decide +kernel
theorem dX6_answerOf_20 : decode cX6_answerOf 20 = .ok (.iload_n 1, 1) := by decide +kernel
theorem dX6_answerOf_21 : decode cX6_answerOf 21 = .ok (.invokevirtual 380, 3) := by decide +kernel
theorem dX6_answerOf_24 : decode cX6_answerOf 24 = .ok (.iload_n 3, 1) := by decide +kernel
theorem dX6_answerOf_25 : decode cX6_answerOf 25 = .ok (.iconst 1, 1) := by decide +kernel
theorem dX6_answerOf_26 : decode cX6_answerOf 26 = .ok (.iadd, 1) := by decide +kernel
theorem dX6_answerOf_27 : decode cX6_answerOf 27 = .ok (.istore 4, 2) := by decide +kernel
theorem dX6_answerOf_29 : decode cX6_answerOf 29 = .ok (.aload_n 0, 1) := by decide +kernel
theorem dX6_answerOf_30 : decode cX6_answerOf 30 = .ok (.getfield 51, 3) := by decide +kernel
theorem dX6_answerOf_33 : decode cX6_answerOf 33 = .ok (.getfield 148, 3) := by decide +kernel
theorem dX6_answerOf_36 : decode cX6_answerOf 36 = .ok (.iload_n 2, 1) := by decide +kernel
theorem dX6_answerOf_37 : decode cX6_answerOf 37 = .ok (.iaload, 1) := by decide +kernel
theorem dX6_answerOf_38 : decode cX6_answerOf 38 = .ok (.istore 5, 2) := by decide +kernel
theorem dX6_answerOf_40 : decode cX6_answerOf 40 = .ok (.iload_n 1, 1) := by decide +kernel
theorem dX6_answerOf_41 : decode cX6_answerOf 41 = .ok (.tableswitch 222 10 24 #[75, 88, 112, 124, 137, 222, 222, 222, 222, 222, 222, 149, 172, 186, 210], 75) := by decide +kernel
theorem dX6_answerOf_116 : decode cX6_answerOf 116 = .ok (.aload_n 0, 1) := by decide +kernel
theorem dX6_answerOf_117 : decode cX6_answerOf 117 = .ok (.getfield 51, 3) := by decide +kernel
theorem dX6_answerOf_120 : decode cX6_answerOf 120 = .ok (.getfield 178, 3) := by decide +kernel
theorem dX6_answerOf_123 : decode cX6_answerOf 123 = .ok (.iload_n 2, 1) := by decide +kernel
theorem dX6_answerOf_124 : decode cX6_answerOf 124 = .ok (.aaload, 1) := by decide +kernel
theorem dX6_answerOf_125 : decode cX6_answerOf 125 = .ok (.getfield 206, 3) := by decide +kernel
theorem dX6_answerOf_128 : decode cX6_answerOf 128 = .ok (.ireturn, 1) := by decide +kernel
theorem dX6_answerOf_129 : decode cX6_answerOf 129 = .ok (.aload_n 0, 1) := by decide +kernel
theorem dX6_answerOf_130 : decode cX6_answerOf 130 = .ok (.bipush 10, 2) := by decide +kernel
theorem dX6_answerOf_132 : decode cX6_answerOf 132 = .ok (.iload_n 2, 1) := by decide +kernel
theorem dX6_answerOf_133 : decode cX6_answerOf 133 = .ok (.iload 4, 2) := by decide +kernel
theorem dX6_answerOf_135 : decode cX6_answerOf 135 = .ok (.invokevirtual 325, 3) := by decide +kernel
theorem dX6_answerOf_138 : decode cX6_answerOf 138 = .ok (.aload_n 0, 1) := by decide +kernel
theorem dX6_answerOf_139 : decode cX6_answerOf 139 = .ok (.iload 5, 2) := by decide +kernel
theorem dX6_answerOf_141 : decode cX6_answerOf 141 = .ok (.iconst 1, 1) := by decide +kernel
theorem dX6_answerOf_142 : decode cX6_answerOf 142 = .ok (.invokestatic 322, 3) := by decide +kernel
theorem dX6_answerOf_145 : decode cX6_answerOf 145 = .ok (.iload_n 2, 1) := by decide +kernel
theorem dX6_answerOf_146 : decode cX6_answerOf 146 = .ok (.iload 4, 2) := by decide +kernel
theorem dX6_answerOf_148 : decode cX6_answerOf 148 = .ok (.invokevirtual 325, 3) := by decide +kernel
theorem dX6_answerOf_151 : decode cX6_answerOf 151 = .ok (.iadd, 1) := by decide +kernel
theorem dX6_answerOf_152 : decode cX6_answerOf 152 = .ok (.ireturn, 1) := by decide +kernel
theorem dX6_answerOf_153 : decode cX6_answerOf 153 = .ok (.iconst 0, 1) := by decide +kernel
theorem dX6_answerOf_154 : decode cX6_answerOf 154 = .ok (.aload_n 0, 1) := by decide +kernel
theorem dX6_answerOf_155 : decode cX6_answerOf 155 = .ok (.bipush 11, 2) := by decide +kernel
theorem dX6_answerOf_157 : decode cX6_answerOf 157 = .ok (.iload_n 2, 1) := by decide +kernel
theorem dX6_answerOf_158 : decode cX6_answerOf 158 = .ok (.iload 4, 2) := by decide +kernel
theorem dX6_answerOf_160 : decode cX6_answerOf 160 = .ok (.invokevirtual 325, 3) := by decide +kernel
theorem dX6_answerOf_163 : decode cX6_answerOf 163 = .ok (.isub, 1) := by decide +kernel
theorem dX6_answerOf_164 : decode cX6_answerOf 164 = .ok (.ireturn, 1) := by decide +kernel
theorem dX6_answerOf_165 : decode cX6_answerOf 165 = .ok (.aload_n 0, 1) := by decide +kernel
theorem dX6_answerOf_166 : decode cX6_answerOf 166 = .ok (.bipush 10, 2) := by decide +kernel
theorem dX6_answerOf_168 : decode cX6_answerOf 168 = .ok (.iload_n 2, 1) := by decide +kernel
theorem dX6_answerOf_169 : decode cX6_answerOf 169 = .ok (.iload 4, 2) := by decide +kernel
theorem dX6_answerOf_171 : decode cX6_answerOf 171 = .ok (.invokevirtual 325, 3) := by decide +kernel
theorem dX6_answerOf_174 : decode cX6_answerOf 174 = .ok (.bipush 100, 2) := by decide +kernel
theorem dX6_answerOf_176 : decode cX6_answerOf 176 = .ok (.isub, 1) := by decide +kernel
theorem dX6_answerOf_177 : decode cX6_answerOf 177 = .ok (.ireturn, 1) := by decide +kernel
theorem dX6_answerOf_178 : decode cX6_answerOf 178 = .ok (.iconst 2, 1) := by decide +kernel
theorem dX6_answerOf_179 : decode cX6_answerOf 179 = .ok (.aload_n 0, 1) := by decide +kernel
theorem dX6_answerOf_180 : decode cX6_answerOf 180 = .ok (.bipush 13, 2) := by decide +kernel
theorem dX6_answerOf_182 : decode cX6_answerOf 182 = .ok (.iload_n 2, 1) := by decide +kernel
theorem dX6_answerOf_183 : decode cX6_answerOf 183 = .ok (.iload 4, 2) := by decide +kernel
theorem dX6_answerOf_185 : decode cX6_answerOf 185 = .ok (.invokevirtual 325, 3) := by decide +kernel
theorem dX6_answerOf_188 : decode cX6_answerOf 188 = .ok (.imul, 1) := by decide +kernel
theorem dX6_answerOf_189 : decode cX6_answerOf 189 = .ok (.ireturn, 1) := by decide +kernel
theorem dX6_answerOf_190 : decode cX6_answerOf 190 = .ok (.aload_n 0, 1) := by decide +kernel
theorem dX6_answerOf_191 : decode cX6_answerOf 191 = .ok (.bipush 20, 2) := by decide +kernel
theorem dX6_answerOf_193 : decode cX6_answerOf 193 = .ok (.iload_n 2, 1) := by decide +kernel
theorem dX6_answerOf_194 : decode cX6_answerOf 194 = .ok (.iload 4, 2) := by decide +kernel
theorem dX6_answerOf_196 : decode cX6_answerOf 196 = .ok (.invokevirtual 325, 3) := by decide +kernel
theorem dX6_answerOf_199 : decode cX6_answerOf 199 = .ok (.aload_n 0, 1) := by decide +kernel
theorem dX6_answerOf_200 : decode cX6_answerOf 200 = .ok (.getfield 51, 3) := by decide +kernel
theorem dX6_answerOf_203 : decode cX6_answerOf 203 = .ok (.getfield 178, 3) := by decide +kernel
theorem dX6_answerOf_206 : decode cX6_answerOf 206 = .ok (.iload_n 2, 1) := by decide +kernel
theorem dX6_answerOf_207 : decode cX6_answerOf 207 = .ok (.aaload, 1) := by decide +kernel
theorem dX6_answerOf_208 : decode cX6_answerOf 208 = .ok (.getfield 211, 3) := by decide +kernel
theorem dX6_answerOf_211 : decode cX6_answerOf 211 = .ok (.iadd, 1) := by decide +kernel
theorem dX6_answerOf_212 : decode cX6_answerOf 212 = .ok (.ireturn, 1) := by decide +kernel
theorem dX6_answerOf_213 : decode cX6_answerOf 213 = .ok (.aload_n 0, 1) := by decide +kernel
theorem dX6_answerOf_214 : decode cX6_answerOf 214 = .ok (.bipush 21, 2) := by decide +kernel
theorem dX6_answerOf_216 : decode cX6_answerOf 216 = .ok (.iload_n 2, 1) := by decide +kernel
theorem dX6_answerOf_217 : decode cX6_answerOf 217 = .ok (.iload 4, 2) := by decide +kernel
theorem dX6_answerOf_219 : decode cX6_answerOf 219 = .ok (.invokevirtual 325, 3) := by decide +kernel
theorem dX6_answerOf_222 : decode cX6_answerOf 222 = .ok (.sipush 1000, 3) := by decide +kernel
theorem dX6_answerOf_225 : decode cX6_answerOf 225 = .ok (.isub, 1) := by decide +kernel
theorem dX6_answerOf_226 : decode cX6_answerOf 226 = .ok (.ireturn, 1) := by decide +kernel
theorem dX6_answerOf_227 : decode cX6_answerOf 227 = .ok (.aload_n 0, 1) := by decide +kernel
theorem dX6_answerOf_228 : decode cX6_answerOf 228 = .ok (.bipush 20, 2) := by decide +kernel
theorem dX6_answerOf_230 : decode cX6_answerOf 230 = .ok (.iload_n 2, 1) := by decide +kernel
theorem dX6_answerOf_231 : decode cX6_answerOf 231 = .ok (.iload 4, 2) := by decide +kernel
theorem dX6_answerOf_233 : decode cX6_answerOf 233 = .ok (.invokevirtual 325, 3) := by decide +kernel
theorem dX6_answerOf_236 : decode cX6_answerOf 236 = .ok (.aload_n 0, 1) := by decide +kernel
theorem dX6_answerOf_237 : decode cX6_answerOf 237 = .ok (.iload 5, 2) := by decide +kernel
theorem dX6_answerOf_239 : decode cX6_answerOf 239 = .ok (.iconst 0, 1) := by decide +kernel
theorem dX6_answerOf_240 : decode cX6_answerOf 240 = .ok (.invokestatic 322, 3) := by decide +kernel
theorem dX6_answerOf_243 : decode cX6_answerOf 243 = .ok (.iload_n 2, 1) := by decide +kernel
theorem dX6_answerOf_244 : decode cX6_answerOf 244 = .ok (.iload 4, 2) := by decide +kernel
theorem dX6_answerOf_246 : decode cX6_answerOf 246 = .ok (.invokevirtual 325, 3) := by decide +kernel
theorem dX6_answerOf_249 : decode cX6_answerOf 249 = .ok (.isub, 1) := by decide +kernel
theorem dX6_answerOf_250 : decode cX6_answerOf 250 = .ok (.ireturn, 1) := by decide +kernel
theorem dX6_answerOf_251 : decode cX6_answerOf 251 = .ok (.iconst 2, 1) := by decide +kernel
theorem dX6_answerOf_252 : decode cX6_answerOf 252 = .ok (.aload_n 0, 1) := by decide +kernel
theorem dX6_answerOf_253 : decode cX6_answerOf 253 = .ok (.bipush 21, 2) := by decide +kernel
theorem dX6_answerOf_255 : decode cX6_answerOf 255 = .ok (.iload_n 2, 1) := by decide +kernel
theorem dX6_answerOf_256 : decode cX6_answerOf 256 = .ok (.iload 4, 2) := by decide +kernel
theorem dX6_answerOf_258 : decode cX6_answerOf 258 = .ok (.invokevirtual 325, 3) := by decide +kernel
theorem dX6_answerOf_261 : decode cX6_answerOf 261 = .ok (.imul, 1) := by decide +kernel
theorem dX6_answerOf_262 : decode cX6_answerOf 262 = .ok (.ireturn, 1) := by decide +kernel
theorem dX6_answerOf_263 : decode cX6_answerOf 263 = .ok (.iload_n 2, 1) := by decide +kernel
theorem dX6_answerOf_264 : decode cX6_answerOf 264 = .ok (.ireturn, 1) := by decide +kernel
