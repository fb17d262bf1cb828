theorem dX7_init_0 : decode cX7_init 0 = .ok (.aload_n 0, 1) := by decide +kernel
theorem dX7_init_1 : decode cX7_init 1 = .ok (.invokespecial 1, 3) := by decide +kernel
theorem dX7_init_4 : decode cX7_init 4 = .ok (.aload_n 0, 1) := by decide +kernel
theorem dX7_init_5 : decode cX7_init 5 = .ok (.bipush 8, 2) := by decide +kernel
theorem dX7_init_7 : decode cX7_init 7 = .ok (.newarray .int, 2) := by decide +kernel
theorem dX7_init_9 : decode cX7_init 9 = .ok (.dup, 1) := by decide +kernel
theorem dX7_init_10 : decode cX7_init 10 = .ok (.iconst 0, 1) := by decide +kernel
theorem dX7_init_11 : decode cX7_init 11 = .ok (.iconst (-1), 1) := by decide +kernel
theorem dX7_init_12 : decode cX7_init 12 = .ok (.iastore, 1) := by decide +kernel
theorem dX7_init_13 : decode cX7_init 13 = .ok (.dup, 1) := by decide +kernel
theorem dX7_init_14 : decode cX7_init 14 = .ok (.iconst 1, 1) := by decide +kernel
theorem dX7_init_15 : decode cX7_init 15 = .ok (.iconst (-1), 1) := by decide +kernel
theorem dX7_init_16 : decode cX7_init 16 = .ok (.iastore, 1) := by decide +kernel
theorem dX7_init_17 : decode cX7_init 17 = .ok (.dup, 1) := by decide +kernel
theorem dX7_init_18 : decode cX7_init 18 = .ok (.iconst 2, 1) := by decide +kernel
theorem dX7_init_19 : decode cX7_init 19 = .ok (.iconst (-1), 1) := by decide +kernel
theorem dX7_init_20 : decode cX7_init 20 = .ok (.iastore, 1) := by decide +kernel
theorem dX7_init_21 : decode cX7_init 21 = .ok (.dup, 1) := by decide +kernel
theorem dX7_init_22 : decode cX7_init 22 = .ok (.iconst 3, 1) := by decide +kernel
theorem dX7_init_23 : decode cX7_init 23 = .ok (.iconst (-1), 1) := by decide +kernel
theorem dX7_init_24 : decode cX7_init 24 = .ok (.iastore, 1) := by decide +kernel
theorem dX7_init_25 : decode cX7_init 25 = .ok (.dup, 1) := by decide +kernel
theorem dX7_init_26 : decode cX7_init 26 = .ok (.iconst 4, 1) := by decide +kernel
theorem dX7_init_27 : decode cX7_init 27 = .ok (.iconst (-1), 1) := by decide +kernel
theorem dX7_init_28 : decode cX7_init 28 = .ok (.iastore, 1) := by decide +kernel
theorem dX7_init_29 : decode cX7_init 29 = .ok (.dup, 1) := by decide +kernel
theorem dX7_init_30 : decode cX7_init 30 = .ok (.iconst 5, 1) := by decide +kernel
theorem dX7_init_31 : decode cX7_init 31 = .ok (.iconst (-1), 1) := by decide +kernel
theorem dX7_init_32 : decode cX7_init 32 = .ok (.iastore, 1) := by decide +kernel
theorem dX7_init_33 : decode cX7_init 33 = .ok (.dup, 1) := by decide +kernel
theorem dX7_init_34 : decode cX7_init 34 = .ok (.bipush 6, 2) := by decide +kernel
theorem dX7_init_36 : decode cX7_init 36 = .ok (.iconst (-1), 1) := by decide +kernel
theorem dX7_init_37 : decode cX7_init 37 = .ok (.iastore, 1) := by decide +kernel
theorem dX7_init_38 : decode cX7_init 38 = .ok (.dup, 1) := by decide +kernel
theorem dX7_init_39 : decode cX7_init 39 = .ok (.bipush 7, 2) := by decide +kernel
theorem dX7_init_41 : decode cX7_init 41 = .ok (.iconst (-1), 1) := by decide +kernel
theorem dX7_init_42 : decode cX7_init 42 = .ok (.iastore, 1) := by decide +kernel
theorem dX7_init_43 : decode cX7_init 43 = .ok (.putfield 7, 3) := by decide +kernel
theorem dX7_init_46 : decode cX7_init 46 = .ok (.aload_n 0, 1) := by decide +kernel
theorem dX7_init_47 : decode cX7_init 47 = .ok (.bipush 8, 2) := by decide +kernel
theorem dX7_init_49 : decode cX7_init 49 = .ok (.newarray .int, 2) := by decide +kernel
theorem dX7_init_51 : decode cX7_init 51 = .ok (.putfield 13, 3) := by decide +kernel
theorem dX7_init_54 : decode cX7_init 54 = .ok (.aload_n 0, 1) := by decide +kernel
theorem dX7_init_55 : decode cX7_init 55 = .ok (.sipush 320, 3) := by decide +kernel
theorem dX7_init_58 : decode cX7_init 58 = .ok (.newarray .int, 2) := by decide +kernel
theorem dX7_init_60 : decode cX7_init 60 = .ok (.putfield 16, 3) := by decide +kernel
theorem dX7_init_63 : decode cX7_init 63 = .ok (.aload_n 0, 1) := by decide +kernel
theorem dX7_init_64 : decode cX7_init 64 = .ok (.sipush 207, 3) := by decide +kernel
theorem dX7_init_67 : decode cX7_init 67 = .ok (.newarray .int, 2) := by decide +kernel
theorem dX7_init_69 : decode cX7_init 69 = .ok (.putfield 19, 3) := by decide +kernel
theorem dX7_init_72 : decode cX7_init 72 = .ok (.aload_n 0, 1) := by decide +kernel
theorem dX7_init_73 : decode cX7_init 73 = .ok (.sipush 207, 3) := by decide +kernel
theorem dX7_init_76 : decode cX7_init 76 = .ok (.newarray .int, 2) := by decide +kernel
theorem dX7_init_78 : decode cX7_init 78 = .ok (.putfield 22, 3) := by decide +kernel
theorem dX7_init_81 : decode cX7_init 81 = .ok (.aload_n 0, 1) := by decide +kernel
theorem dX7_init_82 : decode cX7_init 82 = .ok (.sipush 207, 3) := by decide +kernel
theorem dX7_init_85 : decode cX7_init 85 = .ok (.newarray .int, 2) := by decide +kernel
theorem dX7_init_87 : decode cX7_init 87 = .ok (.putfield 25, 3) := by decide +kernel
theorem dX7_init_90 : decode cX7_init 90 = .ok (.aload_n 0, 1) := by decide +kernel
theorem dX7_init_91 : decode cX7_init 91 = .ok (.sipush 4968, 3) := by decide +kernel
theorem dX7_init_94 : decode cX7_init 94 = .ok (.newarray .int, 2) := by decide +kernel
theorem dX7_init_96 : decode cX7_init 96 = .ok (.putfield 28, 3) := by decide +kernel
theorem dX7_init_99 : decode cX7_init 99 = .ok (.aload_n 0, 1) := by decide +kernel
theorem dX7_init_100 : decode cX7_init 100 = .ok (.sipush 130, 3) := by decide +kernel
theorem dX7_init_103 : decode cX7_init 103 = .ok (.newarray .int, 2) := by decide +kernel
theorem dX7_init_105 : decode cX7_init 105 = .ok (.putfield 31, 3) := by decide +kernel
theorem dX7_init_108 : decode cX7_init 108 = .ok (.aload_n 0, 1) := by decide +kernel
theorem dX7_init_109 : decode cX7_init 109 = .ok (.bipush 20, 2) := by decide +kernel
theorem dX7_init_111 : decode cX7_init 111 = .ok (.newarray .int, 2) := by decide +kernel
theorem dX7_init_113 : decode cX7_init 113 = .ok (.putfield 34, 3) := by decide +kernel
theorem dX7_init_116 : decode cX7_init 116 = .ok (.aload_n 0, 1) := by decide +kernel
theorem dX7_init_117 : decode cX7_init 117 = .ok (.iconst 5, 1) := by decide +kernel
theorem dX7_init_118 : decode cX7_init 118 = .ok (.newarray .int, 2) := by decide +kernel
theorem dX7_init_120 : decode cX7_init 120 = .ok (.putfield 37, 3) := by decide +kernel
theorem dX7_init_123 : decode cX7_init 123 = .ok (.aload_n 0, 1) := by decide +kernel
theorem dX7_init_124 : decode cX7_init 124 = .ok (.bipush 20, 2) := by decide +kernel
theorem dX7_init_126 : decode cX7_init 126 = .ok (.newarray .int, 2) := by decide +kernel
theorem dX7_init_128 : decode cX7_init 128 = .ok (.putfield 40, 3) := by decide +kernel
theorem dX7_init_131 : decode cX7_init 131 = .ok (.aload_n 0, 1) := by decide +kernel
theorem dX7_init_132 : decode cX7_init 132 = .ok (.iconst 4, 1) := by decide +kernel
theorem dX7_init_133 : decode cX7_init 133 = .ok (.newarray .int, 2) := by decide +kernel
theorem dX7_init_135 : decode cX7_init 135 = .ok (.putfield 43, 3) := by decide +kernel
theorem dX7_init_138 : decode cX7_init 138 = .ok (.aload_n 0, 1) := by decide +kernel
theorem dX7_init_139 : decode cX7_init 139 = .ok (.iconst 2, 1) := by decide +kernel
theorem dX7_init_140 : decode cX7_init 140 = .ok (.newarray .boolean, 2) := by decide +kernel
theorem dX7_init_142 : decode cX7_init 142 = .ok (.putfield 46, 3) := by decide +kernel
theorem dX7_init_145 : decode cX7_init 145 = .ok (.aload_n 0, 1) := by decide +kernel
theorem dX7_init_146 : decode cX7_init 146 = .ok (.sipush 414, 3) := by decide +kernel
theorem dX7_init_149 : decode cX7_init 149 = .ok (.newarray .int, 2) := by decide +kernel
theorem dX7_init_151 : decode cX7_init 151 = .ok (.putfield 50, 3) := by decide +kernel
theorem dX7_init_154 : decode cX7_init 154 = .ok (.aload_n 0, 1) := by decide +kernel
theorem dX7_init_155 : decode cX7_init 155 = .ok (.bipush 16, 2) := by decide +kernel
theorem dX7_init_157 : decode cX7_init 157 = .ok (.newarray .int, 2) := by decide +kernel
theorem dX7_init_159 : decode cX7_init 159 = .ok (.putfield 53, 3) := by decide +kernel
theorem dX7_init_162 : decode cX7_init 162 = .ok (.return_, 1) := by decide +kernel
theorem dX7_in_0 : decode cX7_in 0 = .ok (.lload_n 0, 1) := by decide +kernel
theorem dX7_in_1 : decode cX7_in 1 = .ok (.lload_n 2, 1) := by decide +kernel
theorem dX7_in_2 : decode cX7_in 2 = .ok (.lcmp, 1) := by decide +kernel
theorem dX7_in_3 : decode cX7_in 3 = .ok (.ifCond .lt 14, 3) := by decide +kernel
theorem dX7_in_6 : decode cX7_in 6 = .ok (.lload_n 0, 1) := by decide +kernel
theorem dX7_in_7 : decode cX7_in 7 = .ok (.lload 4, 2) := by decide +kernel
theorem dX7_in_9 : decode cX7_in 9 = .ok (.lcmp, 1) := by decide +kernel
theorem dX7_in_10 : decode cX7_in 10 = .ok (.ifCond .gt 7, 3) := by decide +kernel
theorem dX7_in_13 : decode cX7_in 13 = .ok (.iconst 1, 1) := by decide +kernel
theorem dX7_in_14 : decode cX7_in 14 = .ok (.goto 4, 3) := by decide +kernel
theorem dX7_in_17 : decode cX7_in 17 = .ok (.iconst 0, 1) := by decide +kernel
theorem dX7_in_18 : decode cX7_in 18 = .ok (.ireturn, 1) := by decide +kernel
theorem dX7_finding_0 : decode cX7_finding 0 = .ok (.aload_n 0, 1) := by decide +kernel
theorem dX7_finding_1 : decode cX7_finding 1 = .ok (.iload_n 1, 1) := by decide +kernel
theorem dX7_finding_2 : decode cX7_finding 2 = .ok (.putfield 60, 3) := by decide +kernel
theorem dX7_finding_5 : decode cX7_finding 5 = .ok (.ldc 63, 2) := by decide +kernel
theorem dX7_finding_7 : decode cX7_finding 7 = .ok (.iload_n 1, 1) := by decide +kernel
theorem dX7_finding_8 : decode cX7_finding 8 = .ok (.isub, 1) := by decide +kernel
theorem dX7_finding_9 : decode cX7_finding 9 = .ok (.ireturn, 1) := by decide +kernel
theorem dX7_isRow_0 : decode cX7_isRow 0 = .ok (.iload_n 0, 1) := by decide +kernel
theorem dX7_isRow_1 : decode cX7_isRow 1 = .ok (.i2l, 1) := by decide +kernel
theorem dX7_isRow_2 : decode cX7_isRow 2 = .ok (.lconst 0, 1) := by decide +kernel
theorem dX7_isRow_3 : decode cX7_isRow 3 = .ok (.ldc2_w 64, 3) := by decide +kernel
theorem dX7_isRow_6 : decode cX7_isRow 6 = .ok (.invokestatic 66, 3) := by decide +kernel
theorem dX7_isRow_9 : decode cX7_isRow 9 = .ok (.ireturn, 1) := by decide +kernel
theorem dX7_row_0 : decode cX7_row 0 = .ok (.aload_n 0, 1) := by decide +kernel
theorem dX7_row_1 : decode cX7_row 1 = .ok (.iconst 0, 1) := by decide +kernel
theorem dX7_row_2 : decode cX7_row 2 = .ok (.putfield 56, 3) := by decide +kernel
theorem dX7_row_5 : decode cX7_row 5 = .ok (.iload_n 1, 1) := by decide +kernel
theorem dX7_row_6 : decode cX7_row 6 = .ok (.invokestatic 70, 3) := by decide +kernel
theorem dX7_row_9 : decode cX7_row 9 = .ok (.ifCond .eq 21, 3) := by decide +kernel
theorem dX7_row_12 : decode cX7_row 12 = .ok (.iload_n 2, 1) := by decide +kernel
theorem dX7_row_13 : decode cX7_row 13 = .ok (.i2l, 1) := by decide +kernel
theorem dX7_row_14 : decode cX7_row 14 = .ok (.lconst 0, 1) := by decide +kernel
theorem dX7_row_15 : decode cX7_row 15 = .ok (.ldc2_w 74, 3) := by decide +kernel
theorem dX7_row_18 : decode cX7_row 18 = .ok (.invokestatic 66, 3) := by decide +kernel
theorem dX7_row_21 : decode cX7_row 21 = .ok (.ifCond .eq 9, 3) := by decide +kernel
theorem dX7_row_24 : decode cX7_row 24 = .ok (.iload_n 3, 1) := by decide +kernel
theorem dX7_row_25 : decode cX7_row 25 = .ok (.bipush 40, 2) := by decide +kernel
theorem dX7_row_27 : decode cX7_row 27 = .ok (.if_icmp .le 6, 3) := by decide +kernel
theorem dX7_row_30 : decode cX7_row 30 = .ok (.ldc 76, 2) := by decide +kernel
theorem dX7_row_32 : decode cX7_row 32 = .ok (.ireturn, 1) := by decide +kernel
theorem dX7_row_33 : decode cX7_row 33 = .ok (.aload_n 0, 1) := by decide +kernel
theorem dX7_row_34 : decode cX7_row 34 = .ok (.iconst 0, 1) := by decide +kernel
theorem dX7_row_35 : decode cX7_row 35 = .ok (.putfield 60, 3) := by decide +kernel
theorem dX7_row_38 : decode cX7_row 38 = .ok (.iload_n 3, 1) := by decide +kernel
theorem dX7_row_39 : decode cX7_row 39 = .ok (.ifCond .ge 9, 3) := by decide +kernel
theorem dX7_row_42 : decode cX7_row 42 = .ok (.aload_n 0, 1) := by decide +kernel
theorem dX7_row_43 : decode cX7_row 43 = .ok (.iconst 4, 1) := by decide +kernel
theorem dX7_row_44 : decode cX7_row 44 = .ok (.invokevirtual 77, 3) := by decide +kernel
theorem dX7_row_47 : decode cX7_row 47 = .ok (.ireturn, 1) := by decide +kernel
theorem dX7_row_48 : decode cX7_row 48 = .ok (.aload_n 0, 1) := by decide +kernel
theorem dX7_row_49 : decode cX7_row 49 = .ok (.getfield 7, 3) := by decide +kernel
theorem dX7_row_52 : decode cX7_row 52 = .ok (.iload_n 1, 1) := by decide +kernel
theorem dX7_row_53 : decode cX7_row 53 = .ok (.iload_n 2, 1) := by decide +kernel
theorem dX7_row_54 : decode cX7_row 54 = .ok (.iastore, 1) := by decide +kernel
theorem dX7_row_55 : decode cX7_row 55 = .ok (.aload_n 0, 1) := by decide +kernel
theorem dX7_row_56 : decode cX7_row 56 = .ok (.getfield 13, 3) := by decide +kernel
theorem dX7_row_59 : decode cX7_row 59 = .ok (.iload_n 1, 1) := by decide +kernel
theorem dX7_row_60 : decode cX7_row 60 = .ok (.iload_n 3, 1) := by decide +kernel
theorem dX7_row_61 : decode cX7_row 61 = .ok (.iastore, 1) := by decide +kernel
theorem dX7_row_62 : decode cX7_row 62 = .ok (.iconst 0, 1) := by decide +kernel
theorem dX7_row_63 : decode cX7_row 63 = .ok (.istore 4, 2) := by decide +kernel
theorem dX7_row_65 : decode cX7_row 65 = .ok (.iload 4, 2) := by decide +kernel
theorem dX7_row_67 : decode cX7_row 67 = .ok (.bipush 40, 2) := by decide +kernel
theorem dX7_row_69 : decode cX7_row 69 = .ok (.if_icmp .ge 22, 3) := by decide +kernel
theorem dX7_row_72 : decode cX7_row 72 = .ok (.aload_n 0, 1) := by decide +kernel
theorem dX7_row_73 : decode cX7_row 73 = .ok (.getfield 16, 3) := by decide +kernel
theorem dX7_row_76 : decode cX7_row 76 = .ok (.bipush 40, 2) := by decide +kernel
theorem dX7_row_78 : decode cX7_row 78 = .ok (.iload_n 1, 1) := by decide +kernel
theorem dX7_row_79 : decode cX7_row 79 = .ok (.imul, 1) := by decide +kernel
theorem dX7_row_80 : decode cX7_row 80 = .ok (.iload 4, 2) := by decide +kernel
theorem dX7_row_82 : decode cX7_row 82 = .ok (.iadd, 1) := by decide +kernel
theorem dX7_row_83 : decode cX7_row 83 = .ok (.iconst 0, 1) := by decide +kernel
theorem dX7_row_84 : decode cX7_row 84 = .ok (.iastore, 1) := by decide +kernel
theorem dX7_row_85 : decode cX7_row 85 = .ok (.iinc 4 1, 3) := by decide +kernel
theorem dX7_row_88 : decode cX7_row 88 = .ok (.goto (-23), 3) := by decide +kernel
theorem dX7_row_91 : decode cX7_row 91 = .ok (.iload_n 3, 1) := by decide +kernel
theorem dX7_row_92 : decode cX7_row 92 = .ok (.ireturn, 1) := by decide +kernel
theorem dX7_set_0 : decode cX7_set 0 = .ok (.aload_n 0, 1) := by decide +kernel
theorem dX7_set_1 : decode cX7_set 1 = .ok (.iconst 0, 1) := by decide +kernel
theorem dX7_set_2 : decode cX7_set 2 = .ok (.putfield 56, 3) := by decide +kernel
theorem dX7_set_5 : decode cX7_set 5 = .ok (.iload_n 1, 1) := by decide +kernel
theorem dX7_set_6 : decode cX7_set 6 = .ok (.invokestatic 70, 3) := by decide +kernel
theorem dX7_set_9 : decode cX7_set 9 = .ok (.ifCond .ne 6, 3) := by decide +kernel
theorem dX7_set_12 : decode cX7_set 12 = .ok (.ldc 76, 2) := by decide +kernel
theorem dX7_set_14 : decode cX7_set 14 = .ok (.ireturn, 1) := by decide +kernel
theorem dX7_set_15 : decode cX7_set 15 = .ok (.aload_n 0, 1) := by decide +kernel
theorem dX7_set_16 : decode cX7_set 16 = .ok (.iconst 0, 1) := by decide +kernel
theorem dX7_set_17 : decode cX7_set 17 = .ok (.putfield 60, 3) := by decide +kernel
theorem dX7_set_20 : decode cX7_set 20 = .ok (.aload_n 0, 1) := by decide +kernel
theorem dX7_set_21 : decode cX7_set 21 = .ok (.getfield 7, 3) := by decide +kernel
theorem dX7_set_24 : decode cX7_set 24 = .ok (.iload_n 1, 1) := by decide +kernel
theorem dX7_set_25 : decode cX7_set 25 = .ok (.iaload, 1) := by decide +kernel
theorem dX7_set_26 : decode cX7_set 26 = .ok (.ifCond .ge 9, 3) := by decide +kernel
theorem dX7_set_29 : decode cX7_set 29 = .ok (.aload_n 0, 1) := by decide +kernel
theorem dX7_set_30 : decode cX7_set 30 = .ok (.iconst 1, 1) := by decide +kernel
theorem dX7_set_31 : decode cX7_set 31 = .ok (.invokevirtual 77, 3) := by decide +kernel
theorem dX7_set_34 : decode cX7_set 34 = .ok (.ireturn, 1) := by decide +kernel
theorem dX7_set_35 : decode cX7_set 35 = .ok (.iload_n 2, 1) := by decide +kernel
theorem dX7_set_36 : decode cX7_set 36 = .ok (.i2l, 1) := by decide +kernel
theorem dX7_set_37 : decode cX7_set 37 = .ok (.lconst 0, 1) := by decide +kernel
theorem dX7_set_38 : decode cX7_set 38 = .ok (.aload_n 0, 1) := by decide +kernel
theorem dX7_set_39 : decode cX7_set 39 = .ok (.getfield 13, 3) := by decide +kernel
theorem dX7_set_42 : decode cX7_set 42 = .ok (.iload_n 1, 1) := by decide +kernel
theorem dX7_set_43 : decode cX7_set 43 = .ok (.iaload, 1) := by decide +kernel
theorem dX7_set_44 : decode cX7_set 44 = .ok (.iconst 1, 1) := by decide +kernel
theorem dX7_set_45 : decode cX7_set 45 = .ok (.isub, 1) := by decide +kernel
theorem dX7_set_46 : decode cX7_set 46 = .ok (.i2l, 1) := by decide +kernel
theorem dX7_set_47 : decode cX7_set 47 = .ok (.invokestatic 66, 3) := by decide +kernel
theorem dX7_set_50 : decode cX7_set 50 = .ok (.ifCond .ne 9, 3) := by decide +kernel
theorem dX7_set_53 : decode cX7_set 53 = .ok (.aload_n 0, 1) := by decide +kernel
theorem dX7_set_54 : decode cX7_set 54 = .ok (.iconst 2, 1) := by decide +kernel
theorem dX7_set_55 : decode cX7_set 55 = .ok (.invokevirtual 77, 3) := by decide +kernel
theorem dX7_set_58 : decode cX7_set 58 = .ok (.ireturn, 1) := by decide +kernel
theorem dX7_set_59 : decode cX7_set 59 = .ok (.aload_n 0, 1) := by decide +kernel
theorem dX7_set_60 : decode cX7_set 60 = .ok (.getfield 16, 3) := by decide +kernel
theorem dX7_set_63 : decode cX7_set 63 = .ok (.bipush 40, 2) := by decide +kernel
theorem dX7_set_65 : decode cX7_set 65 = .ok (.iload_n 1, 1) := by decide +kernel
theorem dX7_set_66 : decode cX7_set 66 = .ok (.imul, 1) := by decide +kernel
theorem dX7_set_67 : decode cX7_set 67 = .ok (.iload_n 2, 1) := by decide +kernel
theorem dX7_set_68 : decode cX7_set 68 = .ok (.iadd, 1) := by decide +kernel
theorem dX7_set_69 : decode cX7_set 69 = .ok (.aload_n 0, 1) := by decide +kernel
theorem dX7_set_70 : decode cX7_set 70 = .ok (.getfield 7, 3) := by decide +kernel
theorem dX7_set_73 : decode cX7_set 73 = .ok (.iload_n 1, 1) := by decide +kernel
theorem dX7_set_74 : decode cX7_set 74 = .ok (.iaload, 1) := by decide +kernel
theorem dX7_set_75 : decode cX7_set 75 = .ok (.ifCond .ne 8, 3) := by decide +kernel
theorem dX7_set_78 : decode cX7_set 78 = .ok (.iload_n 3, 1) := by decide +kernel
theorem dX7_set_79 : decode cX7_set 79 = .ok (.i2b, 1) := by decide +kernel
theorem dX7_set_80 : decode cX7_set 80 = .ok (.goto 19, 3) := by decide +kernel
theorem dX7_set_83 : decode cX7_set 83 = .ok (.aload_n 0, 1) := by decide +kernel
theorem dX7_set_84 : decode cX7_set 84 = .ok (.getfield 7, 3) := by decide +kernel
theorem dX7_set_87 : decode cX7_set 87 = .ok (.iload_n 1, 1) := by decide +kernel
theorem dX7_set_88 : decode cX7_set 88 = .ok (.iaload, 1) := by decide +kernel
theorem dX7_set_89 : decode cX7_set 89 = .ok (.iconst 1, 1) := by decide +kernel
theorem dX7_set_90 : decode cX7_set 90 = .ok (.if_icmp .ne 8, 3) := by decide +kernel
theorem dX7_set_93 : decode cX7_set 93 = .ok (.iload_n 3, 1) := by decide +kernel
theorem dX7_set_94 : decode cX7_set 94 = .ok (.i2s, 1) := by decide +kernel
theorem dX7_set_95 : decode cX7_set 95 = .ok (.goto 4, 3) := by decide +kernel
theorem dX7_set_98 : decode cX7_set 98 = .ok (.iload_n 3, 1) := by decide +kernel
theorem dX7_set_99 : decode cX7_set 99 = .ok (.iastore, 1) := by decide +kernel
theorem dX7_set_100 : decode cX7_set 100 = .ok (.aload_n 0, 1) := by decide +kernel
theorem dX7_set_101 : decode cX7_set 101 = .ok (.getfield 16, 3) := by decide +kernel
theorem dX7_set_104 : decode cX7_set 104 = .ok (.bipush 40, 2) := by decide +kernel
theorem dX7_set_106 : decode cX7_set 106 = .ok (.iload_n 1, 1) := by decide +kernel
theorem dX7_set_107 : decode cX7_set 107 = .ok (.imul, 1) := by decide +kernel
theorem dX7_set_108 : decode cX7_set 108 = .ok (.iload_n 2, 1) := by decide +kernel
theorem dX7_set_109 : decode cX7_set 109 = .ok (.iadd, 1) := by decide +kernel
theorem dX7_set_110 : decode cX7_set 110 = .ok (.iaload, 1) := by decide +kernel
theorem dX7_set_111 : decode cX7_set 111 = .ok (.ireturn, 1) := by decide +kernel
theorem dX7_copy_0 : decode cX7_copy 0 = .ok (.aload_n 0, 1) := by decide +kernel
theorem dX7_copy_1 : decode cX7_copy 1 = .ok (.iconst 0, 1) := by decide +kernel
theorem dX7_copy_2 : decode cX7_copy 2 = .ok (.putfield 56, 3) := by decide +kernel
theorem dX7_copy_5 : decode cX7_copy 5 = .ok (.iload_n 1, 1) := by decide +kernel
theorem dX7_copy_6 : decode cX7_copy 6 = .ok (.invokestatic 70, 3) := by decide +kernel
theorem dX7_copy_9 : decode cX7_copy 9 = .ok (.ifCond .eq 10, 3) := by decide +kernel
theorem dX7_copy_12 : decode cX7_copy 12 = .ok (.iload_n 3, 1) := by decide +kernel
theorem dX7_copy_13 : decode cX7_copy 13 = .ok (.invokestatic 70, 3) := by decide +kernel
theorem dX7_copy_16 : decode cX7_copy 16 = .ok (.ifCond .ne 6, 3) := by decide +kernel
theorem dX7_copy_19 : decode cX7_copy 19 = .ok (.ldc 76, 2) := by decide +kernel
theorem dX7_copy_21 : decode cX7_copy 21 = .ok (.ireturn, 1) := by decide +kernel
theorem dX7_copy_22 : decode cX7_copy 22 = .ok (.aload_n 0, 1) := by decide +kernel
theorem dX7_copy_23 : decode cX7_copy 23 = .ok (.iconst 0, 1) := by decide +kernel
theorem dX7_copy_24 : decode cX7_copy 24 = .ok (.putfield 60, 3) := by decide +kernel
theorem dX7_copy_27 : decode cX7_copy 27 = .ok (.aload_n 0, 1) := by decide +kernel
theorem dX7_copy_28 : decode cX7_copy 28 = .ok (.getfield 7, 3) := by decide +kernel
theorem dX7_copy_31 : decode cX7_copy 31 = .ok (.iload_n 1, 1) := by decide +kernel
theorem dX7_copy_32 : decode cX7_copy 32 = .ok (.iaload, 1) := by decide +kernel
theorem dX7_copy_33 : decode cX7_copy 33 = .ok (.ifCond .lt 12, 3) := by decide +kernel
theorem dX7_copy_36 : decode cX7_copy 36 = .ok (.aload_n 0, 1) := by decide +kernel
theorem dX7_copy_37 : decode cX7_copy 37 = .ok (.getfield 7, 3) := by decide +kernel
theorem dX7_copy_40 : decode cX7_copy 40 = .ok (.iload_n 3, 1) := by decide +kernel
theorem dX7_copy_41 : decode cX7_copy 41 = .ok (.iaload, 1) := by decide +kernel
theorem dX7_copy_42 : decode cX7_copy 42 = .ok (.ifCond .ge 9, 3) := by decide +kernel
theorem dX7_copy_45 : decode cX7_copy 45 = .ok (.aload_n 0, 1) := by decide +kernel
theorem dX7_copy_46 : decode cX7_copy 46 = .ok (.iconst 1, 1) := by decide +kernel
theorem dX7_copy_47 : decode cX7_copy 47 = .ok (.invokevirtual 77, 3) := by decide +kernel
theorem dX7_copy_50 : decode cX7_copy 50 = .ok (.ireturn, 1) := by decide +kernel
theorem dX7_copy_51 : decode cX7_copy 51 = .ok (.aload_n 0, 1) := by decide +kernel
theorem dX7_copy_52 : decode cX7_copy 52 = .ok (.getfield 7, 3) := by decide +kernel
theorem dX7_copy_55 : decode cX7_copy 55 = .ok (.iload_n 1, 1) := by decide +kernel
theorem dX7_copy_56 : decode cX7_copy 56 = .ok (.iaload, 1) := by decide +kernel
theorem dX7_copy_57 : decode cX7_copy 57 = .ok (.aload_n 0, 1) := by decide +kernel
theorem dX7_copy_58 : decode cX7_copy 58 = .ok (.getfield 7, 3) := by decide +kernel
theorem dX7_copy_61 : decode cX7_copy 61 = .ok (.iload_n 3, 1) := by decide +kernel
theorem dX7_copy_62 : decode cX7_copy 62 = .ok (.iaload, 1) := by decide +kernel
theorem dX7_copy_63 : decode cX7_copy 63 = .ok (.if_icmp .eq 9, 3) := by decide +kernel
theorem dX7_copy_66 : decode cX7_copy 66 = .ok (.aload_n 0, 1) := by decide +kernel
theorem dX7_copy_67 : decode cX7_copy 67 = .ok (.iconst 5, 1) := by decide +kernel
theorem dX7_copy_68 : decode cX7_copy 68 = .ok (.invokevirtual 77, 3) := by decide +kernel
theorem dX7_copy_71 : decode cX7_copy 71 = .ok (.ireturn, 1) := by decide +kernel
theorem dX7_copy_72 : decode cX7_copy 72 = .ok (.iload_n 2, 1) := by decide +kernel
theorem dX7_copy_73 : decode cX7_copy 73 = .ok (.ifCond .lt 48, 3) := by decide +kernel
theorem dX7_copy_76 : decode cX7_copy 76 = .ok (.iload 4, 2) := by decide +kernel
theorem dX7_copy_78 : decode cX7_copy 78 = .ok (.ifCond .lt 43, 3) := by decide +kernel
theorem dX7_copy_81 : decode cX7_copy 81 = .ok (.iload 5, 2) := by decide +kernel
theorem dX7_copy_83 : decode cX7_copy 83 = .ok (.ifCond .lt 38, 3) := by decide +kernel
theorem dX7_copy_86 : decode cX7_copy 86 = .ok (.iload_n 2, 1) := by decide +kernel
theorem dX7_copy_87 : decode cX7_copy 87 = .ok (.i2l, 1) := by decide +kernel
theorem dX7_copy_88 : decode cX7_copy 88 = .ok (.iload 5, 2) := by decide +kernel
theorem dX7_copy_90 : decode cX7_copy 90 = .ok (.i2l, 1) := by decide +kernel
theorem dX7_copy_91 : decode cX7_copy 91 = .ok (.ladd, 1) := by decide +kernel
theorem dX7_copy_92 : decode cX7_copy 92 = .ok (.aload_n 0, 1) := by decide +kernel
theorem dX7_copy_93 : decode cX7_copy 93 = .ok (.getfield 13, 3) := by decide +kernel
theorem dX7_copy_96 : decode cX7_copy 96 = .ok (.iload_n 1, 1) := by decide +kernel
theorem dX7_copy_97 : decode cX7_copy 97 = .ok (.iaload, 1) := by decide +kernel
theorem dX7_copy_98 : decode cX7_copy 98 = .ok (.i2l, 1) := by decide +kernel
theorem dX7_copy_99 : decode cX7_copy 99 = .ok (.lcmp, 1) := by decide +kernel
theorem dX7_copy_100 : decode cX7_copy 100 = .ok (.ifCond .gt 21, 3) := by decide +kernel
theorem dX7_copy_103 : decode cX7_copy 103 = .ok (.iload 4, 2) := by decide +kernel
theorem dX7_copy_105 : decode cX7_copy 105 = .ok (.i2l, 1) := by decide +kernel
theorem dX7_copy_106 : decode cX7_copy 106 = .ok (.iload 5, 2) := by decide +kernel
theorem dX7_copy_108 : decode cX7_copy 108 = .ok (.i2l, 1) := by decide +kernel
theorem dX7_copy_109 : decode cX7_copy 109 = .ok (.ladd, 1) := by decide +kernel
theorem dX7_copy_110 : decode cX7_copy 110 = .ok (.aload_n 0, 1) := by decide +kernel
theorem dX7_copy_111 : decode cX7_copy 111 = .ok (.getfield 13, 3) := by decide +kernel
theorem dX7_copy_114 : decode cX7_copy 114 = .ok (.iload_n 3, 1) := by decide +kernel
theorem dX7_copy_115 : decode cX7_copy 115 = .ok (.iaload, 1) := by decide +kernel
theorem dX7_copy_116 : decode cX7_copy 116 = .ok (.i2l, 1) := by decide +kernel
theorem dX7_copy_117 : decode cX7_copy 117 = .ok (.lcmp, 1) := by decide +kernel
theorem dX7_copy_118 : decode cX7_copy 118 = .ok (.ifCond .le 9, 3) := by decide +kernel
theorem dX7_copy_121 : decode cX7_copy 121 = .ok (.aload_n 0, 1) := by decide +kernel
theorem dX7_copy_122 : decode cX7_copy 122 = .ok (.iconst 2, 1) := by decide +kernel
theorem dX7_copy_123 : decode cX7_copy 123 = .ok (.invokevirtual 77, 3) := by decide +kernel
theorem dX7_copy_126 : decode cX7_copy 126 = .ok (.ireturn, 1) := by decide +kernel
theorem dX7_copy_127 : decode cX7_copy 127 = .ok (.iload_n 2, 1) := by decide +kernel
theorem dX7_copy_128 : decode cX7_copy 128 = .ok (.iload 4, 2) := by decide +kernel
theorem dX7_copy_130 : decode cX7_copy 130 = .ok (.if_icmp .lt 7, 3) := by decide +kernel
theorem dX7_copy_133 : decode cX7_copy 133 = .ok (.iconst 1, 1) := by decide +kernel
theorem dX7_copy_134 : decode cX7_copy 134 = .ok (.goto 4, 3) := by decide +kernel
theorem dX7_copy_137 : decode cX7_copy 137 = .ok (.iconst 0, 1) := by decide +kernel
theorem dX7_copy_138 : decode cX7_copy 138 = .ok (.istore 6, 2) := by decide +kernel
theorem dX7_copy_140 : decode cX7_copy 140 = .ok (.iconst 0, 1) := by decide +kernel
theorem dX7_copy_141 : decode cX7_copy 141 = .ok (.istore 7, 2) := by decide +kernel
theorem dX7_copy_143 : decode cX7_copy 143 = .ok (.iload 7, 2) := by decide +kernel
theorem dX7_copy_145 : decode cX7_copy 145 = .ok (.iload 5, 2) := by decide +kernel
theorem dX7_copy_147 : decode cX7_copy 147 = .ok (.if_icmp .ge 57, 3) := by decide +kernel
theorem dX7_copy_150 : decode cX7_copy 150 = .ok (.iload 6, 2) := by decide +kernel
theorem dX7_copy_152 : decode cX7_copy 152 = .ok (.ifCond .eq 8, 3) := by decide +kernel
theorem dX7_copy_155 : decode cX7_copy 155 = .ok (.iload 7, 2) := by decide +kernel
theorem dX7_copy_157 : decode cX7_copy 157 = .ok (.goto 10, 3) := by decide +kernel
theorem dX7_copy_160 : decode cX7_copy 160 = .ok (.iload 5, 2) := by decide +kernel
theorem dX7_copy_162 : decode cX7_copy 162 = .ok (.iconst 1, 1) := by decide +kernel
theorem dX7_copy_163 : decode cX7_copy 163 = .ok (.isub, 1) := by decide +kernel
theorem dX7_copy_164 : decode cX7_copy 164 = .ok (.iload 7, 2) := by decide +kernel
theorem dX7_copy_166 : decode cX7_copy 166 = .ok (.isub, 1) := by decide +kernel
theorem dX7_copy_167 : decode cX7_copy 167 = .ok (.istore 8, 2) := by decide +kernel
theorem dX7_copy_169 : decode cX7_copy 169 = .ok (.aload_n 0, 1) := by decide +kernel
theorem dX7_copy_170 : decode cX7_copy 170 = .ok (.getfield 16, 3) := by decide +kernel
theorem dX7_copy_173 : decode cX7_copy 173 = .ok (.bipush 40, 2) := by decide +kernel
theorem dX7_copy_175 : decode cX7_copy 175 = .ok (.iload_n 3, 1) := by decide +kernel
theorem dX7_copy_176 : decode cX7_copy 176 = .ok (.imul, 1) := by decide +kernel
theorem dX7_copy_177 : decode cX7_copy 177 = .ok (.iload 4, 2) := by decide +kernel
theorem dX7_copy_179 : decode cX7_copy 179 = .ok (.iadd, 1) := by decide +kernel
theorem dX7_copy_180 : decode cX7_copy 180 = .ok (.iload 8, 2) := by decide +kernel
theorem dX7_copy_182 : decode cX7_copy 182 = .ok (.iadd, 1) := by decide +kernel
theorem dX7_copy_183 : decode cX7_copy 183 = .ok (.aload_n 0, 1) := by decide +kernel
theorem dX7_copy_184 : decode cX7_copy 184 = .ok (.getfield 16, 3) := by decide +kernel
theorem dX7_copy_187 : decode cX7_copy 187 = .ok (.bipush 40, 2) := by decide +kernel
theorem dX7_copy_189 : decode cX7_copy 189 = .ok (.iload_n 1, 1) := by decide +kernel
theorem dX7_copy_190 : decode cX7_copy 190 = .ok (.imul, 1) := by decide +kernel
theorem dX7_copy_191 : decode cX7_copy 191 = .ok (.iload_n 2, 1) := by decide +kernel
theorem dX7_copy_192 : decode cX7_copy 192 = .ok (.iadd, 1) := by decide +kernel
theorem dX7_copy_193 : decode cX7_copy 193 = .ok (.iload 8, 2) := by decide +kernel
theorem dX7_copy_195 : decode cX7_copy 195 = .ok (.iadd, 1) := by decide +kernel
theorem dX7_copy_196 : decode cX7_copy 196 = .ok (.iaload, 1) := by decide +kernel
theorem dX7_copy_197 : decode cX7_copy 197 = .ok (.iastore, 1) := by decide +kernel
theorem dX7_copy_198 : decode cX7_copy 198 = .ok (.iinc 7 1, 3) := by decide +kernel
theorem dX7_copy_201 : decode cX7_copy 201 = .ok (.goto (-58), 3) := by decide +kernel
theorem dX7_copy_204 : decode cX7_copy 204 = .ok (.iload 5, 2) := by decide +kernel
theorem dX7_copy_206 : decode cX7_copy 206 = .ok (.ireturn, 1) := by decide +kernel
theorem dX7_drop_0 : decode cX7_drop 0 = .ok (.aload_n 0, 1) := by decide +kernel
theorem dX7_drop_1 : decode cX7_drop 1 = .ok (.iconst 0, 1) := by decide +kernel
theorem dX7_drop_2 : decode cX7_drop 2 = .ok (.putfield 56, 3) := by decide +kernel
theorem dX7_drop_5 : decode cX7_drop 5 = .ok (.iload_n 1, 1) := by decide +kernel
theorem dX7_drop_6 : decode cX7_drop 6 = .ok (.invokestatic 70, 3) := by decide +kernel
theorem dX7_drop_9 : decode cX7_drop 9 = .ok (.ifCond .ne 6, 3) := by decide +kernel
theorem dX7_drop_12 : decode cX7_drop 12 = .ok (.ldc 76, 2) := by decide +kernel
theorem dX7_drop_14 : decode cX7_drop 14 = .ok (.ireturn, 1) := by decide +kernel
theorem dX7_drop_15 : decode cX7_drop 15 = .ok (.aload_n 0, 1) := by decide +kernel
theorem dX7_drop_16 : decode cX7_drop 16 = .ok (.iconst 0, 1) := by decide +kernel
theorem dX7_drop_17 : decode cX7_drop 17 = .ok (.putfield 60, 3) := by decide +kernel
theorem dX7_drop_20 : decode cX7_drop 20 = .ok (.aload_n 0, 1) := by decide +kernel
theorem dX7_drop_21 : decode cX7_drop 21 = .ok (.getfield 7, 3) := by decide +kernel
theorem dX7_drop_24 : decode cX7_drop 24 = .ok (.iload_n 1, 1) := by decide +kernel
theorem dX7_drop_25 : decode cX7_drop 25 = .ok (.iaload, 1) := by decide +kernel
theorem dX7_drop_26 : decode cX7_drop 26 = .ok (.ifCond .ge 9, 3) := by decide +kernel
theorem dX7_drop_29 : decode cX7_drop 29 = .ok (.aload_n 0, 1) := by decide +kernel
theorem dX7_drop_30 : decode cX7_drop 30 = .ok (.iconst 1, 1) := by decide +kernel
theorem dX7_drop_31 : decode cX7_drop 31 = .ok (.invokevirtual 77, 3) := by decide +kernel
theorem dX7_drop_34 : decode cX7_drop 34 = .ok (.ireturn, 1) := by decide +kernel
theorem dX7_drop_35 : decode cX7_drop 35 = .ok (.aload_n 0, 1) := by decide +kernel
theorem dX7_drop_36 : decode cX7_drop 36 = .ok (.getfield 7, 3) := by decide +kernel
theorem dX7_drop_39 : decode cX7_drop 39 = .ok (.iload_n 1, 1) := by decide +kernel
theorem dX7_drop_40 : decode cX7_drop 40 = .ok (.iconst (-1), 1) := by decide +kernel
theorem dX7_drop_41 : decode cX7_drop 41 = .ok (.iastore, 1) := by decide +kernel
theorem dX7_drop_42 : decode cX7_drop 42 = .ok (.aload_n 0, 1) := by decide +kernel
theorem dX7_drop_43 : decode cX7_drop 43 = .ok (.getfield 13, 3) := by decide +kernel
theorem dX7_drop_46 : decode cX7_drop 46 = .ok (.iload_n 1, 1) := by decide +kernel
theorem dX7_drop_47 : decode cX7_drop 47 = .ok (.iaload, 1) := by decide +kernel
theorem dX7_drop_48 : decode cX7_drop 48 = .ok (.ireturn, 1) := by decide +kernel
theorem dX7_feed_0 : decode cX7_feed 0 = .ok (.aload_n 0, 1) := by decide +kernel
theorem dX7_feed_1 : decode cX7_feed 1 = .ok (.iconst 0, 1) := by decide +kernel
theorem dX7_feed_2 : decode cX7_feed 2 = .ok (.putfield 56, 3) := by decide +kernel
theorem dX7_feed_5 : decode cX7_feed 5 = .ok (.iload_n 1, 1) := by decide +kernel
theorem dX7_feed_6 : decode cX7_feed 6 = .ok (.i2l, 1) := by decide +kernel
theorem dX7_feed_7 : decode cX7_feed 7 = .ok (.lconst 0, 1) := by decide +kernel
theorem dX7_feed_8 : decode cX7_feed 8 = .ok (.ldc2_w 81, 3) := by decide +kernel
theorem dX7_feed_11 : decode cX7_feed 11 = .ok (.invokestatic 66, 3) := by decide +kernel
theorem dX7_feed_14 : decode cX7_feed 14 = .ok (.ifCond .ne 6, 3) := by decide +kernel
theorem dX7_feed_17 : decode cX7_feed 17 = .ok (.ldc 76, 2) := by decide +kernel
theorem dX7_feed_19 : decode cX7_feed 19 = .ok (.ireturn, 1) := by decide +kernel
theorem dX7_feed_20 : decode cX7_feed 20 = .ok (.aload_n 0, 1) := by decide +kernel
theorem dX7_feed_21 : decode cX7_feed 21 = .ok (.getfield 83, 3) := by decide +kernel
theorem dX7_feed_24 : decode cX7_feed 24 = .ok (.sipush 130, 3) := by decide +kernel
theorem dX7_feed_27 : decode cX7_feed 27 = .ok (.if_icmp .ne 6, 3) := by decide +kernel
theorem dX7_feed_30 : decode cX7_feed 30 = .ok (.ldc 86, 2) := by decide +kernel
theorem dX7_feed_32 : decode cX7_feed 32 = .ok (.ireturn, 1) := by decide +kernel
theorem dX7_feed_33 : decode cX7_feed 33 = .ok (.aload_n 0, 1) := by decide +kernel
theorem dX7_feed_34 : decode cX7_feed 34 = .ok (.getfield 31, 3) := by decide +kernel
theorem dX7_feed_37 : decode cX7_feed 37 = .ok (.aload_n 0, 1) := by decide +kernel
theorem dX7_feed_38 : decode cX7_feed 38 = .ok (.getfield 83, 3) := by decide +kernel
theorem dX7_feed_41 : decode cX7_feed 41 = .ok (.iload_n 1, 1) := by decide +kernel
theorem dX7_feed_42 : decode cX7_feed 42 = .ok (.iastore, 1) := by decide +kernel
theorem dX7_feed_43 : decode cX7_feed 43 = .ok (.aload_n 0, 1) := by decide +kernel
theorem dX7_feed_44 : decode cX7_feed 44 = .ok (.dup, 1) := by decide +kernel
theorem dX7_feed_45 : decode cX7_feed 45 = .ok (.getfield 83, 3) := by decide +kernel
theorem dX7_feed_48 : decode cX7_feed 48 = .ok (.iconst 1, 1) := by decide +kernel
theorem dX7_feed_49 : decode cX7_feed 49 = .ok (.iadd, 1) := by decide +kernel
theorem dX7_feed_50 : decode cX7_feed 50 = .ok (.putfield 83, 3) := by decide +kernel
theorem dX7_feed_53 : decode cX7_feed 53 = .ok (.aload_n 0, 1) := by decide +kernel
theorem dX7_feed_54 : decode cX7_feed 54 = .ok (.getfield 83, 3) := by decide +kernel
theorem dX7_feed_57 : decode cX7_feed 57 = .ok (.ireturn, 1) := by decide +kernel
theorem dX7_bad_0 : decode cX7_bad 0 = .ok (.aload_n 0, 1) := by decide +kernel
theorem dX7_bad_1 : decode cX7_bad 1 = .ok (.getfield 87, 3) := by decide +kernel
theorem dX7_bad_4 : decode cX7_bad 4 = .ok (.ifCond .ne 16, 3) := by decide +kernel
theorem dX7_bad_7 : decode cX7_bad 7 = .ok (.aload_n 0, 1) := by decide +kernel
theorem dX7_bad_8 : decode cX7_bad 8 = .ok (.iload_n 1, 1) := by decide +kernel
theorem dX7_bad_9 : decode cX7_bad 9 = .ok (.putfield 87, 3) := by decide +kernel
theorem dX7_bad_12 : decode cX7_bad 12 = .ok (.aload_n 0, 1) := by decide +kernel
theorem dX7_bad_13 : decode cX7_bad 13 = .ok (.aload_n 0, 1) := by decide +kernel
theorem dX7_bad_14 : decode cX7_bad 14 = .ok (.getfield 90, 3) := by decide +kernel
theorem dX7_bad_17 : decode cX7_bad 17 = .ok (.putfield 93, 3) := by decide +kernel
theorem dX7_bad_20 : decode cX7_bad 20 = .ok (.return_, 1) := by decide +kernel
theorem dX7_nextToken_0 : decode cX7_nextToken 0 = .ok (.aload_n 0, 1) := by decide +kernel
theorem dX7_nextToken_1 : decode cX7_nextToken 1 = .ok (.aload_n 0, 1) := by decide +kernel
theorem dX7_nextToken_2 : decode cX7_nextToken 2 = .ok (.getfield 96, 3) := by decide +kernel
theorem dX7_nextToken_5 : decode cX7_nextToken 5 = .ok (.putfield 90, 3) := by decide +kernel
theorem dX7_nextToken_8 : decode cX7_nextToken 8 = .ok (.aload_n 0, 1) := by decide +kernel
theorem dX7_nextToken_9 : decode cX7_nextToken 9 = .ok (.aload_n 0, 1) := by decide +kernel
theorem dX7_nextToken_10 : decode cX7_nextToken 10 = .ok (.getfield 96, 3) := by decide +kernel
theorem dX7_nextToken_13 : decode cX7_nextToken 13 = .ok (.aload_n 0, 1) := by decide +kernel
theorem dX7_nextToken_14 : decode cX7_nextToken 14 = .ok (.getfield 83, 3) := by decide +kernel
theorem dX7_nextToken_17 : decode cX7_nextToken 17 = .ok (.if_icmp .ge 15, 3) := by decide +kernel
theorem dX7_nextToken_20 : decode cX7_nextToken 20 = .ok (.aload_n 0, 1) := by decide +kernel
theorem dX7_nextToken_21 : decode cX7_nextToken 21 = .ok (.getfield 31, 3) := by decide +kernel
theorem dX7_nextToken_24 : decode cX7_nextToken 24 = .ok (.aload_n 0, 1) := by decide +kernel
theorem dX7_nextToken_25 : decode cX7_nextToken 25 = .ok (.getfield 96, 3) := by decide +kernel
theorem dX7_nextToken_28 : decode cX7_nextToken 28 = .ok (.iaload, 1) := by decide +kernel
theorem dX7_nextToken_29 : decode cX7_nextToken 29 = .ok (.goto 5, 3) := by decide +kernel
theorem dX7_nextToken_32 : decode cX7_nextToken 32 = .ok (.ldc 99, 2) := by decide +kernel
theorem dX7_nextToken_34 : decode cX7_nextToken 34 = .ok (.putfield 100, 3) := by decide +kernel
theorem dX7_nextToken_37 : decode cX7_nextToken 37 = .ok (.aload_n 0, 1) := by decide +kernel
theorem dX7_nextToken_38 : decode cX7_nextToken 38 = .ok (.aload_n 0, 1) := by decide +kernel
theorem dX7_nextToken_39 : decode cX7_nextToken 39 = .ok (.getfield 96, 3) := by decide +kernel
theorem dX7_nextToken_42 : decode cX7_nextToken 42 = .ok (.aload_n 0, 1) := by decide +kernel
theorem dX7_nextToken_43 : decode cX7_nextToken 43 = .ok (.getfield 83, 3) := by decide +kernel
theorem dX7_nextToken_46 : decode cX7_nextToken 46 = .ok (.if_icmp .ne 7, 3) := by decide +kernel
theorem dX7_nextToken_49 : decode cX7_nextToken 49 = .ok (.iconst 1, 1) := by decide +kernel
theorem dX7_nextToken_50 : decode cX7_nextToken 50 = .ok (.goto 68, 3) := by decide +kernel
theorem dX7_nextToken_53 : decode cX7_nextToken 53 = .ok (.aload_n 0, 1) := by decide +kernel
theorem dX7_nextToken_54 : decode cX7_nextToken 54 = .ok (.getfield 100, 3) := by decide +kernel
theorem dX7_nextToken_57 : decode cX7_nextToken 57 = .ok (.i2l, 1) := by decide +kernel
theorem dX7_nextToken_58 : decode cX7_nextToken 58 = .ok (.ldc2_w 103, 3) := by decide +kernel
theorem dX7_nextToken_61 : decode cX7_nextToken 61 = .ok (.ldc2_w 105, 3) := by decide +kernel
theorem dX7_nextToken_64 : decode cX7_nextToken 64 = .ok (.invokestatic 66, 3) := by decide +kernel
theorem dX7_nextToken_67 : decode cX7_nextToken 67 = .ok (.ifCond .eq 7, 3) := by decide +kernel
theorem dX7_nextToken_70 : decode cX7_nextToken 70 = .ok (.iconst 2, 1) := by decide +kernel
theorem dX7_nextToken_71 : decode cX7_nextToken 71 = .ok (.goto 47, 3) := by decide +kernel
theorem dX7_nextToken_74 : decode cX7_nextToken 74 = .ok (.aload_n 0, 1) := by decide +kernel
theorem dX7_nextToken_75 : decode cX7_nextToken 75 = .ok (.getfield 100, 3) := by decide +kernel
theorem dX7_nextToken_78 : decode cX7_nextToken 78 = .ok (.i2l, 1) := by decide +kernel
theorem dX7_nextToken_79 : decode cX7_nextToken 79 = .ok (.ldc2_w 107, 3) := by decide +kernel
theorem dX7_nextToken_82 : decode cX7_nextToken 82 = .ok (.ldc2_w 109, 3) := by decide +kernel
theorem dX7_nextToken_85 : decode cX7_nextToken 85 = .ok (.invokestatic 66, 3) := by decide +kernel
theorem dX7_nextToken_88 : decode cX7_nextToken 88 = .ok (.ifCond .eq 7, 3) := by decide +kernel
theorem dX7_nextToken_91 : decode cX7_nextToken 91 = .ok (.iconst 3, 1) := by decide +kernel
theorem dX7_nextToken_92 : decode cX7_nextToken 92 = .ok (.goto 26, 3) := by decide +kernel
theorem dX7_nextToken_95 : decode cX7_nextToken 95 = .ok (.aload_n 0, 1) := by decide +kernel
theorem dX7_nextToken_96 : decode cX7_nextToken 96 = .ok (.getfield 100, 3) := by decide +kernel
theorem dX7_nextToken_99 : decode cX7_nextToken 99 = .ok (.bipush 44, 2) := by decide +kernel
theorem dX7_nextToken_101 : decode cX7_nextToken 101 = .ok (.if_icmp .eq 12, 3) := by decide +kernel
theorem dX7_nextToken_104 : decode cX7_nextToken 104 = .ok (.aload_n 0, 1) := by decide +kernel
theorem dX7_nextToken_105 : decode cX7_nextToken 105 = .ok (.getfield 100, 3) := by decide +kernel
theorem dX7_nextToken_108 : decode cX7_nextToken 108 = .ok (.bipush 59, 2) := by decide +kernel
theorem dX7_nextToken_110 : decode cX7_nextToken 110 = .ok (.if_icmp .ne 7, 3) := by decide +kernel
theorem dX7_nextToken_113 : decode cX7_nextToken 113 = .ok (.iconst 4, 1) := by decide +kernel
theorem dX7_nextToken_114 : decode cX7_nextToken 114 = .ok (.goto 4, 3) := by decide +kernel
theorem dX7_nextToken_117 : decode cX7_nextToken 117 = .ok (.iconst 0, 1) := by decide +kernel
theorem dX7_nextToken_118 : decode cX7_nextToken 118 = .ok (.putfield 111, 3) := by decide +kernel
theorem dX7_nextToken_121 : decode cX7_nextToken 121 = .ok (.aload_n 0, 1) := by decide +kernel
theorem dX7_nextToken_122 : decode cX7_nextToken 122 = .ok (.dup, 1) := by decide +kernel
theorem dX7_nextToken_123 : decode cX7_nextToken 123 = .ok (.getfield 96, 3) := by decide +kernel
theorem dX7_nextToken_126 : decode cX7_nextToken 126 = .ok (.aload_n 0, 1) := by decide +kernel
theorem dX7_nextToken_127 : decode cX7_nextToken 127 = .ok (.getfield 96, 3) := by decide +kernel
theorem dX7_nextToken_130 : decode cX7_nextToken 130 = .ok (.aload_n 0, 1) := by decide +kernel
theorem dX7_nextToken_131 : decode cX7_nextToken 131 = .ok (.getfield 83, 3) := by decide +kernel
theorem dX7_nextToken_134 : decode cX7_nextToken 134 = .ok (.if_icmp .ge 7, 3) := by decide +kernel
theorem dX7_nextToken_137 : decode cX7_nextToken 137 = .ok (.iconst 1, 1) := by decide +kernel
theorem dX7_nextToken_138 : decode cX7_nextToken 138 = .ok (.goto 4, 3) := by decide +kernel
theorem dX7_nextToken_141 : decode cX7_nextToken 141 = .ok (.iconst 0, 1) := by decide +kernel
theorem dX7_nextToken_142 : decode cX7_nextToken 142 = .ok (.iadd, 1) := by decide +kernel
theorem dX7_nextToken_143 : decode cX7_nextToken 143 = .ok (.putfield 96, 3) := by decide +kernel
theorem dX7_nextToken_146 : decode cX7_nextToken 146 = .ok (.aload_n 0, 1) := by decide +kernel
theorem dX7_nextToken_147 : decode cX7_nextToken 147 = .ok (.getfield 111, 3) := by decide +kernel
theorem dX7_nextToken_150 : decode cX7_nextToken 150 = .ok (.iconst 3, 1) := by decide +kernel
theorem dX7_nextToken_151 : decode cX7_nextToken 151 = .ok (.if_icmp .ne 126, 3) := by decide +kernel
theorem dX7_nextToken_154 : decode cX7_nextToken 154 = .ok (.aload_n 0, 1) := by decide +kernel
theorem dX7_nextToken_155 : decode cX7_nextToken 155 = .ok (.dup, 1) := by decide +kernel
theorem dX7_nextToken_156 : decode cX7_nextToken 156 = .ok (.getfield 100, 3) := by decide +kernel
theorem dX7_nextToken_159 : decode cX7_nextToken 159 = .ok (.bipush 48, 2) := by decide +kernel
theorem dX7_nextToken_161 : decode cX7_nextToken 161 = .ok (.isub, 1) := by decide +kernel
theorem dX7_nextToken_162 : decode cX7_nextToken 162 = .ok (.putfield 100, 3) := by decide +kernel
theorem dX7_nextToken_165 : decode cX7_nextToken 165 = .ok (.aload_n 0, 1) := by decide +kernel
theorem dX7_nextToken_166 : decode cX7_nextToken 166 = .ok (.getfield 96, 3) := by decide +kernel
theorem dX7_nextToken_169 : decode cX7_nextToken 169 = .ok (.aload_n 0, 1) := by decide +kernel
theorem dX7_nextToken_170 : decode cX7_nextToken 170 = .ok (.getfield 83, 3) := by decide +kernel
theorem dX7_nextToken_173 : decode cX7_nextToken 173 = .ok (.if_icmp .ge 82, 3) := by decide +kernel
theorem dX7_nextToken_176 : decode cX7_nextToken 176 = .ok (.aload_n 0, 1) := by decide +kernel
theorem dX7_nextToken_177 : decode cX7_nextToken 177 = .ok (.getfield 31, 3) := by decide +kernel
theorem dX7_nextToken_180 : decode cX7_nextToken 180 = .ok (.aload_n 0, 1) := by decide +kernel
theorem dX7_nextToken_181 : decode cX7_nextToken 181 = .ok (.getfield 96, 3) := by decide +kernel
theorem dX7_nextToken_184 : decode cX7_nextToken 184 = .ok (.iaload, 1) := by decide +kernel
theorem dX7_nextToken_185 : decode cX7_nextToken 185 = .ok (.i2l, 1) := by decide +kernel
theorem dX7_nextToken_186 : decode cX7_nextToken 186 = .ok (.ldc2_w 107, 3) := by decide +kernel
theorem dX7_nextToken_189 : decode cX7_nextToken 189 = .ok (.ldc2_w 109, 3) := by decide +kernel
theorem dX7_nextToken_192 : decode cX7_nextToken 192 = .ok (.invokestatic 66, 3) := by decide +kernel
theorem dX7_nextToken_195 : decode cX7_nextToken 195 = .ok (.ifCond .eq 60, 3) := by decide +kernel
theorem dX7_nextToken_198 : decode cX7_nextToken 198 = .ok (.aload_n 0, 1) := by decide +kernel
theorem dX7_nextToken_199 : decode cX7_nextToken 199 = .ok (.aload_n 0, 1) := by decide +kernel
theorem dX7_nextToken_200 : decode cX7_nextToken 200 = .ok (.getfield 96, 3) := by decide +kernel
theorem dX7_nextToken_203 : decode cX7_nextToken 203 = .ok (.aload_n 0, 1) := by decide +kernel
theorem dX7_nextToken_204 : decode cX7_nextToken 204 = .ok (.getfield 90, 3) := by decide +kernel
theorem dX7_nextToken_207 : decode cX7_nextToken 207 = .ok (.isub, 1) := by decide +kernel
theorem dX7_nextToken_208 : decode cX7_nextToken 208 = .ok (.iconst 2, 1) := by decide +kernel
theorem dX7_nextToken_209 : decode cX7_nextToken 209 = .ok (.if_icmp .ge 26, 3) := by decide +kernel
theorem dX7_nextToken_212 : decode cX7_nextToken 212 = .ok (.bipush 10, 2) := by decide +kernel
theorem dX7_nextToken_214 : decode cX7_nextToken 214 = .ok (.aload_n 0, 1) := by decide +kernel
theorem dX7_nextToken_215 : decode cX7_nextToken 215 = .ok (.getfield 100, 3) := by decide +kernel
theorem dX7_nextToken_218 : decode cX7_nextToken 218 = .ok (.imul, 1) := by decide +kernel
theorem dX7_nextToken_219 : decode cX7_nextToken 219 = .ok (.aload_n 0, 1) := by decide +kernel
theorem dX7_nextToken_220 : decode cX7_nextToken 220 = .ok (.getfield 31, 3) := by decide +kernel
theorem dX7_nextToken_223 : decode cX7_nextToken 223 = .ok (.aload_n 0, 1) := by decide +kernel
theorem dX7_nextToken_224 : decode cX7_nextToken 224 = .ok (.getfield 96, 3) := by decide +kernel
theorem dX7_nextToken_227 : decode cX7_nextToken 227 = .ok (.iaload, 1) := by decide +kernel
theorem dX7_nextToken_228 : decode cX7_nextToken 228 = .ok (.iadd, 1) := by decide +kernel
theorem dX7_nextToken_229 : decode cX7_nextToken 229 = .ok (.bipush 48, 2) := by decide +kernel
theorem dX7_nextToken_231 : decode cX7_nextToken 231 = .ok (.isub, 1) := by decide +kernel
theorem dX7_nextToken_232 : decode cX7_nextToken 232 = .ok (.goto 7, 3) := by decide +kernel
theorem dX7_nextToken_235 : decode cX7_nextToken 235 = .ok (.aload_n 0, 1) := by decide +kernel
theorem dX7_nextToken_236 : decode cX7_nextToken 236 = .ok (.getfield 100, 3) := by decide +kernel
theorem dX7_nextToken_239 : decode cX7_nextToken 239 = .ok (.putfield 100, 3) := by decide +kernel
theorem dX7_nextToken_242 : decode cX7_nextToken 242 = .ok (.aload_n 0, 1) := by decide +kernel
theorem dX7_nextToken_243 : decode cX7_nextToken 243 = .ok (.dup, 1) := by decide +kernel
theorem dX7_nextToken_244 : decode cX7_nextToken 244 = .ok (.getfield 96, 3) := by decide +kernel
theorem dX7_nextToken_247 : decode cX7_nextToken 247 = .ok (.iconst 1, 1) := by decide +kernel
theorem dX7_nextToken_248 : decode cX7_nextToken 248 = .ok (.iadd, 1) := by decide +kernel
theorem dX7_nextToken_249 : decode cX7_nextToken 249 = .ok (.putfield 96, 3) := by decide +kernel
theorem dX7_nextToken_252 : decode cX7_nextToken 252 = .ok (.goto (-87), 3) := by decide +kernel
theorem dX7_nextToken_255 : decode cX7_nextToken 255 = .ok (.aload_n 0, 1) := by decide +kernel
theorem dX7_nextToken_256 : decode cX7_nextToken 256 = .ok (.aload_n 0, 1) := by decide +kernel
theorem dX7_nextToken_257 : decode cX7_nextToken 257 = .ok (.getfield 96, 3) := by decide +kernel
theorem dX7_nextToken_260 : decode cX7_nextToken 260 = .ok (.aload_n 0, 1) := by decide +kernel
theorem dX7_nextToken_261 : decode cX7_nextToken 261 = .ok (.getfield 90, 3) := by decide +kernel
theorem dX7_nextToken_264 : decode cX7_nextToken 264 = .ok (.isub, 1) := by decide +kernel
theorem dX7_nextToken_265 : decode cX7_nextToken 265 = .ok (.iconst 2, 1) := by decide +kernel
theorem dX7_nextToken_266 : decode cX7_nextToken 266 = .ok (.if_icmp .le 7, 3) := by decide +kernel
theorem dX7_nextToken_269 : decode cX7_nextToken 269 = .ok (.iconst 0, 1) := by decide +kernel
theorem dX7_nextToken_270 : decode cX7_nextToken 270 = .ok (.goto 4, 3) := by decide +kernel
theorem dX7_nextToken_273 : decode cX7_nextToken 273 = .ok (.iconst 3, 1) := by decide +kernel
theorem dX7_nextToken_274 : decode cX7_nextToken 274 = .ok (.putfield 111, 3) := by decide +kernel
theorem dX7_nextToken_277 : decode cX7_nextToken 277 = .ok (.return_, 1) := by decide +kernel
theorem dX7_must_0 : decode cX7_must 0 = .ok (.iload_n 1, 1) := by decide +kernel
theorem dX7_must_1 : decode cX7_must 1 = .ok (.ifCond .ne 8, 3) := by decide +kernel
theorem dX7_must_4 : decode cX7_must 4 = .ok (.aload_n 0, 1) := by decide +kernel
theorem dX7_must_5 : decode cX7_must 5 = .ok (.iconst 1, 1) := by decide +kernel
theorem dX7_must_6 : decode cX7_must 6 = .ok (.invokevirtual 114, 3) := by decide +kernel
theorem dX7_must_9 : decode cX7_must 9 = .ok (.aload_n 0, 1) := by decide +kernel
theorem dX7_must_10 : decode cX7_must 10 = .ok (.getfield 87, 3) := by decide +kernel
theorem dX7_must_13 : decode cX7_must 13 = .ok (.ifCond .ne 7, 3) := by decide +kernel
theorem dX7_must_16 : decode cX7_must 16 = .ok (.aload_n 0, 1) := by decide +kernel
theorem dX7_must_17 : decode cX7_must 17 = .ok (.invokevirtual 118, 3) := by decide +kernel
theorem dX7_must_20 : decode cX7_must 20 = .ok (.return_, 1) := by decide +kernel
theorem dX7_isLetter_0 : decode cX7_isLetter 0 = .ok (.aload_n 0, 1) := by decide +kernel
theorem dX7_isLetter_1 : decode cX7_isLetter 1 = .ok (.getfield 87, 3) := by decide +kernel
theorem dX7_isLetter_4 : decode cX7_isLetter 4 = .ok (.ifCond .ne 23, 3) := by decide +kernel
theorem dX7_isLetter_7 : decode cX7_isLetter 7 = .ok (.aload_n 0, 1) := by decide +kernel
theorem dX7_isLetter_8 : decode cX7_isLetter 8 = .ok (.getfield 111, 3) := by decide +kernel
theorem dX7_isLetter_11 : decode cX7_isLetter 11 = .ok (.iconst 2, 1) := by decide +kernel
theorem dX7_isLetter_12 : decode cX7_isLetter 12 = .ok (.if_icmp .ne 15, 3) := by decide +kernel
theorem dX7_isLetter_15 : decode cX7_isLetter 15 = .ok (.aload_n 0, 1) := by decide +kernel
theorem dX7_isLetter_16 : decode cX7_isLetter 16 = .ok (.getfield 100, 3) := by decide +kernel
theorem dX7_isLetter_19 : decode cX7_isLetter 19 = .ok (.iload_n 1, 1) := by decide +kernel
theorem dX7_isLetter_20 : decode cX7_isLetter 20 = .ok (.if_icmp .ne 7, 3) := by decide +kernel
theorem dX7_isLetter_23 : decode cX7_isLetter 23 = .ok (.iconst 1, 1) := by decide +kernel
theorem dX7_isLetter_24 : decode cX7_isLetter 24 = .ok (.goto 4, 3) := by decide +kernel
theorem dX7_isLetter_27 : decode cX7_isLetter 27 = .ok (.iconst 0, 1) := by decide +kernel
theorem dX7_isLetter_28 : decode cX7_isLetter 28 = .ok (.ireturn, 1) := by decide +kernel
theorem dX7_number_0 : decode cX7_number 0 = .ok (.aload_n 0, 1) := by decide +kernel
theorem dX7_number_1 : decode cX7_number 1 = .ok (.getfield 87, 3) := by decide +kernel
theorem dX7_number_4 : decode cX7_number 4 = .ok (.ifCond .ne 16, 3) := by decide +kernel
theorem dX7_number_7 : decode cX7_number 7 = .ok (.aload_n 0, 1) := by decide +kernel
theorem dX7_number_8 : decode cX7_number 8 = .ok (.getfield 111, 3) := by decide +kernel
theorem dX7_number_11 : decode cX7_number 11 = .ok (.iconst 3, 1) := by decide +kernel
theorem dX7_number_12 : decode cX7_number 12 = .ok (.if_icmp .eq 8, 3) := by decide +kernel
theorem dX7_number_15 : decode cX7_number 15 = .ok (.aload_n 0, 1) := by decide +kernel
theorem dX7_number_16 : decode cX7_number 16 = .ok (.iconst 1, 1) := by decide +kernel
theorem dX7_number_17 : decode cX7_number 17 = .ok (.invokevirtual 114, 3) := by decide +kernel
theorem dX7_number_20 : decode cX7_number 20 = .ok (.aload_n 0, 1) := by decide +kernel
theorem dX7_number_21 : decode cX7_number 21 = .ok (.getfield 87, 3) := by decide +kernel
theorem dX7_number_24 : decode cX7_number 24 = .ok (.ifCond .ne 23, 3) := by decide +kernel
theorem dX7_number_27 : decode cX7_number 27 = .ok (.aload_n 0, 1) := by decide +kernel
theorem dX7_number_28 : decode cX7_number 28 = .ok (.getfield 100, 3) := by decide +kernel
theorem dX7_number_31 : decode cX7_number 31 = .ok (.i2l, 1) := by decide +kernel
theorem dX7_number_32 : decode cX7_number 32 = .ok (.iload_n 1, 1) := by decide +kernel
theorem dX7_number_33 : decode cX7_number 33 = .ok (.i2l, 1) := by decide +kernel
theorem dX7_number_34 : decode cX7_number 34 = .ok (.iload_n 2, 1) := by decide +kernel
theorem dX7_number_35 : decode cX7_number 35 = .ok (.i2l, 1) := by decide +kernel
theorem dX7_number_36 : decode cX7_number 36 = .ok (.invokestatic 66, 3) := by decide +kernel
theorem dX7_number_39 : decode cX7_number 39 = .ok (.ifCond .ne 8, 3) := by decide +kernel
theorem dX7_number_42 : decode cX7_number 42 = .ok (.aload_n 0, 1) := by decide +kernel
theorem dX7_number_43 : decode cX7_number 43 = .ok (.iconst 2, 1) := by decide +kernel
theorem dX7_number_44 : decode cX7_number 44 = .ok (.invokevirtual 114, 3) := by decide +kernel
theorem dX7_number_47 : decode cX7_number 47 = .ok (.aload_n 0, 1) := by decide +kernel
theorem dX7_number_48 : decode cX7_number 48 = .ok (.getfield 87, 3) := by decide +kernel
theorem dX7_number_51 : decode cX7_number 51 = .ok (.ifCond .ne 10, 3) := by decide +kernel
theorem dX7_number_54 : decode cX7_number 54 = .ok (.aload_n 0, 1) := by decide +kernel
theorem dX7_number_55 : decode cX7_number 55 = .ok (.getfield 100, 3) := by decide +kernel
theorem dX7_number_58 : decode cX7_number 58 = .ok (.goto 4, 3) := by decide +kernel
theorem dX7_number_61 : decode cX7_number 61 = .ok (.iload_n 1, 1) := by decide +kernel
theorem dX7_number_62 : decode cX7_number 62 = .ok (.istore_n 3, 1) := by decide +kernel
theorem dX7_number_63 : decode cX7_number 63 = .ok (.aload_n 0, 1) := by decide +kernel
theorem dX7_number_64 : decode cX7_number 64 = .ok (.iconst 1, 1) := by decide +kernel
theorem dX7_number_65 : decode cX7_number 65 = .ok (.invokevirtual 121, 3) := by decide +kernel
theorem dX7_number_68 : decode cX7_number 68 = .ok (.iload_n 3, 1) := by decide +kernel
theorem dX7_number_69 : decode cX7_number 69 = .ok (.ireturn, 1) := by decide +kernel
theorem dX7_mustSign_0 : decode cX7_mustSign 0 = .ok (.aload_n 0, 1) := by decide +kernel
theorem dX7_mustSign_1 : decode cX7_mustSign 1 = .ok (.aload_n 0, 1) := by decide +kernel
theorem dX7_mustSign_2 : decode cX7_mustSign 2 = .ok (.getfield 111, 3) := by decide +kernel
theorem dX7_mustSign_5 : decode cX7_mustSign 5 = .ok (.iconst 4, 1) := by decide +kernel
theorem dX7_mustSign_6 : decode cX7_mustSign 6 = .ok (.if_icmp .ne 15, 3) := by decide +kernel
theorem dX7_mustSign_9 : decode cX7_mustSign 9 = .ok (.aload_n 0, 1) := by decide +kernel
theorem dX7_mustSign_10 : decode cX7_mustSign 10 = .ok (.getfield 100, 3) := by decide +kernel
theorem dX7_mustSign_13 : decode cX7_mustSign 13 = .ok (.iload_n 1, 1) := by decide +kernel
theorem dX7_mustSign_14 : decode cX7_mustSign 14 = .ok (.if_icmp .ne 7, 3) := by decide +kernel
theorem dX7_mustSign_17 : decode cX7_mustSign 17 = .ok (.iconst 1, 1) := by decide +kernel
theorem dX7_mustSign_18 : decode cX7_mustSign 18 = .ok (.goto 4, 3) := by decide +kernel
theorem dX7_mustSign_21 : decode cX7_mustSign 21 = .ok (.iconst 0, 1) := by decide +kernel
theorem dX7_mustSign_22 : decode cX7_mustSign 22 = .ok (.invokevirtual 121, 3) := by decide +kernel
theorem dX7_mustSign_25 : decode cX7_mustSign 25 = .ok (.return_, 1) := by decide +kernel
theorem dX7_begin_0 : decode cX7_begin 0 = .ok (.aload_n 0, 1) := by decide +kernel
theorem dX7_begin_1 : decode cX7_begin 1 = .ok (.iconst 0, 1) := by decide +kernel
theorem dX7_begin_2 : decode cX7_begin 2 = .ok (.putfield 96, 3) := by decide +kernel
theorem dX7_begin_5 : decode cX7_begin 5 = .ok (.aload_n 0, 1) := by decide +kernel
theorem dX7_begin_6 : decode cX7_begin 6 = .ok (.iconst 0, 1) := by decide +kernel
theorem dX7_begin_7 : decode cX7_begin 7 = .ok (.putfield 87, 3) := by decide +kernel
theorem dX7_begin_10 : decode cX7_begin 10 = .ok (.aload_n 0, 1) := by decide +kernel
theorem dX7_begin_11 : decode cX7_begin 11 = .ok (.invokevirtual 118, 3) := by decide +kernel
theorem dX7_begin_14 : decode cX7_begin 14 = .ok (.return_, 1) := by decide +kernel
theorem dX7_failed_0 : decode cX7_failed 0 = .ok (.aload_n 0, 1) := by decide +kernel
theorem dX7_failed_1 : decode cX7_failed 1 = .ok (.getfield 87, 3) := by decide +kernel
theorem dX7_failed_4 : decode cX7_failed 4 = .ok (.ifCond .ne 16, 3) := by decide +kernel
theorem dX7_failed_7 : decode cX7_failed 7 = .ok (.aload_n 0, 1) := by decide +kernel
theorem dX7_failed_8 : decode cX7_failed 8 = .ok (.getfield 111, 3) := by decide +kernel
theorem dX7_failed_11 : decode cX7_failed 11 = .ok (.iconst 1, 1) := by decide +kernel
theorem dX7_failed_12 : decode cX7_failed 12 = .ok (.if_icmp .eq 8, 3) := by decide +kernel
theorem dX7_failed_15 : decode cX7_failed 15 = .ok (.aload_n 0, 1) := by decide +kernel
theorem dX7_failed_16 : decode cX7_failed 16 = .ok (.iconst 1, 1) := by decide +kernel
theorem dX7_failed_17 : decode cX7_failed 17 = .ok (.invokevirtual 114, 3) := by decide +kernel
theorem dX7_failed_20 : decode cX7_failed 20 = .ok (.aload_n 0, 1) := by decide +kernel
theorem dX7_failed_21 : decode cX7_failed 21 = .ok (.iconst 0, 1) := by decide +kernel
theorem dX7_failed_22 : decode cX7_failed 22 = .ok (.putfield 83, 3) := by decide +kernel
theorem dX7_failed_25 : decode cX7_failed 25 = .ok (.aload_n 0, 1) := by decide +kernel
theorem dX7_failed_26 : decode cX7_failed 26 = .ok (.aload_n 0, 1) := by decide +kernel
theorem dX7_failed_27 : decode cX7_failed 27 = .ok (.getfield 87, 3) := by decide +kernel
theorem dX7_failed_30 : decode cX7_failed 30 = .ok (.ifCond .le 10, 3) := by decide +kernel
theorem dX7_failed_33 : decode cX7_failed 33 = .ok (.aload_n 0, 1) := by decide +kernel
theorem dX7_failed_34 : decode cX7_failed 34 = .ok (.getfield 87, 3) := by decide +kernel
theorem dX7_failed_37 : decode cX7_failed 37 = .ok (.goto 7, 3) := by decide +kernel
theorem dX7_failed_40 : decode cX7_failed 40 = .ok (.aload_n 0, 1) := by decide +kernel
theorem dX7_failed_41 : decode cX7_failed 41 = .ok (.getfield 125, 3) := by decide +kernel
theorem dX7_failed_44 : decode cX7_failed 44 = .ok (.putfield 125, 3) := by decide +kernel
theorem dX7_failed_47 : decode cX7_failed 47 = .ok (.aload_n 0, 1) := by decide +kernel
theorem dX7_failed_48 : decode cX7_failed 48 = .ok (.getfield 87, 3) := by decide +kernel
theorem dX7_failed_51 : decode cX7_failed 51 = .ok (.ifCond .le 7, 3) := by decide +kernel
theorem dX7_failed_54 : decode cX7_failed 54 = .ok (.iconst 1, 1) := by decide +kernel
theorem dX7_failed_55 : decode cX7_failed 55 = .ok (.goto 4, 3) := by decide +kernel
theorem dX7_failed_58 : decode cX7_failed 58 = .ok (.iconst 0, 1) := by decide +kernel
theorem dX7_failed_59 : decode cX7_failed 59 = .ok (.ireturn, 1) := by decide +kernel
theorem dX7_fault_0 : decode cX7_fault 0 = .ok (.aload_n 0, 1) := by decide +kernel
theorem dX7_fault_1 : decode cX7_fault 1 = .ok (.iconst 0, 1) := by decide +kernel
theorem dX7_fault_2 : decode cX7_fault 2 = .ok (.putfield 56, 3) := by decide +kernel
theorem dX7_fault_5 : decode cX7_fault 5 = .ok (.aload_n 0, 1) := by decide +kernel
theorem dX7_fault_6 : decode cX7_fault 6 = .ok (.getfield 125, 3) := by decide +kernel
theorem dX7_fault_9 : decode cX7_fault 9 = .ok (.ireturn, 1) := by decide +kernel
theorem dX7_isVowel_0 : decode cX7_isVowel 0 = .ok (.iload_n 0, 1) := by decide +kernel
theorem dX7_isVowel_1 : decode cX7_isVowel 1 = .ok (.ifCond .eq 26, 3) := by decide +kernel
theorem dX7_isVowel_4 : decode cX7_isVowel 4 = .ok (.iload_n 0, 1) := by decide +kernel
theorem dX7_isVowel_5 : decode cX7_isVowel 5 = .ok (.iconst 4, 1) := by decide +kernel
theorem dX7_isVowel_6 : decode cX7_isVowel 6 = .ok (.if_icmp .eq 21, 3) := by decide +kernel
theorem dX7_isVowel_9 : decode cX7_isVowel 9 = .ok (.iload_n 0, 1) := by decide +kernel
theorem dX7_isVowel_10 : decode cX7_isVowel 10 = .ok (.bipush 8, 2) := by decide +kernel
theorem dX7_isVowel_12 : decode cX7_isVowel 12 = .ok (.if_icmp .eq 15, 3) := by decide +kernel
theorem dX7_isVowel_15 : decode cX7_isVowel 15 = .ok (.iload_n 0, 1) := by decide +kernel
theorem dX7_isVowel_16 : decode cX7_isVowel 16 = .ok (.bipush 14, 2) := by decide +kernel
theorem dX7_isVowel_18 : decode cX7_isVowel 18 = .ok (.if_icmp .eq 9, 3) := by decide +kernel
theorem dX7_isVowel_21 : decode cX7_isVowel 21 = .ok (.iload_n 0, 1) := by decide +kernel
theorem dX7_isVowel_22 : decode cX7_isVowel 22 = .ok (.bipush 20, 2) := by decide +kernel
theorem dX7_isVowel_24 : decode cX7_isVowel 24 = .ok (.if_icmp .ne 7, 3) := by decide +kernel
theorem dX7_isVowel_27 : decode cX7_isVowel 27 = .ok (.iconst 1, 1) := by decide +kernel
theorem dX7_isVowel_28 : decode cX7_isVowel 28 = .ok (.goto 4, 3) := by decide +kernel
theorem dX7_isVowel_31 : decode cX7_isVowel 31 = .ok (.iconst 0, 1) := by decide +kernel
theorem dX7_isVowel_32 : decode cX7_isVowel 32 = .ok (.ireturn, 1) := by decide +kernel
theorem dX7_wordsOf_0 : decode cX7_wordsOf 0 = .ok (.aload_n 0, 1) := by decide +kernel
theorem dX7_wordsOf_1 : decode cX7_wordsOf 1 = .ok (.iconst 3, 1) := by decide +kernel
theorem dX7_wordsOf_2 : decode cX7_wordsOf 2 = .ok (.iaload, 1) := by decide +kernel
theorem dX7_wordsOf_3 : decode cX7_wordsOf 3 = .ok (.aload_n 0, 1) := by decide +kernel
theorem dX7_wordsOf_4 : decode cX7_wordsOf 4 = .ok (.iconst 4, 1) := by decide +kernel
theorem dX7_wordsOf_5 : decode cX7_wordsOf 5 = .ok (.iaload, 1) := by decide +kernel
theorem dX7_wordsOf_6 : decode cX7_wordsOf 6 = .ok (.iadd, 1) := by decide +kernel
theorem dX7_wordsOf_7 : decode cX7_wordsOf 7 = .ok (.aload_n 0, 1) := by decide +kernel
theorem dX7_wordsOf_8 : decode cX7_wordsOf 8 = .ok (.iconst 5, 1) := by decide +kernel
theorem dX7_wordsOf_9 : decode cX7_wordsOf 9 = .ok (.iaload, 1) := by decide +kernel
theorem dX7_wordsOf_10 : decode cX7_wordsOf 10 = .ok (.iadd, 1) := by decide +kernel
theorem dX7_wordsOf_11 : decode cX7_wordsOf 11 = .ok (.aload_n 0, 1) := by decide +kernel
theorem dX7_wordsOf_12 : decode cX7_wordsOf 12 = .ok (.bipush 6, 2) := by decide +kernel
theorem dX7_wordsOf_14 : decode cX7_wordsOf 14 = .ok (.iaload, 1) := by decide +kernel
theorem dX7_wordsOf_15 : decode cX7_wordsOf 15 = .ok (.iadd, 1) := by decide +kernel
theorem dX7_wordsOf_16 : decode cX7_wordsOf 16 = .ok (.ireturn, 1) := by decide +kernel
theorem dX7_badAt_0 : decode cX7_badAt 0 = .ok (.aload_n 0, 1) := by decide +kernel
theorem dX7_badAt_1 : decode cX7_badAt 1 = .ok (.getfield 87, 3) := by decide +kernel
theorem dX7_badAt_4 : decode cX7_badAt 4 = .ok (.ifCond .eq 11, 3) := by decide +kernel
theorem dX7_badAt_7 : decode cX7_badAt 7 = .ok (.aload_n 0, 1) := by decide +kernel
theorem dX7_badAt_8 : decode cX7_badAt 8 = .ok (.getfield 93, 3) := by decide +kernel
theorem dX7_badAt_11 : decode cX7_badAt 11 = .ok (.iload_n 2, 1) := by decide +kernel
theorem dX7_badAt_12 : decode cX7_badAt 12 = .ok (.if_icmp .le 13, 3) := by decide +kernel
theorem dX7_badAt_15 : decode cX7_badAt 15 = .ok (.aload_n 0, 1) := by decide +kernel
theorem dX7_badAt_16 : decode cX7_badAt 16 = .ok (.iload_n 1, 1) := by decide +kernel
theorem dX7_badAt_17 : decode cX7_badAt 17 = .ok (.putfield 87, 3) := by decide +kernel
theorem dX7_badAt_20 : decode cX7_badAt 20 = .ok (.aload_n 0, 1) := by decide +kernel
theorem dX7_badAt_21 : decode cX7_badAt 21 = .ok (.iload_n 2, 1) := by decide +kernel
theorem dX7_badAt_22 : decode cX7_badAt 22 = .ok (.putfield 93, 3) := by decide +kernel
theorem dX7_badAt_25 : decode cX7_badAt 25 = .ok (.return_, 1) := by decide +kernel
theorem dX7_readWord_0 : decode cX7_readWord 0 = .ok (.aload_n 0, 1) := by decide +kernel
theorem dX7_readWord_1 : decode cX7_readWord 1 = .ok (.getfield 87, 3) := by decide +kernel
theorem dX7_readWord_4 : decode cX7_readWord 4 = .ok (.ifCond .le 4, 3) := by decide +kernel
theorem dX7_readWord_7 : decode cX7_readWord 7 = .ok (.return_, 1) := by decide +kernel
theorem dX7_readWord_8 : decode cX7_readWord 8 = .ok (.bipush 7, 2) := by decide +kernel
theorem dX7_readWord_10 : decode cX7_readWord 10 = .ok (.bipush 10, 2) := by decide +kernel
theorem dX7_readWord_12 : decode cX7_readWord 12 = .ok (.aload_n 0, 1) := by decide +kernel
theorem dX7_readWord_13 : decode cX7_readWord 13 = .ok (.getfield 22, 3) := by decide +kernel
theorem dX7_readWord_16 : decode cX7_readWord 16 = .ok (.invokestatic 128, 3) := by decide +kernel
theorem dX7_readWord_19 : decode cX7_readWord 19 = .ok (.imul, 1) := by decide +kernel
theorem dX7_readWord_20 : decode cX7_readWord 20 = .ok (.iadd, 1) := by decide +kernel
theorem dX7_readWord_21 : decode cX7_readWord 21 = .ok (.istore_n 2, 1) := by decide +kernel
theorem dX7_readWord_22 : decode cX7_readWord 22 = .ok (.aload_n 0, 1) := by decide +kernel
theorem dX7_readWord_23 : decode cX7_readWord 23 = .ok (.getfield 22, 3) := by decide +kernel
theorem dX7_readWord_26 : decode cX7_readWord 26 = .ok (.iload_n 2, 1) := by decide +kernel
theorem dX7_readWord_27 : decode cX7_readWord 27 = .ok (.aload_n 0, 1) := by decide +kernel
theorem dX7_readWord_28 : decode cX7_readWord 28 = .ok (.iconst 1, 1) := by decide +kernel
theorem dX7_readWord_29 : decode cX7_readWord 29 = .ok (.iconst 5, 1) := by decide +kernel
theorem dX7_readWord_30 : decode cX7_readWord 30 = .ok (.invokevirtual 132, 3) := by decide +kernel
theorem dX7_readWord_33 : decode cX7_readWord 33 = .ok (.iastore, 1) := by decide +kernel
theorem dX7_readWord_34 : decode cX7_readWord 34 = .ok (.aload_n 0, 1) := by decide +kernel
theorem dX7_readWord_35 : decode cX7_readWord 35 = .ok (.getfield 90, 3) := by decide +kernel
theorem dX7_readWord_38 : decode cX7_readWord 38 = .ok (.istore_n 3, 1) := by decide +kernel
theorem dX7_readWord_39 : decode cX7_readWord 39 = .ok (.iconst 0, 1) := by decide +kernel
theorem dX7_readWord_40 : decode cX7_readWord 40 = .ok (.istore 4, 2) := by decide +kernel
theorem dX7_readWord_42 : decode cX7_readWord 42 = .ok (.iconst 0, 1) := by decide +kernel
theorem dX7_readWord_43 : decode cX7_readWord 43 = .ok (.istore 5, 2) := by decide +kernel
theorem dX7_readWord_45 : decode cX7_readWord 45 = .ok (.aload_n 0, 1) := by decide +kernel
theorem dX7_readWord_46 : decode cX7_readWord 46 = .ok (.getfield 87, 3) := by decide +kernel
theorem dX7_readWord_49 : decode cX7_readWord 49 = .ok (.ifCond .ne 16, 3) := by decide +kernel
theorem dX7_readWord_52 : decode cX7_readWord 52 = .ok (.aload_n 0, 1) := by decide +kernel
theorem dX7_readWord_53 : decode cX7_readWord 53 = .ok (.getfield 111, 3) := by decide +kernel
theorem dX7_readWord_56 : decode cX7_readWord 56 = .ok (.iconst 2, 1) := by decide +kernel
theorem dX7_readWord_57 : decode cX7_readWord 57 = .ok (.if_icmp .eq 8, 3) := by decide +kernel
theorem dX7_readWord_60 : decode cX7_readWord 60 = .ok (.aload_n 0, 1) := by decide +kernel
theorem dX7_readWord_61 : decode cX7_readWord 61 = .ok (.iconst 1, 1) := by decide +kernel
theorem dX7_readWord_62 : decode cX7_readWord 62 = .ok (.invokevirtual 114, 3) := by decide +kernel
theorem dX7_readWord_65 : decode cX7_readWord 65 = .ok (.aload_n 0, 1) := by decide +kernel
theorem dX7_readWord_66 : decode cX7_readWord 66 = .ok (.getfield 87, 3) := by decide +kernel
theorem dX7_readWord_69 : decode cX7_readWord 69 = .ok (.ifCond .ne 71, 3) := by decide +kernel
theorem dX7_readWord_72 : decode cX7_readWord 72 = .ok (.aload_n 0, 1) := by decide +kernel
theorem dX7_readWord_73 : decode cX7_readWord 73 = .ok (.getfield 111, 3) := by decide +kernel
theorem dX7_readWord_76 : decode cX7_readWord 76 = .ok (.iconst 2, 1) := by decide +kernel
theorem dX7_readWord_77 : decode cX7_readWord 77 = .ok (.if_icmp .ne 63, 3) := by decide +kernel
theorem dX7_readWord_80 : decode cX7_readWord 80 = .ok (.iload 4, 2) := by decide +kernel
theorem dX7_readWord_82 : decode cX7_readWord 82 = .ok (.bipush 8, 2) := by decide +kernel
theorem dX7_readWord_84 : decode cX7_readWord 84 = .ok (.if_icmp .ge 56, 3) := by decide +kernel
theorem dX7_readWord_87 : decode cX7_readWord 87 = .ok (.aload_n 0, 1) := by decide +kernel
theorem dX7_readWord_88 : decode cX7_readWord 88 = .ok (.getfield 22, 3) := by decide +kernel
theorem dX7_readWord_91 : decode cX7_readWord 91 = .ok (.iload_n 2, 1) := by decide +kernel
theorem dX7_readWord_92 : decode cX7_readWord 92 = .ok (.iconst 2, 1) := by decide +kernel
theorem dX7_readWord_93 : decode cX7_readWord 93 = .ok (.iadd, 1) := by decide +kernel
theorem dX7_readWord_94 : decode cX7_readWord 94 = .ok (.iload 4, 2) := by decide +kernel
theorem dX7_readWord_96 : decode cX7_readWord 96 = .ok (.iadd, 1) := by decide +kernel
theorem dX7_readWord_97 : decode cX7_readWord 97 = .ok (.aload_n 0, 1) := by decide +kernel
theorem dX7_readWord_98 : decode cX7_readWord 98 = .ok (.getfield 100, 3) := by decide +kernel
theorem dX7_readWord_101 : decode cX7_readWord 101 = .ok (.bipush 97, 2) := by decide +kernel
theorem dX7_readWord_103 : decode cX7_readWord 103 = .ok (.isub, 1) := by decide +kernel
theorem dX7_readWord_104 : decode cX7_readWord 104 = .ok (.iastore, 1) := by decide +kernel
theorem dX7_readWord_105 : decode cX7_readWord 105 = .ok (.iload 5, 2) := by decide +kernel
theorem dX7_readWord_107 : decode cX7_readWord 107 = .ok (.ifCond .ne 16, 3) := by decide +kernel
theorem dX7_readWord_110 : decode cX7_readWord 110 = .ok (.aload_n 0, 1) := by decide +kernel
theorem dX7_readWord_111 : decode cX7_readWord 111 = .ok (.getfield 100, 3) := by decide +kernel
theorem dX7_readWord_114 : decode cX7_readWord 114 = .ok (.bipush 97, 2) := by decide +kernel
theorem dX7_readWord_116 : decode cX7_readWord 116 = .ok (.isub, 1) := by decide +kernel
theorem dX7_readWord_117 : decode cX7_readWord 117 = .ok (.invokestatic 136, 3) := by decide +kernel
theorem dX7_readWord_120 : decode cX7_readWord 120 = .ok (.ifCond .eq 7, 3) := by decide +kernel
theorem dX7_readWord_123 : decode cX7_readWord 123 = .ok (.iconst 1, 1) := by decide +kernel
theorem dX7_readWord_124 : decode cX7_readWord 124 = .ok (.goto 4, 3) := by decide +kernel
theorem dX7_readWord_127 : decode cX7_readWord 127 = .ok (.iconst 0, 1) := by decide +kernel
theorem dX7_readWord_128 : decode cX7_readWord 128 = .ok (.istore 5, 2) := by decide +kernel
theorem dX7_readWord_130 : decode cX7_readWord 130 = .ok (.iinc 4 1, 3) := by decide +kernel
theorem dX7_readWord_133 : decode cX7_readWord 133 = .ok (.aload_n 0, 1) := by decide +kernel
theorem dX7_readWord_134 : decode cX7_readWord 134 = .ok (.invokevirtual 118, 3) := by decide +kernel
theorem dX7_readWord_137 : decode cX7_readWord 137 = .ok (.goto (-72), 3) := by decide +kernel
theorem dX7_readWord_140 : decode cX7_readWord 140 = .ok (.iload 4, 2) := by decide +kernel
theorem dX7_readWord_142 : decode cX7_readWord 142 = .ok (.ifCond .le 14, 3) := by decide +kernel
theorem dX7_readWord_145 : decode cX7_readWord 145 = .ok (.iload 5, 2) := by decide +kernel
theorem dX7_readWord_147 : decode cX7_readWord 147 = .ok (.ifCond .ne 9, 3) := by decide +kernel
theorem dX7_readWord_150 : decode cX7_readWord 150 = .ok (.aload_n 0, 1) := by decide +kernel
theorem dX7_readWord_151 : decode cX7_readWord 151 = .ok (.iconst 4, 1) := by decide +kernel
theorem dX7_readWord_152 : decode cX7_readWord 152 = .ok (.iload_n 3, 1) := by decide +kernel
theorem dX7_readWord_153 : decode cX7_readWord 153 = .ok (.invokevirtual 139, 3) := by decide +kernel
theorem dX7_readWord_156 : decode cX7_readWord 156 = .ok (.aload_n 0, 1) := by decide +kernel
theorem dX7_readWord_157 : decode cX7_readWord 157 = .ok (.getfield 22, 3) := by decide +kernel
theorem dX7_readWord_160 : decode cX7_readWord 160 = .ok (.iload_n 2, 1) := by decide +kernel
theorem dX7_readWord_161 : decode cX7_readWord 161 = .ok (.iconst 1, 1) := by decide +kernel
theorem dX7_readWord_162 : decode cX7_readWord 162 = .ok (.iadd, 1) := by decide +kernel
theorem dX7_readWord_163 : decode cX7_readWord 163 = .ok (.iload 4, 2) := by decide +kernel
theorem dX7_readWord_165 : decode cX7_readWord 165 = .ok (.iastore, 1) := by decide +kernel
theorem dX7_readWord_166 : decode cX7_readWord 166 = .ok (.aload_n 0, 1) := by decide +kernel
theorem dX7_readWord_167 : decode cX7_readWord 167 = .ok (.getfield 22, 3) := by decide +kernel
theorem dX7_readWord_170 : decode cX7_readWord 170 = .ok (.iconst 3, 1) := by decide +kernel
theorem dX7_readWord_171 : decode cX7_readWord 171 = .ok (.iload_n 1, 1) := by decide +kernel
theorem dX7_readWord_172 : decode cX7_readWord 172 = .ok (.iadd, 1) := by decide +kernel
theorem dX7_readWord_173 : decode cX7_readWord 173 = .ok (.dup2, 1) := by decide +kernel
theorem dX7_readWord_174 : decode cX7_readWord 174 = .ok (.iaload, 1) := by decide +kernel
theorem dX7_readWord_175 : decode cX7_readWord 175 = .ok (.iconst 1, 1) := by decide +kernel
theorem dX7_readWord_176 : decode cX7_readWord 176 = .ok (.iadd, 1) := by decide +kernel
theorem dX7_readWord_177 : decode cX7_readWord 177 = .ok (.iastore, 1) := by decide +kernel
theorem dX7_readWord_178 : decode cX7_readWord 178 = .ok (.return_, 1) := by decide +kernel
theorem dX7_readLine_0 : decode cX7_readLine 0 = .ok (.iload_n 1, 1) := by decide +kernel
theorem dX7_readLine_1 : decode cX7_readLine 1 = .ok (.iconst 4, 1) := by decide +kernel
theorem dX7_readLine_2 : decode cX7_readLine 2 = .ok (.if_icmp .ne 42, 3) := by decide +kernel
theorem dX7_readLine_5 : decode cX7_readLine 5 = .ok (.aload_n 0, 1) := by decide +kernel
theorem dX7_readLine_6 : decode cX7_readLine 6 = .ok (.getfield 87, 3) := by decide +kernel
theorem dX7_readLine_9 : decode cX7_readLine 9 = .ok (.ifCond .ne 35, 3) := by decide +kernel
theorem dX7_readLine_12 : decode cX7_readLine 12 = .ok (.aload_n 0, 1) := by decide +kernel
theorem dX7_readLine_13 : decode cX7_readLine 13 = .ok (.getfield 111, 3) := by decide +kernel
theorem dX7_readLine_16 : decode cX7_readLine 16 = .ok (.iconst 3, 1) := by decide +kernel
theorem dX7_readLine_17 : decode cX7_readLine 17 = .ok (.if_icmp .ne 27, 3) := by decide +kernel
theorem dX7_readLine_20 : decode cX7_readLine 20 = .ok (.aload_n 0, 1) := by decide +kernel
theorem dX7_readLine_21 : decode cX7_readLine 21 = .ok (.aload_n 0, 1) := by decide +kernel
theorem dX7_readLine_22 : decode cX7_readLine 22 = .ok (.getfield 100, 3) := by decide +kernel
theorem dX7_readLine_25 : decode cX7_readLine 25 = .ok (.i2l, 1) := by decide +kernel
theorem dX7_readLine_26 : decode cX7_readLine 26 = .ok (.lconst 1, 1) := by decide +kernel
theorem dX7_readLine_27 : decode cX7_readLine 27 = .ok (.ldc2_w 143, 3) := by decide +kernel
theorem dX7_readLine_30 : decode cX7_readLine 30 = .ok (.invokestatic 66, 3) := by decide +kernel
theorem dX7_readLine_33 : decode cX7_readLine 33 = .ok (.ifCond .eq 7, 3) := by decide +kernel
theorem dX7_readLine_36 : decode cX7_readLine 36 = .ok (.iconst 3, 1) := by decide +kernel
theorem dX7_readLine_37 : decode cX7_readLine 37 = .ok (.goto 4, 3) := by decide +kernel
theorem dX7_readLine_40 : decode cX7_readLine 40 = .ok (.iconst 2, 1) := by decide +kernel
theorem dX7_readLine_41 : decode cX7_readLine 41 = .ok (.invokevirtual 114, 3) := by decide +kernel
theorem dX7_readLine_44 : decode cX7_readLine 44 = .ok (.iload_n 1, 1) := by decide +kernel
theorem dX7_readLine_45 : decode cX7_readLine 45 = .ok (.iconst 4, 1) := by decide +kernel
theorem dX7_readLine_46 : decode cX7_readLine 46 = .ok (.if_icmp .ge 7, 3) := by decide +kernel
theorem dX7_readLine_49 : decode cX7_readLine 49 = .ok (.iload_n 1, 1) := by decide +kernel
theorem dX7_readLine_50 : decode cX7_readLine 50 = .ok (.goto 4, 3) := by decide +kernel
theorem dX7_readLine_53 : decode cX7_readLine 53 = .ok (.iconst 3, 1) := by decide +kernel
theorem dX7_readLine_54 : decode cX7_readLine 54 = .ok (.istore_n 2, 1) := by decide +kernel
theorem dX7_readLine_55 : decode cX7_readLine 55 = .ok (.aload_n 0, 1) := by decide +kernel
theorem dX7_readLine_56 : decode cX7_readLine 56 = .ok (.iload_n 2, 1) := by decide +kernel
theorem dX7_readLine_57 : decode cX7_readLine 57 = .ok (.invokevirtual 145, 3) := by decide +kernel
theorem dX7_readLine_60 : decode cX7_readLine 60 = .ok (.aload_n 0, 1) := by decide +kernel
theorem dX7_readLine_61 : decode cX7_readLine 61 = .ok (.getfield 87, 3) := by decide +kernel
theorem dX7_readLine_64 : decode cX7_readLine 64 = .ok (.ifCond .ne 46, 3) := by decide +kernel
theorem dX7_readLine_67 : decode cX7_readLine 67 = .ok (.aload_n 0, 1) := by decide +kernel
theorem dX7_readLine_68 : decode cX7_readLine 68 = .ok (.getfield 111, 3) := by decide +kernel
theorem dX7_readLine_71 : decode cX7_readLine 71 = .ok (.iconst 4, 1) := by decide +kernel
theorem dX7_readLine_72 : decode cX7_readLine 72 = .ok (.if_icmp .ne 38, 3) := by decide +kernel
theorem dX7_readLine_75 : decode cX7_readLine 75 = .ok (.aload_n 0, 1) := by decide +kernel
theorem dX7_readLine_76 : decode cX7_readLine 76 = .ok (.getfield 100, 3) := by decide +kernel
theorem dX7_readLine_79 : decode cX7_readLine 79 = .ok (.bipush 44, 2) := by decide +kernel
theorem dX7_readLine_81 : decode cX7_readLine 81 = .ok (.if_icmp .ne 29, 3) := by decide +kernel
theorem dX7_readLine_84 : decode cX7_readLine 84 = .ok (.aload_n 0, 1) := by decide +kernel
theorem dX7_readLine_85 : decode cX7_readLine 85 = .ok (.getfield 22, 3) := by decide +kernel
theorem dX7_readLine_88 : decode cX7_readLine 88 = .ok (.iconst 3, 1) := by decide +kernel
theorem dX7_readLine_89 : decode cX7_readLine 89 = .ok (.iload_n 2, 1) := by decide +kernel
theorem dX7_readLine_90 : decode cX7_readLine 90 = .ok (.iadd, 1) := by decide +kernel
theorem dX7_readLine_91 : decode cX7_readLine 91 = .ok (.iaload, 1) := by decide +kernel
theorem dX7_readLine_92 : decode cX7_readLine 92 = .ok (.iconst 5, 1) := by decide +kernel
theorem dX7_readLine_93 : decode cX7_readLine 93 = .ok (.if_icmp .ge 17, 3) := by decide +kernel
theorem dX7_readLine_96 : decode cX7_readLine 96 = .ok (.aload_n 0, 1) := by decide +kernel
theorem dX7_readLine_97 : decode cX7_readLine 97 = .ok (.bipush 44, 2) := by decide +kernel
theorem dX7_readLine_99 : decode cX7_readLine 99 = .ok (.invokevirtual 148, 3) := by decide +kernel
theorem dX7_readLine_102 : decode cX7_readLine 102 = .ok (.aload_n 0, 1) := by decide +kernel
theorem dX7_readLine_103 : decode cX7_readLine 103 = .ok (.iload_n 2, 1) := by decide +kernel
theorem dX7_readLine_104 : decode cX7_readLine 104 = .ok (.invokevirtual 145, 3) := by decide +kernel
theorem dX7_readLine_107 : decode cX7_readLine 107 = .ok (.goto (-47), 3) := by decide +kernel
theorem dX7_readLine_110 : decode cX7_readLine 110 = .ok (.aload_n 0, 1) := by decide +kernel
theorem dX7_readLine_111 : decode cX7_readLine 111 = .ok (.bipush 59, 2) := by decide +kernel
theorem dX7_readLine_113 : decode cX7_readLine 113 = .ok (.invokevirtual 148, 3) := by decide +kernel
theorem dX7_readLine_116 : decode cX7_readLine 116 = .ok (.aload_n 0, 1) := by decide +kernel
theorem dX7_readLine_117 : decode cX7_readLine 117 = .ok (.getfield 22, 3) := by decide +kernel
theorem dX7_readLine_120 : decode cX7_readLine 120 = .ok (.iconst 0, 1) := by decide +kernel
theorem dX7_readLine_121 : decode cX7_readLine 121 = .ok (.dup2, 1) := by decide +kernel
theorem dX7_readLine_122 : decode cX7_readLine 122 = .ok (.iaload, 1) := by decide +kernel
theorem dX7_readLine_123 : decode cX7_readLine 123 = .ok (.iconst 1, 1) := by decide +kernel
theorem dX7_readLine_124 : decode cX7_readLine 124 = .ok (.iadd, 1) := by decide +kernel
theorem dX7_readLine_125 : decode cX7_readLine 125 = .ok (.iastore, 1) := by decide +kernel
theorem dX7_readLine_126 : decode cX7_readLine 126 = .ok (.return_, 1) := by decide +kernel
theorem dX7_poem_0 : decode cX7_poem 0 = .ok (.aload_n 0, 1) := by decide +kernel
theorem dX7_poem_1 : decode cX7_poem 1 = .ok (.iconst 0, 1) := by decide +kernel
theorem dX7_poem_2 : decode cX7_poem 2 = .ok (.putfield 56, 3) := by decide +kernel
theorem dX7_poem_5 : decode cX7_poem 5 = .ok (.aload_n 0, 1) := by decide +kernel
theorem dX7_poem_6 : decode cX7_poem 6 = .ok (.invokevirtual 151, 3) := by decide +kernel
theorem dX7_poem_9 : decode cX7_poem 9 = .ok (.iconst 0, 1) := by decide +kernel
theorem dX7_poem_10 : decode cX7_poem 10 = .ok (.istore_n 1, 1) := by decide +kernel
theorem dX7_poem_11 : decode cX7_poem 11 = .ok (.iload_n 1, 1) := by decide +kernel
theorem dX7_poem_12 : decode cX7_poem 12 = .ok (.sipush 207, 3) := by decide +kernel
theorem dX7_poem_15 : decode cX7_poem 15 = .ok (.if_icmp .ge 16, 3) := by decide +kernel
theorem dX7_poem_18 : decode cX7_poem 18 = .ok (.aload_n 0, 1) := by decide +kernel
theorem dX7_poem_19 : decode cX7_poem 19 = .ok (.getfield 22, 3) := by decide +kernel
theorem dX7_poem_22 : decode cX7_poem 22 = .ok (.iload_n 1, 1) := by decide +kernel
theorem dX7_poem_23 : decode cX7_poem 23 = .ok (.iconst 0, 1) := by decide +kernel
theorem dX7_poem_24 : decode cX7_poem 24 = .ok (.iastore, 1) := by decide +kernel
theorem dX7_poem_25 : decode cX7_poem 25 = .ok (.iinc 1 1, 3) := by decide +kernel
theorem dX7_poem_28 : decode cX7_poem 28 = .ok (.goto (-17), 3) := by decide +kernel
theorem dX7_poem_31 : decode cX7_poem 31 = .ok (.aload_n 0, 1) := by decide +kernel
theorem dX7_poem_32 : decode cX7_poem 32 = .ok (.aload_n 0, 1) := by decide +kernel
theorem dX7_poem_33 : decode cX7_poem 33 = .ok (.bipush 113, 2) := by decide +kernel
theorem dX7_poem_35 : decode cX7_poem 35 = .ok (.invokevirtual 154, 3) := by decide +kernel
theorem dX7_poem_38 : decode cX7_poem 38 = .ok (.invokevirtual 121, 3) := by decide +kernel
theorem dX7_poem_41 : decode cX7_poem 41 = .ok (.aload_n 0, 1) := by decide +kernel
theorem dX7_poem_42 : decode cX7_poem 42 = .ok (.getfield 22, 3) := by decide +kernel
theorem dX7_poem_45 : decode cX7_poem 45 = .ok (.iconst 1, 1) := by decide +kernel
theorem dX7_poem_46 : decode cX7_poem 46 = .ok (.aload_n 0, 1) := by decide +kernel
theorem dX7_poem_47 : decode cX7_poem 47 = .ok (.iconst 0, 1) := by decide +kernel
theorem dX7_poem_48 : decode cX7_poem 48 = .ok (.iconst 3, 1) := by decide +kernel
theorem dX7_poem_49 : decode cX7_poem 49 = .ok (.invokevirtual 132, 3) := by decide +kernel
theorem dX7_poem_52 : decode cX7_poem 52 = .ok (.iastore, 1) := by decide +kernel
theorem dX7_poem_53 : decode cX7_poem 53 = .ok (.aload_n 0, 1) := by decide +kernel
theorem dX7_poem_54 : decode cX7_poem 54 = .ok (.bipush 44, 2) := by decide +kernel
theorem dX7_poem_56 : decode cX7_poem 56 = .ok (.invokevirtual 148, 3) := by decide +kernel
theorem dX7_poem_59 : decode cX7_poem 59 = .ok (.aload_n 0, 1) := by decide +kernel
theorem dX7_poem_60 : decode cX7_poem 60 = .ok (.getfield 22, 3) := by decide +kernel
theorem dX7_poem_63 : decode cX7_poem 63 = .ok (.iconst 2, 1) := by decide +kernel
theorem dX7_poem_64 : decode cX7_poem 64 = .ok (.aload_n 0, 1) := by decide +kernel
theorem dX7_poem_65 : decode cX7_poem 65 = .ok (.iconst 1, 1) := by decide +kernel
theorem dX7_poem_66 : decode cX7_poem 66 = .ok (.iconst 5, 1) := by decide +kernel
theorem dX7_poem_67 : decode cX7_poem 67 = .ok (.invokevirtual 132, 3) := by decide +kernel
theorem dX7_poem_70 : decode cX7_poem 70 = .ok (.iastore, 1) := by decide +kernel
theorem dX7_poem_71 : decode cX7_poem 71 = .ok (.aload_n 0, 1) := by decide +kernel
theorem dX7_poem_72 : decode cX7_poem 72 = .ok (.bipush 59, 2) := by decide +kernel
theorem dX7_poem_74 : decode cX7_poem 74 = .ok (.invokevirtual 148, 3) := by decide +kernel
theorem dX7_poem_77 : decode cX7_poem 77 = .ok (.aload_n 0, 1) := by decide +kernel
theorem dX7_poem_78 : decode cX7_poem 78 = .ok (.iconst 0, 1) := by decide +kernel
theorem dX7_poem_79 : decode cX7_poem 79 = .ok (.invokevirtual 157, 3) := by decide +kernel
theorem dX7_poem_82 : decode cX7_poem 82 = .ok (.aload_n 0, 1) := by decide +kernel
theorem dX7_poem_83 : decode cX7_poem 83 = .ok (.getfield 87, 3) := by decide +kernel
theorem dX7_poem_86 : decode cX7_poem 86 = .ok (.ifCond .ne 24, 3) := by decide +kernel
theorem dX7_poem_89 : decode cX7_poem 89 = .ok (.aload_n 0, 1) := by decide +kernel
theorem dX7_poem_90 : decode cX7_poem 90 = .ok (.getfield 111, 3) := by decide +kernel
theorem dX7_poem_93 : decode cX7_poem 93 = .ok (.iconst 3, 1) := by decide +kernel
theorem dX7_poem_94 : decode cX7_poem 94 = .ok (.if_icmp .ne 16, 3) := by decide +kernel
theorem dX7_poem_97 : decode cX7_poem 97 = .ok (.aload_n 0, 1) := by decide +kernel
theorem dX7_poem_98 : decode cX7_poem 98 = .ok (.aload_n 0, 1) := by decide +kernel
theorem dX7_poem_99 : decode cX7_poem 99 = .ok (.getfield 22, 3) := by decide +kernel
theorem dX7_poem_102 : decode cX7_poem 102 = .ok (.iconst 0, 1) := by decide +kernel
theorem dX7_poem_103 : decode cX7_poem 103 = .ok (.iaload, 1) := by decide +kernel
theorem dX7_poem_104 : decode cX7_poem 104 = .ok (.invokevirtual 157, 3) := by decide +kernel
theorem dX7_poem_107 : decode cX7_poem 107 = .ok (.goto (-25), 3) := by decide +kernel
theorem dX7_poem_110 : decode cX7_poem 110 = .ok (.aload_n 0, 1) := by decide +kernel
theorem dX7_poem_111 : decode cX7_poem 111 = .ok (.invokevirtual 160, 3) := by decide +kernel
theorem dX7_poem_114 : decode cX7_poem 114 = .ok (.ifCond .eq 11, 3) := by decide +kernel
theorem dX7_poem_117 : decode cX7_poem 117 = .ok (.ldc 164, 2) := by decide +kernel
theorem dX7_poem_119 : decode cX7_poem 119 = .ok (.aload_n 0, 1) := by decide +kernel
theorem dX7_poem_120 : decode cX7_poem 120 = .ok (.getfield 93, 3) := by decide +kernel
theorem dX7_poem_123 : decode cX7_poem 123 = .ok (.isub, 1) := by decide +kernel
theorem dX7_poem_124 : decode cX7_poem 124 = .ok (.ireturn, 1) := by decide +kernel
theorem dX7_poem_125 : decode cX7_poem 125 = .ok (.aload_n 0, 1) := by decide +kernel
theorem dX7_poem_126 : decode cX7_poem 126 = .ok (.iconst 0, 1) := by decide +kernel
theorem dX7_poem_127 : decode cX7_poem 127 = .ok (.putfield 165, 3) := by decide +kernel
theorem dX7_poem_130 : decode cX7_poem 130 = .ok (.iconst 0, 1) := by decide +kernel
theorem dX7_poem_131 : decode cX7_poem 131 = .ok (.istore_n 1, 1) := by decide +kernel
theorem dX7_poem_132 : decode cX7_poem 132 = .ok (.iload_n 1, 1) := by decide +kernel
theorem dX7_poem_133 : decode cX7_poem 133 = .ok (.sipush 207, 3) := by decide +kernel
theorem dX7_poem_136 : decode cX7_poem 136 = .ok (.if_icmp .ge 21, 3) := by decide +kernel
theorem dX7_poem_139 : decode cX7_poem 139 = .ok (.aload_n 0, 1) := by decide +kernel
theorem dX7_poem_140 : decode cX7_poem 140 = .ok (.getfield 19, 3) := by decide +kernel
theorem dX7_poem_143 : decode cX7_poem 143 = .ok (.iload_n 1, 1) := by decide +kernel
theorem dX7_poem_144 : decode cX7_poem 144 = .ok (.aload_n 0, 1) := by decide +kernel
theorem dX7_poem_145 : decode cX7_poem 145 = .ok (.getfield 22, 3) := by decide +kernel
theorem dX7_poem_148 : decode cX7_poem 148 = .ok (.iload_n 1, 1) := by decide +kernel
theorem dX7_poem_149 : decode cX7_poem 149 = .ok (.iaload, 1) := by decide +kernel
theorem dX7_poem_150 : decode cX7_poem 150 = .ok (.iastore, 1) := by decide +kernel
theorem dX7_poem_151 : decode cX7_poem 151 = .ok (.iinc 1 1, 3) := by decide +kernel
theorem dX7_poem_154 : decode cX7_poem 154 = .ok (.goto (-22), 3) := by decide +kernel
theorem dX7_poem_157 : decode cX7_poem 157 = .ok (.aload_n 0, 1) := by decide +kernel
theorem dX7_poem_158 : decode cX7_poem 158 = .ok (.getfield 19, 3) := by decide +kernel
theorem dX7_poem_161 : decode cX7_poem 161 = .ok (.iconst 0, 1) := by decide +kernel
theorem dX7_poem_162 : decode cX7_poem 162 = .ok (.iaload, 1) := by decide +kernel
theorem dX7_poem_163 : decode cX7_poem 163 = .ok (.ireturn, 1) := by decide +kernel
theorem dX7_isThere_0 : decode cX7_isThere 0 = .ok (.aload_n 0, 1) := by decide +kernel
theorem dX7_isThere_1 : decode cX7_isThere 1 = .ok (.getfield 19, 3) := by decide +kernel
theorem dX7_isThere_4 : decode cX7_isThere 4 = .ok (.iconst 0, 1) := by decide +kernel
theorem dX7_isThere_5 : decode cX7_isThere 5 = .ok (.iaload, 1) := by decide +kernel
theorem dX7_isThere_6 : decode cX7_isThere 6 = .ok (.ifCond .le 7, 3) := by decide +kernel
theorem dX7_isThere_9 : decode cX7_isThere 9 = .ok (.iconst 1, 1) := by decide +kernel
theorem dX7_isThere_10 : decode cX7_isThere 10 = .ok (.goto 4, 3) := by decide +kernel
theorem dX7_isThere_13 : decode cX7_isThere 13 = .ok (.iconst 0, 1) := by decide +kernel
theorem dX7_isThere_14 : decode cX7_isThere 14 = .ok (.ireturn, 1) := by decide +kernel
theorem dX7_isLine_0 : decode cX7_isLine 0 = .ok (.iload_n 1, 1) := by decide +kernel
theorem dX7_isLine_1 : decode cX7_isLine 1 = .ok (.i2l, 1) := by decide +kernel
theorem dX7_isLine_2 : decode cX7_isLine 2 = .ok (.lconst 0, 1) := by decide +kernel
theorem dX7_isLine_3 : decode cX7_isLine 3 = .ok (.aload_n 0, 1) := by decide +kernel
theorem dX7_isLine_4 : decode cX7_isLine 4 = .ok (.getfield 19, 3) := by decide +kernel
theorem dX7_isLine_7 : decode cX7_isLine 7 = .ok (.iconst 0, 1) := by decide +kernel
theorem dX7_isLine_8 : decode cX7_isLine 8 = .ok (.iaload, 1) := by decide +kernel
theorem dX7_isLine_9 : decode cX7_isLine 9 = .ok (.iconst 1, 1) := by decide +kernel
theorem dX7_isLine_10 : decode cX7_isLine 10 = .ok (.isub, 1) := by decide +kernel
theorem dX7_isLine_11 : decode cX7_isLine 11 = .ok (.i2l, 1) := by decide +kernel
theorem dX7_isLine_12 : decode cX7_isLine 12 = .ok (.invokestatic 66, 3) := by decide +kernel
theorem dX7_isLine_15 : decode cX7_isLine 15 = .ok (.ireturn, 1) := by decide +kernel
theorem dX7_isWord_0 : decode cX7_isWord 0 = .ok (.iload_n 1, 1) := by decide +kernel
theorem dX7_isWord_1 : decode cX7_isWord 1 = .ok (.i2l, 1) := by decide +kernel
theorem dX7_isWord_2 : decode cX7_isWord 2 = .ok (.lconst 0, 1) := by decide +kernel
theorem dX7_isWord_3 : decode cX7_isWord 3 = .ok (.aload_n 0, 1) := by decide +kernel
theorem dX7_isWord_4 : decode cX7_isWord 4 = .ok (.getfield 19, 3) := by decide +kernel
theorem dX7_isWord_7 : decode cX7_isWord 7 = .ok (.invokestatic 128, 3) := by decide +kernel
theorem dX7_isWord_10 : decode cX7_isWord 10 = .ok (.iconst 1, 1) := by decide +kernel
theorem dX7_isWord_11 : decode cX7_isWord 11 = .ok (.isub, 1) := by decide +kernel
theorem dX7_isWord_12 : decode cX7_isWord 12 = .ok (.i2l, 1) := by decide +kernel
theorem dX7_isWord_13 : decode cX7_isWord 13 = .ok (.invokestatic 66, 3) := by decide +kernel
theorem dX7_isWord_16 : decode cX7_isWord 16 = .ok (.ireturn, 1) := by decide +kernel
theorem dX7_isMetre_0 : decode cX7_isMetre 0 = .ok (.iload_n 0, 1) := by decide +kernel
theorem dX7_isMetre_1 : decode cX7_isMetre 1 = .ok (.i2l, 1) := by decide +kernel
theorem dX7_isMetre_2 : decode cX7_isMetre 2 = .ok (.lconst 0, 1) := by decide +kernel
theorem dX7_isMetre_3 : decode cX7_isMetre 3 = .ok (.ldc2_w 168, 3) := by decide +kernel
theorem dX7_isMetre_6 : decode cX7_isMetre 6 = .ok (.invokestatic 66, 3) := by decide +kernel
theorem dX7_isMetre_9 : decode cX7_isMetre 9 = .ok (.ifCond .eq 19, 3) := by decide +kernel
theorem dX7_isMetre_12 : decode cX7_isMetre 12 = .ok (.iload_n 1, 1) := by decide +kernel
theorem dX7_isMetre_13 : decode cX7_isMetre 13 = .ok (.i2l, 1) := by decide +kernel
theorem dX7_isMetre_14 : decode cX7_isMetre 14 = .ok (.lconst 1, 1) := by decide +kernel
theorem dX7_isMetre_15 : decode cX7_isMetre 15 = .ok (.ldc2_w 143, 3) := by decide +kernel
theorem dX7_isMetre_18 : decode cX7_isMetre 18 = .ok (.invokestatic 66, 3) := by decide +kernel
theorem dX7_isMetre_21 : decode cX7_isMetre 21 = .ok (.ifCond .eq 7, 3) := by decide +kernel
theorem dX7_isMetre_24 : decode cX7_isMetre 24 = .ok (.iconst 1, 1) := by decide +kernel
theorem dX7_isMetre_25 : decode cX7_isMetre 25 = .ok (.goto 4, 3) := by decide +kernel
theorem dX7_isMetre_28 : decode cX7_isMetre 28 = .ok (.iconst 0, 1) := by decide +kernel
theorem dX7_isMetre_29 : decode cX7_isMetre 29 = .ok (.ireturn, 1) := by decide +kernel
theorem dX7_has_0 : decode cX7_has 0 = .ok (.iload_n 0, 1) := by decide +kernel
theorem dX7_has_1 : decode cX7_has 1 = .ok (.iload_n 1, 1) := by decide +kernel
theorem dX7_has_2 : decode cX7_has 2 = .ok (.ishr, 1) := by decide +kernel
theorem dX7_has_3 : decode cX7_has 3 = .ok (.iconst 1, 1) := by decide +kernel
theorem dX7_has_4 : decode cX7_has 4 = .ok (.iand, 1) := by decide +kernel
theorem dX7_has_5 : decode cX7_has 5 = .ok (.iconst 1, 1) := by decide +kernel
theorem dX7_has_6 : decode cX7_has 6 = .ok (.if_icmp .ne 7, 3) := by decide +kernel
theorem dX7_has_9 : decode cX7_has 9 = .ok (.iconst 1, 1) := by decide +kernel
theorem dX7_has_10 : decode cX7_has 10 = .ok (.goto 4, 3) := by decide +kernel
theorem dX7_has_13 : decode cX7_has 13 = .ok (.iconst 0, 1) := by decide +kernel
theorem dX7_has_14 : decode cX7_has 14 = .ok (.ireturn, 1) := by decide +kernel
theorem dX7_firstOf_0 : decode cX7_firstOf 0 = .ok (.iconst 0, 1) := by decide +kernel
theorem dX7_firstOf_1 : decode cX7_firstOf 1 = .ok (.istore_n 2, 1) := by decide +kernel
theorem dX7_firstOf_2 : decode cX7_firstOf 2 = .ok (.iconst 0, 1) := by decide +kernel
theorem dX7_firstOf_3 : decode cX7_firstOf 3 = .ok (.istore_n 3, 1) := by decide +kernel
theorem dX7_firstOf_4 : decode cX7_firstOf 4 = .ok (.iload_n 3, 1) := by decide +kernel
theorem dX7_firstOf_5 : decode cX7_firstOf 5 = .ok (.iload_n 1, 1) := by decide +kernel
theorem dX7_firstOf_6 : decode cX7_firstOf 6 = .ok (.if_icmp .ge 17, 3) := by decide +kernel
theorem dX7_firstOf_9 : decode cX7_firstOf 9 = .ok (.iload_n 2, 1) := by decide +kernel
theorem dX7_firstOf_10 : decode cX7_firstOf 10 = .ok (.aload_n 0, 1) := by decide +kernel
theorem dX7_firstOf_11 : decode cX7_firstOf 11 = .ok (.iconst 3, 1) := by decide +kernel
theorem dX7_firstOf_12 : decode cX7_firstOf 12 = .ok (.iload_n 3, 1) := by decide +kernel
theorem dX7_firstOf_13 : decode cX7_firstOf 13 = .ok (.iadd, 1) := by decide +kernel
theorem dX7_firstOf_14 : decode cX7_firstOf 14 = .ok (.iaload, 1) := by decide +kernel
theorem dX7_firstOf_15 : decode cX7_firstOf 15 = .ok (.iadd, 1) := by decide +kernel
theorem dX7_firstOf_16 : decode cX7_firstOf 16 = .ok (.istore_n 2, 1) := by decide +kernel
theorem dX7_firstOf_17 : decode cX7_firstOf 17 = .ok (.iinc 3 1, 3) := by decide +kernel
theorem dX7_firstOf_20 : decode cX7_firstOf 20 = .ok (.goto (-16), 3) := by decide +kernel
theorem dX7_firstOf_23 : decode cX7_firstOf 23 = .ok (.iload_n 2, 1) := by decide +kernel
theorem dX7_firstOf_24 : decode cX7_firstOf 24 = .ok (.ireturn, 1) := by decide +kernel
theorem dX7_lineOf_0 : decode cX7_lineOf 0 = .ok (.iconst 0, 1) := by decide +kernel
theorem dX7_lineOf_1 : decode cX7_lineOf 1 = .ok (.istore_n 2, 1) := by decide +kernel
theorem dX7_lineOf_2 : decode cX7_lineOf 2 = .ok (.iload_n 1, 1) := by decide +kernel
theorem dX7_lineOf_3 : decode cX7_lineOf 3 = .ok (.istore_n 3, 1) := by decide +kernel
theorem dX7_lineOf_4 : decode cX7_lineOf 4 = .ok (.iload_n 3, 1) := by decide +kernel
theorem dX7_lineOf_5 : decode cX7_lineOf 5 = .ok (.aload_n 0, 1) := by decide +kernel
theorem dX7_lineOf_6 : decode cX7_lineOf 6 = .ok (.iconst 3, 1) := by decide +kernel
theorem dX7_lineOf_7 : decode cX7_lineOf 7 = .ok (.iload_n 2, 1) := by decide +kernel
theorem dX7_lineOf_8 : decode cX7_lineOf 8 = .ok (.iadd, 1) := by decide +kernel
theorem dX7_lineOf_9 : decode cX7_lineOf 9 = .ok (.iaload, 1) := by decide +kernel
theorem dX7_lineOf_10 : decode cX7_lineOf 10 = .ok (.if_icmp .lt 17, 3) := by decide +kernel
theorem dX7_lineOf_13 : decode cX7_lineOf 13 = .ok (.iload_n 3, 1) := by decide +kernel
theorem dX7_lineOf_14 : decode cX7_lineOf 14 = .ok (.aload_n 0, 1) := by decide +kernel
theorem dX7_lineOf_15 : decode cX7_lineOf 15 = .ok (.iconst 3, 1) := by decide +kernel
theorem dX7_lineOf_16 : decode cX7_lineOf 16 = .ok (.iload_n 2, 1) := by decide +kernel
theorem dX7_lineOf_17 : decode cX7_lineOf 17 = .ok (.iadd, 1) := by decide +kernel
theorem dX7_lineOf_18 : decode cX7_lineOf 18 = .ok (.iaload, 1) := by decide +kernel
theorem dX7_lineOf_19 : decode cX7_lineOf 19 = .ok (.isub, 1) := by decide +kernel
theorem dX7_lineOf_20 : decode cX7_lineOf 20 = .ok (.istore_n 3, 1) := by decide +kernel
theorem dX7_lineOf_21 : decode cX7_lineOf 21 = .ok (.iinc 2 1, 3) := by decide +kernel
theorem dX7_lineOf_24 : decode cX7_lineOf 24 = .ok (.goto (-20), 3) := by decide +kernel
theorem dX7_lineOf_27 : decode cX7_lineOf 27 = .ok (.iload_n 2, 1) := by decide +kernel
theorem dX7_lineOf_28 : decode cX7_lineOf 28 = .ok (.ireturn, 1) := by decide +kernel
theorem dX7_kindOf_0 : decode cX7_kindOf 0 = .ok (.aload_n 0, 1) := by decide +kernel
theorem dX7_kindOf_1 : decode cX7_kindOf 1 = .ok (.bipush 7, 2) := by decide +kernel
theorem dX7_kindOf_3 : decode cX7_kindOf 3 = .ok (.bipush 10, 2) := by decide +kernel
theorem dX7_kindOf_5 : decode cX7_kindOf 5 = .ok (.iload_n 1, 1) := by decide +kernel
theorem dX7_kindOf_6 : decode cX7_kindOf 6 = .ok (.imul, 1) := by decide +kernel
theorem dX7_kindOf_7 : decode cX7_kindOf 7 = .ok (.iadd, 1) := by decide +kernel
theorem dX7_kindOf_8 : decode cX7_kindOf 8 = .ok (.iaload, 1) := by decide +kernel
theorem dX7_kindOf_9 : decode cX7_kindOf 9 = .ok (.ireturn, 1) := by decide +kernel
theorem dX7_sizeOfWord_0 : decode cX7_sizeOfWord 0 = .ok (.aload_n 0, 1) := by decide +kernel
theorem dX7_sizeOfWord_1 : decode cX7_sizeOfWord 1 = .ok (.bipush 7, 2) := by decide +kernel
theorem dX7_sizeOfWord_3 : decode cX7_sizeOfWord 3 = .ok (.bipush 10, 2) := by decide +kernel
theorem dX7_sizeOfWord_5 : decode cX7_sizeOfWord 5 = .ok (.iload_n 1, 1) := by decide +kernel
theorem dX7_sizeOfWord_6 : decode cX7_sizeOfWord 6 = .ok (.imul, 1) := by decide +kernel
theorem dX7_sizeOfWord_7 : decode cX7_sizeOfWord 7 = .ok (.iadd, 1) := by decide +kernel
theorem dX7_sizeOfWord_8 : decode cX7_sizeOfWord 8 = .ok (.iconst 1, 1) := by decide +kernel
theorem dX7_sizeOfWord_9 : decode cX7_sizeOfWord 9 = .ok (.iadd, 1) := by decide +kernel
theorem dX7_sizeOfWord_10 : decode cX7_sizeOfWord 10 = .ok (.iaload, 1) := by decide +kernel
theorem dX7_sizeOfWord_11 : decode cX7_sizeOfWord 11 = .ok (.ireturn, 1) := by decide +kernel
theorem dX7_letterOf_0 : decode cX7_letterOf 0 = .ok (.aload_n 0, 1) := by decide +kernel
theorem dX7_letterOf_1 : decode cX7_letterOf 1 = .ok (.bipush 7, 2) := by decide +kernel
theorem dX7_letterOf_3 : decode cX7_letterOf 3 = .ok (.bipush 10, 2) := by decide +kernel
theorem dX7_letterOf_5 : decode cX7_letterOf 5 = .ok (.iload_n 1, 1) := by decide +kernel
theorem dX7_letterOf_6 : decode cX7_letterOf 6 = .ok (.imul, 1) := by decide +kernel
theorem dX7_letterOf_7 : decode cX7_letterOf 7 = .ok (.iadd, 1) := by decide +kernel
theorem dX7_letterOf_8 : decode cX7_letterOf 8 = .ok (.iconst 2, 1) := by decide +kernel
theorem dX7_letterOf_9 : decode cX7_letterOf 9 = .ok (.iadd, 1) := by decide +kernel
theorem dX7_letterOf_10 : decode cX7_letterOf 10 = .ok (.iload_n 2, 1) := by decide +kernel
theorem dX7_letterOf_11 : decode cX7_letterOf 11 = .ok (.iadd, 1) := by decide +kernel
theorem dX7_letterOf_12 : decode cX7_letterOf 12 = .ok (.iaload, 1) := by decide +kernel
theorem dX7_letterOf_13 : decode cX7_letterOf 13 = .ok (.ireturn, 1) := by decide +kernel
theorem dX7_isRun_0 : decode cX7_isRun 0 = .ok (.aload_n 0, 1) := by decide +kernel
theorem dX7_isRun_1 : decode cX7_isRun 1 = .ok (.iload_n 1, 1) := by decide +kernel
theorem dX7_isRun_2 : decode cX7_isRun 2 = .ok (.iload_n 2, 1) := by decide +kernel
theorem dX7_isRun_3 : decode cX7_isRun 3 = .ok (.invokestatic 170, 3) := by decide +kernel
theorem dX7_isRun_6 : decode cX7_isRun 6 = .ok (.invokestatic 136, 3) := by decide +kernel
theorem dX7_isRun_9 : decode cX7_isRun 9 = .ok (.ifCond .eq 25, 3) := by decide +kernel
theorem dX7_isRun_12 : decode cX7_isRun 12 = .ok (.iload_n 2, 1) := by decide +kernel
theorem dX7_isRun_13 : decode cX7_isRun 13 = .ok (.ifCond .eq 17, 3) := by decide +kernel
theorem dX7_isRun_16 : decode cX7_isRun 16 = .ok (.aload_n 0, 1) := by decide +kernel
theorem dX7_isRun_17 : decode cX7_isRun 17 = .ok (.iload_n 1, 1) := by decide +kernel
theorem dX7_isRun_18 : decode cX7_isRun 18 = .ok (.iload_n 2, 1) := by decide +kernel
theorem dX7_isRun_19 : decode cX7_isRun 19 = .ok (.iconst 1, 1) := by decide +kernel
theorem dX7_isRun_20 : decode cX7_isRun 20 = .ok (.isub, 1) := by decide +kernel
theorem dX7_isRun_21 : decode cX7_isRun 21 = .ok (.invokestatic 170, 3) := by decide +kernel
theorem dX7_isRun_24 : decode cX7_isRun 24 = .ok (.invokestatic 136, 3) := by decide +kernel
theorem dX7_isRun_27 : decode cX7_isRun 27 = .ok (.ifCond .ne 7, 3) := by decide +kernel
theorem dX7_isRun_30 : decode cX7_isRun 30 = .ok (.iconst 1, 1) := by decide +kernel
theorem dX7_isRun_31 : decode cX7_isRun 31 = .ok (.goto 4, 3) := by decide +kernel
theorem dX7_isRun_34 : decode cX7_isRun 34 = .ok (.iconst 0, 1) := by decide +kernel
theorem dX7_isRun_35 : decode cX7_isRun 35 = .ok (.ireturn, 1) := by decide +kernel
theorem dX7_runs_0 : decode cX7_runs 0 = .ok (.iconst 0, 1) := by decide +kernel
theorem dX7_runs_1 : decode cX7_runs 1 = .ok (.istore_n 2, 1) := by decide +kernel
theorem dX7_runs_2 : decode cX7_runs 2 = .ok (.iconst 0, 1) := by decide +kernel
theorem dX7_runs_3 : decode cX7_runs 3 = .ok (.istore_n 3, 1) := by decide +kernel
theorem dX7_runs_4 : decode cX7_runs 4 = .ok (.iload_n 3, 1) := by decide +kernel
theorem dX7_runs_5 : decode cX7_runs 5 = .ok (.aload_n 0, 1) := by decide +kernel
theorem dX7_runs_6 : decode cX7_runs 6 = .ok (.iload_n 1, 1) := by decide +kernel
theorem dX7_runs_7 : decode cX7_runs 7 = .ok (.invokestatic 174, 3) := by decide +kernel
theorem dX7_runs_10 : decode cX7_runs 10 = .ok (.if_icmp .ge 26, 3) := by decide +kernel
theorem dX7_runs_13 : decode cX7_runs 13 = .ok (.iload_n 2, 1) := by decide +kernel
theorem dX7_runs_14 : decode cX7_runs 14 = .ok (.aload_n 0, 1) := by decide +kernel
theorem dX7_runs_15 : decode cX7_runs 15 = .ok (.iload_n 1, 1) := by decide +kernel
theorem dX7_runs_16 : decode cX7_runs 16 = .ok (.iload_n 3, 1) := by decide +kernel
theorem dX7_runs_17 : decode cX7_runs 17 = .ok (.invokestatic 178, 3) := by decide +kernel
theorem dX7_runs_20 : decode cX7_runs 20 = .ok (.ifCond .eq 7, 3) := by decide +kernel
theorem dX7_runs_23 : decode cX7_runs 23 = .ok (.iconst 1, 1) := by decide +kernel
theorem dX7_runs_24 : decode cX7_runs 24 = .ok (.goto 4, 3) := by decide +kernel
theorem dX7_runs_27 : decode cX7_runs 27 = .ok (.iconst 0, 1) := by decide +kernel
theorem dX7_runs_28 : decode cX7_runs 28 = .ok (.iadd, 1) := by decide +kernel
theorem dX7_runs_29 : decode cX7_runs 29 = .ok (.istore_n 2, 1) := by decide +kernel
theorem dX7_runs_30 : decode cX7_runs 30 = .ok (.iinc 3 1, 3) := by decide +kernel
theorem dX7_runs_33 : decode cX7_runs 33 = .ok (.goto (-29), 3) := by decide +kernel
theorem dX7_runs_36 : decode cX7_runs 36 = .ok (.iload_n 2, 1) := by decide +kernel
theorem dX7_runs_37 : decode cX7_runs 37 = .ok (.ireturn, 1) := by decide +kernel
theorem dX7_isMuteEnd_0 : decode cX7_isMuteEnd 0 = .ok (.aload_n 0, 1) := by decide +kernel
theorem dX7_isMuteEnd_1 : decode cX7_isMuteEnd 1 = .ok (.iload_n 1, 1) := by decide +kernel
theorem dX7_isMuteEnd_2 : decode cX7_isMuteEnd 2 = .ok (.invokestatic 174, 3) := by decide +kernel
theorem dX7_isMuteEnd_5 : decode cX7_isMuteEnd 5 = .ok (.iconst 1, 1) := by decide +kernel
theorem dX7_isMuteEnd_6 : decode cX7_isMuteEnd 6 = .ok (.isub, 1) := by decide +kernel
theorem dX7_isMuteEnd_7 : decode cX7_isMuteEnd 7 = .ok (.istore_n 2, 1) := by decide +kernel
theorem dX7_isMuteEnd_8 : decode cX7_isMuteEnd 8 = .ok (.aload_n 0, 1) := by decide +kernel
theorem dX7_isMuteEnd_9 : decode cX7_isMuteEnd 9 = .ok (.iload_n 1, 1) := by decide +kernel
theorem dX7_isMuteEnd_10 : decode cX7_isMuteEnd 10 = .ok (.iload_n 2, 1) := by decide +kernel
theorem dX7_isMuteEnd_11 : decode cX7_isMuteEnd 11 = .ok (.invokestatic 170, 3) := by decide +kernel
theorem dX7_isMuteEnd_14 : decode cX7_isMuteEnd 14 = .ok (.iconst 4, 1) := by decide +kernel
theorem dX7_isMuteEnd_15 : decode cX7_isMuteEnd 15 = .ok (.if_icmp .ne 25, 3) := by decide +kernel
theorem dX7_isMuteEnd_18 : decode cX7_isMuteEnd 18 = .ok (.aload_n 0, 1) := by decide +kernel
theorem dX7_isMuteEnd_19 : decode cX7_isMuteEnd 19 = .ok (.iload_n 1, 1) := by decide +kernel
theorem dX7_isMuteEnd_20 : decode cX7_isMuteEnd 20 = .ok (.iload_n 2, 1) := by decide +kernel
theorem dX7_isMuteEnd_21 : decode cX7_isMuteEnd 21 = .ok (.invokestatic 178, 3) := by decide +kernel
theorem dX7_isMuteEnd_24 : decode cX7_isMuteEnd 24 = .ok (.ifCond .eq 16, 3) := by decide +kernel
theorem dX7_isMuteEnd_27 : decode cX7_isMuteEnd 27 = .ok (.aload_n 0, 1) := by decide +kernel
theorem dX7_isMuteEnd_28 : decode cX7_isMuteEnd 28 = .ok (.iload_n 1, 1) := by decide +kernel
theorem dX7_isMuteEnd_29 : decode cX7_isMuteEnd 29 = .ok (.invokestatic 182, 3) := by decide +kernel
theorem dX7_isMuteEnd_32 : decode cX7_isMuteEnd 32 = .ok (.iconst 1, 1) := by decide +kernel
theorem dX7_isMuteEnd_33 : decode cX7_isMuteEnd 33 = .ok (.if_icmp .le 7, 3) := by decide +kernel
theorem dX7_isMuteEnd_36 : decode cX7_isMuteEnd 36 = .ok (.iconst 1, 1) := by decide +kernel
theorem dX7_isMuteEnd_37 : decode cX7_isMuteEnd 37 = .ok (.goto 4, 3) := by decide +kernel
theorem dX7_isMuteEnd_40 : decode cX7_isMuteEnd 40 = .ok (.iconst 0, 1) := by decide +kernel
theorem dX7_isMuteEnd_41 : decode cX7_isMuteEnd 41 = .ok (.ireturn, 1) := by decide +kernel
theorem dX7_syllables_0 : decode cX7_syllables 0 = .ok (.aload_n 0, 1) := by decide +kernel
theorem dX7_syllables_1 : decode cX7_syllables 1 = .ok (.iload_n 1, 1) := by decide +kernel
theorem dX7_syllables_2 : decode cX7_syllables 2 = .ok (.invokestatic 182, 3) := by decide +kernel
theorem dX7_syllables_5 : decode cX7_syllables 5 = .ok (.aload_n 0, 1) := by decide +kernel
theorem dX7_syllables_6 : decode cX7_syllables 6 = .ok (.iload_n 1, 1) := by decide +kernel
theorem dX7_syllables_7 : decode cX7_syllables 7 = .ok (.invokestatic 185, 3) := by decide +kernel
theorem dX7_syllables_10 : decode cX7_syllables 10 = .ok (.ifCond .eq 7, 3) := by decide +kernel
theorem dX7_syllables_13 : decode cX7_syllables 13 = .ok (.iconst 1, 1) := by decide +kernel
theorem dX7_syllables_14 : decode cX7_syllables 14 = .ok (.goto 4, 3) := by decide +kernel
theorem dX7_syllables_17 : decode cX7_syllables 17 = .ok (.iconst 0, 1) := by decide +kernel
theorem dX7_syllables_18 : decode cX7_syllables 18 = .ok (.isub, 1) := by decide +kernel
theorem dX7_syllables_19 : decode cX7_syllables 19 = .ok (.ireturn, 1) := by decide +kernel
theorem dX7_strength_0 : decode cX7_strength 0 = .ok (.aload_n 0, 1) := by decide +kernel
theorem dX7_strength_1 : decode cX7_strength 1 = .ok (.iload_n 1, 1) := by decide +kernel
theorem dX7_strength_2 : decode cX7_strength 2 = .ok (.invokestatic 189, 3) := by decide +kernel
theorem dX7_strength_5 : decode cX7_strength 5 = .ok (.tableswitch 72 1 4 #[31, 41, 58, 70], 31) := by decide +kernel
theorem dX7_strength_36 : decode cX7_strength 36 = .ok (.iload_n 2, 1) := by decide +kernel
theorem dX7_strength_37 : decode cX7_strength 37 = .ok (.ifCond .ne 7, 3) := by decide +kernel
theorem dX7_strength_40 : decode cX7_strength 40 = .ok (.iconst 1, 1) := by decide +kernel
theorem dX7_strength_41 : decode cX7_strength 41 = .ok (.goto 4, 3) := by decide +kernel
theorem dX7_strength_44 : decode cX7_strength 44 = .ok (.iconst 0, 1) := by decide +kernel
theorem dX7_strength_45 : decode cX7_strength 45 = .ok (.ireturn, 1) := by decide +kernel
theorem dX7_strength_46 : decode cX7_strength 46 = .ok (.iload_n 2, 1) := by decide +kernel
theorem dX7_strength_47 : decode cX7_strength 47 = .ok (.aload_n 0, 1) := by decide +kernel
theorem dX7_strength_48 : decode cX7_strength 48 = .ok (.iload_n 1, 1) := by decide +kernel
theorem dX7_strength_49 : decode cX7_strength 49 = .ok (.invokestatic 192, 3) := by decide +kernel
theorem dX7_strength_52 : decode cX7_strength 52 = .ok (.iconst 1, 1) := by decide +kernel
theorem dX7_strength_53 : decode cX7_strength 53 = .ok (.isub, 1) := by decide +kernel
theorem dX7_strength_54 : decode cX7_strength 54 = .ok (.if_icmp .ne 7, 3) := by decide +kernel
theorem dX7_strength_57 : decode cX7_strength 57 = .ok (.iconst 1, 1) := by decide +kernel
theorem dX7_strength_58 : decode cX7_strength 58 = .ok (.goto 4, 3) := by decide +kernel
theorem dX7_strength_61 : decode cX7_strength 61 = .ok (.iconst 0, 1) := by decide +kernel
theorem dX7_strength_62 : decode cX7_strength 62 = .ok (.ireturn, 1) := by decide +kernel
theorem dX7_strength_63 : decode cX7_strength 63 = .ok (.iload_n 2, 1) := by decide +kernel
theorem dX7_strength_64 : decode cX7_strength 64 = .ok (.iconst 2, 1) := by decide +kernel
theorem dX7_strength_65 : decode cX7_strength 65 = .ok (.irem, 1) := by decide +kernel
theorem dX7_strength_66 : decode cX7_strength 66 = .ok (.ifCond .ne 7, 3) := by decide +kernel
theorem dX7_strength_69 : decode cX7_strength 69 = .ok (.iconst 1, 1) := by decide +kernel
theorem dX7_strength_70 : decode cX7_strength 70 = .ok (.goto 4, 3) := by decide +kernel
theorem dX7_strength_73 : decode cX7_strength 73 = .ok (.iconst 0, 1) := by decide +kernel
theorem dX7_strength_74 : decode cX7_strength 74 = .ok (.ireturn, 1) := by decide +kernel
theorem dX7_strength_75 : decode cX7_strength 75 = .ok (.iconst 2, 1) := by decide +kernel
theorem dX7_strength_76 : decode cX7_strength 76 = .ok (.ireturn, 1) := by decide +kernel
theorem dX7_strength_77 : decode cX7_strength 77 = .ok (.iconst 0, 1) := by decide +kernel
theorem dX7_strength_78 : decode cX7_strength 78 = .ok (.ireturn, 1) := by decide +kernel
theorem dX7_mayRun_0 : decode cX7_mayRun 0 = .ok (.aload_n 0, 1) := by decide +kernel
theorem dX7_mayRun_1 : decode cX7_mayRun 1 = .ok (.iload_n 1, 1) := by decide +kernel
theorem dX7_mayRun_2 : decode cX7_mayRun 2 = .ok (.invokestatic 195, 3) := by decide +kernel
theorem dX7_mayRun_5 : decode cX7_mayRun 5 = .ok (.istore_n 2, 1) := by decide +kernel
theorem dX7_mayRun_6 : decode cX7_mayRun 6 = .ok (.iload_n 1, 1) := by decide +kernel
theorem dX7_mayRun_7 : decode cX7_mayRun 7 = .ok (.iconst 1, 1) := by decide +kernel
theorem dX7_mayRun_8 : decode cX7_mayRun 8 = .ok (.iadd, 1) := by decide +kernel
theorem dX7_mayRun_9 : decode cX7_mayRun 9 = .ok (.aload_n 0, 1) := by decide +kernel
theorem dX7_mayRun_10 : decode cX7_mayRun 10 = .ok (.iload_n 2, 1) := by decide +kernel
theorem dX7_mayRun_11 : decode cX7_mayRun 11 = .ok (.invokestatic 198, 3) := by decide +kernel
theorem dX7_mayRun_14 : decode cX7_mayRun 14 = .ok (.aload_n 0, 1) := by decide +kernel
theorem dX7_mayRun_15 : decode cX7_mayRun 15 = .ok (.iconst 3, 1) := by decide +kernel
theorem dX7_mayRun_16 : decode cX7_mayRun 16 = .ok (.iload_n 2, 1) := by decide +kernel
theorem dX7_mayRun_17 : decode cX7_mayRun 17 = .ok (.iadd, 1) := by decide +kernel
theorem dX7_mayRun_18 : decode cX7_mayRun 18 = .ok (.iaload, 1) := by decide +kernel
theorem dX7_mayRun_19 : decode cX7_mayRun 19 = .ok (.iadd, 1) := by decide +kernel
theorem dX7_mayRun_20 : decode cX7_mayRun 20 = .ok (.if_icmp .ne 5, 3) := by decide +kernel
theorem dX7_mayRun_23 : decode cX7_mayRun 23 = .ok (.iconst 0, 1) := by decide +kernel
theorem dX7_mayRun_24 : decode cX7_mayRun 24 = .ok (.ireturn, 1) := by decide +kernel
theorem dX7_mayRun_25 : decode cX7_mayRun 25 = .ok (.aload_n 0, 1) := by decide +kernel
theorem dX7_mayRun_26 : decode cX7_mayRun 26 = .ok (.iload_n 1, 1) := by decide +kernel
theorem dX7_mayRun_27 : decode cX7_mayRun 27 = .ok (.aload_n 0, 1) := by decide +kernel
theorem dX7_mayRun_28 : decode cX7_mayRun 28 = .ok (.iload_n 1, 1) := by decide +kernel
theorem dX7_mayRun_29 : decode cX7_mayRun 29 = .ok (.invokestatic 174, 3) := by decide +kernel
theorem dX7_mayRun_32 : decode cX7_mayRun 32 = .ok (.iconst 1, 1) := by decide +kernel
theorem dX7_mayRun_33 : decode cX7_mayRun 33 = .ok (.isub, 1) := by decide +kernel
theorem dX7_mayRun_34 : decode cX7_mayRun 34 = .ok (.invokestatic 170, 3) := by decide +kernel
theorem dX7_mayRun_37 : decode cX7_mayRun 37 = .ok (.invokestatic 136, 3) := by decide +kernel
theorem dX7_mayRun_40 : decode cX7_mayRun 40 = .ok (.ifCond .eq 29, 3) := by decide +kernel
theorem dX7_mayRun_43 : decode cX7_mayRun 43 = .ok (.aload_n 0, 1) := by decide +kernel
theorem dX7_mayRun_44 : decode cX7_mayRun 44 = .ok (.iload_n 1, 1) := by decide +kernel
theorem dX7_mayRun_45 : decode cX7_mayRun 45 = .ok (.invokestatic 185, 3) := by decide +kernel
theorem dX7_mayRun_48 : decode cX7_mayRun 48 = .ok (.ifCond .ne 21, 3) := by decide +kernel
theorem dX7_mayRun_51 : decode cX7_mayRun 51 = .ok (.aload_n 0, 1) := by decide +kernel
theorem dX7_mayRun_52 : decode cX7_mayRun 52 = .ok (.iload_n 1, 1) := by decide +kernel
theorem dX7_mayRun_53 : decode cX7_mayRun 53 = .ok (.iconst 1, 1) := by decide +kernel
theorem dX7_mayRun_54 : decode cX7_mayRun 54 = .ok (.iadd, 1) := by decide +kernel
theorem dX7_mayRun_55 : decode cX7_mayRun 55 = .ok (.iconst 0, 1) := by decide +kernel
theorem dX7_mayRun_56 : decode cX7_mayRun 56 = .ok (.invokestatic 170, 3) := by decide +kernel
theorem dX7_mayRun_59 : decode cX7_mayRun 59 = .ok (.invokestatic 136, 3) := by decide +kernel
theorem dX7_mayRun_62 : decode cX7_mayRun 62 = .ok (.ifCond .eq 7, 3) := by decide +kernel
theorem dX7_mayRun_65 : decode cX7_mayRun 65 = .ok (.iconst 1, 1) := by decide +kernel
theorem dX7_mayRun_66 : decode cX7_mayRun 66 = .ok (.goto 4, 3) := by decide +kernel
theorem dX7_mayRun_69 : decode cX7_mayRun 69 = .ok (.iconst 0, 1) := by decide +kernel
theorem dX7_mayRun_70 : decode cX7_mayRun 70 = .ok (.ireturn, 1) := by decide +kernel
theorem dX7_layLine_0 : decode cX7_layLine 0 = .ok (.iconst 0, 1) := by decide +kernel
theorem dX7_layLine_1 : decode cX7_layLine 1 = .ok (.istore 4, 2) := by decide +kernel
theorem dX7_layLine_3 : decode cX7_layLine 3 = .ok (.aload_n 1, 1) := by decide +kernel
theorem dX7_layLine_4 : decode cX7_layLine 4 = .ok (.iload_n 2, 1) := by decide +kernel
theorem dX7_layLine_5 : decode cX7_layLine 5 = .ok (.invokestatic 198, 3) := by decide +kernel
theorem dX7_layLine_8 : decode cX7_layLine 8 = .ok (.istore 5, 2) := by decide +kernel
theorem dX7_layLine_10 : decode cX7_layLine 10 = .ok (.iconst 0, 1) := by decide +kernel
theorem dX7_layLine_11 : decode cX7_layLine 11 = .ok (.istore 6, 2) := by decide +kernel
theorem dX7_layLine_13 : decode cX7_layLine 13 = .ok (.iload 6, 2) := by decide +kernel
theorem dX7_layLine_15 : decode cX7_layLine 15 = .ok (.aload_n 1, 1) := by decide +kernel
theorem dX7_layLine_16 : decode cX7_layLine 16 = .ok (.iconst 3, 1) := by decide +kernel
theorem dX7_layLine_17 : decode cX7_layLine 17 = .ok (.iload_n 2, 1) := by decide +kernel
theorem dX7_layLine_18 : decode cX7_layLine 18 = .ok (.iadd, 1) := by decide +kernel
theorem dX7_layLine_19 : decode cX7_layLine 19 = .ok (.iaload, 1) := by decide +kernel
theorem dX7_layLine_20 : decode cX7_layLine 20 = .ok (.if_icmp .ge 108, 3) := by decide +kernel
theorem dX7_layLine_23 : decode cX7_layLine 23 = .ok (.aload_n 0, 1) := by decide +kernel
theorem dX7_layLine_24 : decode cX7_layLine 24 = .ok (.getfield 37, 3) := by decide +kernel
theorem dX7_layLine_27 : decode cX7_layLine 27 = .ok (.iload 6, 2) := by decide +kernel
theorem dX7_layLine_29 : decode cX7_layLine 29 = .ok (.aload_n 1, 1) := by decide +kernel
theorem dX7_layLine_30 : decode cX7_layLine 30 = .ok (.iload 5, 2) := by decide +kernel
theorem dX7_layLine_32 : decode cX7_layLine 32 = .ok (.iload 6, 2) := by decide +kernel
theorem dX7_layLine_34 : decode cX7_layLine 34 = .ok (.iadd, 1) := by decide +kernel
theorem dX7_layLine_35 : decode cX7_layLine 35 = .ok (.invokestatic 192, 3) := by decide +kernel
theorem dX7_layLine_38 : decode cX7_layLine 38 = .ok (.iastore, 1) := by decide +kernel
theorem dX7_layLine_39 : decode cX7_layLine 39 = .ok (.iconst 0, 1) := by decide +kernel
theorem dX7_layLine_40 : decode cX7_layLine 40 = .ok (.istore 7, 2) := by decide +kernel
theorem dX7_layLine_42 : decode cX7_layLine 42 = .ok (.iload 7, 2) := by decide +kernel
theorem dX7_layLine_44 : decode cX7_layLine 44 = .ok (.aload_n 0, 1) := by decide +kernel
theorem dX7_layLine_45 : decode cX7_layLine 45 = .ok (.getfield 37, 3) := by decide +kernel
theorem dX7_layLine_48 : decode cX7_layLine 48 = .ok (.iload 6, 2) := by decide +kernel
theorem dX7_layLine_50 : decode cX7_layLine 50 = .ok (.iaload, 1) := by decide +kernel
theorem dX7_layLine_51 : decode cX7_layLine 51 = .ok (.if_icmp .ge 71, 3) := by decide +kernel
theorem dX7_layLine_54 : decode cX7_layLine 54 = .ok (.aload_n 1, 1) := by decide +kernel
theorem dX7_layLine_55 : decode cX7_layLine 55 = .ok (.iload 5, 2) := by decide +kernel
theorem dX7_layLine_57 : decode cX7_layLine 57 = .ok (.iload 6, 2) := by decide +kernel
theorem dX7_layLine_59 : decode cX7_layLine 59 = .ok (.iadd, 1) := by decide +kernel
theorem dX7_layLine_60 : decode cX7_layLine 60 = .ok (.iload 7, 2) := by decide +kernel
theorem dX7_layLine_62 : decode cX7_layLine 62 = .ok (.invokestatic 201, 3) := by decide +kernel
theorem dX7_layLine_65 : decode cX7_layLine 65 = .ok (.istore 8, 2) := by decide +kernel
theorem dX7_layLine_67 : decode cX7_layLine 67 = .ok (.aload_n 0, 1) := by decide +kernel
theorem dX7_layLine_68 : decode cX7_layLine 68 = .ok (.getfield 34, 3) := by decide +kernel
theorem dX7_layLine_71 : decode cX7_layLine 71 = .ok (.iconst 4, 1) := by decide +kernel
theorem dX7_layLine_72 : decode cX7_layLine 72 = .ok (.iload 6, 2) := by decide +kernel
theorem dX7_layLine_74 : decode cX7_layLine 74 = .ok (.imul, 1) := by decide +kernel
theorem dX7_layLine_75 : decode cX7_layLine 75 = .ok (.iload 7, 2) := by decide +kernel
theorem dX7_layLine_77 : decode cX7_layLine 77 = .ok (.iadd, 1) := by decide +kernel
theorem dX7_layLine_78 : decode cX7_layLine 78 = .ok (.iload 8, 2) := by decide +kernel
theorem dX7_layLine_80 : decode cX7_layLine 80 = .ok (.iconst 2, 1) := by decide +kernel
theorem dX7_layLine_81 : decode cX7_layLine 81 = .ok (.if_icmp .ne 16, 3) := by decide +kernel
theorem dX7_layLine_84 : decode cX7_layLine 84 = .ok (.iload_n 3, 1) := by decide +kernel
theorem dX7_layLine_85 : decode cX7_layLine 85 = .ok (.ifCond .lt 12, 3) := by decide +kernel
theorem dX7_layLine_88 : decode cX7_layLine 88 = .ok (.iload_n 3, 1) := by decide +kernel
theorem dX7_layLine_89 : decode cX7_layLine 89 = .ok (.iload 4, 2) := by decide +kernel
theorem dX7_layLine_91 : decode cX7_layLine 91 = .ok (.ishr, 1) := by decide +kernel
theorem dX7_layLine_92 : decode cX7_layLine 92 = .ok (.iconst 1, 1) := by decide +kernel
theorem dX7_layLine_93 : decode cX7_layLine 93 = .ok (.iand, 1) := by decide +kernel
theorem dX7_layLine_94 : decode cX7_layLine 94 = .ok (.goto 5, 3) := by decide +kernel
theorem dX7_layLine_97 : decode cX7_layLine 97 = .ok (.iload 8, 2) := by decide +kernel
theorem dX7_layLine_99 : decode cX7_layLine 99 = .ok (.iastore, 1) := by decide +kernel
theorem dX7_layLine_100 : decode cX7_layLine 100 = .ok (.iload 4, 2) := by decide +kernel
theorem dX7_layLine_102 : decode cX7_layLine 102 = .ok (.iload 8, 2) := by decide +kernel
theorem dX7_layLine_104 : decode cX7_layLine 104 = .ok (.iconst 2, 1) := by decide +kernel
theorem dX7_layLine_105 : decode cX7_layLine 105 = .ok (.if_icmp .ne 7, 3) := by decide +kernel
theorem dX7_layLine_108 : decode cX7_layLine 108 = .ok (.iconst 1, 1) := by decide +kernel
theorem dX7_layLine_109 : decode cX7_layLine 109 = .ok (.goto 4, 3) := by decide +kernel
theorem dX7_layLine_112 : decode cX7_layLine 112 = .ok (.iconst 0, 1) := by decide +kernel
theorem dX7_layLine_113 : decode cX7_layLine 113 = .ok (.iadd, 1) := by decide +kernel
theorem dX7_layLine_114 : decode cX7_layLine 114 = .ok (.istore 4, 2) := by decide +kernel
theorem dX7_layLine_116 : decode cX7_layLine 116 = .ok (.iinc 7 1, 3) := by decide +kernel
theorem dX7_layLine_119 : decode cX7_layLine 119 = .ok (.goto (-77), 3) := by decide +kernel
theorem dX7_layLine_122 : decode cX7_layLine 122 = .ok (.iinc 6 1, 3) := by decide +kernel
theorem dX7_layLine_125 : decode cX7_layLine 125 = .ok (.goto (-112), 3) := by decide +kernel
theorem dX7_layLine_128 : decode cX7_layLine 128 = .ok (.iload 4, 2) := by decide +kernel
theorem dX7_layLine_130 : decode cX7_layLine 130 = .ok (.ireturn, 1) := by decide +kernel
theorem dX7_mayAll_0 : decode cX7_mayAll 0 = .ok (.aload_n 1, 1) := by decide +kernel
theorem dX7_mayAll_1 : decode cX7_mayAll 1 = .ok (.iload_n 2, 1) := by decide +kernel
theorem dX7_mayAll_2 : decode cX7_mayAll 2 = .ok (.invokestatic 198, 3) := by decide +kernel
theorem dX7_mayAll_5 : decode cX7_mayAll 5 = .ok (.istore 4, 2) := by decide +kernel
theorem dX7_mayAll_7 : decode cX7_mayAll 7 = .ok (.iconst 1, 1) := by decide +kernel
theorem dX7_mayAll_8 : decode cX7_mayAll 8 = .ok (.istore 5, 2) := by decide +kernel
theorem dX7_mayAll_10 : decode cX7_mayAll 10 = .ok (.iconst 0, 1) := by decide +kernel
theorem dX7_mayAll_11 : decode cX7_mayAll 11 = .ok (.istore 6, 2) := by decide +kernel
theorem dX7_mayAll_13 : decode cX7_mayAll 13 = .ok (.iload 6, 2) := by decide +kernel
theorem dX7_mayAll_15 : decode cX7_mayAll 15 = .ok (.aload_n 1, 1) := by decide +kernel
theorem dX7_mayAll_16 : decode cX7_mayAll 16 = .ok (.iconst 3, 1) := by decide +kernel
theorem dX7_mayAll_17 : decode cX7_mayAll 17 = .ok (.iload_n 2, 1) := by decide +kernel
theorem dX7_mayAll_18 : decode cX7_mayAll 18 = .ok (.iadd, 1) := by decide +kernel
theorem dX7_mayAll_19 : decode cX7_mayAll 19 = .ok (.iaload, 1) := by decide +kernel
theorem dX7_mayAll_20 : decode cX7_mayAll 20 = .ok (.if_icmp .ge 90, 3) := by decide +kernel
theorem dX7_mayAll_23 : decode cX7_mayAll 23 = .ok (.iload 5, 2) := by decide +kernel
theorem dX7_mayAll_25 : decode cX7_mayAll 25 = .ok (.ifCond .eq 28, 3) := by decide +kernel
theorem dX7_mayAll_28 : decode cX7_mayAll 28 = .ok (.iload_n 3, 1) := by decide +kernel
theorem dX7_mayAll_29 : decode cX7_mayAll 29 = .ok (.iload 6, 2) := by decide +kernel
theorem dX7_mayAll_31 : decode cX7_mayAll 31 = .ok (.invokestatic 204, 3) := by decide +kernel
theorem dX7_mayAll_34 : decode cX7_mayAll 34 = .ok (.ifCond .eq 15, 3) := by decide +kernel
theorem dX7_mayAll_37 : decode cX7_mayAll 37 = .ok (.aload_n 1, 1) := by decide +kernel
theorem dX7_mayAll_38 : decode cX7_mayAll 38 = .ok (.iload 4, 2) := by decide +kernel
theorem dX7_mayAll_40 : decode cX7_mayAll 40 = .ok (.iload 6, 2) := by decide +kernel
theorem dX7_mayAll_42 : decode cX7_mayAll 42 = .ok (.iadd, 1) := by decide +kernel
theorem dX7_mayAll_43 : decode cX7_mayAll 43 = .ok (.invokestatic 208, 3) := by decide +kernel
theorem dX7_mayAll_46 : decode cX7_mayAll 46 = .ok (.ifCond .eq 7, 3) := by decide +kernel
theorem dX7_mayAll_49 : decode cX7_mayAll 49 = .ok (.iconst 1, 1) := by decide +kernel
theorem dX7_mayAll_50 : decode cX7_mayAll 50 = .ok (.goto 4, 3) := by decide +kernel
theorem dX7_mayAll_53 : decode cX7_mayAll 53 = .ok (.iconst 0, 1) := by decide +kernel
theorem dX7_mayAll_54 : decode cX7_mayAll 54 = .ok (.istore 5, 2) := by decide +kernel
theorem dX7_mayAll_56 : decode cX7_mayAll 56 = .ok (.iload 5, 2) := by decide +kernel
theorem dX7_mayAll_58 : decode cX7_mayAll 58 = .ok (.ifCond .eq 43, 3) := by decide +kernel
theorem dX7_mayAll_61 : decode cX7_mayAll 61 = .ok (.iload 6, 2) := by decide +kernel
theorem dX7_mayAll_63 : decode cX7_mayAll 63 = .ok (.ifCond .le 34, 3) := by decide +kernel
theorem dX7_mayAll_66 : decode cX7_mayAll 66 = .ok (.iload_n 3, 1) := by decide +kernel
theorem dX7_mayAll_67 : decode cX7_mayAll 67 = .ok (.iload 6, 2) := by decide +kernel
theorem dX7_mayAll_69 : decode cX7_mayAll 69 = .ok (.invokestatic 204, 3) := by decide +kernel
theorem dX7_mayAll_72 : decode cX7_mayAll 72 = .ok (.ifCond .eq 25, 3) := by decide +kernel
theorem dX7_mayAll_75 : decode cX7_mayAll 75 = .ok (.iload_n 3, 1) := by decide +kernel
theorem dX7_mayAll_76 : decode cX7_mayAll 76 = .ok (.iload 6, 2) := by decide +kernel
theorem dX7_mayAll_78 : decode cX7_mayAll 78 = .ok (.iconst 1, 1) := by decide +kernel
theorem dX7_mayAll_79 : decode cX7_mayAll 79 = .ok (.isub, 1) := by decide +kernel
theorem dX7_mayAll_80 : decode cX7_mayAll 80 = .ok (.invokestatic 204, 3) := by decide +kernel
theorem dX7_mayAll_83 : decode cX7_mayAll 83 = .ok (.ifCond .eq 14, 3) := by decide +kernel
theorem dX7_mayAll_86 : decode cX7_mayAll 86 = .ok (.aload_n 0, 1) := by decide +kernel
theorem dX7_mayAll_87 : decode cX7_mayAll 87 = .ok (.getfield 37, 3) := by decide +kernel
theorem dX7_mayAll_90 : decode cX7_mayAll 90 = .ok (.iload 6, 2) := by decide +kernel
theorem dX7_mayAll_92 : decode cX7_mayAll 92 = .ok (.iaload, 1) := by decide +kernel
theorem dX7_mayAll_93 : decode cX7_mayAll 93 = .ok (.iconst 1, 1) := by decide +kernel
theorem dX7_mayAll_94 : decode cX7_mayAll 94 = .ok (.if_icmp .eq 7, 3) := by decide +kernel
theorem dX7_mayAll_97 : decode cX7_mayAll 97 = .ok (.iconst 1, 1) := by decide +kernel
theorem dX7_mayAll_98 : decode cX7_mayAll 98 = .ok (.goto 4, 3) := by decide +kernel
theorem dX7_mayAll_101 : decode cX7_mayAll 101 = .ok (.iconst 0, 1) := by decide +kernel
theorem dX7_mayAll_102 : decode cX7_mayAll 102 = .ok (.istore 5, 2) := by decide +kernel
theorem dX7_mayAll_104 : decode cX7_mayAll 104 = .ok (.iinc 6 1, 3) := by decide +kernel
theorem dX7_mayAll_107 : decode cX7_mayAll 107 = .ok (.goto (-94), 3) := by decide +kernel
theorem dX7_mayAll_110 : decode cX7_mayAll 110 = .ok (.iload 5, 2) := by decide +kernel
theorem dX7_mayAll_112 : decode cX7_mayAll 112 = .ok (.ireturn, 1) := by decide +kernel
theorem dX7_layScan_0 : decode cX7_layScan 0 = .ok (.aload_n 0, 1) := by decide +kernel
theorem dX7_layScan_1 : decode cX7_layScan 1 = .ok (.iconst 0, 1) := by decide +kernel
theorem dX7_layScan_2 : decode cX7_layScan 2 = .ok (.putfield 211, 3) := by decide +kernel
theorem dX7_layScan_5 : decode cX7_layScan 5 = .ok (.iconst 0, 1) := by decide +kernel
theorem dX7_layScan_6 : decode cX7_layScan 6 = .ok (.istore_n 3, 1) := by decide +kernel
theorem dX7_layScan_7 : decode cX7_layScan 7 = .ok (.iload_n 3, 1) := by decide +kernel
theorem dX7_layScan_8 : decode cX7_layScan 8 = .ok (.iload_n 1, 1) := by decide +kernel
theorem dX7_layScan_9 : decode cX7_layScan 9 = .ok (.if_icmp .ge 65, 3) := by decide +kernel
theorem dX7_layScan_12 : decode cX7_layScan 12 = .ok (.iconst 0, 1) := by decide +kernel
theorem dX7_layScan_13 : decode cX7_layScan 13 = .ok (.istore 4, 2) := by decide +kernel
theorem dX7_layScan_15 : decode cX7_layScan 15 = .ok (.iload 4, 2) := by decide +kernel
theorem dX7_layScan_17 : decode cX7_layScan 17 = .ok (.aload_n 0, 1) := by decide +kernel
theorem dX7_layScan_18 : decode cX7_layScan 18 = .ok (.getfield 37, 3) := by decide +kernel
theorem dX7_layScan_21 : decode cX7_layScan 21 = .ok (.iload_n 3, 1) := by decide +kernel
theorem dX7_layScan_22 : decode cX7_layScan 22 = .ok (.iaload, 1) := by decide +kernel
theorem dX7_layScan_23 : decode cX7_layScan 23 = .ok (.iload_n 2, 1) := by decide +kernel
theorem dX7_layScan_24 : decode cX7_layScan 24 = .ok (.iload_n 3, 1) := by decide +kernel
theorem dX7_layScan_25 : decode cX7_layScan 25 = .ok (.ishr, 1) := by decide +kernel
theorem dX7_layScan_26 : decode cX7_layScan 26 = .ok (.iconst 1, 1) := by decide +kernel
theorem dX7_layScan_27 : decode cX7_layScan 27 = .ok (.iand, 1) := by decide +kernel
theorem dX7_layScan_28 : decode cX7_layScan 28 = .ok (.isub, 1) := by decide +kernel
theorem dX7_layScan_29 : decode cX7_layScan 29 = .ok (.if_icmp .ge 39, 3) := by decide +kernel
theorem dX7_layScan_32 : decode cX7_layScan 32 = .ok (.aload_n 0, 1) := by decide +kernel
theorem dX7_layScan_33 : decode cX7_layScan 33 = .ok (.getfield 40, 3) := by decide +kernel
theorem dX7_layScan_36 : decode cX7_layScan 36 = .ok (.aload_n 0, 1) := by decide +kernel
theorem dX7_layScan_37 : decode cX7_layScan 37 = .ok (.getfield 211, 3) := by decide +kernel
theorem dX7_layScan_40 : decode cX7_layScan 40 = .ok (.aload_n 0, 1) := by decide +kernel
theorem dX7_layScan_41 : decode cX7_layScan 41 = .ok (.getfield 34, 3) := by decide +kernel
theorem dX7_layScan_44 : decode cX7_layScan 44 = .ok (.iconst 4, 1) := by decide +kernel
theorem dX7_layScan_45 : decode cX7_layScan 45 = .ok (.iload_n 3, 1) := by decide +kernel
theorem dX7_layScan_46 : decode cX7_layScan 46 = .ok (.imul, 1) := by decide +kernel
theorem dX7_layScan_47 : decode cX7_layScan 47 = .ok (.iload 4, 2) := by decide +kernel
theorem dX7_layScan_49 : decode cX7_layScan 49 = .ok (.iadd, 1) := by decide +kernel
theorem dX7_layScan_50 : decode cX7_layScan 50 = .ok (.iaload, 1) := by decide +kernel
theorem dX7_layScan_51 : decode cX7_layScan 51 = .ok (.iastore, 1) := by decide +kernel
theorem dX7_layScan_52 : decode cX7_layScan 52 = .ok (.aload_n 0, 1) := by decide +kernel
theorem dX7_layScan_53 : decode cX7_layScan 53 = .ok (.dup, 1) := by decide +kernel
theorem dX7_layScan_54 : decode cX7_layScan 54 = .ok (.getfield 211, 3) := by decide +kernel
theorem dX7_layScan_57 : decode cX7_layScan 57 = .ok (.iconst 1, 1) := by decide +kernel
theorem dX7_layScan_58 : decode cX7_layScan 58 = .ok (.iadd, 1) := by decide +kernel
theorem dX7_layScan_59 : decode cX7_layScan 59 = .ok (.putfield 211, 3) := by decide +kernel
theorem dX7_layScan_62 : decode cX7_layScan 62 = .ok (.iinc 4 1, 3) := by decide +kernel
theorem dX7_layScan_65 : decode cX7_layScan 65 = .ok (.goto (-50), 3) := by decide +kernel
theorem dX7_layScan_68 : decode cX7_layScan 68 = .ok (.iinc 3 1, 3) := by decide +kernel
theorem dX7_layScan_71 : decode cX7_layScan 71 = .ok (.goto (-64), 3) := by decide +kernel
theorem dX7_layScan_74 : decode cX7_layScan 74 = .ok (.return_, 1) := by decide +kernel
theorem dX7_size_0 : decode cX7_size 0 = .ok (.iload_n 0, 1) := by decide +kernel
theorem dX7_size_1 : decode cX7_size 1 = .ok (.iconst 2, 1) := by decide +kernel
theorem dX7_size_2 : decode cX7_size 2 = .ok (.if_icmp .ge 7, 3) := by decide +kernel
theorem dX7_size_5 : decode cX7_size 5 = .ok (.iconst 2, 1) := by decide +kernel
theorem dX7_size_6 : decode cX7_size 6 = .ok (.goto 4, 3) := by decide +kernel
theorem dX7_size_9 : decode cX7_size 9 = .ok (.iconst 3, 1) := by decide +kernel
theorem dX7_size_10 : decode cX7_size 10 = .ok (.ireturn, 1) := by decide +kernel
theorem dX7_isStrong_0 : decode cX7_isStrong 0 = .ok (.iload_n 0, 1) := by decide +kernel
theorem dX7_isStrong_1 : decode cX7_isStrong 1 = .ok (.ifCond .ne 16, 3) := by decide +kernel
theorem dX7_isStrong_4 : decode cX7_isStrong 4 = .ok (.iload_n 1, 1) := by decide +kernel
theorem dX7_isStrong_5 : decode cX7_isStrong 5 = .ok (.iconst 1, 1) := by decide +kernel
theorem dX7_isStrong_6 : decode cX7_isStrong 6 = .ok (.if_icmp .ne 7, 3) := by decide +kernel
theorem dX7_isStrong_9 : decode cX7_isStrong 9 = .ok (.iconst 1, 1) := by decide +kernel
theorem dX7_isStrong_10 : decode cX7_isStrong 10 = .ok (.goto 34, 3) := by decide +kernel
theorem dX7_isStrong_13 : decode cX7_isStrong 13 = .ok (.iconst 0, 1) := by decide +kernel
theorem dX7_isStrong_14 : decode cX7_isStrong 14 = .ok (.goto 30, 3) := by decide +kernel
theorem dX7_isStrong_17 : decode cX7_isStrong 17 = .ok (.iload_n 0, 1) := by decide +kernel
theorem dX7_isStrong_18 : decode cX7_isStrong 18 = .ok (.iconst 2, 1) := by decide +kernel
theorem dX7_isStrong_19 : decode cX7_isStrong 19 = .ok (.if_icmp .ne 16, 3) := by decide +kernel
theorem dX7_isStrong_22 : decode cX7_isStrong 22 = .ok (.iload_n 1, 1) := by decide +kernel
theorem dX7_isStrong_23 : decode cX7_isStrong 23 = .ok (.iconst 2, 1) := by decide +kernel
theorem dX7_isStrong_24 : decode cX7_isStrong 24 = .ok (.if_icmp .ne 7, 3) := by decide +kernel
theorem dX7_isStrong_27 : decode cX7_isStrong 27 = .ok (.iconst 1, 1) := by decide +kernel
theorem dX7_isStrong_28 : decode cX7_isStrong 28 = .ok (.goto 16, 3) := by decide +kernel
theorem dX7_isStrong_31 : decode cX7_isStrong 31 = .ok (.iconst 0, 1) := by decide +kernel
theorem dX7_isStrong_32 : decode cX7_isStrong 32 = .ok (.goto 12, 3) := by decide +kernel
theorem dX7_isStrong_35 : decode cX7_isStrong 35 = .ok (.iload_n 1, 1) := by decide +kernel
theorem dX7_isStrong_36 : decode cX7_isStrong 36 = .ok (.ifCond .ne 7, 3) := by decide +kernel
theorem dX7_isStrong_39 : decode cX7_isStrong 39 = .ok (.iconst 1, 1) := by decide +kernel
theorem dX7_isStrong_40 : decode cX7_isStrong 40 = .ok (.goto 4, 3) := by decide +kernel
theorem dX7_isStrong_43 : decode cX7_isStrong 43 = .ok (.iconst 0, 1) := by decide +kernel
theorem dX7_isStrong_44 : decode cX7_isStrong 44 = .ok (.ireturn, 1) := by decide +kernel
theorem dX7_costOf_0 : decode cX7_costOf 0 = .ok (.iload_n 2, 1) := by decide +kernel
theorem dX7_costOf_1 : decode cX7_costOf 1 = .ok (.iload_n 1, 1) := by decide +kernel
theorem dX7_costOf_2 : decode cX7_costOf 2 = .ok (.invokestatic 214, 3) := by decide +kernel
theorem dX7_costOf_5 : decode cX7_costOf 5 = .ok (.imul, 1) := by decide +kernel
theorem dX7_costOf_6 : decode cX7_costOf 6 = .ok (.istore 4, 2) := by decide +kernel
theorem dX7_costOf_8 : decode cX7_costOf 8 = .ok (.iload_n 1, 1) := by decide +kernel
theorem dX7_costOf_9 : decode cX7_costOf 9 = .ok (.iconst 1, 1) := by decide +kernel
theorem dX7_costOf_10 : decode cX7_costOf 10 = .ok (.if_icmp .ne 7, 3) := by decide +kernel
theorem dX7_costOf_13 : decode cX7_costOf 13 = .ok (.iconst 1, 1) := by decide +kernel
theorem dX7_costOf_14 : decode cX7_costOf 14 = .ok (.goto 13, 3) := by decide +kernel
theorem dX7_costOf_17 : decode cX7_costOf 17 = .ok (.iload_n 1, 1) := by decide +kernel
theorem dX7_costOf_18 : decode cX7_costOf 18 = .ok (.iconst 3, 1) := by decide +kernel
theorem dX7_costOf_19 : decode cX7_costOf 19 = .ok (.if_icmp .ne 7, 3) := by decide +kernel
theorem dX7_costOf_22 : decode cX7_costOf 22 = .ok (.iconst 2, 1) := by decide +kernel
theorem dX7_costOf_23 : decode cX7_costOf 23 = .ok (.goto 4, 3) := by decide +kernel
theorem dX7_costOf_26 : decode cX7_costOf 26 = .ok (.iconst 0, 1) := by decide +kernel
theorem dX7_costOf_27 : decode cX7_costOf 27 = .ok (.istore 5, 2) := by decide +kernel
theorem dX7_costOf_29 : decode cX7_costOf 29 = .ok (.aload_n 0, 1) := by decide +kernel
theorem dX7_costOf_30 : decode cX7_costOf 30 = .ok (.getfield 211, 3) := by decide +kernel
theorem dX7_costOf_33 : decode cX7_costOf 33 = .ok (.iload 4, 2) := by decide +kernel
theorem dX7_costOf_35 : decode cX7_costOf 35 = .ok (.iload 5, 2) := by decide +kernel
theorem dX7_costOf_37 : decode cX7_costOf 37 = .ok (.isub, 1) := by decide +kernel
theorem dX7_costOf_38 : decode cX7_costOf 38 = .ok (.if_icmp .lt 14, 3) := by decide +kernel
theorem dX7_costOf_41 : decode cX7_costOf 41 = .ok (.aload_n 0, 1) := by decide +kernel
theorem dX7_costOf_42 : decode cX7_costOf 42 = .ok (.getfield 211, 3) := by decide +kernel
theorem dX7_costOf_45 : decode cX7_costOf 45 = .ok (.iload 4, 2) := by decide +kernel
theorem dX7_costOf_47 : decode cX7_costOf 47 = .ok (.iconst 2, 1) := by decide +kernel
theorem dX7_costOf_48 : decode cX7_costOf 48 = .ok (.iadd, 1) := by decide +kernel
theorem dX7_costOf_49 : decode cX7_costOf 49 = .ok (.if_icmp .le 6, 3) := by decide +kernel
theorem dX7_costOf_52 : decode cX7_costOf 52 = .ok (.ldc 99, 2) := by decide +kernel
theorem dX7_costOf_54 : decode cX7_costOf 54 = .ok (.ireturn, 1) := by decide +kernel
theorem dX7_costOf_55 : decode cX7_costOf 55 = .ok (.aload_n 0, 1) := by decide +kernel
theorem dX7_costOf_56 : decode cX7_costOf 56 = .ok (.getfield 211, 3) := by decide +kernel
theorem dX7_costOf_59 : decode cX7_costOf 59 = .ok (.iload 4, 2) := by decide +kernel
theorem dX7_costOf_61 : decode cX7_costOf 61 = .ok (.if_icmp .ge 13, 3) := by decide +kernel
theorem dX7_costOf_64 : decode cX7_costOf 64 = .ok (.iload 4, 2) := by decide +kernel
theorem dX7_costOf_66 : decode cX7_costOf 66 = .ok (.aload_n 0, 1) := by decide +kernel
theorem dX7_costOf_67 : decode cX7_costOf 67 = .ok (.getfield 211, 3) := by decide +kernel
theorem dX7_costOf_70 : decode cX7_costOf 70 = .ok (.isub, 1) := by decide +kernel
theorem dX7_costOf_71 : decode cX7_costOf 71 = .ok (.goto 10, 3) := by decide +kernel
theorem dX7_costOf_74 : decode cX7_costOf 74 = .ok (.aload_n 0, 1) := by decide +kernel
theorem dX7_costOf_75 : decode cX7_costOf 75 = .ok (.getfield 211, 3) := by decide +kernel
theorem dX7_costOf_78 : decode cX7_costOf 78 = .ok (.iload 4, 2) := by decide +kernel
theorem dX7_costOf_80 : decode cX7_costOf 80 = .ok (.isub, 1) := by decide +kernel
theorem dX7_costOf_81 : decode cX7_costOf 81 = .ok (.istore 6, 2) := by decide +kernel
theorem dX7_costOf_83 : decode cX7_costOf 83 = .ok (.iload 6, 2) := by decide +kernel
theorem dX7_costOf_85 : decode cX7_costOf 85 = .ok (.iload_n 3, 1) := by decide +kernel
theorem dX7_costOf_86 : decode cX7_costOf 86 = .ok (.ifCond .eq 7, 3) := by decide +kernel
theorem dX7_costOf_89 : decode cX7_costOf 89 = .ok (.iconst 1, 1) := by decide +kernel
theorem dX7_costOf_90 : decode cX7_costOf 90 = .ok (.goto 4, 3) := by decide +kernel
theorem dX7_costOf_93 : decode cX7_costOf 93 = .ok (.iconst 0, 1) := by decide +kernel
theorem dX7_costOf_94 : decode cX7_costOf 94 = .ok (.iadd, 1) := by decide +kernel
theorem dX7_costOf_95 : decode cX7_costOf 95 = .ok (.istore 6, 2) := by decide +kernel
theorem dX7_costOf_97 : decode cX7_costOf 97 = .ok (.iconst 0, 1) := by decide +kernel
theorem dX7_costOf_98 : decode cX7_costOf 98 = .ok (.istore 7, 2) := by decide +kernel
theorem dX7_costOf_100 : decode cX7_costOf 100 = .ok (.iload 7, 2) := by decide +kernel
theorem dX7_costOf_102 : decode cX7_costOf 102 = .ok (.aload_n 0, 1) := by decide +kernel
theorem dX7_costOf_103 : decode cX7_costOf 103 = .ok (.getfield 211, 3) := by decide +kernel
theorem dX7_costOf_106 : decode cX7_costOf 106 = .ok (.if_icmp .ge 111, 3) := by decide +kernel
theorem dX7_costOf_109 : decode cX7_costOf 109 = .ok (.iload 7, 2) := by decide +kernel
theorem dX7_costOf_111 : decode cX7_costOf 111 = .ok (.iload 4, 2) := by decide +kernel
theorem dX7_costOf_113 : decode cX7_costOf 113 = .ok (.if_icmp .lt 17, 3) := by decide +kernel
theorem dX7_costOf_116 : decode cX7_costOf 116 = .ok (.aload_n 0, 1) := by decide +kernel
theorem dX7_costOf_117 : decode cX7_costOf 117 = .ok (.getfield 40, 3) := by decide +kernel
theorem dX7_costOf_120 : decode cX7_costOf 120 = .ok (.iload 7, 2) := by decide +kernel
theorem dX7_costOf_122 : decode cX7_costOf 122 = .ok (.iaload, 1) := by decide +kernel
theorem dX7_costOf_123 : decode cX7_costOf 123 = .ok (.iconst 1, 1) := by decide +kernel
theorem dX7_costOf_124 : decode cX7_costOf 124 = .ok (.if_icmp .ne 87, 3) := by decide +kernel
theorem dX7_costOf_127 : decode cX7_costOf 127 = .ok (.ldc 99, 2) := by decide +kernel
theorem dX7_costOf_129 : decode cX7_costOf 129 = .ok (.ireturn, 1) := by decide +kernel
theorem dX7_costOf_130 : decode cX7_costOf 130 = .ok (.iload_n 3, 1) := by decide +kernel
theorem dX7_costOf_131 : decode cX7_costOf 131 = .ok (.ifCond .eq 18, 3) := by decide +kernel
theorem dX7_costOf_134 : decode cX7_costOf 134 = .ok (.iload 7, 2) := by decide +kernel
theorem dX7_costOf_136 : decode cX7_costOf 136 = .ok (.iload_n 1, 1) := by decide +kernel
theorem dX7_costOf_137 : decode cX7_costOf 137 = .ok (.invokestatic 214, 3) := by decide +kernel
theorem dX7_costOf_140 : decode cX7_costOf 140 = .ok (.if_icmp .ge 9, 3) := by decide +kernel
theorem dX7_costOf_143 : decode cX7_costOf 143 = .ok (.iload_n 1, 1) := by decide +kernel
theorem dX7_costOf_144 : decode cX7_costOf 144 = .ok (.iconst 1, 1) := by decide +kernel
theorem dX7_costOf_145 : decode cX7_costOf 145 = .ok (.ixor, 1) := by decide +kernel
theorem dX7_costOf_146 : decode cX7_costOf 146 = .ok (.goto 4, 3) := by decide +kernel
theorem dX7_costOf_149 : decode cX7_costOf 149 = .ok (.iload_n 1, 1) := by decide +kernel
theorem dX7_costOf_150 : decode cX7_costOf 150 = .ok (.istore 8, 2) := by decide +kernel
theorem dX7_costOf_152 : decode cX7_costOf 152 = .ok (.iload 8, 2) := by decide +kernel
theorem dX7_costOf_154 : decode cX7_costOf 154 = .ok (.iload 7, 2) := by decide +kernel
theorem dX7_costOf_156 : decode cX7_costOf 156 = .ok (.iload_n 1, 1) := by decide +kernel
theorem dX7_costOf_157 : decode cX7_costOf 157 = .ok (.invokestatic 214, 3) := by decide +kernel
theorem dX7_costOf_160 : decode cX7_costOf 160 = .ok (.irem, 1) := by decide +kernel
theorem dX7_costOf_161 : decode cX7_costOf 161 = .ok (.invokestatic 217, 3) := by decide +kernel
theorem dX7_costOf_164 : decode cX7_costOf 164 = .ok (.istore 9, 2) := by decide +kernel
theorem dX7_costOf_166 : decode cX7_costOf 166 = .ok (.iload 6, 2) := by decide +kernel
theorem dX7_costOf_168 : decode cX7_costOf 168 = .ok (.iload 9, 2) := by decide +kernel
theorem dX7_costOf_170 : decode cX7_costOf 170 = .ok (.ifCond .eq 17, 3) := by decide +kernel
theorem dX7_costOf_173 : decode cX7_costOf 173 = .ok (.aload_n 0, 1) := by decide +kernel
theorem dX7_costOf_174 : decode cX7_costOf 174 = .ok (.getfield 40, 3) := by decide +kernel
theorem dX7_costOf_177 : decode cX7_costOf 177 = .ok (.iload 7, 2) := by decide +kernel
theorem dX7_costOf_179 : decode cX7_costOf 179 = .ok (.iaload, 1) := by decide +kernel
theorem dX7_costOf_180 : decode cX7_costOf 180 = .ok (.ifCond .ne 7, 3) := by decide +kernel
theorem dX7_costOf_183 : decode cX7_costOf 183 = .ok (.iconst 3, 1) := by decide +kernel
theorem dX7_costOf_184 : decode cX7_costOf 184 = .ok (.goto 24, 3) := by decide +kernel
theorem dX7_costOf_187 : decode cX7_costOf 187 = .ok (.iload 9, 2) := by decide +kernel
theorem dX7_costOf_189 : decode cX7_costOf 189 = .ok (.ifCond .ne 18, 3) := by decide +kernel
theorem dX7_costOf_192 : decode cX7_costOf 192 = .ok (.aload_n 0, 1) := by decide +kernel
theorem dX7_costOf_193 : decode cX7_costOf 193 = .ok (.getfield 40, 3) := by decide +kernel
theorem dX7_costOf_196 : decode cX7_costOf 196 = .ok (.iload 7, 2) := by decide +kernel
theorem dX7_costOf_198 : decode cX7_costOf 198 = .ok (.iaload, 1) := by decide +kernel
theorem dX7_costOf_199 : decode cX7_costOf 199 = .ok (.iconst 1, 1) := by decide +kernel
theorem dX7_costOf_200 : decode cX7_costOf 200 = .ok (.if_icmp .ne 7, 3) := by decide +kernel
theorem dX7_costOf_203 : decode cX7_costOf 203 = .ok (.iconst 2, 1) := by decide +kernel
theorem dX7_costOf_204 : decode cX7_costOf 204 = .ok (.goto 4, 3) := by decide +kernel
theorem dX7_costOf_207 : decode cX7_costOf 207 = .ok (.iconst 0, 1) := by decide +kernel
theorem dX7_costOf_208 : decode cX7_costOf 208 = .ok (.iadd, 1) := by decide +kernel
theorem dX7_costOf_209 : decode cX7_costOf 209 = .ok (.istore 6, 2) := by decide +kernel
theorem dX7_costOf_211 : decode cX7_costOf 211 = .ok (.iinc 7 1, 3) := by decide +kernel
theorem dX7_costOf_214 : decode cX7_costOf 214 = .ok (.goto (-114), 3) := by decide +kernel
theorem dX7_costOf_217 : decode cX7_costOf 217 = .ok (.iload 6, 2) := by decide +kernel
theorem dX7_costOf_219 : decode cX7_costOf 219 = .ok (.ireturn, 1) := by decide +kernel
theorem dX7_counts_0 : decode cX7_counts 0 = .ok (.iload_n 1, 1) := by decide +kernel
theorem dX7_counts_1 : decode cX7_counts 1 = .ok (.ldc 99, 2) := by decide +kernel
theorem dX7_counts_3 : decode cX7_counts 3 = .ok (.if_icmp .eq 30, 3) := by decide +kernel
theorem dX7_counts_6 : decode cX7_counts 6 = .ok (.aload_n 0, 1) := by decide +kernel
theorem dX7_counts_7 : decode cX7_counts 7 = .ok (.getfield 220, 3) := by decide +kernel
theorem dX7_counts_10 : decode cX7_counts 10 = .ok (.ldc 99, 2) := by decide +kernel
theorem dX7_counts_12 : decode cX7_counts 12 = .ok (.if_icmp .eq 11, 3) := by decide +kernel
theorem dX7_counts_15 : decode cX7_counts 15 = .ok (.iload_n 1, 1) := by decide +kernel
theorem dX7_counts_16 : decode cX7_counts 16 = .ok (.aload_n 0, 1) := by decide +kernel
theorem dX7_counts_17 : decode cX7_counts 17 = .ok (.getfield 220, 3) := by decide +kernel
theorem dX7_counts_20 : decode cX7_counts 20 = .ok (.if_icmp .ge 13, 3) := by decide +kernel
theorem dX7_counts_23 : decode cX7_counts 23 = .ok (.aload_n 0, 1) := by decide +kernel
theorem dX7_counts_24 : decode cX7_counts 24 = .ok (.iload_n 1, 1) := by decide +kernel
theorem dX7_counts_25 : decode cX7_counts 25 = .ok (.putfield 220, 3) := by decide +kernel
theorem dX7_counts_28 : decode cX7_counts 28 = .ok (.aload_n 0, 1) := by decide +kernel
theorem dX7_counts_29 : decode cX7_counts 29 = .ok (.iconst 0, 1) := by decide +kernel
theorem dX7_counts_30 : decode cX7_counts 30 = .ok (.putfield 223, 3) := by decide +kernel
theorem dX7_counts_33 : decode cX7_counts 33 = .ok (.aload_n 0, 1) := by decide +kernel
theorem dX7_counts_34 : decode cX7_counts 34 = .ok (.dup, 1) := by decide +kernel
theorem dX7_counts_35 : decode cX7_counts 35 = .ok (.getfield 223, 3) := by decide +kernel
theorem dX7_counts_38 : decode cX7_counts 38 = .ok (.iload_n 1, 1) := by decide +kernel
theorem dX7_counts_39 : decode cX7_counts 39 = .ok (.ldc 99, 2) := by decide +kernel
theorem dX7_counts_41 : decode cX7_counts 41 = .ok (.if_icmp .eq 15, 3) := by decide +kernel
theorem dX7_counts_44 : decode cX7_counts 44 = .ok (.iload_n 1, 1) := by decide +kernel
theorem dX7_counts_45 : decode cX7_counts 45 = .ok (.aload_n 0, 1) := by decide +kernel
theorem dX7_counts_46 : decode cX7_counts 46 = .ok (.getfield 220, 3) := by decide +kernel
theorem dX7_counts_49 : decode cX7_counts 49 = .ok (.if_icmp .ne 7, 3) := by decide +kernel
theorem dX7_counts_52 : decode cX7_counts 52 = .ok (.iconst 1, 1) := by decide +kernel
theorem dX7_counts_53 : decode cX7_counts 53 = .ok (.goto 4, 3) := by decide +kernel
theorem dX7_counts_56 : decode cX7_counts 56 = .ok (.iconst 0, 1) := by decide +kernel
theorem dX7_counts_57 : decode cX7_counts 57 = .ok (.iadd, 1) := by decide +kernel
theorem dX7_counts_58 : decode cX7_counts 58 = .ok (.putfield 223, 3) := by decide +kernel
theorem dX7_counts_61 : decode cX7_counts 61 = .ok (.return_, 1) := by decide +kernel
theorem dX7_scanOf_0 : decode cX7_scanOf 0 = .ok (.aload_n 0, 1) := by decide +kernel
theorem dX7_scanOf_1 : decode cX7_scanOf 1 = .ok (.aload_n 1, 1) := by decide +kernel
theorem dX7_scanOf_2 : decode cX7_scanOf 2 = .ok (.iload_n 2, 1) := by decide +kernel
theorem dX7_scanOf_3 : decode cX7_scanOf 3 = .ok (.iload 5, 2) := by decide +kernel
theorem dX7_scanOf_5 : decode cX7_scanOf 5 = .ok (.invokevirtual 226, 3) := by decide +kernel
theorem dX7_scanOf_8 : decode cX7_scanOf 8 = .ok (.istore 6, 2) := by decide +kernel
theorem dX7_scanOf_10 : decode cX7_scanOf 10 = .ok (.aload_n 0, 1) := by decide +kernel
theorem dX7_scanOf_11 : decode cX7_scanOf 11 = .ok (.ldc 99, 2) := by decide +kernel
theorem dX7_scanOf_13 : decode cX7_scanOf 13 = .ok (.putfield 220, 3) := by decide +kernel
theorem dX7_scanOf_16 : decode cX7_scanOf 16 = .ok (.aload_n 0, 1) := by decide +kernel
theorem dX7_scanOf_17 : decode cX7_scanOf 17 = .ok (.iconst 0, 1) := by decide +kernel
theorem dX7_scanOf_18 : decode cX7_scanOf 18 = .ok (.putfield 223, 3) := by decide +kernel
theorem dX7_scanOf_21 : decode cX7_scanOf 21 = .ok (.iconst 0, 1) := by decide +kernel
theorem dX7_scanOf_22 : decode cX7_scanOf 22 = .ok (.istore 7, 2) := by decide +kernel
theorem dX7_scanOf_24 : decode cX7_scanOf 24 = .ok (.iload 7, 2) := by decide +kernel
theorem dX7_scanOf_26 : decode cX7_scanOf 26 = .ok (.iconst 1, 1) := by decide +kernel
theorem dX7_scanOf_27 : decode cX7_scanOf 27 = .ok (.aload_n 1, 1) := by decide +kernel
theorem dX7_scanOf_28 : decode cX7_scanOf 28 = .ok (.iconst 3, 1) := by decide +kernel
theorem dX7_scanOf_29 : decode cX7_scanOf 29 = .ok (.iload_n 2, 1) := by decide +kernel
theorem dX7_scanOf_30 : decode cX7_scanOf 30 = .ok (.iadd, 1) := by decide +kernel
theorem dX7_scanOf_31 : decode cX7_scanOf 31 = .ok (.iaload, 1) := by decide +kernel
theorem dX7_scanOf_32 : decode cX7_scanOf 32 = .ok (.iconst 1, 1) := by decide +kernel
theorem dX7_scanOf_33 : decode cX7_scanOf 33 = .ok (.isub, 1) := by decide +kernel
theorem dX7_scanOf_34 : decode cX7_scanOf 34 = .ok (.ishl, 1) := by decide +kernel
theorem dX7_scanOf_35 : decode cX7_scanOf 35 = .ok (.if_icmp .ge 139, 3) := by decide +kernel
theorem dX7_scanOf_38 : decode cX7_scanOf 38 = .ok (.iload 6, 2) := by decide +kernel
theorem dX7_scanOf_40 : decode cX7_scanOf 40 = .ok (.ifCond .lt 134, 3) := by decide +kernel
theorem dX7_scanOf_43 : decode cX7_scanOf 43 = .ok (.aload_n 0, 1) := by decide +kernel
theorem dX7_scanOf_44 : decode cX7_scanOf 44 = .ok (.aload_n 1, 1) := by decide +kernel
theorem dX7_scanOf_45 : decode cX7_scanOf 45 = .ok (.iload_n 2, 1) := by decide +kernel
theorem dX7_scanOf_46 : decode cX7_scanOf 46 = .ok (.iload 7, 2) := by decide +kernel
theorem dX7_scanOf_48 : decode cX7_scanOf 48 = .ok (.invokevirtual 229, 3) := by decide +kernel
theorem dX7_scanOf_51 : decode cX7_scanOf 51 = .ok (.ifCond .eq 117, 3) := by decide +kernel
theorem dX7_scanOf_54 : decode cX7_scanOf 54 = .ok (.aload_n 0, 1) := by decide +kernel
theorem dX7_scanOf_55 : decode cX7_scanOf 55 = .ok (.aload_n 1, 1) := by decide +kernel
theorem dX7_scanOf_56 : decode cX7_scanOf 56 = .ok (.iconst 3, 1) := by decide +kernel
theorem dX7_scanOf_57 : decode cX7_scanOf 57 = .ok (.iload_n 2, 1) := by decide +kernel
theorem dX7_scanOf_58 : decode cX7_scanOf 58 = .ok (.iadd, 1) := by decide +kernel
theorem dX7_scanOf_59 : decode cX7_scanOf 59 = .ok (.iaload, 1) := by decide +kernel
theorem dX7_scanOf_60 : decode cX7_scanOf 60 = .ok (.iload 7, 2) := by decide +kernel
theorem dX7_scanOf_62 : decode cX7_scanOf 62 = .ok (.invokevirtual 232, 3) := by decide +kernel
theorem dX7_scanOf_65 : decode cX7_scanOf 65 = .ok (.iconst 0, 1) := by decide +kernel
theorem dX7_scanOf_66 : decode cX7_scanOf 66 = .ok (.istore 8, 2) := by decide +kernel
theorem dX7_scanOf_68 : decode cX7_scanOf 68 = .ok (.iconst 0, 1) := by decide +kernel
theorem dX7_scanOf_69 : decode cX7_scanOf 69 = .ok (.istore 9, 2) := by decide +kernel
theorem dX7_scanOf_71 : decode cX7_scanOf 71 = .ok (.iload 9, 2) := by decide +kernel
theorem dX7_scanOf_73 : decode cX7_scanOf 73 = .ok (.iconst 5, 1) := by decide +kernel
theorem dX7_scanOf_74 : decode cX7_scanOf 74 = .ok (.if_icmp .ge 21, 3) := by decide +kernel
theorem dX7_scanOf_77 : decode cX7_scanOf 77 = .ok (.iload 8, 2) := by decide +kernel
theorem dX7_scanOf_79 : decode cX7_scanOf 79 = .ok (.iload 7, 2) := by decide +kernel
theorem dX7_scanOf_81 : decode cX7_scanOf 81 = .ok (.iload 9, 2) := by decide +kernel
theorem dX7_scanOf_83 : decode cX7_scanOf 83 = .ok (.ishr, 1) := by decide +kernel
theorem dX7_scanOf_84 : decode cX7_scanOf 84 = .ok (.iconst 1, 1) := by decide +kernel
theorem dX7_scanOf_85 : decode cX7_scanOf 85 = .ok (.iand, 1) := by decide +kernel
theorem dX7_scanOf_86 : decode cX7_scanOf 86 = .ok (.iadd, 1) := by decide +kernel
theorem dX7_scanOf_87 : decode cX7_scanOf 87 = .ok (.istore 8, 2) := by decide +kernel
theorem dX7_scanOf_89 : decode cX7_scanOf 89 = .ok (.iinc 9 1, 3) := by decide +kernel
theorem dX7_scanOf_92 : decode cX7_scanOf 92 = .ok (.goto (-21), 3) := by decide +kernel
theorem dX7_scanOf_95 : decode cX7_scanOf 95 = .ok (.aload_n 0, 1) := by decide +kernel
theorem dX7_scanOf_96 : decode cX7_scanOf 96 = .ok (.iload_n 3, 1) := by decide +kernel
theorem dX7_scanOf_97 : decode cX7_scanOf 97 = .ok (.iload 4, 2) := by decide +kernel
theorem dX7_scanOf_99 : decode cX7_scanOf 99 = .ok (.iconst 0, 1) := by decide +kernel
theorem dX7_scanOf_100 : decode cX7_scanOf 100 = .ok (.invokevirtual 235, 3) := by decide +kernel
theorem dX7_scanOf_103 : decode cX7_scanOf 103 = .ok (.istore 9, 2) := by decide +kernel
theorem dX7_scanOf_105 : decode cX7_scanOf 105 = .ok (.iload 4, 2) := by decide +kernel
theorem dX7_scanOf_107 : decode cX7_scanOf 107 = .ok (.iconst 1, 1) := by decide +kernel
theorem dX7_scanOf_108 : decode cX7_scanOf 108 = .ok (.if_icmp .le 14, 3) := by decide +kernel
theorem dX7_scanOf_111 : decode cX7_scanOf 111 = .ok (.aload_n 0, 1) := by decide +kernel
theorem dX7_scanOf_112 : decode cX7_scanOf 112 = .ok (.iload_n 3, 1) := by decide +kernel
theorem dX7_scanOf_113 : decode cX7_scanOf 113 = .ok (.iload 4, 2) := by decide +kernel
theorem dX7_scanOf_115 : decode cX7_scanOf 115 = .ok (.iconst 1, 1) := by decide +kernel
theorem dX7_scanOf_116 : decode cX7_scanOf 116 = .ok (.invokevirtual 235, 3) := by decide +kernel
theorem dX7_scanOf_119 : decode cX7_scanOf 119 = .ok (.goto 5, 3) := by decide +kernel
theorem dX7_scanOf_122 : decode cX7_scanOf 122 = .ok (.ldc 99, 2) := by decide +kernel
theorem dX7_scanOf_124 : decode cX7_scanOf 124 = .ok (.istore 10, 2) := by decide +kernel
theorem dX7_scanOf_126 : decode cX7_scanOf 126 = .ok (.aload_n 0, 1) := by decide +kernel
theorem dX7_scanOf_127 : decode cX7_scanOf 127 = .ok (.iload 9, 2) := by decide +kernel
theorem dX7_scanOf_129 : decode cX7_scanOf 129 = .ok (.ldc 99, 2) := by decide +kernel
theorem dX7_scanOf_131 : decode cX7_scanOf 131 = .ok (.if_icmp .ne 8, 3) := by decide +kernel
theorem dX7_scanOf_134 : decode cX7_scanOf 134 = .ok (.ldc 99, 2) := by decide +kernel
theorem dX7_scanOf_136 : decode cX7_scanOf 136 = .ok (.goto 8, 3) := by decide +kernel
theorem dX7_scanOf_139 : decode cX7_scanOf 139 = .ok (.iload 9, 2) := by decide +kernel
theorem dX7_scanOf_141 : decode cX7_scanOf 141 = .ok (.iload 8, 2) := by decide +kernel
theorem dX7_scanOf_143 : decode cX7_scanOf 143 = .ok (.iadd, 1) := by decide +kernel
theorem dX7_scanOf_144 : decode cX7_scanOf 144 = .ok (.invokevirtual 239, 3) := by decide +kernel
theorem dX7_scanOf_147 : decode cX7_scanOf 147 = .ok (.aload_n 0, 1) := by decide +kernel
theorem dX7_scanOf_148 : decode cX7_scanOf 148 = .ok (.iload 10, 2) := by decide +kernel
theorem dX7_scanOf_150 : decode cX7_scanOf 150 = .ok (.ldc 99, 2) := by decide +kernel
theorem dX7_scanOf_152 : decode cX7_scanOf 152 = .ok (.if_icmp .ne 8, 3) := by decide +kernel
theorem dX7_scanOf_155 : decode cX7_scanOf 155 = .ok (.ldc 99, 2) := by decide +kernel
theorem dX7_scanOf_157 : decode cX7_scanOf 157 = .ok (.goto 8, 3) := by decide +kernel
theorem dX7_scanOf_160 : decode cX7_scanOf 160 = .ok (.iload 10, 2) := by decide +kernel
theorem dX7_scanOf_162 : decode cX7_scanOf 162 = .ok (.iload 8, 2) := by decide +kernel
theorem dX7_scanOf_164 : decode cX7_scanOf 164 = .ok (.iadd, 1) := by decide +kernel
theorem dX7_scanOf_165 : decode cX7_scanOf 165 = .ok (.invokevirtual 239, 3) := by decide +kernel
theorem dX7_scanOf_168 : decode cX7_scanOf 168 = .ok (.iinc 7 1, 3) := by decide +kernel
theorem dX7_scanOf_171 : decode cX7_scanOf 171 = .ok (.goto (-147), 3) := by decide +kernel
theorem dX7_scanOf_174 : decode cX7_scanOf 174 = .ok (.aload_n 0, 1) := by decide +kernel
theorem dX7_scanOf_175 : decode cX7_scanOf 175 = .ok (.getfield 220, 3) := by decide +kernel
theorem dX7_scanOf_178 : decode cX7_scanOf 178 = .ok (.ireturn, 1) := by decide +kernel
theorem dX7_byMetre_0 : decode cX7_byMetre 0 = .ok (.aload_n 0, 1) := by decide +kernel
theorem dX7_byMetre_1 : decode cX7_byMetre 1 = .ok (.aload_n 1, 1) := by decide +kernel
theorem dX7_byMetre_2 : decode cX7_byMetre 2 = .ok (.iload_n 2, 1) := by decide +kernel
theorem dX7_byMetre_3 : decode cX7_byMetre 3 = .ok (.aload_n 1, 1) := by decide +kernel
theorem dX7_byMetre_4 : decode cX7_byMetre 4 = .ok (.iconst 1, 1) := by decide +kernel
theorem dX7_byMetre_5 : decode cX7_byMetre 5 = .ok (.iaload, 1) := by decide +kernel
theorem dX7_byMetre_6 : decode cX7_byMetre 6 = .ok (.aload_n 1, 1) := by decide +kernel
theorem dX7_byMetre_7 : decode cX7_byMetre 7 = .ok (.iconst 2, 1) := by decide +kernel
theorem dX7_byMetre_8 : decode cX7_byMetre 8 = .ok (.iaload, 1) := by decide +kernel
theorem dX7_byMetre_9 : decode cX7_byMetre 9 = .ok (.iconst (-1), 1) := by decide +kernel
theorem dX7_byMetre_10 : decode cX7_byMetre 10 = .ok (.invokevirtual 242, 3) := by decide +kernel
theorem dX7_byMetre_13 : decode cX7_byMetre 13 = .ok (.ireturn, 1) := by decide +kernel
theorem dX7_allBy_0 : decode cX7_allBy 0 = .ok (.iconst 0, 1) := by decide +kernel
theorem dX7_allBy_1 : decode cX7_allBy 1 = .ok (.istore 4, 2) := by decide +kernel
theorem dX7_allBy_3 : decode cX7_allBy 3 = .ok (.iconst 0, 1) := by decide +kernel
theorem dX7_allBy_4 : decode cX7_allBy 4 = .ok (.istore 5, 2) := by decide +kernel
theorem dX7_allBy_6 : decode cX7_allBy 6 = .ok (.iload 5, 2) := by decide +kernel
theorem dX7_allBy_8 : decode cX7_allBy 8 = .ok (.aload_n 1, 1) := by decide +kernel
theorem dX7_allBy_9 : decode cX7_allBy 9 = .ok (.iconst 0, 1) := by decide +kernel
theorem dX7_allBy_10 : decode cX7_allBy 10 = .ok (.iaload, 1) := by decide +kernel
theorem dX7_allBy_11 : decode cX7_allBy 11 = .ok (.if_icmp .ge 38, 3) := by decide +kernel
theorem dX7_allBy_14 : decode cX7_allBy 14 = .ok (.aload_n 0, 1) := by decide +kernel
theorem dX7_allBy_15 : decode cX7_allBy 15 = .ok (.aload_n 1, 1) := by decide +kernel
theorem dX7_allBy_16 : decode cX7_allBy 16 = .ok (.iload 5, 2) := by decide +kernel
theorem dX7_allBy_18 : decode cX7_allBy 18 = .ok (.iload_n 2, 1) := by decide +kernel
theorem dX7_allBy_19 : decode cX7_allBy 19 = .ok (.iload_n 3, 1) := by decide +kernel
theorem dX7_allBy_20 : decode cX7_allBy 20 = .ok (.iconst (-1), 1) := by decide +kernel
theorem dX7_allBy_21 : decode cX7_allBy 21 = .ok (.invokevirtual 242, 3) := by decide +kernel
theorem dX7_allBy_24 : decode cX7_allBy 24 = .ok (.istore 6, 2) := by decide +kernel
theorem dX7_allBy_26 : decode cX7_allBy 26 = .ok (.iload 6, 2) := by decide +kernel
theorem dX7_allBy_28 : decode cX7_allBy 28 = .ok (.ldc 99, 2) := by decide +kernel
theorem dX7_allBy_30 : decode cX7_allBy 30 = .ok (.if_icmp .ne 6, 3) := by decide +kernel
theorem dX7_allBy_33 : decode cX7_allBy 33 = .ok (.ldc 99, 2) := by decide +kernel
theorem dX7_allBy_35 : decode cX7_allBy 35 = .ok (.ireturn, 1) := by decide +kernel
theorem dX7_allBy_36 : decode cX7_allBy 36 = .ok (.iload 4, 2) := by decide +kernel
theorem dX7_allBy_38 : decode cX7_allBy 38 = .ok (.iload 6, 2) := by decide +kernel
theorem dX7_allBy_40 : decode cX7_allBy 40 = .ok (.iadd, 1) := by decide +kernel
theorem dX7_allBy_41 : decode cX7_allBy 41 = .ok (.istore 4, 2) := by decide +kernel
theorem dX7_allBy_43 : decode cX7_allBy 43 = .ok (.iinc 5 1, 3) := by decide +kernel
theorem dX7_allBy_46 : decode cX7_allBy 46 = .ok (.goto (-40), 3) := by decide +kernel
theorem dX7_allBy_49 : decode cX7_allBy 49 = .ok (.iload 4, 2) := by decide +kernel
theorem dX7_allBy_51 : decode cX7_allBy 51 = .ok (.ireturn, 1) := by decide +kernel
theorem dX7_tailFrom_0 : decode cX7_tailFrom 0 = .ok (.ldc 99, 2) := by decide +kernel
theorem dX7_tailFrom_2 : decode cX7_tailFrom 2 = .ok (.istore_n 2, 1) := by decide +kernel
theorem dX7_tailFrom_3 : decode cX7_tailFrom 3 = .ok (.iconst 0, 1) := by decide +kernel
theorem dX7_tailFrom_4 : decode cX7_tailFrom 4 = .ok (.istore_n 3, 1) := by decide +kernel
theorem dX7_tailFrom_5 : decode cX7_tailFrom 5 = .ok (.iload_n 3, 1) := by decide +kernel
theorem dX7_tailFrom_6 : decode cX7_tailFrom 6 = .ok (.aload_n 0, 1) := by decide +kernel
theorem dX7_tailFrom_7 : decode cX7_tailFrom 7 = .ok (.iload_n 1, 1) := by decide +kernel
theorem dX7_tailFrom_8 : decode cX7_tailFrom 8 = .ok (.invokestatic 192, 3) := by decide +kernel
theorem dX7_tailFrom_11 : decode cX7_tailFrom 11 = .ok (.if_icmp .ge 25, 3) := by decide +kernel
theorem dX7_tailFrom_14 : decode cX7_tailFrom 14 = .ok (.aload_n 0, 1) := by decide +kernel
theorem dX7_tailFrom_15 : decode cX7_tailFrom 15 = .ok (.iload_n 1, 1) := by decide +kernel
theorem dX7_tailFrom_16 : decode cX7_tailFrom 16 = .ok (.iload_n 3, 1) := by decide +kernel
theorem dX7_tailFrom_17 : decode cX7_tailFrom 17 = .ok (.invokestatic 201, 3) := by decide +kernel
theorem dX7_tailFrom_20 : decode cX7_tailFrom 20 = .ok (.iconst 1, 1) := by decide +kernel
theorem dX7_tailFrom_21 : decode cX7_tailFrom 21 = .ok (.if_icmp .ne 7, 3) := by decide +kernel
theorem dX7_tailFrom_24 : decode cX7_tailFrom 24 = .ok (.iload_n 3, 1) := by decide +kernel
theorem dX7_tailFrom_25 : decode cX7_tailFrom 25 = .ok (.goto 4, 3) := by decide +kernel
theorem dX7_tailFrom_28 : decode cX7_tailFrom 28 = .ok (.iload_n 2, 1) := by decide +kernel
theorem dX7_tailFrom_29 : decode cX7_tailFrom 29 = .ok (.istore_n 2, 1) := by decide +kernel
theorem dX7_tailFrom_30 : decode cX7_tailFrom 30 = .ok (.iinc 3 1, 3) := by decide +kernel
theorem dX7_tailFrom_33 : decode cX7_tailFrom 33 = .ok (.goto (-28), 3) := by decide +kernel
theorem dX7_tailFrom_36 : decode cX7_tailFrom 36 = .ok (.iload_n 2, 1) := by decide +kernel
theorem dX7_tailFrom_37 : decode cX7_tailFrom 37 = .ok (.ldc 99, 2) := by decide +kernel
theorem dX7_tailFrom_39 : decode cX7_tailFrom 39 = .ok (.if_icmp .ne 13, 3) := by decide +kernel
theorem dX7_tailFrom_42 : decode cX7_tailFrom 42 = .ok (.aload_n 0, 1) := by decide +kernel
theorem dX7_tailFrom_43 : decode cX7_tailFrom 43 = .ok (.iload_n 1, 1) := by decide +kernel
theorem dX7_tailFrom_44 : decode cX7_tailFrom 44 = .ok (.invokestatic 192, 3) := by decide +kernel
theorem dX7_tailFrom_47 : decode cX7_tailFrom 47 = .ok (.iconst 1, 1) := by decide +kernel
theorem dX7_tailFrom_48 : decode cX7_tailFrom 48 = .ok (.isub, 1) := by decide +kernel
theorem dX7_tailFrom_49 : decode cX7_tailFrom 49 = .ok (.goto 4, 3) := by decide +kernel
theorem dX7_tailFrom_52 : decode cX7_tailFrom 52 = .ok (.iload_n 2, 1) := by decide +kernel
theorem dX7_tailFrom_53 : decode cX7_tailFrom 53 = .ok (.istore_n 2, 1) := by decide +kernel
theorem dX7_tailFrom_54 : decode cX7_tailFrom 54 = .ok (.iconst 0, 1) := by decide +kernel
theorem dX7_tailFrom_55 : decode cX7_tailFrom 55 = .ok (.istore_n 3, 1) := by decide +kernel
theorem dX7_tailFrom_56 : decode cX7_tailFrom 56 = .ok (.iconst 0, 1) := by decide +kernel
theorem dX7_tailFrom_57 : decode cX7_tailFrom 57 = .ok (.istore 4, 2) := by decide +kernel
theorem dX7_tailFrom_59 : decode cX7_tailFrom 59 = .ok (.iload 4, 2) := by decide +kernel
theorem dX7_tailFrom_61 : decode cX7_tailFrom 61 = .ok (.aload_n 0, 1) := by decide +kernel
theorem dX7_tailFrom_62 : decode cX7_tailFrom 62 = .ok (.iload_n 1, 1) := by decide +kernel
theorem dX7_tailFrom_63 : decode cX7_tailFrom 63 = .ok (.invokestatic 174, 3) := by decide +kernel
theorem dX7_tailFrom_66 : decode cX7_tailFrom 66 = .ok (.if_icmp .ge 30, 3) := by decide +kernel
theorem dX7_tailFrom_69 : decode cX7_tailFrom 69 = .ok (.aload_n 0, 1) := by decide +kernel
theorem dX7_tailFrom_70 : decode cX7_tailFrom 70 = .ok (.iload_n 1, 1) := by decide +kernel
theorem dX7_tailFrom_71 : decode cX7_tailFrom 71 = .ok (.iload 4, 2) := by decide +kernel
theorem dX7_tailFrom_73 : decode cX7_tailFrom 73 = .ok (.invokestatic 178, 3) := by decide +kernel
theorem dX7_tailFrom_76 : decode cX7_tailFrom 76 = .ok (.ifCond .eq 14, 3) := by decide +kernel
theorem dX7_tailFrom_79 : decode cX7_tailFrom 79 = .ok (.iload_n 3, 1) := by decide +kernel
theorem dX7_tailFrom_80 : decode cX7_tailFrom 80 = .ok (.iload_n 2, 1) := by decide +kernel
theorem dX7_tailFrom_81 : decode cX7_tailFrom 81 = .ok (.if_icmp .ne 6, 3) := by decide +kernel
theorem dX7_tailFrom_84 : decode cX7_tailFrom 84 = .ok (.iload 4, 2) := by decide +kernel
theorem dX7_tailFrom_86 : decode cX7_tailFrom 86 = .ok (.ireturn, 1) := by decide +kernel
theorem dX7_tailFrom_87 : decode cX7_tailFrom 87 = .ok (.iinc 3 1, 3) := by decide +kernel
theorem dX7_tailFrom_90 : decode cX7_tailFrom 90 = .ok (.iinc 4 1, 3) := by decide +kernel
theorem dX7_tailFrom_93 : decode cX7_tailFrom 93 = .ok (.goto (-34), 3) := by decide +kernel
theorem dX7_tailFrom_96 : decode cX7_tailFrom 96 = .ok (.ldc 99, 2) := by decide +kernel
theorem dX7_tailFrom_98 : decode cX7_tailFrom 98 = .ok (.ireturn, 1) := by decide +kernel
theorem dX7_tailSize_0 : decode cX7_tailSize 0 = .ok (.aload_n 0, 1) := by decide +kernel
theorem dX7_tailSize_1 : decode cX7_tailSize 1 = .ok (.iload_n 1, 1) := by decide +kernel
theorem dX7_tailSize_2 : decode cX7_tailSize 2 = .ok (.invokestatic 174, 3) := by decide +kernel
theorem dX7_tailSize_5 : decode cX7_tailSize 5 = .ok (.aload_n 0, 1) := by decide +kernel
theorem dX7_tailSize_6 : decode cX7_tailSize 6 = .ok (.iload_n 1, 1) := by decide +kernel
theorem dX7_tailSize_7 : decode cX7_tailSize 7 = .ok (.invokestatic 185, 3) := by decide +kernel
theorem dX7_tailSize_10 : decode cX7_tailSize 10 = .ok (.ifCond .eq 7, 3) := by decide +kernel
theorem dX7_tailSize_13 : decode cX7_tailSize 13 = .ok (.iconst 1, 1) := by decide +kernel
theorem dX7_tailSize_14 : decode cX7_tailSize 14 = .ok (.goto 4, 3) := by decide +kernel
theorem dX7_tailSize_17 : decode cX7_tailSize 17 = .ok (.iconst 0, 1) := by decide +kernel
theorem dX7_tailSize_18 : decode cX7_tailSize 18 = .ok (.isub, 1) := by decide +kernel
theorem dX7_tailSize_19 : decode cX7_tailSize 19 = .ok (.aload_n 0, 1) := by decide +kernel
theorem dX7_tailSize_20 : decode cX7_tailSize 20 = .ok (.iload_n 1, 1) := by decide +kernel
theorem dX7_tailSize_21 : decode cX7_tailSize 21 = .ok (.invokestatic 246, 3) := by decide +kernel
theorem dX7_tailSize_24 : decode cX7_tailSize 24 = .ok (.isub, 1) := by decide +kernel
theorem dX7_tailSize_25 : decode cX7_tailSize 25 = .ok (.ireturn, 1) := by decide +kernel
theorem dX7_areAlike_0 : decode cX7_areAlike 0 = .ok (.aload_n 0, 1) := by decide +kernel
theorem dX7_areAlike_1 : decode cX7_areAlike 1 = .ok (.iload_n 1, 1) := by decide +kernel
theorem dX7_areAlike_2 : decode cX7_areAlike 2 = .ok (.invokestatic 249, 3) := by decide +kernel
theorem dX7_areAlike_5 : decode cX7_areAlike 5 = .ok (.istore_n 3, 1) := by decide +kernel
theorem dX7_areAlike_6 : decode cX7_areAlike 6 = .ok (.iload_n 3, 1) := by decide +kernel
theorem dX7_areAlike_7 : decode cX7_areAlike 7 = .ok (.aload_n 0, 1) := by decide +kernel
theorem dX7_areAlike_8 : decode cX7_areAlike 8 = .ok (.iload_n 2, 1) := by decide +kernel
theorem dX7_areAlike_9 : decode cX7_areAlike 9 = .ok (.invokestatic 249, 3) := by decide +kernel
theorem dX7_areAlike_12 : decode cX7_areAlike 12 = .ok (.if_icmp .ne 7, 3) := by decide +kernel
theorem dX7_areAlike_15 : decode cX7_areAlike 15 = .ok (.iconst 1, 1) := by decide +kernel
theorem dX7_areAlike_16 : decode cX7_areAlike 16 = .ok (.goto 4, 3) := by decide +kernel
theorem dX7_areAlike_19 : decode cX7_areAlike 19 = .ok (.iconst 0, 1) := by decide +kernel
theorem dX7_areAlike_20 : decode cX7_areAlike 20 = .ok (.istore 4, 2) := by decide +kernel
theorem dX7_areAlike_22 : decode cX7_areAlike 22 = .ok (.iconst 0, 1) := by decide +kernel
theorem dX7_areAlike_23 : decode cX7_areAlike 23 = .ok (.istore 5, 2) := by decide +kernel
theorem dX7_areAlike_25 : decode cX7_areAlike 25 = .ok (.iload 5, 2) := by decide +kernel
theorem dX7_areAlike_27 : decode cX7_areAlike 27 = .ok (.iload_n 3, 1) := by decide +kernel
theorem dX7_areAlike_28 : decode cX7_areAlike 28 = .ok (.if_icmp .ge 50, 3) := by decide +kernel
theorem dX7_areAlike_31 : decode cX7_areAlike 31 = .ok (.iload 4, 2) := by decide +kernel
theorem dX7_areAlike_33 : decode cX7_areAlike 33 = .ok (.ifCond .eq 45, 3) := by decide +kernel
theorem dX7_areAlike_36 : decode cX7_areAlike 36 = .ok (.aload_n 0, 1) := by decide +kernel
theorem dX7_areAlike_37 : decode cX7_areAlike 37 = .ok (.iload_n 1, 1) := by decide +kernel
theorem dX7_areAlike_38 : decode cX7_areAlike 38 = .ok (.aload_n 0, 1) := by decide +kernel
theorem dX7_areAlike_39 : decode cX7_areAlike 39 = .ok (.iload_n 1, 1) := by decide +kernel
theorem dX7_areAlike_40 : decode cX7_areAlike 40 = .ok (.invokestatic 246, 3) := by decide +kernel
theorem dX7_areAlike_43 : decode cX7_areAlike 43 = .ok (.iload 5, 2) := by decide +kernel
theorem dX7_areAlike_45 : decode cX7_areAlike 45 = .ok (.iadd, 1) := by decide +kernel
theorem dX7_areAlike_46 : decode cX7_areAlike 46 = .ok (.invokestatic 170, 3) := by decide +kernel
theorem dX7_areAlike_49 : decode cX7_areAlike 49 = .ok (.aload_n 0, 1) := by decide +kernel
theorem dX7_areAlike_50 : decode cX7_areAlike 50 = .ok (.iload_n 2, 1) := by decide +kernel
theorem dX7_areAlike_51 : decode cX7_areAlike 51 = .ok (.aload_n 0, 1) := by decide +kernel
theorem dX7_areAlike_52 : decode cX7_areAlike 52 = .ok (.iload_n 2, 1) := by decide +kernel
theorem dX7_areAlike_53 : decode cX7_areAlike 53 = .ok (.invokestatic 246, 3) := by decide +kernel
theorem dX7_areAlike_56 : decode cX7_areAlike 56 = .ok (.iload 5, 2) := by decide +kernel
theorem dX7_areAlike_58 : decode cX7_areAlike 58 = .ok (.iadd, 1) := by decide +kernel
theorem dX7_areAlike_59 : decode cX7_areAlike 59 = .ok (.invokestatic 170, 3) := by decide +kernel
theorem dX7_areAlike_62 : decode cX7_areAlike 62 = .ok (.if_icmp .ne 7, 3) := by decide +kernel
theorem dX7_areAlike_65 : decode cX7_areAlike 65 = .ok (.iconst 1, 1) := by decide +kernel
theorem dX7_areAlike_66 : decode cX7_areAlike 66 = .ok (.goto 4, 3) := by decide +kernel
theorem dX7_areAlike_69 : decode cX7_areAlike 69 = .ok (.iconst 0, 1) := by decide +kernel
theorem dX7_areAlike_70 : decode cX7_areAlike 70 = .ok (.istore 4, 2) := by decide +kernel
theorem dX7_areAlike_72 : decode cX7_areAlike 72 = .ok (.iinc 5 1, 3) := by decide +kernel
theorem dX7_areAlike_75 : decode cX7_areAlike 75 = .ok (.goto (-50), 3) := by decide +kernel
theorem dX7_areAlike_78 : decode cX7_areAlike 78 = .ok (.iload 4, 2) := by decide +kernel
theorem dX7_areAlike_80 : decode cX7_areAlike 80 = .ok (.ireturn, 1) := by decide +kernel
theorem dX7_endOf_0 : decode cX7_endOf 0 = .ok (.aload_n 0, 1) := by decide +kernel
theorem dX7_endOf_1 : decode cX7_endOf 1 = .ok (.iload_n 1, 1) := by decide +kernel
theorem dX7_endOf_2 : decode cX7_endOf 2 = .ok (.iconst 1, 1) := by decide +kernel
theorem dX7_endOf_3 : decode cX7_endOf 3 = .ok (.iadd, 1) := by decide +kernel
theorem dX7_endOf_4 : decode cX7_endOf 4 = .ok (.invokestatic 198, 3) := by decide +kernel
theorem dX7_endOf_7 : decode cX7_endOf 7 = .ok (.iconst 1, 1) := by decide +kernel
theorem dX7_endOf_8 : decode cX7_endOf 8 = .ok (.isub, 1) := by decide +kernel
theorem dX7_endOf_9 : decode cX7_endOf 9 = .ok (.ireturn, 1) := by decide +kernel
theorem dX7_layScheme_0 : decode cX7_layScheme 0 = .ok (.iconst 0, 1) := by decide +kernel
theorem dX7_layScheme_1 : decode cX7_layScheme 1 = .ok (.istore_n 1, 1) := by decide +kernel
theorem dX7_layScheme_2 : decode cX7_layScheme 2 = .ok (.iconst 0, 1) := by decide +kernel
theorem dX7_layScheme_3 : decode cX7_layScheme 3 = .ok (.istore_n 2, 1) := by decide +kernel
theorem dX7_layScheme_4 : decode cX7_layScheme 4 = .ok (.iload_n 2, 1) := by decide +kernel
theorem dX7_layScheme_5 : decode cX7_layScheme 5 = .ok (.aload_n 0, 1) := by decide +kernel
theorem dX7_layScheme_6 : decode cX7_layScheme 6 = .ok (.getfield 19, 3) := by decide +kernel
theorem dX7_layScheme_9 : decode cX7_layScheme 9 = .ok (.iconst 0, 1) := by decide +kernel
theorem dX7_layScheme_10 : decode cX7_layScheme 10 = .ok (.iaload, 1) := by decide +kernel
theorem dX7_layScheme_11 : decode cX7_layScheme 11 = .ok (.if_icmp .ge 95, 3) := by decide +kernel
theorem dX7_layScheme_14 : decode cX7_layScheme 14 = .ok (.aload_n 0, 1) := by decide +kernel
theorem dX7_layScheme_15 : decode cX7_layScheme 15 = .ok (.getfield 43, 3) := by decide +kernel
theorem dX7_layScheme_18 : decode cX7_layScheme 18 = .ok (.iload_n 2, 1) := by decide +kernel
theorem dX7_layScheme_19 : decode cX7_layScheme 19 = .ok (.iload_n 1, 1) := by decide +kernel
theorem dX7_layScheme_20 : decode cX7_layScheme 20 = .ok (.iastore, 1) := by decide +kernel
theorem dX7_layScheme_21 : decode cX7_layScheme 21 = .ok (.iload_n 2, 1) := by decide +kernel
theorem dX7_layScheme_22 : decode cX7_layScheme 22 = .ok (.iconst 1, 1) := by decide +kernel
theorem dX7_layScheme_23 : decode cX7_layScheme 23 = .ok (.isub, 1) := by decide +kernel
theorem dX7_layScheme_24 : decode cX7_layScheme 24 = .ok (.istore_n 3, 1) := by decide +kernel
theorem dX7_layScheme_25 : decode cX7_layScheme 25 = .ok (.iload_n 3, 1) := by decide +kernel
theorem dX7_layScheme_26 : decode cX7_layScheme 26 = .ok (.ifCond .lt 56, 3) := by decide +kernel
theorem dX7_layScheme_29 : decode cX7_layScheme 29 = .ok (.aload_n 0, 1) := by decide +kernel
theorem dX7_layScheme_30 : decode cX7_layScheme 30 = .ok (.getfield 43, 3) := by decide +kernel
theorem dX7_layScheme_33 : decode cX7_layScheme 33 = .ok (.iload_n 2, 1) := by decide +kernel
theorem dX7_layScheme_34 : decode cX7_layScheme 34 = .ok (.aload_n 0, 1) := by decide +kernel
theorem dX7_layScheme_35 : decode cX7_layScheme 35 = .ok (.getfield 19, 3) := by decide +kernel
theorem dX7_layScheme_38 : decode cX7_layScheme 38 = .ok (.aload_n 0, 1) := by decide +kernel
theorem dX7_layScheme_39 : decode cX7_layScheme 39 = .ok (.getfield 19, 3) := by decide +kernel
theorem dX7_layScheme_42 : decode cX7_layScheme 42 = .ok (.iload_n 2, 1) := by decide +kernel
theorem dX7_layScheme_43 : decode cX7_layScheme 43 = .ok (.invokestatic 252, 3) := by decide +kernel
theorem dX7_layScheme_46 : decode cX7_layScheme 46 = .ok (.aload_n 0, 1) := by decide +kernel
theorem dX7_layScheme_47 : decode cX7_layScheme 47 = .ok (.getfield 19, 3) := by decide +kernel
theorem dX7_layScheme_50 : decode cX7_layScheme 50 = .ok (.iload_n 3, 1) := by decide +kernel
theorem dX7_layScheme_51 : decode cX7_layScheme 51 = .ok (.invokestatic 252, 3) := by decide +kernel
theorem dX7_layScheme_54 : decode cX7_layScheme 54 = .ok (.invokestatic 255, 3) := by decide +kernel
theorem dX7_layScheme_57 : decode cX7_layScheme 57 = .ok (.ifCond .eq 12, 3) := by decide +kernel
theorem dX7_layScheme_60 : decode cX7_layScheme 60 = .ok (.aload_n 0, 1) := by decide +kernel
theorem dX7_layScheme_61 : decode cX7_layScheme 61 = .ok (.getfield 43, 3) := by decide +kernel
theorem dX7_layScheme_64 : decode cX7_layScheme 64 = .ok (.iload_n 3, 1) := by decide +kernel
theorem dX7_layScheme_65 : decode cX7_layScheme 65 = .ok (.iaload, 1) := by decide +kernel
theorem dX7_layScheme_66 : decode cX7_layScheme 66 = .ok (.goto 9, 3) := by decide +kernel
theorem dX7_layScheme_69 : decode cX7_layScheme 69 = .ok (.aload_n 0, 1) := by decide +kernel
theorem dX7_layScheme_70 : decode cX7_layScheme 70 = .ok (.getfield 43, 3) := by decide +kernel
theorem dX7_layScheme_73 : decode cX7_layScheme 73 = .ok (.iload_n 2, 1) := by decide +kernel
theorem dX7_layScheme_74 : decode cX7_layScheme 74 = .ok (.iaload, 1) := by decide +kernel
theorem dX7_layScheme_75 : decode cX7_layScheme 75 = .ok (.iastore, 1) := by decide +kernel
theorem dX7_layScheme_76 : decode cX7_layScheme 76 = .ok (.iinc 3 (-1), 3) := by decide +kernel
theorem dX7_layScheme_79 : decode cX7_layScheme 79 = .ok (.goto (-54), 3) := by decide +kernel
theorem dX7_layScheme_82 : decode cX7_layScheme 82 = .ok (.iload_n 1, 1) := by decide +kernel
theorem dX7_layScheme_83 : decode cX7_layScheme 83 = .ok (.aload_n 0, 1) := by decide +kernel
theorem dX7_layScheme_84 : decode cX7_layScheme 84 = .ok (.getfield 43, 3) := by decide +kernel
theorem dX7_layScheme_87 : decode cX7_layScheme 87 = .ok (.iload_n 2, 1) := by decide +kernel
theorem dX7_layScheme_88 : decode cX7_layScheme 88 = .ok (.iaload, 1) := by decide +kernel
theorem dX7_layScheme_89 : decode cX7_layScheme 89 = .ok (.iload_n 1, 1) := by decide +kernel
theorem dX7_layScheme_90 : decode cX7_layScheme 90 = .ok (.if_icmp .ne 7, 3) := by decide +kernel
theorem dX7_layScheme_93 : decode cX7_layScheme 93 = .ok (.iconst 1, 1) := by decide +kernel
theorem dX7_layScheme_94 : decode cX7_layScheme 94 = .ok (.goto 4, 3) := by decide +kernel
theorem dX7_layScheme_97 : decode cX7_layScheme 97 = .ok (.iconst 0, 1) := by decide +kernel
theorem dX7_layScheme_98 : decode cX7_layScheme 98 = .ok (.iadd, 1) := by decide +kernel
theorem dX7_layScheme_99 : decode cX7_layScheme 99 = .ok (.istore_n 1, 1) := by decide +kernel
theorem dX7_layScheme_100 : decode cX7_layScheme 100 = .ok (.iinc 2 1, 3) := by decide +kernel
theorem dX7_layScheme_103 : decode cX7_layScheme 103 = .ok (.goto (-99), 3) := by decide +kernel
theorem dX7_layScheme_106 : decode cX7_layScheme 106 = .ok (.iload_n 1, 1) := by decide +kernel
theorem dX7_layScheme_107 : decode cX7_layScheme 107 = .ok (.ireturn, 1) := by decide +kernel
theorem dX7_nameOf_0 : decode cX7_nameOf 0 = .ok (.aload_n 0, 1) := by decide +kernel
theorem dX7_nameOf_1 : decode cX7_nameOf 1 = .ok (.invokevirtual 258, 3) := by decide +kernel
theorem dX7_nameOf_4 : decode cX7_nameOf 4 = .ok (.istore_n 1, 1) := by decide +kernel
theorem dX7_nameOf_5 : decode cX7_nameOf 5 = .ok (.bipush 100, 2) := by decide +kernel
theorem dX7_nameOf_7 : decode cX7_nameOf 7 = .ok (.aload_n 0, 1) := by decide +kernel
theorem dX7_nameOf_8 : decode cX7_nameOf 8 = .ok (.getfield 43, 3) := by decide +kernel
theorem dX7_nameOf_11 : decode cX7_nameOf 11 = .ok (.iconst 1, 1) := by decide +kernel
