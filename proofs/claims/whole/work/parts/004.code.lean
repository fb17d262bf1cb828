theorem dX0_init_0 : decode cX0_init 0 = .ok (.aload_n 0, 1) := by decide +kernel
theorem dX0_init_1 : decode cX0_init 1 = .ok (.invokespecial 3, 3) := by decide +kernel
theorem dX0_init_4 : decode cX0_init 4 = .ok (.aload_n 0, 1) := by decide +kernel
theorem dX0_init_5 : decode cX0_init 5 = .ok (.bipush 24, 2) := by decide +kernel
theorem dX0_init_7 : decode cX0_init 7 = .ok (.newarray .int, 2) := by decide +kernel
theorem dX0_init_9 : decode cX0_init 9 = .ok (.putfield 9, 3) := by decide +kernel
theorem dX0_init_12 : decode cX0_init 12 = .ok (.aload_n 0, 1) := by decide +kernel
theorem dX0_init_13 : decode cX0_init 13 = .ok (.bipush 24, 2) := by decide +kernel
theorem dX0_init_15 : decode cX0_init 15 = .ok (.newarray .int, 2) := by decide +kernel
theorem dX0_init_17 : decode cX0_init 17 = .ok (.putfield 15, 3) := by decide +kernel
theorem dX0_init_20 : decode cX0_init 20 = .ok (.aload_n 0, 1) := by decide +kernel
theorem dX0_init_21 : decode cX0_init 21 = .ok (.bipush 24, 2) := by decide +kernel
theorem dX0_init_23 : decode cX0_init 23 = .ok (.newarray .int, 2) := by decide +kernel
theorem dX0_init_25 : decode cX0_init 25 = .ok (.putfield 18, 3) := by decide +kernel
theorem dX0_init_28 : decode cX0_init 28 = .ok (.aload_n 0, 1) := by decide +kernel
theorem dX0_init_29 : decode cX0_init 29 = .ok (.bipush 24, 2) := by decide +kernel
theorem dX0_init_31 : decode cX0_init 31 = .ok (.newarray .int, 2) := by decide +kernel
theorem dX0_init_33 : decode cX0_init 33 = .ok (.putfield 21, 3) := by decide +kernel
theorem dX0_init_36 : decode cX0_init 36 = .ok (.aload_n 0, 1) := by decide +kernel
theorem dX0_init_37 : decode cX0_init 37 = .ok (.bipush 24, 2) := by decide +kernel
theorem dX0_init_39 : decode cX0_init 39 = .ok (.anewarray 24, 3) := by decide +kernel
theorem dX0_init_42 : decode cX0_init 42 = .ok (.putfield 26, 3) := by decide +kernel
theorem dX0_init_45 : decode cX0_init 45 = .ok (.iconst 0, 1) := by decide +kernel
theorem dX0_init_46 : decode cX0_init 46 = .ok (.istore_n 2, 1) := by decide +kernel
theorem dX0_init_47 : decode cX0_init 47 = .ok (.iload_n 2, 1) := by decide +kernel
theorem dX0_init_48 : decode cX0_init 48 = .ok (.bipush 24, 2) := by decide +kernel
theorem dX0_init_50 : decode cX0_init 50 = .ok (.if_icmp .ge 16, 3) := by decide +kernel
theorem dX0_init_53 : decode cX0_init 53 = .ok (.aload_n 0, 1) := by decide +kernel
theorem dX0_init_54 : decode cX0_init 54 = .ok (.getfield 26, 3) := by decide +kernel
theorem dX0_init_57 : decode cX0_init 57 = .ok (.iload_n 2, 1) := by decide +kernel
theorem dX0_init_58 : decode cX0_init 58 = .ok (.aload_n 1, 1) := by decide +kernel
theorem dX0_init_59 : decode cX0_init 59 = .ok (.aastore, 1) := by decide +kernel
theorem dX0_init_60 : decode cX0_init 60 = .ok (.iinc 2 1, 3) := by decide +kernel
theorem dX0_init_63 : decode cX0_init 63 = .ok (.goto (-16), 3) := by decide +kernel
theorem dX0_init_66 : decode cX0_init 66 = .ok (.return_, 1) := by decide +kernel
theorem dX0_keep_0 : decode cX0_keep 0 = .ok (.aload_n 0, 1) := by decide +kernel
theorem dX0_keep_1 : decode cX0_keep 1 = .ok (.getfield 9, 3) := by decide +kernel
theorem dX0_keep_4 : decode cX0_keep 4 = .ok (.aload_n 0, 1) := by decide +kernel
theorem dX0_keep_5 : decode cX0_keep 5 = .ok (.getfield 30, 3) := by decide +kernel
theorem dX0_keep_8 : decode cX0_keep 8 = .ok (.iload_n 1, 1) := by decide +kernel
theorem dX0_keep_9 : decode cX0_keep 9 = .ok (.iastore, 1) := by decide +kernel
theorem dX0_keep_10 : decode cX0_keep 10 = .ok (.aload_n 0, 1) := by decide +kernel
theorem dX0_keep_11 : decode cX0_keep 11 = .ok (.getfield 15, 3) := by decide +kernel
theorem dX0_keep_14 : decode cX0_keep 14 = .ok (.aload_n 0, 1) := by decide +kernel
theorem dX0_keep_15 : decode cX0_keep 15 = .ok (.getfield 30, 3) := by decide +kernel
theorem dX0_keep_18 : decode cX0_keep 18 = .ok (.iload_n 2, 1) := by decide +kernel
theorem dX0_keep_19 : decode cX0_keep 19 = .ok (.iastore, 1) := by decide +kernel
theorem dX0_keep_20 : decode cX0_keep 20 = .ok (.aload_n 0, 1) := by decide +kernel
theorem dX0_keep_21 : decode cX0_keep 21 = .ok (.getfield 18, 3) := by decide +kernel
theorem dX0_keep_24 : decode cX0_keep 24 = .ok (.aload_n 0, 1) := by decide +kernel
theorem dX0_keep_25 : decode cX0_keep 25 = .ok (.getfield 30, 3) := by decide +kernel
theorem dX0_keep_28 : decode cX0_keep 28 = .ok (.iload_n 3, 1) := by decide +kernel
theorem dX0_keep_29 : decode cX0_keep 29 = .ok (.iastore, 1) := by decide +kernel
theorem dX0_keep_30 : decode cX0_keep 30 = .ok (.aload_n 0, 1) := by decide +kernel
theorem dX0_keep_31 : decode cX0_keep 31 = .ok (.aload_n 0, 1) := by decide +kernel
theorem dX0_keep_32 : decode cX0_keep 32 = .ok (.getfield 30, 3) := by decide +kernel
theorem dX0_keep_35 : decode cX0_keep 35 = .ok (.iconst 1, 1) := by decide +kernel
theorem dX0_keep_36 : decode cX0_keep 36 = .ok (.iadd, 1) := by decide +kernel
theorem dX0_keep_37 : decode cX0_keep 37 = .ok (.bipush 24, 2) := by decide +kernel
theorem dX0_keep_39 : decode cX0_keep 39 = .ok (.if_icmp .ge 12, 3) := by decide +kernel
theorem dX0_keep_42 : decode cX0_keep 42 = .ok (.aload_n 0, 1) := by decide +kernel
theorem dX0_keep_43 : decode cX0_keep 43 = .ok (.getfield 30, 3) := by decide +kernel
theorem dX0_keep_46 : decode cX0_keep 46 = .ok (.iconst 1, 1) := by decide +kernel
theorem dX0_keep_47 : decode cX0_keep 47 = .ok (.iadd, 1) := by decide +kernel
theorem dX0_keep_48 : decode cX0_keep 48 = .ok (.goto 4, 3) := by decide +kernel
theorem dX0_keep_51 : decode cX0_keep 51 = .ok (.iconst 0, 1) := by decide +kernel
theorem dX0_keep_52 : decode cX0_keep 52 = .ok (.putfield 30, 3) := by decide +kernel
theorem dX0_keep_55 : decode cX0_keep 55 = .ok (.aload_n 0, 1) := by decide +kernel
theorem dX0_keep_56 : decode cX0_keep 56 = .ok (.aload_n 0, 1) := by decide +kernel
theorem dX0_keep_57 : decode cX0_keep 57 = .ok (.getfield 34, 3) := by decide +kernel
theorem dX0_keep_60 : decode cX0_keep 60 = .ok (.iconst 1, 1) := by decide +kernel
theorem dX0_keep_61 : decode cX0_keep 61 = .ok (.iadd, 1) := by decide +kernel
theorem dX0_keep_62 : decode cX0_keep 62 = .ok (.bipush 24, 2) := by decide +kernel
theorem dX0_keep_64 : decode cX0_keep 64 = .ok (.invokestatic 37, 3) := by decide +kernel
theorem dX0_keep_67 : decode cX0_keep 67 = .ok (.putfield 34, 3) := by decide +kernel
theorem dX0_keep_70 : decode cX0_keep 70 = .ok (.return_, 1) := by decide +kernel
theorem dX0_keepTaken_0 : decode cX0_keepTaken 0 = .ok (.aload_n 0, 1) := by decide +kernel
theorem dX0_keepTaken_1 : decode cX0_keepTaken 1 = .ok (.getfield 21, 3) := by decide +kernel
theorem dX0_keepTaken_4 : decode cX0_keepTaken 4 = .ok (.aload_n 0, 1) := by decide +kernel
theorem dX0_keepTaken_5 : decode cX0_keepTaken 5 = .ok (.getfield 30, 3) := by decide +kernel
theorem dX0_keepTaken_8 : decode cX0_keepTaken 8 = .ok (.iload_n 3, 1) := by decide +kernel
theorem dX0_keepTaken_9 : decode cX0_keepTaken 9 = .ok (.iastore, 1) := by decide +kernel
theorem dX0_keepTaken_10 : decode cX0_keepTaken 10 = .ok (.aload_n 0, 1) := by decide +kernel
theorem dX0_keepTaken_11 : decode cX0_keepTaken 11 = .ok (.getfield 26, 3) := by decide +kernel
theorem dX0_keepTaken_14 : decode cX0_keepTaken 14 = .ok (.aload_n 0, 1) := by decide +kernel
theorem dX0_keepTaken_15 : decode cX0_keepTaken 15 = .ok (.getfield 30, 3) := by decide +kernel
theorem dX0_keepTaken_18 : decode cX0_keepTaken 18 = .ok (.aload 4, 2) := by decide +kernel
theorem dX0_keepTaken_20 : decode cX0_keepTaken 20 = .ok (.aastore, 1) := by decide +kernel
theorem dX0_keepTaken_21 : decode cX0_keepTaken 21 = .ok (.aload_n 0, 1) := by decide +kernel
theorem dX0_keepTaken_22 : decode cX0_keepTaken 22 = .ok (.iconst 2, 1) := by decide +kernel
theorem dX0_keepTaken_23 : decode cX0_keepTaken 23 = .ok (.iload_n 1, 1) := by decide +kernel
theorem dX0_keepTaken_24 : decode cX0_keepTaken 24 = .ok (.iload_n 2, 1) := by decide +kernel
theorem dX0_keepTaken_25 : decode cX0_keepTaken 25 = .ok (.invokevirtual 43, 3) := by decide +kernel
theorem dX0_keepTaken_28 : decode cX0_keepTaken 28 = .ok (.return_, 1) := by decide +kernel
theorem dX0_undoLatest_0 : decode cX0_undoLatest 0 = .ok (.aload_n 0, 1) := by decide +kernel
theorem dX0_undoLatest_1 : decode cX0_undoLatest 1 = .ok (.aload_n 0, 1) := by decide +kernel
theorem dX0_undoLatest_2 : decode cX0_undoLatest 2 = .ok (.getfield 30, 3) := by decide +kernel
theorem dX0_undoLatest_5 : decode cX0_undoLatest 5 = .ok (.ifCond .le 12, 3) := by decide +kernel
theorem dX0_undoLatest_8 : decode cX0_undoLatest 8 = .ok (.aload_n 0, 1) := by decide +kernel
theorem dX0_undoLatest_9 : decode cX0_undoLatest 9 = .ok (.getfield 30, 3) := by decide +kernel
theorem dX0_undoLatest_12 : decode cX0_undoLatest 12 = .ok (.iconst 1, 1) := by decide +kernel
theorem dX0_undoLatest_13 : decode cX0_undoLatest 13 = .ok (.isub, 1) := by decide +kernel
theorem dX0_undoLatest_14 : decode cX0_undoLatest 14 = .ok (.goto 5, 3) := by decide +kernel
theorem dX0_undoLatest_17 : decode cX0_undoLatest 17 = .ok (.bipush 23, 2) := by decide +kernel
theorem dX0_undoLatest_19 : decode cX0_undoLatest 19 = .ok (.putfield 30, 3) := by decide +kernel
theorem dX0_undoLatest_22 : decode cX0_undoLatest 22 = .ok (.aload_n 0, 1) := by decide +kernel
theorem dX0_undoLatest_23 : decode cX0_undoLatest 23 = .ok (.dup, 1) := by decide +kernel
theorem dX0_undoLatest_24 : decode cX0_undoLatest 24 = .ok (.getfield 34, 3) := by decide +kernel
theorem dX0_undoLatest_27 : decode cX0_undoLatest 27 = .ok (.iconst 1, 1) := by decide +kernel
theorem dX0_undoLatest_28 : decode cX0_undoLatest 28 = .ok (.isub, 1) := by decide +kernel
theorem dX0_undoLatest_29 : decode cX0_undoLatest 29 = .ok (.putfield 34, 3) := by decide +kernel
theorem dX0_undoLatest_32 : decode cX0_undoLatest 32 = .ok (.aload_n 0, 1) := by decide +kernel
theorem dX0_undoLatest_33 : decode cX0_undoLatest 33 = .ok (.getfield 15, 3) := by decide +kernel
theorem dX0_undoLatest_36 : decode cX0_undoLatest 36 = .ok (.aload_n 0, 1) := by decide +kernel
theorem dX0_undoLatest_37 : decode cX0_undoLatest 37 = .ok (.getfield 30, 3) := by decide +kernel
theorem dX0_undoLatest_40 : decode cX0_undoLatest 40 = .ok (.iaload, 1) := by decide +kernel
theorem dX0_undoLatest_41 : decode cX0_undoLatest 41 = .ok (.istore_n 2, 1) := by decide +kernel
theorem dX0_undoLatest_42 : decode cX0_undoLatest 42 = .ok (.aload_n 0, 1) := by decide +kernel
theorem dX0_undoLatest_43 : decode cX0_undoLatest 43 = .ok (.getfield 18, 3) := by decide +kernel
theorem dX0_undoLatest_46 : decode cX0_undoLatest 46 = .ok (.aload_n 0, 1) := by decide +kernel
theorem dX0_undoLatest_47 : decode cX0_undoLatest 47 = .ok (.getfield 30, 3) := by decide +kernel
theorem dX0_undoLatest_50 : decode cX0_undoLatest 50 = .ok (.iaload, 1) := by decide +kernel
theorem dX0_undoLatest_51 : decode cX0_undoLatest 51 = .ok (.istore_n 3, 1) := by decide +kernel
theorem dX0_undoLatest_52 : decode cX0_undoLatest 52 = .ok (.aload_n 0, 1) := by decide +kernel
theorem dX0_undoLatest_53 : decode cX0_undoLatest 53 = .ok (.getfield 9, 3) := by decide +kernel
theorem dX0_undoLatest_56 : decode cX0_undoLatest 56 = .ok (.aload_n 0, 1) := by decide +kernel
theorem dX0_undoLatest_57 : decode cX0_undoLatest 57 = .ok (.getfield 30, 3) := by decide +kernel
theorem dX0_undoLatest_60 : decode cX0_undoLatest 60 = .ok (.iaload, 1) := by decide +kernel
theorem dX0_undoLatest_61 : decode cX0_undoLatest 61 = .ok (.tableswitch 94 0 3 #[31, 49, 58, 85], 31) := by decide +kernel
theorem dX0_undoLatest_92 : decode cX0_undoLatest 92 = .ok (.aload_n 1, 1) := by decide +kernel
theorem dX0_undoLatest_93 : decode cX0_undoLatest 93 = .ok (.iload_n 2, 1) := by decide +kernel
theorem dX0_undoLatest_94 : decode cX0_undoLatest 94 = .ok (.invokevirtual 47, 3) := by decide +kernel
theorem dX0_undoLatest_97 : decode cX0_undoLatest 97 = .ok (.ifCond .eq 68, 3) := by decide +kernel
theorem dX0_undoLatest_100 : decode cX0_undoLatest 100 = .ok (.aload_n 1, 1) := by decide +kernel
theorem dX0_undoLatest_101 : decode cX0_undoLatest 101 = .ok (.getfield 53, 3) := by decide +kernel
theorem dX0_undoLatest_104 : decode cX0_undoLatest 104 = .ok (.iload_n 2, 1) := by decide +kernel
theorem dX0_undoLatest_105 : decode cX0_undoLatest 105 = .ok (.iload_n 3, 1) := by decide +kernel
theorem dX0_undoLatest_106 : decode cX0_undoLatest 106 = .ok (.iastore, 1) := by decide +kernel
theorem dX0_undoLatest_107 : decode cX0_undoLatest 107 = .ok (.goto 58, 3) := by decide +kernel
theorem dX0_undoLatest_110 : decode cX0_undoLatest 110 = .ok (.aload_n 1, 1) := by decide +kernel
theorem dX0_undoLatest_111 : decode cX0_undoLatest 111 = .ok (.iload_n 3, 1) := by decide +kernel
theorem dX0_undoLatest_112 : decode cX0_undoLatest 112 = .ok (.iload_n 2, 1) := by decide +kernel
theorem dX0_undoLatest_113 : decode cX0_undoLatest 113 = .ok (.invokevirtual 56, 3) := by decide +kernel
theorem dX0_undoLatest_116 : decode cX0_undoLatest 116 = .ok (.goto 49, 3) := by decide +kernel
theorem dX0_undoLatest_119 : decode cX0_undoLatest 119 = .ok (.aload_n 1, 1) := by decide +kernel
theorem dX0_undoLatest_120 : decode cX0_undoLatest 120 = .ok (.iload_n 3, 1) := by decide +kernel
theorem dX0_undoLatest_121 : decode cX0_undoLatest 121 = .ok (.iload_n 2, 1) := by decide +kernel
theorem dX0_undoLatest_122 : decode cX0_undoLatest 122 = .ok (.aload_n 0, 1) := by decide +kernel
theorem dX0_undoLatest_123 : decode cX0_undoLatest 123 = .ok (.getfield 26, 3) := by decide +kernel
theorem dX0_undoLatest_126 : decode cX0_undoLatest 126 = .ok (.aload_n 0, 1) := by decide +kernel
theorem dX0_undoLatest_127 : decode cX0_undoLatest 127 = .ok (.getfield 30, 3) := by decide +kernel
theorem dX0_undoLatest_130 : decode cX0_undoLatest 130 = .ok (.aaload, 1) := by decide +kernel
theorem dX0_undoLatest_131 : decode cX0_undoLatest 131 = .ok (.aload_n 0, 1) := by decide +kernel
theorem dX0_undoLatest_132 : decode cX0_undoLatest 132 = .ok (.getfield 21, 3) := by decide +kernel
theorem dX0_undoLatest_135 : decode cX0_undoLatest 135 = .ok (.aload_n 0, 1) := by decide +kernel
theorem dX0_undoLatest_136 : decode cX0_undoLatest 136 = .ok (.getfield 30, 3) := by decide +kernel
theorem dX0_undoLatest_139 : decode cX0_undoLatest 139 = .ok (.iaload, 1) := by decide +kernel
theorem dX0_undoLatest_140 : decode cX0_undoLatest 140 = .ok (.invokevirtual 60, 3) := by decide +kernel
theorem dX0_undoLatest_143 : decode cX0_undoLatest 143 = .ok (.goto 22, 3) := by decide +kernel
theorem dX0_undoLatest_146 : decode cX0_undoLatest 146 = .ok (.aload_n 1, 1) := by decide +kernel
theorem dX0_undoLatest_147 : decode cX0_undoLatest 147 = .ok (.iload_n 2, 1) := by decide +kernel
theorem dX0_undoLatest_148 : decode cX0_undoLatest 148 = .ok (.iload_n 3, 1) := by decide +kernel
theorem dX0_undoLatest_149 : decode cX0_undoLatest 149 = .ok (.invokevirtual 64, 3) := by decide +kernel
theorem dX0_undoLatest_152 : decode cX0_undoLatest 152 = .ok (.goto 13, 3) := by decide +kernel
theorem dX0_undoLatest_155 : decode cX0_undoLatest 155 = .ok (.aload_n 1, 1) := by decide +kernel
theorem dX0_undoLatest_156 : decode cX0_undoLatest 156 = .ok (.iload_n 2, 1) := by decide +kernel
theorem dX0_undoLatest_157 : decode cX0_undoLatest 157 = .ok (.putfield 67, 3) := by decide +kernel
theorem dX0_undoLatest_160 : decode cX0_undoLatest 160 = .ok (.aload_n 1, 1) := by decide +kernel
theorem dX0_undoLatest_161 : decode cX0_undoLatest 161 = .ok (.iload_n 3, 1) := by decide +kernel
theorem dX0_undoLatest_162 : decode cX0_undoLatest 162 = .ok (.putfield 70, 3) := by decide +kernel
theorem dX0_undoLatest_165 : decode cX0_undoLatest 165 = .ok (.return_, 1) := by decide +kernel
theorem dX1_init_0 : decode cX1_init 0 = .ok (.aload_n 0, 1) := by decide +kernel
theorem dX1_init_1 : decode cX1_init 1 = .ok (.invokespecial 3, 3) := by decide +kernel
theorem dX1_init_4 : decode cX1_init 4 = .ok (.aload_n 0, 1) := by decide +kernel
theorem dX1_init_5 : decode cX1_init 5 = .ok (.iconst 5, 1) := by decide +kernel
theorem dX1_init_6 : decode cX1_init 6 = .ok (.newarray .int, 2) := by decide +kernel
theorem dX1_init_8 : decode cX1_init 8 = .ok (.putfield 9, 3) := by decide +kernel
theorem dX1_init_11 : decode cX1_init 11 = .ok (.aload_n 0, 1) := by decide +kernel
theorem dX1_init_12 : decode cX1_init 12 = .ok (.bipush 32, 2) := by decide +kernel
theorem dX1_init_14 : decode cX1_init 14 = .ok (.newarray .int, 2) := by decide +kernel
theorem dX1_init_16 : decode cX1_init 16 = .ok (.putfield 15, 3) := by decide +kernel
theorem dX1_init_19 : decode cX1_init 19 = .ok (.aload_n 0, 1) := by decide +kernel
theorem dX1_init_20 : decode cX1_init 20 = .ok (.bipush 32, 2) := by decide +kernel
theorem dX1_init_22 : decode cX1_init 22 = .ok (.newarray .int, 2) := by decide +kernel
theorem dX1_init_24 : decode cX1_init 24 = .ok (.putfield 18, 3) := by decide +kernel
theorem dX1_init_27 : decode cX1_init 27 = .ok (.aload_n 0, 1) := by decide +kernel
theorem dX1_init_28 : decode cX1_init 28 = .ok (.bipush 32, 2) := by decide +kernel
theorem dX1_init_30 : decode cX1_init 30 = .ok (.newarray .int, 2) := by decide +kernel
theorem dX1_init_32 : decode cX1_init 32 = .ok (.putfield 21, 3) := by decide +kernel
theorem dX1_init_35 : decode cX1_init 35 = .ok (.aload_n 0, 1) := by decide +kernel
theorem dX1_init_36 : decode cX1_init 36 = .ok (.bipush 32, 2) := by decide +kernel
theorem dX1_init_38 : decode cX1_init 38 = .ok (.newarray .int, 2) := by decide +kernel
theorem dX1_init_40 : decode cX1_init 40 = .ok (.putfield 24, 3) := by decide +kernel
theorem dX1_init_43 : decode cX1_init 43 = .ok (.return_, 1) := by decide +kernel
theorem dX1_hear_0 : decode cX1_hear 0 = .ok (.aload_n 1, 1) := by decide +kernel
theorem dX1_hear_1 : decode cX1_hear 1 = .ok (.iload_n 2, 1) := by decide +kernel
theorem dX1_hear_2 : decode cX1_hear 2 = .ok (.invokevirtual 27, 3) := by decide +kernel
theorem dX1_hear_5 : decode cX1_hear 5 = .ok (.istore_n 3, 1) := by decide +kernel
theorem dX1_hear_6 : decode cX1_hear 6 = .ok (.aload_n 0, 1) := by decide +kernel
theorem dX1_hear_7 : decode cX1_hear 7 = .ok (.aload_n 1, 1) := by decide +kernel
theorem dX1_hear_8 : decode cX1_hear 8 = .ok (.getfield 33, 3) := by decide +kernel
theorem dX1_hear_11 : decode cX1_hear 11 = .ok (.iload_n 2, 1) := by decide +kernel
theorem dX1_hear_12 : decode cX1_hear 12 = .ok (.iaload, 1) := by decide +kernel
theorem dX1_hear_13 : decode cX1_hear 13 = .ok (.iconst 5, 1) := by decide +kernel
theorem dX1_hear_14 : decode cX1_hear 14 = .ok (.invokestatic 36, 3) := by decide +kernel
theorem dX1_hear_17 : decode cX1_hear 17 = .ok (.putfield 42, 3) := by decide +kernel
theorem dX1_hear_20 : decode cX1_hear 20 = .ok (.aload_n 0, 1) := by decide +kernel
theorem dX1_hear_21 : decode cX1_hear 21 = .ok (.aload_n 1, 1) := by decide +kernel
theorem dX1_hear_22 : decode cX1_hear 22 = .ok (.iload_n 2, 1) := by decide +kernel
theorem dX1_hear_23 : decode cX1_hear 23 = .ok (.invokevirtual 46, 3) := by decide +kernel
theorem dX1_hear_26 : decode cX1_hear 26 = .ok (.putfield 49, 3) := by decide +kernel
theorem dX1_hear_29 : decode cX1_hear 29 = .ok (.aload_n 0, 1) := by decide +kernel
theorem dX1_hear_30 : decode cX1_hear 30 = .ok (.iconst 0, 1) := by decide +kernel
theorem dX1_hear_31 : decode cX1_hear 31 = .ok (.putfield 52, 3) := by decide +kernel
theorem dX1_hear_34 : decode cX1_hear 34 = .ok (.aload_n 0, 1) := by decide +kernel
theorem dX1_hear_35 : decode cX1_hear 35 = .ok (.iconst 0, 1) := by decide +kernel
theorem dX1_hear_36 : decode cX1_hear 36 = .ok (.putfield 55, 3) := by decide +kernel
theorem dX1_hear_39 : decode cX1_hear 39 = .ok (.aload_n 0, 1) := by decide +kernel
theorem dX1_hear_40 : decode cX1_hear 40 = .ok (.iconst 0, 1) := by decide +kernel
theorem dX1_hear_41 : decode cX1_hear 41 = .ok (.putfield 58, 3) := by decide +kernel
theorem dX1_hear_44 : decode cX1_hear 44 = .ok (.aload_n 0, 1) := by decide +kernel
theorem dX1_hear_45 : decode cX1_hear 45 = .ok (.iconst 0, 1) := by decide +kernel
theorem dX1_hear_46 : decode cX1_hear 46 = .ok (.putfield 61, 3) := by decide +kernel
theorem dX1_hear_49 : decode cX1_hear 49 = .ok (.iconst 0, 1) := by decide +kernel
theorem dX1_hear_50 : decode cX1_hear 50 = .ok (.istore 4, 2) := by decide +kernel
theorem dX1_hear_52 : decode cX1_hear 52 = .ok (.iload 4, 2) := by decide +kernel
theorem dX1_hear_54 : decode cX1_hear 54 = .ok (.aload_n 0, 1) := by decide +kernel
theorem dX1_hear_55 : decode cX1_hear 55 = .ok (.getfield 42, 3) := by decide +kernel
theorem dX1_hear_58 : decode cX1_hear 58 = .ok (.if_icmp .ge 119, 3) := by decide +kernel
theorem dX1_hear_61 : decode cX1_hear 61 = .ok (.iload_n 3, 1) := by decide +kernel
theorem dX1_hear_62 : decode cX1_hear 62 = .ok (.iload 4, 2) := by decide +kernel
theorem dX1_hear_64 : decode cX1_hear 64 = .ok (.iadd, 1) := by decide +kernel
theorem dX1_hear_65 : decode cX1_hear 65 = .ok (.bipush 20, 2) := by decide +kernel
theorem dX1_hear_67 : decode cX1_hear 67 = .ok (.if_icmp .ge 110, 3) := by decide +kernel
theorem dX1_hear_70 : decode cX1_hear 70 = .ok (.aload_n 1, 1) := by decide +kernel
theorem dX1_hear_71 : decode cX1_hear 71 = .ok (.getfield 64, 3) := by decide +kernel
theorem dX1_hear_74 : decode cX1_hear 74 = .ok (.iload_n 3, 1) := by decide +kernel
theorem dX1_hear_75 : decode cX1_hear 75 = .ok (.iload 4, 2) := by decide +kernel
theorem dX1_hear_77 : decode cX1_hear 77 = .ok (.iadd, 1) := by decide +kernel
theorem dX1_hear_78 : decode cX1_hear 78 = .ok (.aaload, 1) := by decide +kernel
theorem dX1_hear_79 : decode cX1_hear 79 = .ok (.getfield 68, 3) := by decide +kernel
theorem dX1_hear_82 : decode cX1_hear 82 = .ok (.istore 5, 2) := by decide +kernel
theorem dX1_hear_84 : decode cX1_hear 84 = .ok (.aload_n 0, 1) := by decide +kernel
theorem dX1_hear_85 : decode cX1_hear 85 = .ok (.dup, 1) := by decide +kernel
theorem dX1_hear_86 : decode cX1_hear 86 = .ok (.getfield 55, 3) := by decide +kernel
theorem dX1_hear_89 : decode cX1_hear 89 = .ok (.aload_n 1, 1) := by decide +kernel
theorem dX1_hear_90 : decode cX1_hear 90 = .ok (.iload_n 3, 1) := by decide +kernel
theorem dX1_hear_91 : decode cX1_hear 91 = .ok (.iload 4, 2) := by decide +kernel
theorem dX1_hear_93 : decode cX1_hear 93 = .ok (.iadd, 1) := by decide +kernel
theorem dX1_hear_94 : decode cX1_hear 94 = .ok (.invokevirtual 71, 3) := by decide +kernel
theorem dX1_hear_97 : decode cX1_hear 97 = .ok (.aload_n 0, 1) := by decide +kernel
theorem dX1_hear_98 : decode cX1_hear 98 = .ok (.getfield 52, 3) := by decide +kernel
theorem dX1_hear_101 : decode cX1_hear 101 = .ok (.ishl, 1) := by decide +kernel
theorem dX1_hear_102 : decode cX1_hear 102 = .ok (.ior, 1) := by decide +kernel
theorem dX1_hear_103 : decode cX1_hear 103 = .ok (.putfield 55, 3) := by decide +kernel
theorem dX1_hear_106 : decode cX1_hear 106 = .ok (.aload_n 0, 1) := by decide +kernel
theorem dX1_hear_107 : decode cX1_hear 107 = .ok (.dup, 1) := by decide +kernel
theorem dX1_hear_108 : decode cX1_hear 108 = .ok (.getfield 58, 3) := by decide +kernel
theorem dX1_hear_111 : decode cX1_hear 111 = .ok (.aload_n 1, 1) := by decide +kernel
theorem dX1_hear_112 : decode cX1_hear 112 = .ok (.iload_n 3, 1) := by decide +kernel
theorem dX1_hear_113 : decode cX1_hear 113 = .ok (.iload 4, 2) := by decide +kernel
theorem dX1_hear_115 : decode cX1_hear 115 = .ok (.iadd, 1) := by decide +kernel
theorem dX1_hear_116 : decode cX1_hear 116 = .ok (.invokevirtual 74, 3) := by decide +kernel
theorem dX1_hear_119 : decode cX1_hear 119 = .ok (.aload_n 0, 1) := by decide +kernel
theorem dX1_hear_120 : decode cX1_hear 120 = .ok (.getfield 52, 3) := by decide +kernel
theorem dX1_hear_123 : decode cX1_hear 123 = .ok (.ishl, 1) := by decide +kernel
theorem dX1_hear_124 : decode cX1_hear 124 = .ok (.ior, 1) := by decide +kernel
theorem dX1_hear_125 : decode cX1_hear 125 = .ok (.putfield 58, 3) := by decide +kernel
theorem dX1_hear_128 : decode cX1_hear 128 = .ok (.iload 5, 2) := by decide +kernel
theorem dX1_hear_130 : decode cX1_hear 130 = .ok (.iconst 1, 1) := by decide +kernel
theorem dX1_hear_131 : decode cX1_hear 131 = .ok (.if_icmp .ne 16, 3) := by decide +kernel
theorem dX1_hear_134 : decode cX1_hear 134 = .ok (.aload_n 0, 1) := by decide +kernel
theorem dX1_hear_135 : decode cX1_hear 135 = .ok (.dup, 1) := by decide +kernel
theorem dX1_hear_136 : decode cX1_hear 136 = .ok (.getfield 61, 3) := by decide +kernel
theorem dX1_hear_139 : decode cX1_hear 139 = .ok (.iconst 1, 1) := by decide +kernel
theorem dX1_hear_140 : decode cX1_hear 140 = .ok (.iload 4, 2) := by decide +kernel
theorem dX1_hear_142 : decode cX1_hear 142 = .ok (.ishl, 1) := by decide +kernel
theorem dX1_hear_143 : decode cX1_hear 143 = .ok (.ior, 1) := by decide +kernel
theorem dX1_hear_144 : decode cX1_hear 144 = .ok (.putfield 61, 3) := by decide +kernel
theorem dX1_hear_147 : decode cX1_hear 147 = .ok (.aload_n 0, 1) := by decide +kernel
theorem dX1_hear_148 : decode cX1_hear 148 = .ok (.dup, 1) := by decide +kernel
theorem dX1_hear_149 : decode cX1_hear 149 = .ok (.getfield 52, 3) := by decide +kernel
theorem dX1_hear_152 : decode cX1_hear 152 = .ok (.iload 5, 2) := by decide +kernel
theorem dX1_hear_154 : decode cX1_hear 154 = .ok (.iadd, 1) := by decide +kernel
theorem dX1_hear_155 : decode cX1_hear 155 = .ok (.putfield 52, 3) := by decide +kernel
theorem dX1_hear_158 : decode cX1_hear 158 = .ok (.aload_n 0, 1) := by decide +kernel
theorem dX1_hear_159 : decode cX1_hear 159 = .ok (.getfield 9, 3) := by decide +kernel
theorem dX1_hear_162 : decode cX1_hear 162 = .ok (.iload 4, 2) := by decide +kernel
theorem dX1_hear_164 : decode cX1_hear 164 = .ok (.aload_n 0, 1) := by decide +kernel
theorem dX1_hear_165 : decode cX1_hear 165 = .ok (.getfield 52, 3) := by decide +kernel
theorem dX1_hear_168 : decode cX1_hear 168 = .ok (.iconst 1, 1) := by decide +kernel
theorem dX1_hear_169 : decode cX1_hear 169 = .ok (.isub, 1) := by decide +kernel
theorem dX1_hear_170 : decode cX1_hear 170 = .ok (.iastore, 1) := by decide +kernel
theorem dX1_hear_171 : decode cX1_hear 171 = .ok (.iinc 4 1, 3) := by decide +kernel
theorem dX1_hear_174 : decode cX1_hear 174 = .ok (.goto (-122), 3) := by decide +kernel
theorem dX1_hear_177 : decode cX1_hear 177 = .ok (.return_, 1) := by decide +kernel
theorem dX1_leastBy_0 : decode cX1_leastBy 0 = .ok (.aload_n 0, 1) := by decide +kernel
theorem dX1_leastBy_1 : decode cX1_leastBy 1 = .ok (.iload_n 1, 1) := by decide +kernel
theorem dX1_leastBy_2 : decode cX1_leastBy 2 = .ok (.iload_n 2, 1) := by decide +kernel
theorem dX1_leastBy_3 : decode cX1_leastBy 3 = .ok (.invokevirtual 77, 3) := by decide +kernel
theorem dX1_leastBy_6 : decode cX1_leastBy 6 = .ok (.aload_n 0, 1) := by decide +kernel
theorem dX1_leastBy_7 : decode cX1_leastBy 7 = .ok (.aload_n 0, 1) := by decide +kernel
theorem dX1_leastBy_8 : decode cX1_leastBy 8 = .ok (.getfield 55, 3) := by decide +kernel
theorem dX1_leastBy_11 : decode cX1_leastBy 11 = .ok (.aload_n 0, 1) := by decide +kernel
theorem dX1_leastBy_12 : decode cX1_leastBy 12 = .ok (.getfield 55, 3) := by decide +kernel
theorem dX1_leastBy_15 : decode cX1_leastBy 15 = .ok (.aload_n 0, 1) := by decide +kernel
theorem dX1_leastBy_16 : decode cX1_leastBy 16 = .ok (.getfield 58, 3) := by decide +kernel
theorem dX1_leastBy_19 : decode cX1_leastBy 19 = .ok (.ior, 1) := by decide +kernel
theorem dX1_leastBy_20 : decode cX1_leastBy 20 = .ok (.iconst (-1), 1) := by decide +kernel
theorem dX1_leastBy_21 : decode cX1_leastBy 21 = .ok (.ixor, 1) := by decide +kernel
theorem dX1_leastBy_22 : decode cX1_leastBy 22 = .ok (.invokevirtual 81, 3) := by decide +kernel
theorem dX1_leastBy_25 : decode cX1_leastBy 25 = .ok (.aload_n 0, 1) := by decide +kernel
theorem dX1_leastBy_26 : decode cX1_leastBy 26 = .ok (.getfield 84, 3) := by decide +kernel
theorem dX1_leastBy_29 : decode cX1_leastBy 29 = .ok (.ireturn, 1) := by decide +kernel
theorem dX1_fit_0 : decode cX1_fit 0 = .ok (.aload_n 0, 1) := by decide +kernel
theorem dX1_fit_1 : decode cX1_fit 1 = .ok (.iconst 0, 1) := by decide +kernel
theorem dX1_fit_2 : decode cX1_fit 2 = .ok (.putfield 87, 3) := by decide +kernel
theorem dX1_fit_5 : decode cX1_fit 5 = .ok (.iload_n 1, 1) := by decide +kernel
theorem dX1_fit_6 : decode cX1_fit 6 = .ok (.iload_n 2, 1) := by decide +kernel
theorem dX1_fit_7 : decode cX1_fit 7 = .ok (.invokestatic 90, 3) := by decide +kernel
theorem dX1_fit_10 : decode cX1_fit 10 = .ok (.ifCond .ne 4, 3) := by decide +kernel
theorem dX1_fit_13 : decode cX1_fit 13 = .ok (.return_, 1) := by decide +kernel
theorem dX1_fit_14 : decode cX1_fit 14 = .ok (.iload_n 1, 1) := by decide +kernel
theorem dX1_fit_15 : decode cX1_fit 15 = .ok (.iload_n 1, 1) := by decide +kernel
theorem dX1_fit_16 : decode cX1_fit 16 = .ok (.iload_n 2, 1) := by decide +kernel
theorem dX1_fit_17 : decode cX1_fit 17 = .ok (.invokestatic 94, 3) := by decide +kernel
theorem dX1_fit_20 : decode cX1_fit 20 = .ok (.istore_n 3, 1) := by decide +kernel
theorem dX1_fit_21 : decode cX1_fit 21 = .ok (.getstatic 98, 3) := by decide +kernel
theorem dX1_fit_24 : decode cX1_fit 24 = .ok (.iload_n 1, 1) := by decide +kernel
theorem dX1_fit_25 : decode cX1_fit 25 = .ok (.iaload, 1) := by decide +kernel
theorem dX1_fit_26 : decode cX1_fit 26 = .ok (.iload_n 1, 1) := by decide +kernel
theorem dX1_fit_27 : decode cX1_fit 27 = .ok (.iload_n 2, 1) := by decide +kernel
theorem dX1_fit_28 : decode cX1_fit 28 = .ok (.invokestatic 94, 3) := by decide +kernel
theorem dX1_fit_31 : decode cX1_fit 31 = .ok (.istore 4, 2) := by decide +kernel
theorem dX1_fit_33 : decode cX1_fit 33 = .ok (.iconst 0, 1) := by decide +kernel
theorem dX1_fit_34 : decode cX1_fit 34 = .ok (.istore 5, 2) := by decide +kernel
theorem dX1_fit_36 : decode cX1_fit 36 = .ok (.iload 5, 2) := by decide +kernel
theorem dX1_fit_38 : decode cX1_fit 38 = .ok (.iconst 1, 1) := by decide +kernel
theorem dX1_fit_39 : decode cX1_fit 39 = .ok (.aload_n 0, 1) := by decide +kernel
theorem dX1_fit_40 : decode cX1_fit 40 = .ok (.getfield 42, 3) := by decide +kernel
theorem dX1_fit_43 : decode cX1_fit 43 = .ok (.ishl, 1) := by decide +kernel
theorem dX1_fit_44 : decode cX1_fit 44 = .ok (.if_icmp .ge 74, 3) := by decide +kernel
theorem dX1_fit_47 : decode cX1_fit 47 = .ok (.iload 5, 2) := by decide +kernel
theorem dX1_fit_49 : decode cX1_fit 49 = .ok (.iload 5, 2) := by decide +kernel
theorem dX1_fit_51 : decode cX1_fit 51 = .ok (.iconst 1, 1) := by decide +kernel
theorem dX1_fit_52 : decode cX1_fit 52 = .ok (.ishl, 1) := by decide +kernel
theorem dX1_fit_53 : decode cX1_fit 53 = .ok (.iand, 1) := by decide +kernel
theorem dX1_fit_54 : decode cX1_fit 54 = .ok (.aload_n 0, 1) := by decide +kernel
theorem dX1_fit_55 : decode cX1_fit 55 = .ok (.getfield 61, 3) := by decide +kernel
theorem dX1_fit_58 : decode cX1_fit 58 = .ok (.iand, 1) := by decide +kernel
theorem dX1_fit_59 : decode cX1_fit 59 = .ok (.ifCond .eq 7, 3) := by decide +kernel
theorem dX1_fit_62 : decode cX1_fit 62 = .ok (.iconst 1, 1) := by decide +kernel
theorem dX1_fit_63 : decode cX1_fit 63 = .ok (.goto 4, 3) := by decide +kernel
theorem dX1_fit_66 : decode cX1_fit 66 = .ok (.iconst 0, 1) := by decide +kernel
theorem dX1_fit_67 : decode cX1_fit 67 = .ok (.istore 6, 2) := by decide +kernel
theorem dX1_fit_69 : decode cX1_fit 69 = .ok (.iload 5, 2) := by decide +kernel
theorem dX1_fit_71 : decode cX1_fit 71 = .ok (.aload_n 0, 1) := by decide +kernel
theorem dX1_fit_72 : decode cX1_fit 72 = .ok (.getfield 49, 3) := by decide +kernel
theorem dX1_fit_75 : decode cX1_fit 75 = .ok (.iconst (-1), 1) := by decide +kernel
theorem dX1_fit_76 : decode cX1_fit 76 = .ok (.ixor, 1) := by decide +kernel
theorem dX1_fit_77 : decode cX1_fit 77 = .ok (.iand, 1) := by decide +kernel
theorem dX1_fit_78 : decode cX1_fit 78 = .ok (.ifCond .ne 34, 3) := by decide +kernel
theorem dX1_fit_81 : decode cX1_fit 81 = .ok (.iload 6, 2) := by decide +kernel
theorem dX1_fit_83 : decode cX1_fit 83 = .ok (.ifCond .ne 29, 3) := by decide +kernel
theorem dX1_fit_86 : decode cX1_fit 86 = .ok (.aload_n 0, 1) := by decide +kernel
theorem dX1_fit_87 : decode cX1_fit 87 = .ok (.iload 5, 2) := by decide +kernel
theorem dX1_fit_89 : decode cX1_fit 89 = .ok (.iload_n 1, 1) := by decide +kernel
theorem dX1_fit_90 : decode cX1_fit 90 = .ok (.iload_n 2, 1) := by decide +kernel
theorem dX1_fit_91 : decode cX1_fit 91 = .ok (.iload_n 3, 1) := by decide +kernel
theorem dX1_fit_92 : decode cX1_fit 92 = .ok (.iconst 0, 1) := by decide +kernel
theorem dX1_fit_93 : decode cX1_fit 93 = .ok (.invokevirtual 101, 3) := by decide +kernel
theorem dX1_fit_96 : decode cX1_fit 96 = .ok (.iload_n 2, 1) := by decide +kernel
theorem dX1_fit_97 : decode cX1_fit 97 = .ok (.iconst 2, 1) := by decide +kernel
theorem dX1_fit_98 : decode cX1_fit 98 = .ok (.if_icmp .lt 14, 3) := by decide +kernel
theorem dX1_fit_101 : decode cX1_fit 101 = .ok (.aload_n 0, 1) := by decide +kernel
theorem dX1_fit_102 : decode cX1_fit 102 = .ok (.iload 5, 2) := by decide +kernel
theorem dX1_fit_104 : decode cX1_fit 104 = .ok (.iload_n 1, 1) := by decide +kernel
theorem dX1_fit_105 : decode cX1_fit 105 = .ok (.iload_n 2, 1) := by decide +kernel
theorem dX1_fit_106 : decode cX1_fit 106 = .ok (.iload 4, 2) := by decide +kernel
theorem dX1_fit_108 : decode cX1_fit 108 = .ok (.iconst 1, 1) := by decide +kernel
theorem dX1_fit_109 : decode cX1_fit 109 = .ok (.invokevirtual 101, 3) := by decide +kernel
theorem dX1_fit_112 : decode cX1_fit 112 = .ok (.iinc 5 1, 3) := by decide +kernel
theorem dX1_fit_115 : decode cX1_fit 115 = .ok (.goto (-79), 3) := by decide +kernel
theorem dX1_fit_118 : decode cX1_fit 118 = .ok (.return_, 1) := by decide +kernel
theorem dX1_heavyPlaces_0 : decode cX1_heavyPlaces 0 = .ok (.getstatic 105, 3) := by decide +kernel
theorem dX1_heavyPlaces_3 : decode cX1_heavyPlaces 3 = .ok (.iload_n 0, 1) := by decide +kernel
theorem dX1_heavyPlaces_4 : decode cX1_heavyPlaces 4 = .ok (.iaload, 1) := by decide +kernel
theorem dX1_heavyPlaces_5 : decode cX1_heavyPlaces 5 = .ok (.istore_n 3, 1) := by decide +kernel
theorem dX1_heavyPlaces_6 : decode cX1_heavyPlaces 6 = .ok (.iconst 1, 1) := by decide +kernel
theorem dX1_heavyPlaces_7 : decode cX1_heavyPlaces 7 = .ok (.istore 4, 2) := by decide +kernel
theorem dX1_heavyPlaces_9 : decode cX1_heavyPlaces 9 = .ok (.iload 4, 2) := by decide +kernel
theorem dX1_heavyPlaces_11 : decode cX1_heavyPlaces 11 = .ok (.iload_n 2, 1) := by decide +kernel
theorem dX1_heavyPlaces_12 : decode cX1_heavyPlaces 12 = .ok (.if_icmp .ge 26, 3) := by decide +kernel
theorem dX1_heavyPlaces_15 : decode cX1_heavyPlaces 15 = .ok (.iload_n 3, 1) := by decide +kernel
theorem dX1_heavyPlaces_16 : decode cX1_heavyPlaces 16 = .ok (.getstatic 105, 3) := by decide +kernel
theorem dX1_heavyPlaces_19 : decode cX1_heavyPlaces 19 = .ok (.iload_n 1, 1) := by decide +kernel
theorem dX1_heavyPlaces_20 : decode cX1_heavyPlaces 20 = .ok (.iaload, 1) := by decide +kernel
theorem dX1_heavyPlaces_21 : decode cX1_heavyPlaces 21 = .ok (.iload 4, 2) := by decide +kernel
theorem dX1_heavyPlaces_23 : decode cX1_heavyPlaces 23 = .ok (.getstatic 108, 3) := by decide +kernel
theorem dX1_heavyPlaces_26 : decode cX1_heavyPlaces 26 = .ok (.iload_n 1, 1) := by decide +kernel
theorem dX1_heavyPlaces_27 : decode cX1_heavyPlaces 27 = .ok (.iaload, 1) := by decide +kernel
theorem dX1_heavyPlaces_28 : decode cX1_heavyPlaces 28 = .ok (.imul, 1) := by decide +kernel
theorem dX1_heavyPlaces_29 : decode cX1_heavyPlaces 29 = .ok (.ishl, 1) := by decide +kernel
theorem dX1_heavyPlaces_30 : decode cX1_heavyPlaces 30 = .ok (.ior, 1) := by decide +kernel
theorem dX1_heavyPlaces_31 : decode cX1_heavyPlaces 31 = .ok (.istore_n 3, 1) := by decide +kernel
theorem dX1_heavyPlaces_32 : decode cX1_heavyPlaces 32 = .ok (.iinc 4 1, 3) := by decide +kernel
theorem dX1_heavyPlaces_35 : decode cX1_heavyPlaces 35 = .ok (.goto (-26), 3) := by decide +kernel
theorem dX1_heavyPlaces_38 : decode cX1_heavyPlaces 38 = .ok (.iload_n 3, 1) := by decide +kernel
theorem dX1_heavyPlaces_39 : decode cX1_heavyPlaces 39 = .ok (.ireturn, 1) := by decide +kernel
theorem dX1_addOption_0 : decode cX1_addOption 0 = .ok (.aload_n 0, 1) := by decide +kernel
theorem dX1_addOption_1 : decode cX1_addOption 1 = .ok (.getfield 52, 3) := by decide +kernel
theorem dX1_addOption_4 : decode cX1_addOption 4 = .ok (.iload_n 1, 1) := by decide +kernel
theorem dX1_addOption_5 : decode cX1_addOption 5 = .ok (.invokestatic 111, 3) := by decide +kernel
theorem dX1_addOption_8 : decode cX1_addOption 8 = .ok (.isub, 1) := by decide +kernel
theorem dX1_addOption_9 : decode cX1_addOption 9 = .ok (.istore 6, 2) := by decide +kernel
theorem dX1_addOption_11 : decode cX1_addOption 11 = .ok (.iload_n 3, 1) := by decide +kernel
theorem dX1_addOption_12 : decode cX1_addOption 12 = .ok (.getstatic 108, 3) := by decide +kernel
theorem dX1_addOption_15 : decode cX1_addOption 15 = .ok (.iload_n 2, 1) := by decide +kernel
theorem dX1_addOption_16 : decode cX1_addOption 16 = .ok (.iaload, 1) := by decide +kernel
theorem dX1_addOption_17 : decode cX1_addOption 17 = .ok (.imul, 1) := by decide +kernel
theorem dX1_addOption_18 : decode cX1_addOption 18 = .ok (.istore 7, 2) := by decide +kernel
theorem dX1_addOption_20 : decode cX1_addOption 20 = .ok (.iload 6, 2) := by decide +kernel
theorem dX1_addOption_22 : decode cX1_addOption 22 = .ok (.iload 7, 2) := by decide +kernel
theorem dX1_addOption_24 : decode cX1_addOption 24 = .ok (.isub, 1) := by decide +kernel
theorem dX1_addOption_25 : decode cX1_addOption 25 = .ok (.istore 8, 2) := by decide +kernel
theorem dX1_addOption_27 : decode cX1_addOption 27 = .ok (.iload 8, 2) := by decide +kernel
theorem dX1_addOption_29 : decode cX1_addOption 29 = .ok (.getstatic 116, 3) := by decide +kernel
theorem dX1_addOption_32 : decode cX1_addOption 32 = .ok (.iload_n 2, 1) := by decide +kernel
theorem dX1_addOption_33 : decode cX1_addOption 33 = .ok (.iaload, 1) := by decide +kernel
theorem dX1_addOption_34 : decode cX1_addOption 34 = .ok (.ineg, 1) := by decide +kernel
theorem dX1_addOption_35 : decode cX1_addOption 35 = .ok (.if_icmp .lt 18, 3) := by decide +kernel
theorem dX1_addOption_38 : decode cX1_addOption 38 = .ok (.iload 8, 2) := by decide +kernel
theorem dX1_addOption_40 : decode cX1_addOption 40 = .ok (.iconst 2, 1) := by decide +kernel
theorem dX1_addOption_41 : decode cX1_addOption 41 = .ok (.if_icmp .gt 12, 3) := by decide +kernel
theorem dX1_addOption_44 : decode cX1_addOption 44 = .ok (.aload_n 0, 1) := by decide +kernel
theorem dX1_addOption_45 : decode cX1_addOption 45 = .ok (.getfield 87, 3) := by decide +kernel
theorem dX1_addOption_48 : decode cX1_addOption 48 = .ok (.bipush 32, 2) := by decide +kernel
theorem dX1_addOption_50 : decode cX1_addOption 50 = .ok (.if_icmp .lt 4, 3) := by decide +kernel
theorem dX1_addOption_53 : decode cX1_addOption 53 = .ok (.return_, 1) := by decide +kernel
theorem dX1_addOption_54 : decode cX1_addOption 54 = .ok (.iconst 1, 1) := by decide +kernel
theorem dX1_addOption_55 : decode cX1_addOption 55 = .ok (.iload 6, 2) := by decide +kernel
theorem dX1_addOption_57 : decode cX1_addOption 57 = .ok (.ishl, 1) := by decide +kernel
theorem dX1_addOption_58 : decode cX1_addOption 58 = .ok (.iconst 1, 1) := by decide +kernel
theorem dX1_addOption_59 : decode cX1_addOption 59 = .ok (.isub, 1) := by decide +kernel
theorem dX1_addOption_60 : decode cX1_addOption 60 = .ok (.istore 9, 2) := by decide +kernel
theorem dX1_addOption_62 : decode cX1_addOption 62 = .ok (.iload 9, 2) := by decide +kernel
theorem dX1_addOption_64 : decode cX1_addOption 64 = .ok (.iconst 1, 1) := by decide +kernel
theorem dX1_addOption_65 : decode cX1_addOption 65 = .ok (.iload 7, 2) := by decide +kernel
theorem dX1_addOption_67 : decode cX1_addOption 67 = .ok (.ishl, 1) := by decide +kernel
theorem dX1_addOption_68 : decode cX1_addOption 68 = .ok (.iconst 1, 1) := by decide +kernel
theorem dX1_addOption_69 : decode cX1_addOption 69 = .ok (.isub, 1) := by decide +kernel
theorem dX1_addOption_70 : decode cX1_addOption 70 = .ok (.iand, 1) := by decide +kernel
theorem dX1_addOption_71 : decode cX1_addOption 71 = .ok (.istore 10, 2) := by decide +kernel
theorem dX1_addOption_73 : decode cX1_addOption 73 = .ok (.aload_n 0, 1) := by decide +kernel
theorem dX1_addOption_74 : decode cX1_addOption 74 = .ok (.getfield 15, 3) := by decide +kernel
theorem dX1_addOption_77 : decode cX1_addOption 77 = .ok (.aload_n 0, 1) := by decide +kernel
theorem dX1_addOption_78 : decode cX1_addOption 78 = .ok (.getfield 87, 3) := by decide +kernel
theorem dX1_addOption_81 : decode cX1_addOption 81 = .ok (.iload 5, 2) := by decide +kernel
theorem dX1_addOption_83 : decode cX1_addOption 83 = .ok (.iload_n 1, 1) := by decide +kernel
theorem dX1_addOption_84 : decode cX1_addOption 84 = .ok (.invokestatic 111, 3) := by decide +kernel
theorem dX1_addOption_87 : decode cX1_addOption 87 = .ok (.iadd, 1) := by decide +kernel
theorem dX1_addOption_88 : decode cX1_addOption 88 = .ok (.iload 8, 2) := by decide +kernel
theorem dX1_addOption_90 : decode cX1_addOption 90 = .ok (.invokestatic 119, 3) := by decide +kernel
theorem dX1_addOption_93 : decode cX1_addOption 93 = .ok (.iadd, 1) := by decide +kernel
theorem dX1_addOption_94 : decode cX1_addOption 94 = .ok (.iastore, 1) := by decide +kernel
theorem dX1_addOption_95 : decode cX1_addOption 95 = .ok (.aload_n 0, 1) := by decide +kernel
theorem dX1_addOption_96 : decode cX1_addOption 96 = .ok (.getfield 18, 3) := by decide +kernel
theorem dX1_addOption_99 : decode cX1_addOption 99 = .ok (.aload_n 0, 1) := by decide +kernel
theorem dX1_addOption_100 : decode cX1_addOption 100 = .ok (.getfield 87, 3) := by decide +kernel
theorem dX1_addOption_103 : decode cX1_addOption 103 = .ok (.aload_n 0, 1) := by decide +kernel
theorem dX1_addOption_104 : decode cX1_addOption 104 = .ok (.iload 10, 2) := by decide +kernel
theorem dX1_addOption_106 : decode cX1_addOption 106 = .ok (.iload 4, 2) := by decide +kernel
theorem dX1_addOption_108 : decode cX1_addOption 108 = .ok (.iand, 1) := by decide +kernel
theorem dX1_addOption_109 : decode cX1_addOption 109 = .ok (.iload_n 1, 1) := by decide +kernel
theorem dX1_addOption_110 : decode cX1_addOption 110 = .ok (.invokevirtual 122, 3) := by decide +kernel
theorem dX1_addOption_113 : decode cX1_addOption 113 = .ok (.iastore, 1) := by decide +kernel
theorem dX1_addOption_114 : decode cX1_addOption 114 = .ok (.aload_n 0, 1) := by decide +kernel
theorem dX1_addOption_115 : decode cX1_addOption 115 = .ok (.getfield 21, 3) := by decide +kernel
theorem dX1_addOption_118 : decode cX1_addOption 118 = .ok (.aload_n 0, 1) := by decide +kernel
theorem dX1_addOption_119 : decode cX1_addOption 119 = .ok (.getfield 87, 3) := by decide +kernel
theorem dX1_addOption_122 : decode cX1_addOption 122 = .ok (.aload_n 0, 1) := by decide +kernel
theorem dX1_addOption_123 : decode cX1_addOption 123 = .ok (.iload 10, 2) := by decide +kernel
theorem dX1_addOption_125 : decode cX1_addOption 125 = .ok (.iload 4, 2) := by decide +kernel
theorem dX1_addOption_127 : decode cX1_addOption 127 = .ok (.iconst (-1), 1) := by decide +kernel
theorem dX1_addOption_128 : decode cX1_addOption 128 = .ok (.ixor, 1) := by decide +kernel
theorem dX1_addOption_129 : decode cX1_addOption 129 = .ok (.iand, 1) := by decide +kernel
theorem dX1_addOption_130 : decode cX1_addOption 130 = .ok (.iload_n 1, 1) := by decide +kernel
theorem dX1_addOption_131 : decode cX1_addOption 131 = .ok (.invokevirtual 122, 3) := by decide +kernel
theorem dX1_addOption_134 : decode cX1_addOption 134 = .ok (.iastore, 1) := by decide +kernel
theorem dX1_addOption_135 : decode cX1_addOption 135 = .ok (.aload_n 0, 1) := by decide +kernel
theorem dX1_addOption_136 : decode cX1_addOption 136 = .ok (.getfield 24, 3) := by decide +kernel
theorem dX1_addOption_139 : decode cX1_addOption 139 = .ok (.aload_n 0, 1) := by decide +kernel
theorem dX1_addOption_140 : decode cX1_addOption 140 = .ok (.getfield 87, 3) := by decide +kernel
theorem dX1_addOption_143 : decode cX1_addOption 143 = .ok (.aload_n 0, 1) := by decide +kernel
theorem dX1_addOption_144 : decode cX1_addOption 144 = .ok (.iload 9, 2) := by decide +kernel
theorem dX1_addOption_146 : decode cX1_addOption 146 = .ok (.iload 10, 2) := by decide +kernel
theorem dX1_addOption_148 : decode cX1_addOption 148 = .ok (.iconst (-1), 1) := by decide +kernel
theorem dX1_addOption_149 : decode cX1_addOption 149 = .ok (.ixor, 1) := by decide +kernel
theorem dX1_addOption_150 : decode cX1_addOption 150 = .ok (.iand, 1) := by decide +kernel
theorem dX1_addOption_151 : decode cX1_addOption 151 = .ok (.iload_n 1, 1) := by decide +kernel
theorem dX1_addOption_152 : decode cX1_addOption 152 = .ok (.invokevirtual 122, 3) := by decide +kernel
theorem dX1_addOption_155 : decode cX1_addOption 155 = .ok (.iastore, 1) := by decide +kernel
theorem dX1_addOption_156 : decode cX1_addOption 156 = .ok (.aload_n 0, 1) := by decide +kernel
theorem dX1_addOption_157 : decode cX1_addOption 157 = .ok (.dup, 1) := by decide +kernel
theorem dX1_addOption_158 : decode cX1_addOption 158 = .ok (.getfield 87, 3) := by decide +kernel
theorem dX1_addOption_161 : decode cX1_addOption 161 = .ok (.iconst 1, 1) := by decide +kernel
theorem dX1_addOption_162 : decode cX1_addOption 162 = .ok (.iadd, 1) := by decide +kernel
theorem dX1_addOption_163 : decode cX1_addOption 163 = .ok (.putfield 87, 3) := by decide +kernel
theorem dX1_addOption_166 : decode cX1_addOption 166 = .ok (.return_, 1) := by decide +kernel
theorem dX1_spread_0 : decode cX1_spread 0 = .ok (.iload_n 1, 1) := by decide +kernel
theorem dX1_spread_1 : decode cX1_spread 1 = .ok (.istore_n 3, 1) := by decide +kernel
theorem dX1_spread_2 : decode cX1_spread 2 = .ok (.iconst 0, 1) := by decide +kernel
theorem dX1_spread_3 : decode cX1_spread 3 = .ok (.istore 4, 2) := by decide +kernel
theorem dX1_spread_5 : decode cX1_spread 5 = .ok (.iload 4, 2) := by decide +kernel
theorem dX1_spread_7 : decode cX1_spread 7 = .ok (.aload_n 0, 1) := by decide +kernel
theorem dX1_spread_8 : decode cX1_spread 8 = .ok (.getfield 42, 3) := by decide +kernel
theorem dX1_spread_11 : decode cX1_spread 11 = .ok (.if_icmp .ge 46, 3) := by decide +kernel
theorem dX1_spread_14 : decode cX1_spread 14 = .ok (.iload_n 2, 1) := by decide +kernel
theorem dX1_spread_15 : decode cX1_spread 15 = .ok (.iload 4, 2) := by decide +kernel
theorem dX1_spread_17 : decode cX1_spread 17 = .ok (.ishr, 1) := by decide +kernel
theorem dX1_spread_18 : decode cX1_spread 18 = .ok (.iconst 1, 1) := by decide +kernel
theorem dX1_spread_19 : decode cX1_spread 19 = .ok (.iand, 1) := by decide +kernel
theorem dX1_spread_20 : decode cX1_spread 20 = .ok (.iconst 1, 1) := by decide +kernel
theorem dX1_spread_21 : decode cX1_spread 21 = .ok (.if_icmp .ne 30, 3) := by decide +kernel
theorem dX1_spread_24 : decode cX1_spread 24 = .ok (.iconst 1, 1) := by decide +kernel
theorem dX1_spread_25 : decode cX1_spread 25 = .ok (.aload_n 0, 1) := by decide +kernel
theorem dX1_spread_26 : decode cX1_spread 26 = .ok (.getfield 9, 3) := by decide +kernel
theorem dX1_spread_29 : decode cX1_spread 29 = .ok (.iload 4, 2) := by decide +kernel
theorem dX1_spread_31 : decode cX1_spread 31 = .ok (.iaload, 1) := by decide +kernel
theorem dX1_spread_32 : decode cX1_spread 32 = .ok (.ishl, 1) := by decide +kernel
theorem dX1_spread_33 : decode cX1_spread 33 = .ok (.iconst 1, 1) := by decide +kernel
theorem dX1_spread_34 : decode cX1_spread 34 = .ok (.isub, 1) := by decide +kernel
theorem dX1_spread_35 : decode cX1_spread 35 = .ok (.istore 5, 2) := by decide +kernel
theorem dX1_spread_37 : decode cX1_spread 37 = .ok (.iload_n 3, 1) := by decide +kernel
theorem dX1_spread_38 : decode cX1_spread 38 = .ok (.iload 5, 2) := by decide +kernel
theorem dX1_spread_40 : decode cX1_spread 40 = .ok (.iand, 1) := by decide +kernel
theorem dX1_spread_41 : decode cX1_spread 41 = .ok (.iload_n 3, 1) := by decide +kernel
theorem dX1_spread_42 : decode cX1_spread 42 = .ok (.iload 5, 2) := by decide +kernel
theorem dX1_spread_44 : decode cX1_spread 44 = .ok (.iconst (-1), 1) := by decide +kernel
theorem dX1_spread_45 : decode cX1_spread 45 = .ok (.ixor, 1) := by decide +kernel
theorem dX1_spread_46 : decode cX1_spread 46 = .ok (.iand, 1) := by decide +kernel
theorem dX1_spread_47 : decode cX1_spread 47 = .ok (.iconst 1, 1) := by decide +kernel
theorem dX1_spread_48 : decode cX1_spread 48 = .ok (.ishl, 1) := by decide +kernel
theorem dX1_spread_49 : decode cX1_spread 49 = .ok (.ior, 1) := by decide +kernel
theorem dX1_spread_50 : decode cX1_spread 50 = .ok (.istore_n 3, 1) := by decide +kernel
theorem dX1_spread_51 : decode cX1_spread 51 = .ok (.iinc 4 1, 3) := by decide +kernel
theorem dX1_spread_54 : decode cX1_spread 54 = .ok (.goto (-49), 3) := by decide +kernel
theorem dX1_spread_57 : decode cX1_spread 57 = .ok (.iload_n 3, 1) := by decide +kernel
theorem dX1_spread_58 : decode cX1_spread 58 = .ok (.ireturn, 1) := by decide +kernel
theorem dX1_judge_0 : decode cX1_judge 0 = .ok (.aload_n 0, 1) := by decide +kernel
theorem dX1_judge_1 : decode cX1_judge 1 = .ok (.ldc 125, 2) := by decide +kernel
theorem dX1_judge_3 : decode cX1_judge 3 = .ok (.putfield 84, 3) := by decide +kernel
theorem dX1_judge_6 : decode cX1_judge 6 = .ok (.aload_n 0, 1) := by decide +kernel
theorem dX1_judge_7 : decode cX1_judge 7 = .ok (.iconst 0, 1) := by decide +kernel
theorem dX1_judge_8 : decode cX1_judge 8 = .ok (.putfield 126, 3) := by decide +kernel
theorem dX1_judge_11 : decode cX1_judge 11 = .ok (.iconst 0, 1) := by decide +kernel
theorem dX1_judge_12 : decode cX1_judge 12 = .ok (.istore_n 3, 1) := by decide +kernel
theorem dX1_judge_13 : decode cX1_judge 13 = .ok (.iload_n 3, 1) := by decide +kernel
theorem dX1_judge_14 : decode cX1_judge 14 = .ok (.aload_n 0, 1) := by decide +kernel
theorem dX1_judge_15 : decode cX1_judge 15 = .ok (.getfield 87, 3) := by decide +kernel
theorem dX1_judge_18 : decode cX1_judge 18 = .ok (.if_icmp .ge 104, 3) := by decide +kernel
theorem dX1_judge_21 : decode cX1_judge 21 = .ok (.iload_n 1, 1) := by decide +kernel
theorem dX1_judge_22 : decode cX1_judge 22 = .ok (.aload_n 0, 1) := by decide +kernel
theorem dX1_judge_23 : decode cX1_judge 23 = .ok (.getfield 24, 3) := by decide +kernel
theorem dX1_judge_26 : decode cX1_judge 26 = .ok (.iload_n 3, 1) := by decide +kernel
theorem dX1_judge_27 : decode cX1_judge 27 = .ok (.iaload, 1) := by decide +kernel
theorem dX1_judge_28 : decode cX1_judge 28 = .ok (.iand, 1) := by decide +kernel
theorem dX1_judge_29 : decode cX1_judge 29 = .ok (.ifCond .ne 87, 3) := by decide +kernel
theorem dX1_judge_32 : decode cX1_judge 32 = .ok (.aload_n 0, 1) := by decide +kernel
theorem dX1_judge_33 : decode cX1_judge 33 = .ok (.getfield 15, 3) := by decide +kernel
theorem dX1_judge_36 : decode cX1_judge 36 = .ok (.iload_n 3, 1) := by decide +kernel
theorem dX1_judge_37 : decode cX1_judge 37 = .ok (.iaload, 1) := by decide +kernel
theorem dX1_judge_38 : decode cX1_judge 38 = .ok (.iconst 2, 1) := by decide +kernel
theorem dX1_judge_39 : decode cX1_judge 39 = .ok (.iload_n 1, 1) := by decide +kernel
theorem dX1_judge_40 : decode cX1_judge 40 = .ok (.aload_n 0, 1) := by decide +kernel
theorem dX1_judge_41 : decode cX1_judge 41 = .ok (.getfield 21, 3) := by decide +kernel
theorem dX1_judge_44 : decode cX1_judge 44 = .ok (.iload_n 3, 1) := by decide +kernel
theorem dX1_judge_45 : decode cX1_judge 45 = .ok (.iaload, 1) := by decide +kernel
theorem dX1_judge_46 : decode cX1_judge 46 = .ok (.iand, 1) := by decide +kernel
theorem dX1_judge_47 : decode cX1_judge 47 = .ok (.invokestatic 111, 3) := by decide +kernel
theorem dX1_judge_50 : decode cX1_judge 50 = .ok (.imul, 1) := by decide +kernel
theorem dX1_judge_51 : decode cX1_judge 51 = .ok (.iadd, 1) := by decide +kernel
theorem dX1_judge_52 : decode cX1_judge 52 = .ok (.iconst 3, 1) := by decide +kernel
theorem dX1_judge_53 : decode cX1_judge 53 = .ok (.iload_n 2, 1) := by decide +kernel
theorem dX1_judge_54 : decode cX1_judge 54 = .ok (.aload_n 0, 1) := by decide +kernel
theorem dX1_judge_55 : decode cX1_judge 55 = .ok (.getfield 18, 3) := by decide +kernel
theorem dX1_judge_58 : decode cX1_judge 58 = .ok (.iload_n 3, 1) := by decide +kernel
theorem dX1_judge_59 : decode cX1_judge 59 = .ok (.iaload, 1) := by decide +kernel
theorem dX1_judge_60 : decode cX1_judge 60 = .ok (.iand, 1) := by decide +kernel
theorem dX1_judge_61 : decode cX1_judge 61 = .ok (.invokestatic 111, 3) := by decide +kernel
theorem dX1_judge_64 : decode cX1_judge 64 = .ok (.imul, 1) := by decide +kernel
theorem dX1_judge_65 : decode cX1_judge 65 = .ok (.iadd, 1) := by decide +kernel
theorem dX1_judge_66 : decode cX1_judge 66 = .ok (.istore 4, 2) := by decide +kernel
theorem dX1_judge_68 : decode cX1_judge 68 = .ok (.aload_n 0, 1) := by decide +kernel
theorem dX1_judge_69 : decode cX1_judge 69 = .ok (.getfield 84, 3) := by decide +kernel
theorem dX1_judge_72 : decode cX1_judge 72 = .ok (.ldc 125, 2) := by decide +kernel
theorem dX1_judge_74 : decode cX1_judge 74 = .ok (.if_icmp .eq 12, 3) := by decide +kernel
theorem dX1_judge_77 : decode cX1_judge 77 = .ok (.iload 4, 2) := by decide +kernel
theorem dX1_judge_79 : decode cX1_judge 79 = .ok (.aload_n 0, 1) := by decide +kernel
theorem dX1_judge_80 : decode cX1_judge 80 = .ok (.getfield 84, 3) := by decide +kernel
theorem dX1_judge_83 : decode cX1_judge 83 = .ok (.if_icmp .ge 14, 3) := by decide +kernel
theorem dX1_judge_86 : decode cX1_judge 86 = .ok (.aload_n 0, 1) := by decide +kernel
theorem dX1_judge_87 : decode cX1_judge 87 = .ok (.iload 4, 2) := by decide +kernel
theorem dX1_judge_89 : decode cX1_judge 89 = .ok (.putfield 84, 3) := by decide +kernel
theorem dX1_judge_92 : decode cX1_judge 92 = .ok (.aload_n 0, 1) := by decide +kernel
theorem dX1_judge_93 : decode cX1_judge 93 = .ok (.iconst 0, 1) := by decide +kernel
theorem dX1_judge_94 : decode cX1_judge 94 = .ok (.putfield 126, 3) := by decide +kernel
theorem dX1_judge_97 : decode cX1_judge 97 = .ok (.iload 4, 2) := by decide +kernel
theorem dX1_judge_99 : decode cX1_judge 99 = .ok (.aload_n 0, 1) := by decide +kernel
theorem dX1_judge_100 : decode cX1_judge 100 = .ok (.getfield 84, 3) := by decide +kernel
theorem dX1_judge_103 : decode cX1_judge 103 = .ok (.if_icmp .ne 13, 3) := by decide +kernel
theorem dX1_judge_106 : decode cX1_judge 106 = .ok (.aload_n 0, 1) := by decide +kernel
theorem dX1_judge_107 : decode cX1_judge 107 = .ok (.dup, 1) := by decide +kernel
theorem dX1_judge_108 : decode cX1_judge 108 = .ok (.getfield 126, 3) := by decide +kernel
theorem dX1_judge_111 : decode cX1_judge 111 = .ok (.iconst 1, 1) := by decide +kernel
theorem dX1_judge_112 : decode cX1_judge 112 = .ok (.iadd, 1) := by decide +kernel
theorem dX1_judge_113 : decode cX1_judge 113 = .ok (.putfield 126, 3) := by decide +kernel
theorem dX1_judge_116 : decode cX1_judge 116 = .ok (.iinc 3 1, 3) := by decide +kernel
theorem dX1_judge_119 : decode cX1_judge 119 = .ok (.goto (-106), 3) := by decide +kernel
theorem dX1_judge_122 : decode cX1_judge 122 = .ok (.return_, 1) := by decide +kernel
theorem dX2_init_0 : decode cX2_init 0 = .ok (.aload_n 0, 1) := by decide +kernel
theorem dX2_init_1 : decode cX2_init 1 = .ok (.invokespecial 3, 3) := by decide +kernel
theorem dX2_init_4 : decode cX2_init 4 = .ok (.aload_n 0, 1) := by decide +kernel
theorem dX2_init_5 : decode cX2_init 5 = .ok (.iconst 4, 1) := by decide +kernel
theorem dX2_init_6 : decode cX2_init 6 = .ok (.newarray .int, 2) := by decide +kernel
theorem dX2_init_8 : decode cX2_init 8 = .ok (.putfield 9, 3) := by decide +kernel
theorem dX2_init_11 : decode cX2_init 11 = .ok (.aload_n 0, 1) := by decide +kernel
theorem dX2_init_12 : decode cX2_init 12 = .ok (.bipush 20, 2) := by decide +kernel
theorem dX2_init_14 : decode cX2_init 14 = .ok (.newarray .int, 2) := by decide +kernel
theorem dX2_init_16 : decode cX2_init 16 = .ok (.putfield 15, 3) := by decide +kernel
theorem dX2_init_19 : decode cX2_init 19 = .ok (.aload_n 0, 1) := by decide +kernel
theorem dX2_init_20 : decode cX2_init 20 = .ok (.bipush 20, 2) := by decide +kernel
theorem dX2_init_22 : decode cX2_init 22 = .ok (.anewarray 18, 3) := by decide +kernel
theorem dX2_init_25 : decode cX2_init 25 = .ok (.putfield 20, 3) := by decide +kernel
theorem dX2_init_28 : decode cX2_init 28 = .ok (.aload_n 0, 1) := by decide +kernel
theorem dX2_init_29 : decode cX2_init 29 = .ok (.iconst 4, 1) := by decide +kernel
theorem dX2_init_30 : decode cX2_init 30 = .ok (.newarray .int, 2) := by decide +kernel
theorem dX2_init_32 : decode cX2_init 32 = .ok (.putfield 24, 3) := by decide +kernel
theorem dX2_init_35 : decode cX2_init 35 = .ok (.iconst 0, 1) := by decide +kernel
theorem dX2_init_36 : decode cX2_init 36 = .ok (.istore_n 2, 1) := by decide +kernel
theorem dX2_init_37 : decode cX2_init 37 = .ok (.iload_n 2, 1) := by decide +kernel
theorem dX2_init_38 : decode cX2_init 38 = .ok (.bipush 20, 2) := by decide +kernel
theorem dX2_init_40 : decode cX2_init 40 = .ok (.if_icmp .ge 16, 3) := by decide +kernel
theorem dX2_init_43 : decode cX2_init 43 = .ok (.aload_n 0, 1) := by decide +kernel
theorem dX2_init_44 : decode cX2_init 44 = .ok (.getfield 20, 3) := by decide +kernel
theorem dX2_init_47 : decode cX2_init 47 = .ok (.iload_n 2, 1) := by decide +kernel
theorem dX2_init_48 : decode cX2_init 48 = .ok (.aload_n 1, 1) := by decide +kernel
theorem dX2_init_49 : decode cX2_init 49 = .ok (.aastore, 1) := by decide +kernel
theorem dX2_init_50 : decode cX2_init 50 = .ok (.iinc 2 1, 3) := by decide +kernel
theorem dX2_init_53 : decode cX2_init 53 = .ok (.goto (-16), 3) := by decide +kernel
theorem dX2_init_56 : decode cX2_init 56 = .ok (.return_, 1) := by decide +kernel
theorem dX2_hasWord_0 : decode cX2_hasWord 0 = .ok (.iload_n 1, 1) := by decide +kernel
theorem dX2_hasWord_1 : decode cX2_hasWord 1 = .ok (.ifCond .lt 15, 3) := by decide +kernel
theorem dX2_hasWord_4 : decode cX2_hasWord 4 = .ok (.iload_n 1, 1) := by decide +kernel
theorem dX2_hasWord_5 : decode cX2_hasWord 5 = .ok (.aload_n 0, 1) := by decide +kernel
theorem dX2_hasWord_6 : decode cX2_hasWord 6 = .ok (.getfield 27, 3) := by decide +kernel
theorem dX2_hasWord_9 : decode cX2_hasWord 9 = .ok (.if_icmp .ge 7, 3) := by decide +kernel
theorem dX2_hasWord_12 : decode cX2_hasWord 12 = .ok (.iconst 1, 1) := by decide +kernel
theorem dX2_hasWord_13 : decode cX2_hasWord 13 = .ok (.goto 4, 3) := by decide +kernel
theorem dX2_hasWord_16 : decode cX2_hasWord 16 = .ok (.iconst 0, 1) := by decide +kernel
theorem dX2_hasWord_17 : decode cX2_hasWord 17 = .ok (.ireturn, 1) := by decide +kernel
theorem dX2_hasLine_0 : decode cX2_hasLine 0 = .ok (.iload_n 1, 1) := by decide +kernel
theorem dX2_hasLine_1 : decode cX2_hasLine 1 = .ok (.ifCond .lt 15, 3) := by decide +kernel
theorem dX2_hasLine_4 : decode cX2_hasLine 4 = .ok (.iload_n 1, 1) := by decide +kernel
theorem dX2_hasLine_5 : decode cX2_hasLine 5 = .ok (.aload_n 0, 1) := by decide +kernel
theorem dX2_hasLine_6 : decode cX2_hasLine 6 = .ok (.getfield 31, 3) := by decide +kernel
theorem dX2_hasLine_9 : decode cX2_hasLine 9 = .ok (.if_icmp .ge 7, 3) := by decide +kernel
theorem dX2_hasLine_12 : decode cX2_hasLine 12 = .ok (.iconst 1, 1) := by decide +kernel
theorem dX2_hasLine_13 : decode cX2_hasLine 13 = .ok (.goto 4, 3) := by decide +kernel
theorem dX2_hasLine_16 : decode cX2_hasLine 16 = .ok (.iconst 0, 1) := by decide +kernel
theorem dX2_hasLine_17 : decode cX2_hasLine 17 = .ok (.ireturn, 1) := by decide +kernel
theorem dX2_becomeAs_0 : decode cX2_becomeAs 0 = .ok (.aload_n 0, 1) := by decide +kernel
theorem dX2_becomeAs_1 : decode cX2_becomeAs 1 = .ok (.aload_n 1, 1) := by decide +kernel
theorem dX2_becomeAs_2 : decode cX2_becomeAs 2 = .ok (.getfield 34, 3) := by decide +kernel
theorem dX2_becomeAs_5 : decode cX2_becomeAs 5 = .ok (.putfield 34, 3) := by decide +kernel
theorem dX2_becomeAs_8 : decode cX2_becomeAs 8 = .ok (.aload_n 0, 1) := by decide +kernel
theorem dX2_becomeAs_9 : decode cX2_becomeAs 9 = .ok (.aload_n 1, 1) := by decide +kernel
theorem dX2_becomeAs_10 : decode cX2_becomeAs 10 = .ok (.getfield 37, 3) := by decide +kernel
theorem dX2_becomeAs_13 : decode cX2_becomeAs 13 = .ok (.putfield 37, 3) := by decide +kernel
theorem dX2_becomeAs_16 : decode cX2_becomeAs 16 = .ok (.aload_n 0, 1) := by decide +kernel
theorem dX2_becomeAs_17 : decode cX2_becomeAs 17 = .ok (.aload_n 1, 1) := by decide +kernel
theorem dX2_becomeAs_18 : decode cX2_becomeAs 18 = .ok (.getfield 31, 3) := by decide +kernel
theorem dX2_becomeAs_21 : decode cX2_becomeAs 21 = .ok (.putfield 31, 3) := by decide +kernel
theorem dX2_becomeAs_24 : decode cX2_becomeAs 24 = .ok (.aload_n 0, 1) := by decide +kernel
theorem dX2_becomeAs_25 : decode cX2_becomeAs 25 = .ok (.aload_n 1, 1) := by decide +kernel
theorem dX2_becomeAs_26 : decode cX2_becomeAs 26 = .ok (.getfield 27, 3) := by decide +kernel
theorem dX2_becomeAs_29 : decode cX2_becomeAs 29 = .ok (.putfield 27, 3) := by decide +kernel
theorem dX2_becomeAs_32 : decode cX2_becomeAs 32 = .ok (.iconst 0, 1) := by decide +kernel
theorem dX2_becomeAs_33 : decode cX2_becomeAs 33 = .ok (.istore_n 2, 1) := by decide +kernel
theorem dX2_becomeAs_34 : decode cX2_becomeAs 34 = .ok (.iload_n 2, 1) := by decide +kernel
theorem dX2_becomeAs_35 : decode cX2_becomeAs 35 = .ok (.iconst 4, 1) := by decide +kernel
theorem dX2_becomeAs_36 : decode cX2_becomeAs 36 = .ok (.if_icmp .ge 21, 3) := by decide +kernel
theorem dX2_becomeAs_39 : decode cX2_becomeAs 39 = .ok (.aload_n 0, 1) := by decide +kernel
theorem dX2_becomeAs_40 : decode cX2_becomeAs 40 = .ok (.getfield 9, 3) := by decide +kernel
theorem dX2_becomeAs_43 : decode cX2_becomeAs 43 = .ok (.iload_n 2, 1) := by decide +kernel
theorem dX2_becomeAs_44 : decode cX2_becomeAs 44 = .ok (.aload_n 1, 1) := by decide +kernel
theorem dX2_becomeAs_45 : decode cX2_becomeAs 45 = .ok (.getfield 9, 3) := by decide +kernel
theorem dX2_becomeAs_48 : decode cX2_becomeAs 48 = .ok (.iload_n 2, 1) := by decide +kernel
theorem dX2_becomeAs_49 : decode cX2_becomeAs 49 = .ok (.iaload, 1) := by decide +kernel
theorem dX2_becomeAs_50 : decode cX2_becomeAs 50 = .ok (.iastore, 1) := by decide +kernel
theorem dX2_becomeAs_51 : decode cX2_becomeAs 51 = .ok (.iinc 2 1, 3) := by decide +kernel
theorem dX2_becomeAs_54 : decode cX2_becomeAs 54 = .ok (.goto (-20), 3) := by decide +kernel
theorem dX2_becomeAs_57 : decode cX2_becomeAs 57 = .ok (.iconst 0, 1) := by decide +kernel
theorem dX2_becomeAs_58 : decode cX2_becomeAs 58 = .ok (.istore_n 2, 1) := by decide +kernel
theorem dX2_becomeAs_59 : decode cX2_becomeAs 59 = .ok (.iload_n 2, 1) := by decide +kernel
theorem dX2_becomeAs_60 : decode cX2_becomeAs 60 = .ok (.bipush 20, 2) := by decide +kernel
theorem dX2_becomeAs_62 : decode cX2_becomeAs 62 = .ok (.if_icmp .ge 33, 3) := by decide +kernel
theorem dX2_becomeAs_65 : decode cX2_becomeAs 65 = .ok (.aload_n 0, 1) := by decide +kernel
theorem dX2_becomeAs_66 : decode cX2_becomeAs 66 = .ok (.getfield 15, 3) := by decide +kernel
theorem dX2_becomeAs_69 : decode cX2_becomeAs 69 = .ok (.iload_n 2, 1) := by decide +kernel
theorem dX2_becomeAs_70 : decode cX2_becomeAs 70 = .ok (.aload_n 1, 1) := by decide +kernel
theorem dX2_becomeAs_71 : decode cX2_becomeAs 71 = .ok (.getfield 15, 3) := by decide +kernel
theorem dX2_becomeAs_74 : decode cX2_becomeAs 74 = .ok (.iload_n 2, 1) := by decide +kernel
theorem dX2_becomeAs_75 : decode cX2_becomeAs 75 = .ok (.iaload, 1) := by decide +kernel
theorem dX2_becomeAs_76 : decode cX2_becomeAs 76 = .ok (.iastore, 1) := by decide +kernel
theorem dX2_becomeAs_77 : decode cX2_becomeAs 77 = .ok (.aload_n 0, 1) := by decide +kernel
theorem dX2_becomeAs_78 : decode cX2_becomeAs 78 = .ok (.getfield 20, 3) := by decide +kernel
theorem dX2_becomeAs_81 : decode cX2_becomeAs 81 = .ok (.iload_n 2, 1) := by decide +kernel
theorem dX2_becomeAs_82 : decode cX2_becomeAs 82 = .ok (.aload_n 1, 1) := by decide +kernel
theorem dX2_becomeAs_83 : decode cX2_becomeAs 83 = .ok (.getfield 20, 3) := by decide +kernel
theorem dX2_becomeAs_86 : decode cX2_becomeAs 86 = .ok (.iload_n 2, 1) := by decide +kernel
theorem dX2_becomeAs_87 : decode cX2_becomeAs 87 = .ok (.aaload, 1) := by decide +kernel
theorem dX2_becomeAs_88 : decode cX2_becomeAs 88 = .ok (.aastore, 1) := by decide +kernel
theorem dX2_becomeAs_89 : decode cX2_becomeAs 89 = .ok (.iinc 2 1, 3) := by decide +kernel
theorem dX2_becomeAs_92 : decode cX2_becomeAs 92 = .ok (.goto (-33), 3) := by decide +kernel
theorem dX2_becomeAs_95 : decode cX2_becomeAs 95 = .ok (.return_, 1) := by decide +kernel
theorem dX2_beginLine_0 : decode cX2_beginLine 0 = .ok (.aload_n 0, 1) := by decide +kernel
theorem dX2_beginLine_1 : decode cX2_beginLine 1 = .ok (.getfield 31, 3) := by decide +kernel
theorem dX2_beginLine_4 : decode cX2_beginLine 4 = .ok (.iconst 4, 1) := by decide +kernel
theorem dX2_beginLine_5 : decode cX2_beginLine 5 = .ok (.if_icmp .ge 23, 3) := by decide +kernel
theorem dX2_beginLine_8 : decode cX2_beginLine 8 = .ok (.aload_n 0, 1) := by decide +kernel
theorem dX2_beginLine_9 : decode cX2_beginLine 9 = .ok (.getfield 9, 3) := by decide +kernel
theorem dX2_beginLine_12 : decode cX2_beginLine 12 = .ok (.aload_n 0, 1) := by decide +kernel
theorem dX2_beginLine_13 : decode cX2_beginLine 13 = .ok (.getfield 31, 3) := by decide +kernel
theorem dX2_beginLine_16 : decode cX2_beginLine 16 = .ok (.iconst 0, 1) := by decide +kernel
theorem dX2_beginLine_17 : decode cX2_beginLine 17 = .ok (.iastore, 1) := by decide +kernel
theorem dX2_beginLine_18 : decode cX2_beginLine 18 = .ok (.aload_n 0, 1) := by decide +kernel
theorem dX2_beginLine_19 : decode cX2_beginLine 19 = .ok (.dup, 1) := by decide +kernel
theorem dX2_beginLine_20 : decode cX2_beginLine 20 = .ok (.getfield 31, 3) := by decide +kernel
theorem dX2_beginLine_23 : decode cX2_beginLine 23 = .ok (.iconst 1, 1) := by decide +kernel
theorem dX2_beginLine_24 : decode cX2_beginLine 24 = .ok (.iadd, 1) := by decide +kernel
theorem dX2_beginLine_25 : decode cX2_beginLine 25 = .ok (.putfield 31, 3) := by decide +kernel
theorem dX2_beginLine_28 : decode cX2_beginLine 28 = .ok (.return_, 1) := by decide +kernel
theorem dX2_firstOf_0 : decode cX2_firstOf 0 = .ok (.iconst 0, 1) := by decide +kernel
theorem dX2_firstOf_1 : decode cX2_firstOf 1 = .ok (.istore_n 2, 1) := by decide +kernel
theorem dX2_firstOf_2 : decode cX2_firstOf 2 = .ok (.iconst 0, 1) := by decide +kernel
theorem dX2_firstOf_3 : decode cX2_firstOf 3 = .ok (.istore_n 3, 1) := by decide +kernel
theorem dX2_firstOf_4 : decode cX2_firstOf 4 = .ok (.iload_n 3, 1) := by decide +kernel
theorem dX2_firstOf_5 : decode cX2_firstOf 5 = .ok (.iload_n 1, 1) := by decide +kernel
theorem dX2_firstOf_6 : decode cX2_firstOf 6 = .ok (.if_icmp .ge 23, 3) := by decide +kernel
theorem dX2_firstOf_9 : decode cX2_firstOf 9 = .ok (.iload_n 3, 1) := by decide +kernel
theorem dX2_firstOf_10 : decode cX2_firstOf 10 = .ok (.iconst 4, 1) := by decide +kernel
theorem dX2_firstOf_11 : decode cX2_firstOf 11 = .ok (.if_icmp .ge 18, 3) := by decide +kernel
theorem dX2_firstOf_14 : decode cX2_firstOf 14 = .ok (.iload_n 2, 1) := by decide +kernel
theorem dX2_firstOf_15 : decode cX2_firstOf 15 = .ok (.aload_n 0, 1) := by decide +kernel
theorem dX2_firstOf_16 : decode cX2_firstOf 16 = .ok (.getfield 9, 3) := by decide +kernel
theorem dX2_firstOf_19 : decode cX2_firstOf 19 = .ok (.iload_n 3, 1) := by decide +kernel
theorem dX2_firstOf_20 : decode cX2_firstOf 20 = .ok (.iaload, 1) := by decide +kernel
theorem dX2_firstOf_21 : decode cX2_firstOf 21 = .ok (.iadd, 1) := by decide +kernel
theorem dX2_firstOf_22 : decode cX2_firstOf 22 = .ok (.istore_n 2, 1) := by decide +kernel
theorem dX2_firstOf_23 : decode cX2_firstOf 23 = .ok (.iinc 3 1, 3) := by decide +kernel
theorem dX2_firstOf_26 : decode cX2_firstOf 26 = .ok (.goto (-22), 3) := by decide +kernel
theorem dX2_firstOf_29 : decode cX2_firstOf 29 = .ok (.iload_n 2, 1) := by decide +kernel
theorem dX2_firstOf_30 : decode cX2_firstOf 30 = .ok (.ireturn, 1) := by decide +kernel
theorem dX2_lastOf_0 : decode cX2_lastOf 0 = .ok (.aload_n 0, 1) := by decide +kernel
theorem dX2_lastOf_1 : decode cX2_lastOf 1 = .ok (.iload_n 1, 1) := by decide +kernel
theorem dX2_lastOf_2 : decode cX2_lastOf 2 = .ok (.invokevirtual 40, 3) := by decide +kernel
theorem dX2_lastOf_5 : decode cX2_lastOf 5 = .ok (.aload_n 0, 1) := by decide +kernel
theorem dX2_lastOf_6 : decode cX2_lastOf 6 = .ok (.getfield 9, 3) := by decide +kernel
theorem dX2_lastOf_9 : decode cX2_lastOf 9 = .ok (.iload_n 1, 1) := by decide +kernel
theorem dX2_lastOf_10 : decode cX2_lastOf 10 = .ok (.iaload, 1) := by decide +kernel
theorem dX2_lastOf_11 : decode cX2_lastOf 11 = .ok (.iadd, 1) := by decide +kernel
theorem dX2_lastOf_12 : decode cX2_lastOf 12 = .ok (.iconst 1, 1) := by decide +kernel
theorem dX2_lastOf_13 : decode cX2_lastOf 13 = .ok (.isub, 1) := by decide +kernel
theorem dX2_lastOf_14 : decode cX2_lastOf 14 = .ok (.ireturn, 1) := by decide +kernel
theorem dX2_lineOf_0 : decode cX2_lineOf 0 = .ok (.iconst 0, 1) := by decide +kernel
theorem dX2_lineOf_1 : decode cX2_lineOf 1 = .ok (.istore_n 2, 1) := by decide +kernel
theorem dX2_lineOf_2 : decode cX2_lineOf 2 = .ok (.iconst 0, 1) := by decide +kernel
theorem dX2_lineOf_3 : decode cX2_lineOf 3 = .ok (.istore_n 3, 1) := by decide +kernel
theorem dX2_lineOf_4 : decode cX2_lineOf 4 = .ok (.iload_n 3, 1) := by decide +kernel
theorem dX2_lineOf_5 : decode cX2_lineOf 5 = .ok (.aload_n 0, 1) := by decide +kernel
theorem dX2_lineOf_6 : decode cX2_lineOf 6 = .ok (.getfield 31, 3) := by decide +kernel
theorem dX2_lineOf_9 : decode cX2_lineOf 9 = .ok (.if_icmp .ge 25, 3) := by decide +kernel
theorem dX2_lineOf_12 : decode cX2_lineOf 12 = .ok (.iload_n 2, 1) := by decide +kernel
theorem dX2_lineOf_13 : decode cX2_lineOf 13 = .ok (.aload_n 0, 1) := by decide +kernel
theorem dX2_lineOf_14 : decode cX2_lineOf 14 = .ok (.getfield 9, 3) := by decide +kernel
theorem dX2_lineOf_17 : decode cX2_lineOf 17 = .ok (.iload_n 3, 1) := by decide +kernel
theorem dX2_lineOf_18 : decode cX2_lineOf 18 = .ok (.iaload, 1) := by decide +kernel
theorem dX2_lineOf_19 : decode cX2_lineOf 19 = .ok (.iadd, 1) := by decide +kernel
theorem dX2_lineOf_20 : decode cX2_lineOf 20 = .ok (.istore_n 2, 1) := by decide +kernel
theorem dX2_lineOf_21 : decode cX2_lineOf 21 = .ok (.iload_n 1, 1) := by decide +kernel
theorem dX2_lineOf_22 : decode cX2_lineOf 22 = .ok (.iload_n 2, 1) := by decide +kernel
theorem dX2_lineOf_23 : decode cX2_lineOf 23 = .ok (.if_icmp .ge 5, 3) := by decide +kernel
theorem dX2_lineOf_26 : decode cX2_lineOf 26 = .ok (.iload_n 3, 1) := by decide +kernel
theorem dX2_lineOf_27 : decode cX2_lineOf 27 = .ok (.ireturn, 1) := by decide +kernel
theorem dX2_lineOf_28 : decode cX2_lineOf 28 = .ok (.iinc 3 1, 3) := by decide +kernel
theorem dX2_lineOf_31 : decode cX2_lineOf 31 = .ok (.goto (-27), 3) := by decide +kernel
theorem dX2_lineOf_34 : decode cX2_lineOf 34 = .ok (.iconst 0, 1) := by decide +kernel
theorem dX2_lineOf_35 : decode cX2_lineOf 35 = .ok (.ireturn, 1) := by decide +kernel
theorem dX2_insert_0 : decode cX2_insert 0 = .ok (.aload_n 0, 1) := by decide +kernel
theorem dX2_insert_1 : decode cX2_insert 1 = .ok (.getfield 27, 3) := by decide +kernel
theorem dX2_insert_4 : decode cX2_insert 4 = .ok (.bipush 20, 2) := by decide +kernel
theorem dX2_insert_6 : decode cX2_insert 6 = .ok (.if_icmp .ge 23, 3) := by decide +kernel
theorem dX2_insert_9 : decode cX2_insert 9 = .ok (.aload_n 0, 1) := by decide +kernel
theorem dX2_insert_10 : decode cX2_insert 10 = .ok (.iload_n 1, 1) := by decide +kernel
theorem dX2_insert_11 : decode cX2_insert 11 = .ok (.invokevirtual 44, 3) := by decide +kernel
theorem dX2_insert_14 : decode cX2_insert 14 = .ok (.ifCond .eq 15, 3) := by decide +kernel
theorem dX2_insert_17 : decode cX2_insert 17 = .ok (.iload_n 2, 1) := by decide +kernel
theorem dX2_insert_18 : decode cX2_insert 18 = .ok (.ifCond .lt 11, 3) := by decide +kernel
theorem dX2_insert_21 : decode cX2_insert 21 = .ok (.iload_n 2, 1) := by decide +kernel
theorem dX2_insert_22 : decode cX2_insert 22 = .ok (.aload_n 0, 1) := by decide +kernel
theorem dX2_insert_23 : decode cX2_insert 23 = .ok (.getfield 27, 3) := by decide +kernel
theorem dX2_insert_26 : decode cX2_insert 26 = .ok (.if_icmp .le 4, 3) := by decide +kernel
theorem dX2_insert_29 : decode cX2_insert 29 = .ok (.return_, 1) := by decide +kernel
theorem dX2_insert_30 : decode cX2_insert 30 = .ok (.aload_n 0, 1) := by decide +kernel
theorem dX2_insert_31 : decode cX2_insert 31 = .ok (.getfield 27, 3) := by decide +kernel
theorem dX2_insert_34 : decode cX2_insert 34 = .ok (.istore 5, 2) := by decide +kernel
theorem dX2_insert_36 : decode cX2_insert 36 = .ok (.iload 5, 2) := by decide +kernel
theorem dX2_insert_38 : decode cX2_insert 38 = .ok (.iload_n 2, 1) := by decide +kernel
theorem dX2_insert_39 : decode cX2_insert 39 = .ok (.if_icmp .le 41, 3) := by decide +kernel
theorem dX2_insert_42 : decode cX2_insert 42 = .ok (.aload_n 0, 1) := by decide +kernel
theorem dX2_insert_43 : decode cX2_insert 43 = .ok (.getfield 15, 3) := by decide +kernel
theorem dX2_insert_46 : decode cX2_insert 46 = .ok (.iload 5, 2) := by decide +kernel
theorem dX2_insert_48 : decode cX2_insert 48 = .ok (.aload_n 0, 1) := by decide +kernel
theorem dX2_insert_49 : decode cX2_insert 49 = .ok (.getfield 15, 3) := by decide +kernel
theorem dX2_insert_52 : decode cX2_insert 52 = .ok (.iload 5, 2) := by decide +kernel
theorem dX2_insert_54 : decode cX2_insert 54 = .ok (.iconst 1, 1) := by decide +kernel
theorem dX2_insert_55 : decode cX2_insert 55 = .ok (.isub, 1) := by decide +kernel
theorem dX2_insert_56 : decode cX2_insert 56 = .ok (.iaload, 1) := by decide +kernel
theorem dX2_insert_57 : decode cX2_insert 57 = .ok (.iastore, 1) := by decide +kernel
theorem dX2_insert_58 : decode cX2_insert 58 = .ok (.aload_n 0, 1) := by decide +kernel
theorem dX2_insert_59 : decode cX2_insert 59 = .ok (.getfield 20, 3) := by decide +kernel
theorem dX2_insert_62 : decode cX2_insert 62 = .ok (.iload 5, 2) := by decide +kernel
theorem dX2_insert_64 : decode cX2_insert 64 = .ok (.aload_n 0, 1) := by decide +kernel
theorem dX2_insert_65 : decode cX2_insert 65 = .ok (.getfield 20, 3) := by decide +kernel
theorem dX2_insert_68 : decode cX2_insert 68 = .ok (.iload 5, 2) := by decide +kernel
theorem dX2_insert_70 : decode cX2_insert 70 = .ok (.iconst 1, 1) := by decide +kernel
theorem dX2_insert_71 : decode cX2_insert 71 = .ok (.isub, 1) := by decide +kernel
theorem dX2_insert_72 : decode cX2_insert 72 = .ok (.aaload, 1) := by decide +kernel
theorem dX2_insert_73 : decode cX2_insert 73 = .ok (.aastore, 1) := by decide +kernel
theorem dX2_insert_74 : decode cX2_insert 74 = .ok (.iinc 5 (-1), 3) := by decide +kernel
theorem dX2_insert_77 : decode cX2_insert 77 = .ok (.goto (-41), 3) := by decide +kernel
theorem dX2_insert_80 : decode cX2_insert 80 = .ok (.aload_n 0, 1) := by decide +kernel
theorem dX2_insert_81 : decode cX2_insert 81 = .ok (.getfield 15, 3) := by decide +kernel
theorem dX2_insert_84 : decode cX2_insert 84 = .ok (.iload_n 2, 1) := by decide +kernel
theorem dX2_insert_85 : decode cX2_insert 85 = .ok (.iload 4, 2) := by decide +kernel
theorem dX2_insert_87 : decode cX2_insert 87 = .ok (.iastore, 1) := by decide +kernel
theorem dX2_insert_88 : decode cX2_insert 88 = .ok (.aload_n 0, 1) := by decide +kernel
theorem dX2_insert_89 : decode cX2_insert 89 = .ok (.getfield 20, 3) := by decide +kernel
theorem dX2_insert_92 : decode cX2_insert 92 = .ok (.iload_n 2, 1) := by decide +kernel
theorem dX2_insert_93 : decode cX2_insert 93 = .ok (.aload_n 3, 1) := by decide +kernel
theorem dX2_insert_94 : decode cX2_insert 94 = .ok (.aastore, 1) := by decide +kernel
theorem dX2_insert_95 : decode cX2_insert 95 = .ok (.aload_n 0, 1) := by decide +kernel
theorem dX2_insert_96 : decode cX2_insert 96 = .ok (.getfield 9, 3) := by decide +kernel
theorem dX2_insert_99 : decode cX2_insert 99 = .ok (.iload_n 1, 1) := by decide +kernel
theorem dX2_insert_100 : decode cX2_insert 100 = .ok (.dup2, 1) := by decide +kernel
theorem dX2_insert_101 : decode cX2_insert 101 = .ok (.iaload, 1) := by decide +kernel
theorem dX2_insert_102 : decode cX2_insert 102 = .ok (.iconst 1, 1) := by decide +kernel
theorem dX2_insert_103 : decode cX2_insert 103 = .ok (.iadd, 1) := by decide +kernel
theorem dX2_insert_104 : decode cX2_insert 104 = .ok (.iastore, 1) := by decide +kernel
theorem dX2_insert_105 : decode cX2_insert 105 = .ok (.aload_n 0, 1) := by decide +kernel
theorem dX2_insert_106 : decode cX2_insert 106 = .ok (.dup, 1) := by decide +kernel
theorem dX2_insert_107 : decode cX2_insert 107 = .ok (.getfield 27, 3) := by decide +kernel
theorem dX2_insert_110 : decode cX2_insert 110 = .ok (.iconst 1, 1) := by decide +kernel
theorem dX2_insert_111 : decode cX2_insert 111 = .ok (.iadd, 1) := by decide +kernel
theorem dX2_insert_112 : decode cX2_insert 112 = .ok (.putfield 27, 3) := by decide +kernel
theorem dX2_insert_115 : decode cX2_insert 115 = .ok (.return_, 1) := by decide +kernel
theorem dX2_remove_0 : decode cX2_remove 0 = .ok (.aload_n 0, 1) := by decide +kernel
theorem dX2_remove_1 : decode cX2_remove 1 = .ok (.iload_n 2, 1) := by decide +kernel
theorem dX2_remove_2 : decode cX2_remove 2 = .ok (.invokevirtual 48, 3) := by decide +kernel
theorem dX2_remove_5 : decode cX2_remove 5 = .ok (.ifCond .eq 11, 3) := by decide +kernel
theorem dX2_remove_8 : decode cX2_remove 8 = .ok (.aload_n 0, 1) := by decide +kernel
theorem dX2_remove_9 : decode cX2_remove 9 = .ok (.iload_n 1, 1) := by decide +kernel
theorem dX2_remove_10 : decode cX2_remove 10 = .ok (.invokevirtual 44, 3) := by decide +kernel
theorem dX2_remove_13 : decode cX2_remove 13 = .ok (.ifCond .ne 4, 3) := by decide +kernel
theorem dX2_remove_16 : decode cX2_remove 16 = .ok (.return_, 1) := by decide +kernel
theorem dX2_remove_17 : decode cX2_remove 17 = .ok (.iload_n 2, 1) := by decide +kernel
theorem dX2_remove_18 : decode cX2_remove 18 = .ok (.istore_n 3, 1) := by decide +kernel
theorem dX2_remove_19 : decode cX2_remove 19 = .ok (.iload_n 3, 1) := by decide +kernel
theorem dX2_remove_20 : decode cX2_remove 20 = .ok (.aload_n 0, 1) := by decide +kernel
theorem dX2_remove_21 : decode cX2_remove 21 = .ok (.getfield 27, 3) := by decide +kernel
theorem dX2_remove_24 : decode cX2_remove 24 = .ok (.iconst 1, 1) := by decide +kernel
theorem dX2_remove_25 : decode cX2_remove 25 = .ok (.isub, 1) := by decide +kernel
theorem dX2_remove_26 : decode cX2_remove 26 = .ok (.if_icmp .ge 37, 3) := by decide +kernel
theorem dX2_remove_29 : decode cX2_remove 29 = .ok (.aload_n 0, 1) := by decide +kernel
theorem dX2_remove_30 : decode cX2_remove 30 = .ok (.getfield 15, 3) := by decide +kernel
theorem dX2_remove_33 : decode cX2_remove 33 = .ok (.iload_n 3, 1) := by decide +kernel
theorem dX2_remove_34 : decode cX2_remove 34 = .ok (.aload_n 0, 1) := by decide +kernel
theorem dX2_remove_35 : decode cX2_remove 35 = .ok (.getfield 15, 3) := by decide +kernel
theorem dX2_remove_38 : decode cX2_remove 38 = .ok (.iload_n 3, 1) := by decide +kernel
theorem dX2_remove_39 : decode cX2_remove 39 = .ok (.iconst 1, 1) := by decide +kernel
theorem dX2_remove_40 : decode cX2_remove 40 = .ok (.iadd, 1) := by decide +kernel
theorem dX2_remove_41 : decode cX2_remove 41 = .ok (.iaload, 1) := by decide +kernel
theorem dX2_remove_42 : decode cX2_remove 42 = .ok (.iastore, 1) := by decide +kernel
theorem dX2_remove_43 : decode cX2_remove 43 = .ok (.aload_n 0, 1) := by decide +kernel
theorem dX2_remove_44 : decode cX2_remove 44 = .ok (.getfield 20, 3) := by decide +kernel
theorem dX2_remove_47 : decode cX2_remove 47 = .ok (.iload_n 3, 1) := by decide +kernel
theorem dX2_remove_48 : decode cX2_remove 48 = .ok (.aload_n 0, 1) := by decide +kernel
theorem dX2_remove_49 : decode cX2_remove 49 = .ok (.getfield 20, 3) := by decide +kernel
theorem dX2_remove_52 : decode cX2_remove 52 = .ok (.iload_n 3, 1) := by decide +kernel
theorem dX2_remove_53 : decode cX2_remove 53 = .ok (.iconst 1, 1) := by decide +kernel
theorem dX2_remove_54 : decode cX2_remove 54 = .ok (.iadd, 1) := by decide +kernel
theorem dX2_remove_55 : decode cX2_remove 55 = .ok (.aaload, 1) := by decide +kernel
theorem dX2_remove_56 : decode cX2_remove 56 = .ok (.aastore, 1) := by decide +kernel
theorem dX2_remove_57 : decode cX2_remove 57 = .ok (.iinc 3 1, 3) := by decide +kernel
theorem dX2_remove_60 : decode cX2_remove 60 = .ok (.goto (-41), 3) := by decide +kernel
theorem dX2_remove_63 : decode cX2_remove 63 = .ok (.aload_n 0, 1) := by decide +kernel
theorem dX2_remove_64 : decode cX2_remove 64 = .ok (.getfield 9, 3) := by decide +kernel
theorem dX2_remove_67 : decode cX2_remove 67 = .ok (.iload_n 1, 1) := by decide +kernel
theorem dX2_remove_68 : decode cX2_remove 68 = .ok (.dup2, 1) := by decide +kernel
theorem dX2_remove_69 : decode cX2_remove 69 = .ok (.iaload, 1) := by decide +kernel
theorem dX2_remove_70 : decode cX2_remove 70 = .ok (.iconst 1, 1) := by decide +kernel
theorem dX2_remove_71 : decode cX2_remove 71 = .ok (.isub, 1) := by decide +kernel
theorem dX2_remove_72 : decode cX2_remove 72 = .ok (.iastore, 1) := by decide +kernel
theorem dX2_remove_73 : decode cX2_remove 73 = .ok (.aload_n 0, 1) := by decide +kernel
theorem dX2_remove_74 : decode cX2_remove 74 = .ok (.dup, 1) := by decide +kernel
theorem dX2_remove_75 : decode cX2_remove 75 = .ok (.getfield 27, 3) := by decide +kernel
theorem dX2_remove_78 : decode cX2_remove 78 = .ok (.iconst 1, 1) := by decide +kernel
theorem dX2_remove_79 : decode cX2_remove 79 = .ok (.isub, 1) := by decide +kernel
theorem dX2_remove_80 : decode cX2_remove 80 = .ok (.putfield 27, 3) := by decide +kernel
theorem dX2_remove_83 : decode cX2_remove 83 = .ok (.return_, 1) := by decide +kernel
theorem dX2_exchange_0 : decode cX2_exchange 0 = .ok (.aload_n 0, 1) := by decide +kernel
theorem dX2_exchange_1 : decode cX2_exchange 1 = .ok (.iload_n 1, 1) := by decide +kernel
theorem dX2_exchange_2 : decode cX2_exchange 2 = .ok (.invokevirtual 48, 3) := by decide +kernel
theorem dX2_exchange_5 : decode cX2_exchange 5 = .ok (.ifCond .eq 11, 3) := by decide +kernel
theorem dX2_exchange_8 : decode cX2_exchange 8 = .ok (.aload_n 0, 1) := by decide +kernel
theorem dX2_exchange_9 : decode cX2_exchange 9 = .ok (.iload_n 2, 1) := by decide +kernel
theorem dX2_exchange_10 : decode cX2_exchange 10 = .ok (.invokevirtual 48, 3) := by decide +kernel
theorem dX2_exchange_13 : decode cX2_exchange 13 = .ok (.ifCond .ne 4, 3) := by decide +kernel
theorem dX2_exchange_16 : decode cX2_exchange 16 = .ok (.return_, 1) := by decide +kernel
theorem dX2_exchange_17 : decode cX2_exchange 17 = .ok (.aload_n 0, 1) := by decide +kernel
theorem dX2_exchange_18 : decode cX2_exchange 18 = .ok (.getfield 15, 3) := by decide +kernel
theorem dX2_exchange_21 : decode cX2_exchange 21 = .ok (.iload_n 1, 1) := by decide +kernel
theorem dX2_exchange_22 : decode cX2_exchange 22 = .ok (.iaload, 1) := by decide +kernel
theorem dX2_exchange_23 : decode cX2_exchange 23 = .ok (.istore_n 3, 1) := by decide +kernel
theorem dX2_exchange_24 : decode cX2_exchange 24 = .ok (.aload_n 0, 1) := by decide +kernel
theorem dX2_exchange_25 : decode cX2_exchange 25 = .ok (.getfield 20, 3) := by decide +kernel
theorem dX2_exchange_28 : decode cX2_exchange 28 = .ok (.iload_n 1, 1) := by decide +kernel
theorem dX2_exchange_29 : decode cX2_exchange 29 = .ok (.aaload, 1) := by decide +kernel
theorem dX2_exchange_30 : decode cX2_exchange 30 = .ok (.astore 4, 2) := by decide +kernel
theorem dX2_exchange_32 : decode cX2_exchange 32 = .ok (.aload_n 0, 1) := by decide +kernel
theorem dX2_exchange_33 : decode cX2_exchange 33 = .ok (.getfield 15, 3) := by decide +kernel
theorem dX2_exchange_36 : decode cX2_exchange 36 = .ok (.iload_n 1, 1) := by decide +kernel
theorem dX2_exchange_37 : decode cX2_exchange 37 = .ok (.aload_n 0, 1) := by decide +kernel
theorem dX2_exchange_38 : decode cX2_exchange 38 = .ok (.getfield 15, 3) := by decide +kernel
theorem dX2_exchange_41 : decode cX2_exchange 41 = .ok (.iload_n 2, 1) := by decide +kernel
theorem dX2_exchange_42 : decode cX2_exchange 42 = .ok (.iaload, 1) := by decide +kernel
theorem dX2_exchange_43 : decode cX2_exchange 43 = .ok (.iastore, 1) := by decide +kernel
theorem dX2_exchange_44 : decode cX2_exchange 44 = .ok (.aload_n 0, 1) := by decide +kernel
theorem dX2_exchange_45 : decode cX2_exchange 45 = .ok (.getfield 20, 3) := by decide +kernel
theorem dX2_exchange_48 : decode cX2_exchange 48 = .ok (.iload_n 1, 1) := by decide +kernel
theorem dX2_exchange_49 : decode cX2_exchange 49 = .ok (.aload_n 0, 1) := by decide +kernel
theorem dX2_exchange_50 : decode cX2_exchange 50 = .ok (.getfield 20, 3) := by decide +kernel
theorem dX2_exchange_53 : decode cX2_exchange 53 = .ok (.iload_n 2, 1) := by decide +kernel
theorem dX2_exchange_54 : decode cX2_exchange 54 = .ok (.aaload, 1) := by decide +kernel
theorem dX2_exchange_55 : decode cX2_exchange 55 = .ok (.aastore, 1) := by decide +kernel
theorem dX2_exchange_56 : decode cX2_exchange 56 = .ok (.aload_n 0, 1) := by decide +kernel
theorem dX2_exchange_57 : decode cX2_exchange 57 = .ok (.getfield 15, 3) := by decide +kernel
theorem dX2_exchange_60 : decode cX2_exchange 60 = .ok (.iload_n 2, 1) := by decide +kernel
theorem dX2_exchange_61 : decode cX2_exchange 61 = .ok (.iload_n 3, 1) := by decide +kernel
theorem dX2_exchange_62 : decode cX2_exchange 62 = .ok (.iastore, 1) := by decide +kernel
theorem dX2_exchange_63 : decode cX2_exchange 63 = .ok (.aload_n 0, 1) := by decide +kernel
theorem dX2_exchange_64 : decode cX2_exchange 64 = .ok (.getfield 20, 3) := by decide +kernel
theorem dX2_exchange_67 : decode cX2_exchange 67 = .ok (.iload_n 2, 1) := by decide +kernel
theorem dX2_exchange_68 : decode cX2_exchange 68 = .ok (.aload 4, 2) := by decide +kernel
theorem dX2_exchange_70 : decode cX2_exchange 70 = .ok (.aastore, 1) := by decide +kernel
theorem dX2_exchange_71 : decode cX2_exchange 71 = .ok (.return_, 1) := by decide +kernel
theorem dX2_strongOnes_0 : decode cX2_strongOnes 0 = .ok (.aload_n 0, 1) := by decide +kernel
theorem dX2_strongOnes_1 : decode cX2_strongOnes 1 = .ok (.getfield 20, 3) := by decide +kernel
theorem dX2_strongOnes_4 : decode cX2_strongOnes 4 = .ok (.iload_n 1, 1) := by decide +kernel
theorem dX2_strongOnes_5 : decode cX2_strongOnes 5 = .ok (.aaload, 1) := by decide +kernel
theorem dX2_strongOnes_6 : decode cX2_strongOnes 6 = .ok (.getfield 51, 3) := by decide +kernel
theorem dX2_strongOnes_9 : decode cX2_strongOnes 9 = .ok (.istore_n 2, 1) := by decide +kernel
theorem dX2_strongOnes_10 : decode cX2_strongOnes 10 = .ok (.iconst 1, 1) := by decide +kernel
theorem dX2_strongOnes_11 : decode cX2_strongOnes 11 = .ok (.iload_n 2, 1) := by decide +kernel
theorem dX2_strongOnes_12 : decode cX2_strongOnes 12 = .ok (.ishl, 1) := by decide +kernel
theorem dX2_strongOnes_13 : decode cX2_strongOnes 13 = .ok (.iconst 1, 1) := by decide +kernel
theorem dX2_strongOnes_14 : decode cX2_strongOnes 14 = .ok (.isub, 1) := by decide +kernel
theorem dX2_strongOnes_15 : decode cX2_strongOnes 15 = .ok (.istore_n 3, 1) := by decide +kernel
theorem dX2_strongOnes_16 : decode cX2_strongOnes 16 = .ok (.aload_n 0, 1) := by decide +kernel
theorem dX2_strongOnes_17 : decode cX2_strongOnes 17 = .ok (.getfield 15, 3) := by decide +kernel
theorem dX2_strongOnes_20 : decode cX2_strongOnes 20 = .ok (.iload_n 1, 1) := by decide +kernel
theorem dX2_strongOnes_21 : decode cX2_strongOnes 21 = .ok (.iaload, 1) := by decide +kernel
theorem dX2_strongOnes_22 : decode cX2_strongOnes 22 = .ok (.tableswitch 41 1 3 #[26, 30, 36], 26) := by decide +kernel
theorem dX2_strongOnes_48 : decode cX2_strongOnes 48 = .ok (.iconst 1, 1) := by decide +kernel
theorem dX2_strongOnes_49 : decode cX2_strongOnes 49 = .ok (.iload_n 3, 1) := by decide +kernel
theorem dX2_strongOnes_50 : decode cX2_strongOnes 50 = .ok (.iand, 1) := by decide +kernel
theorem dX2_strongOnes_51 : decode cX2_strongOnes 51 = .ok (.ireturn, 1) := by decide +kernel
theorem dX2_strongOnes_52 : decode cX2_strongOnes 52 = .ok (.iload_n 3, 1) := by decide +kernel
theorem dX2_strongOnes_53 : decode cX2_strongOnes 53 = .ok (.iload_n 3, 1) := by decide +kernel
theorem dX2_strongOnes_54 : decode cX2_strongOnes 54 = .ok (.iconst 1, 1) := by decide +kernel
theorem dX2_strongOnes_55 : decode cX2_strongOnes 55 = .ok (.ishr, 1) := by decide +kernel
theorem dX2_strongOnes_56 : decode cX2_strongOnes 56 = .ok (.ixor, 1) := by decide +kernel
theorem dX2_strongOnes_57 : decode cX2_strongOnes 57 = .ok (.ireturn, 1) := by decide +kernel
theorem dX2_strongOnes_58 : decode cX2_strongOnes 58 = .ok (.ldc 54, 2) := by decide +kernel
theorem dX2_strongOnes_60 : decode cX2_strongOnes 60 = .ok (.iload_n 3, 1) := by decide +kernel
theorem dX2_strongOnes_61 : decode cX2_strongOnes 61 = .ok (.iand, 1) := by decide +kernel
theorem dX2_strongOnes_62 : decode cX2_strongOnes 62 = .ok (.ireturn, 1) := by decide +kernel
theorem dX2_strongOnes_63 : decode cX2_strongOnes 63 = .ok (.iconst 0, 1) := by decide +kernel
theorem dX2_strongOnes_64 : decode cX2_strongOnes 64 = .ok (.ireturn, 1) := by decide +kernel
theorem dX2_eitherOnes_0 : decode cX2_eitherOnes 0 = .ok (.aload_n 0, 1) := by decide +kernel
theorem dX2_eitherOnes_1 : decode cX2_eitherOnes 1 = .ok (.getfield 15, 3) := by decide +kernel
theorem dX2_eitherOnes_4 : decode cX2_eitherOnes 4 = .ok (.iload_n 1, 1) := by decide +kernel
theorem dX2_eitherOnes_5 : decode cX2_eitherOnes 5 = .ok (.iaload, 1) := by decide +kernel
theorem dX2_eitherOnes_6 : decode cX2_eitherOnes 6 = .ok (.iconst 4, 1) := by decide +kernel
theorem dX2_eitherOnes_7 : decode cX2_eitherOnes 7 = .ok (.if_icmp .ne 19, 3) := by decide +kernel
theorem dX2_eitherOnes_10 : decode cX2_eitherOnes 10 = .ok (.iconst 1, 1) := by decide +kernel
theorem dX2_eitherOnes_11 : decode cX2_eitherOnes 11 = .ok (.aload_n 0, 1) := by decide +kernel
theorem dX2_eitherOnes_12 : decode cX2_eitherOnes 12 = .ok (.getfield 20, 3) := by decide +kernel
theorem dX2_eitherOnes_15 : decode cX2_eitherOnes 15 = .ok (.iload_n 1, 1) := by decide +kernel
theorem dX2_eitherOnes_16 : decode cX2_eitherOnes 16 = .ok (.aaload, 1) := by decide +kernel
theorem dX2_eitherOnes_17 : decode cX2_eitherOnes 17 = .ok (.getfield 51, 3) := by decide +kernel
theorem dX2_eitherOnes_20 : decode cX2_eitherOnes 20 = .ok (.ishl, 1) := by decide +kernel
theorem dX2_eitherOnes_21 : decode cX2_eitherOnes 21 = .ok (.iconst 1, 1) := by decide +kernel
theorem dX2_eitherOnes_22 : decode cX2_eitherOnes 22 = .ok (.isub, 1) := by decide +kernel
theorem dX2_eitherOnes_23 : decode cX2_eitherOnes 23 = .ok (.goto 4, 3) := by decide +kernel
theorem dX2_eitherOnes_26 : decode cX2_eitherOnes 26 = .ok (.iconst 0, 1) := by decide +kernel
theorem dX2_eitherOnes_27 : decode cX2_eitherOnes 27 = .ok (.ireturn, 1) := by decide +kernel
theorem dX2_syllablesOf_0 : decode cX2_syllablesOf 0 = .ok (.aload_n 0, 1) := by decide +kernel
theorem dX2_syllablesOf_1 : decode cX2_syllablesOf 1 = .ok (.iload_n 1, 1) := by decide +kernel
theorem dX2_syllablesOf_2 : decode cX2_syllablesOf 2 = .ok (.invokevirtual 40, 3) := by decide +kernel
theorem dX2_syllablesOf_5 : decode cX2_syllablesOf 5 = .ok (.istore_n 2, 1) := by decide +kernel
theorem dX2_syllablesOf_6 : decode cX2_syllablesOf 6 = .ok (.iconst 0, 1) := by decide +kernel
theorem dX2_syllablesOf_7 : decode cX2_syllablesOf 7 = .ok (.istore_n 3, 1) := by decide +kernel
theorem dX2_syllablesOf_8 : decode cX2_syllablesOf 8 = .ok (.iload_n 2, 1) := by decide +kernel
theorem dX2_syllablesOf_9 : decode cX2_syllablesOf 9 = .ok (.istore 4, 2) := by decide +kernel
theorem dX2_syllablesOf_11 : decode cX2_syllablesOf 11 = .ok (.iload 4, 2) := by decide +kernel
theorem dX2_syllablesOf_13 : decode cX2_syllablesOf 13 = .ok (.iload_n 2, 1) := by decide +kernel
theorem dX2_syllablesOf_14 : decode cX2_syllablesOf 14 = .ok (.aload_n 0, 1) := by decide +kernel
theorem dX2_syllablesOf_15 : decode cX2_syllablesOf 15 = .ok (.getfield 9, 3) := by decide +kernel
theorem dX2_syllablesOf_18 : decode cX2_syllablesOf 18 = .ok (.iload_n 1, 1) := by decide +kernel
theorem dX2_syllablesOf_19 : decode cX2_syllablesOf 19 = .ok (.iaload, 1) := by decide +kernel
theorem dX2_syllablesOf_20 : decode cX2_syllablesOf 20 = .ok (.iadd, 1) := by decide +kernel
theorem dX2_syllablesOf_21 : decode cX2_syllablesOf 21 = .ok (.if_icmp .ge 29, 3) := by decide +kernel
theorem dX2_syllablesOf_24 : decode cX2_syllablesOf 24 = .ok (.iload 4, 2) := by decide +kernel
theorem dX2_syllablesOf_26 : decode cX2_syllablesOf 26 = .ok (.bipush 20, 2) := by decide +kernel
theorem dX2_syllablesOf_28 : decode cX2_syllablesOf 28 = .ok (.if_icmp .ge 22, 3) := by decide +kernel
theorem dX2_syllablesOf_31 : decode cX2_syllablesOf 31 = .ok (.iload_n 3, 1) := by decide +kernel
theorem dX2_syllablesOf_32 : decode cX2_syllablesOf 32 = .ok (.aload_n 0, 1) := by decide +kernel
theorem dX2_syllablesOf_33 : decode cX2_syllablesOf 33 = .ok (.getfield 20, 3) := by decide +kernel
theorem dX2_syllablesOf_36 : decode cX2_syllablesOf 36 = .ok (.iload 4, 2) := by decide +kernel
theorem dX2_syllablesOf_38 : decode cX2_syllablesOf 38 = .ok (.aaload, 1) := by decide +kernel
theorem dX2_syllablesOf_39 : decode cX2_syllablesOf 39 = .ok (.getfield 51, 3) := by decide +kernel
theorem dX2_syllablesOf_42 : decode cX2_syllablesOf 42 = .ok (.iadd, 1) := by decide +kernel
theorem dX2_syllablesOf_43 : decode cX2_syllablesOf 43 = .ok (.istore_n 3, 1) := by decide +kernel
theorem dX2_syllablesOf_44 : decode cX2_syllablesOf 44 = .ok (.iinc 4 1, 3) := by decide +kernel
theorem dX2_syllablesOf_47 : decode cX2_syllablesOf 47 = .ok (.goto (-36), 3) := by decide +kernel
theorem dX2_syllablesOf_50 : decode cX2_syllablesOf 50 = .ok (.iload_n 3, 1) := by decide +kernel
theorem dX2_syllablesOf_51 : decode cX2_syllablesOf 51 = .ok (.ireturn, 1) := by decide +kernel
theorem dX2_joinsOf_0 : decode cX2_joinsOf 0 = .ok (.aload_n 0, 1) := by decide +kernel
theorem dX2_joinsOf_1 : decode cX2_joinsOf 1 = .ok (.iload_n 1, 1) := by decide +kernel
theorem dX2_joinsOf_2 : decode cX2_joinsOf 2 = .ok (.invokevirtual 40, 3) := by decide +kernel
theorem dX2_joinsOf_5 : decode cX2_joinsOf 5 = .ok (.istore_n 2, 1) := by decide +kernel
theorem dX2_joinsOf_6 : decode cX2_joinsOf 6 = .ok (.iconst 0, 1) := by decide +kernel
theorem dX2_joinsOf_7 : decode cX2_joinsOf 7 = .ok (.istore_n 3, 1) := by decide +kernel
theorem dX2_joinsOf_8 : decode cX2_joinsOf 8 = .ok (.iconst 0, 1) := by decide +kernel
theorem dX2_joinsOf_9 : decode cX2_joinsOf 9 = .ok (.istore 4, 2) := by decide +kernel
theorem dX2_joinsOf_11 : decode cX2_joinsOf 11 = .ok (.iload 4, 2) := by decide +kernel
theorem dX2_joinsOf_13 : decode cX2_joinsOf 13 = .ok (.iconst 1, 1) := by decide +kernel
theorem dX2_joinsOf_14 : decode cX2_joinsOf 14 = .ok (.iadd, 1) := by decide +kernel
theorem dX2_joinsOf_15 : decode cX2_joinsOf 15 = .ok (.aload_n 0, 1) := by decide +kernel
theorem dX2_joinsOf_16 : decode cX2_joinsOf 16 = .ok (.getfield 9, 3) := by decide +kernel
theorem dX2_joinsOf_19 : decode cX2_joinsOf 19 = .ok (.iload_n 1, 1) := by decide +kernel
theorem dX2_joinsOf_20 : decode cX2_joinsOf 20 = .ok (.iaload, 1) := by decide +kernel
theorem dX2_joinsOf_21 : decode cX2_joinsOf 21 = .ok (.if_icmp .ge 59, 3) := by decide +kernel
theorem dX2_joinsOf_24 : decode cX2_joinsOf 24 = .ok (.iload_n 2, 1) := by decide +kernel
theorem dX2_joinsOf_25 : decode cX2_joinsOf 25 = .ok (.iload 4, 2) := by decide +kernel
theorem dX2_joinsOf_27 : decode cX2_joinsOf 27 = .ok (.iadd, 1) := by decide +kernel
theorem dX2_joinsOf_28 : decode cX2_joinsOf 28 = .ok (.iconst 1, 1) := by decide +kernel
theorem dX2_joinsOf_29 : decode cX2_joinsOf 29 = .ok (.iadd, 1) := by decide +kernel
theorem dX2_joinsOf_30 : decode cX2_joinsOf 30 = .ok (.bipush 20, 2) := by decide +kernel
theorem dX2_joinsOf_32 : decode cX2_joinsOf 32 = .ok (.if_icmp .ge 48, 3) := by decide +kernel
theorem dX2_joinsOf_35 : decode cX2_joinsOf 35 = .ok (.aload_n 0, 1) := by decide +kernel
theorem dX2_joinsOf_36 : decode cX2_joinsOf 36 = .ok (.getfield 20, 3) := by decide +kernel
theorem dX2_joinsOf_39 : decode cX2_joinsOf 39 = .ok (.iload_n 2, 1) := by decide +kernel
theorem dX2_joinsOf_40 : decode cX2_joinsOf 40 = .ok (.iload 4, 2) := by decide +kernel
theorem dX2_joinsOf_42 : decode cX2_joinsOf 42 = .ok (.iadd, 1) := by decide +kernel
theorem dX2_joinsOf_43 : decode cX2_joinsOf 43 = .ok (.aaload, 1) := by decide +kernel
theorem dX2_joinsOf_44 : decode cX2_joinsOf 44 = .ok (.invokevirtual 55, 3) := by decide +kernel
theorem dX2_joinsOf_47 : decode cX2_joinsOf 47 = .ok (.ifCond .eq 27, 3) := by decide +kernel
theorem dX2_joinsOf_50 : decode cX2_joinsOf 50 = .ok (.aload_n 0, 1) := by decide +kernel
theorem dX2_joinsOf_51 : decode cX2_joinsOf 51 = .ok (.getfield 20, 3) := by decide +kernel
theorem dX2_joinsOf_54 : decode cX2_joinsOf 54 = .ok (.iload_n 2, 1) := by decide +kernel
theorem dX2_joinsOf_55 : decode cX2_joinsOf 55 = .ok (.iload 4, 2) := by decide +kernel
theorem dX2_joinsOf_57 : decode cX2_joinsOf 57 = .ok (.iadd, 1) := by decide +kernel
theorem dX2_joinsOf_58 : decode cX2_joinsOf 58 = .ok (.iconst 1, 1) := by decide +kernel
theorem dX2_joinsOf_59 : decode cX2_joinsOf 59 = .ok (.iadd, 1) := by decide +kernel
theorem dX2_joinsOf_60 : decode cX2_joinsOf 60 = .ok (.aaload, 1) := by decide +kernel
theorem dX2_joinsOf_61 : decode cX2_joinsOf 61 = .ok (.invokevirtual 59, 3) := by decide +kernel
theorem dX2_joinsOf_64 : decode cX2_joinsOf 64 = .ok (.ifCond .eq 10, 3) := by decide +kernel
theorem dX2_joinsOf_67 : decode cX2_joinsOf 67 = .ok (.iload_n 3, 1) := by decide +kernel
theorem dX2_joinsOf_68 : decode cX2_joinsOf 68 = .ok (.iconst 1, 1) := by decide +kernel
theorem dX2_joinsOf_69 : decode cX2_joinsOf 69 = .ok (.iload 4, 2) := by decide +kernel
theorem dX2_joinsOf_71 : decode cX2_joinsOf 71 = .ok (.ishl, 1) := by decide +kernel
theorem dX2_joinsOf_72 : decode cX2_joinsOf 72 = .ok (.ior, 1) := by decide +kernel
theorem dX2_joinsOf_73 : decode cX2_joinsOf 73 = .ok (.istore_n 3, 1) := by decide +kernel
theorem dX2_joinsOf_74 : decode cX2_joinsOf 74 = .ok (.iinc 4 1, 3) := by decide +kernel
theorem dX2_joinsOf_77 : decode cX2_joinsOf 77 = .ok (.goto (-66), 3) := by decide +kernel
theorem dX2_joinsOf_80 : decode cX2_joinsOf 80 = .ok (.iload_n 3, 1) := by decide +kernel
theorem dX2_joinsOf_81 : decode cX2_joinsOf 81 = .ok (.ireturn, 1) := by decide +kernel
theorem dX2_tailStart_0 : decode cX2_tailStart 0 = .ok (.aload_n 0, 1) := by decide +kernel
theorem dX2_tailStart_1 : decode cX2_tailStart 1 = .ok (.iload_n 1, 1) := by decide +kernel
theorem dX2_tailStart_2 : decode cX2_tailStart 2 = .ok (.invokevirtual 62, 3) := by decide +kernel
theorem dX2_tailStart_5 : decode cX2_tailStart 5 = .ok (.istore_n 2, 1) := by decide +kernel
theorem dX2_tailStart_6 : decode cX2_tailStart 6 = .ok (.aload_n 0, 1) := by decide +kernel
theorem dX2_tailStart_7 : decode cX2_tailStart 7 = .ok (.getfield 20, 3) := by decide +kernel
theorem dX2_tailStart_10 : decode cX2_tailStart 10 = .ok (.iload_n 1, 1) := by decide +kernel
theorem dX2_tailStart_11 : decode cX2_tailStart 11 = .ok (.aaload, 1) := by decide +kernel
theorem dX2_tailStart_12 : decode cX2_tailStart 12 = .ok (.astore_n 3, 1) := by decide +kernel
theorem dX2_tailStart_13 : decode cX2_tailStart 13 = .ok (.aload_n 3, 1) := by decide +kernel
theorem dX2_tailStart_14 : decode cX2_tailStart 14 = .ok (.getfield 51, 3) := by decide +kernel
theorem dX2_tailStart_17 : decode cX2_tailStart 17 = .ok (.iconst 1, 1) := by decide +kernel
theorem dX2_tailStart_18 : decode cX2_tailStart 18 = .ok (.isub, 1) := by decide +kernel
theorem dX2_tailStart_19 : decode cX2_tailStart 19 = .ok (.istore 4, 2) := by decide +kernel
theorem dX2_tailStart_21 : decode cX2_tailStart 21 = .ok (.iload 4, 2) := by decide +kernel
theorem dX2_tailStart_23 : decode cX2_tailStart 23 = .ok (.ifCond .lt 31, 3) := by decide +kernel
theorem dX2_tailStart_26 : decode cX2_tailStart 26 = .ok (.iload_n 2, 1) := by decide +kernel
theorem dX2_tailStart_27 : decode cX2_tailStart 27 = .ok (.ifCond .eq 27, 3) := by decide +kernel
theorem dX2_tailStart_30 : decode cX2_tailStart 30 = .ok (.iload_n 2, 1) := by decide +kernel
theorem dX2_tailStart_31 : decode cX2_tailStart 31 = .ok (.iload 4, 2) := by decide +kernel
theorem dX2_tailStart_33 : decode cX2_tailStart 33 = .ok (.ishr, 1) := by decide +kernel
theorem dX2_tailStart_34 : decode cX2_tailStart 34 = .ok (.iconst 1, 1) := by decide +kernel
theorem dX2_tailStart_35 : decode cX2_tailStart 35 = .ok (.iand, 1) := by decide +kernel
theorem dX2_tailStart_36 : decode cX2_tailStart 36 = .ok (.iconst 1, 1) := by decide +kernel
theorem dX2_tailStart_37 : decode cX2_tailStart 37 = .ok (.if_icmp .ne 11, 3) := by decide +kernel
theorem dX2_tailStart_40 : decode cX2_tailStart 40 = .ok (.aload_n 3, 1) := by decide +kernel
theorem dX2_tailStart_41 : decode cX2_tailStart 41 = .ok (.getfield 65, 3) := by decide +kernel
theorem dX2_tailStart_44 : decode cX2_tailStart 44 = .ok (.iload 4, 2) := by decide +kernel
theorem dX2_tailStart_46 : decode cX2_tailStart 46 = .ok (.iaload, 1) := by decide +kernel
theorem dX2_tailStart_47 : decode cX2_tailStart 47 = .ok (.ireturn, 1) := by decide +kernel
theorem dX2_tailStart_48 : decode cX2_tailStart 48 = .ok (.iinc 4 (-1), 3) := by decide +kernel
theorem dX2_tailStart_51 : decode cX2_tailStart 51 = .ok (.goto (-30), 3) := by decide +kernel
theorem dX2_tailStart_54 : decode cX2_tailStart 54 = .ok (.aload_n 3, 1) := by decide +kernel
theorem dX2_tailStart_55 : decode cX2_tailStart 55 = .ok (.getfield 51, 3) := by decide +kernel
theorem dX2_tailStart_58 : decode cX2_tailStart 58 = .ok (.ifCond .le 17, 3) := by decide +kernel
theorem dX2_tailStart_61 : decode cX2_tailStart 61 = .ok (.aload_n 3, 1) := by decide +kernel
theorem dX2_tailStart_62 : decode cX2_tailStart 62 = .ok (.getfield 65, 3) := by decide +kernel
theorem dX2_tailStart_65 : decode cX2_tailStart 65 = .ok (.aload_n 3, 1) := by decide +kernel
theorem dX2_tailStart_66 : decode cX2_tailStart 66 = .ok (.getfield 51, 3) := by decide +kernel
theorem dX2_tailStart_69 : decode cX2_tailStart 69 = .ok (.iconst 1, 1) := by decide +kernel
theorem dX2_tailStart_70 : decode cX2_tailStart 70 = .ok (.isub, 1) := by decide +kernel
theorem dX2_tailStart_71 : decode cX2_tailStart 71 = .ok (.iaload, 1) := by decide +kernel
theorem dX2_tailStart_72 : decode cX2_tailStart 72 = .ok (.goto 4, 3) := by decide +kernel
theorem dX2_tailStart_75 : decode cX2_tailStart 75 = .ok (.iconst 0, 1) := by decide +kernel
theorem dX2_tailStart_76 : decode cX2_tailStart 76 = .ok (.ireturn, 1) := by decide +kernel
theorem dX2_tailLength_0 : decode cX2_tailLength 0 = .ok (.aload_n 0, 1) := by decide +kernel
theorem dX2_tailLength_1 : decode cX2_tailLength 1 = .ok (.getfield 20, 3) := by decide +kernel
theorem dX2_tailLength_4 : decode cX2_tailLength 4 = .ok (.iload_n 1, 1) := by decide +kernel
theorem dX2_tailLength_5 : decode cX2_tailLength 5 = .ok (.aaload, 1) := by decide +kernel
theorem dX2_tailLength_6 : decode cX2_tailLength 6 = .ok (.getfield 68, 3) := by decide +kernel
theorem dX2_tailLength_9 : decode cX2_tailLength 9 = .ok (.aload_n 0, 1) := by decide +kernel
theorem dX2_tailLength_10 : decode cX2_tailLength 10 = .ok (.iload_n 1, 1) := by decide +kernel
theorem dX2_tailLength_11 : decode cX2_tailLength 11 = .ok (.invokevirtual 71, 3) := by decide +kernel
theorem dX2_tailLength_14 : decode cX2_tailLength 14 = .ok (.isub, 1) := by decide +kernel
theorem dX2_tailLength_15 : decode cX2_tailLength 15 = .ok (.ireturn, 1) := by decide +kernel
theorem dX2_tailLetter_0 : decode cX2_tailLetter 0 = .ok (.aload_n 0, 1) := by decide +kernel
theorem dX2_tailLetter_1 : decode cX2_tailLetter 1 = .ok (.iload_n 1, 1) := by decide +kernel
theorem dX2_tailLetter_2 : decode cX2_tailLetter 2 = .ok (.invokevirtual 71, 3) := by decide +kernel
theorem dX2_tailLetter_5 : decode cX2_tailLetter 5 = .ok (.istore_n 3, 1) := by decide +kernel
theorem dX2_tailLetter_6 : decode cX2_tailLetter 6 = .ok (.iload_n 2, 1) := by decide +kernel
theorem dX2_tailLetter_7 : decode cX2_tailLetter 7 = .ok (.ifCond .lt 34, 3) := by decide +kernel
theorem dX2_tailLetter_10 : decode cX2_tailLetter 10 = .ok (.iload_n 2, 1) := by decide +kernel
theorem dX2_tailLetter_11 : decode cX2_tailLetter 11 = .ok (.aload_n 0, 1) := by decide +kernel
theorem dX2_tailLetter_12 : decode cX2_tailLetter 12 = .ok (.getfield 20, 3) := by decide +kernel
theorem dX2_tailLetter_15 : decode cX2_tailLetter 15 = .ok (.iload_n 1, 1) := by decide +kernel
theorem dX2_tailLetter_16 : decode cX2_tailLetter 16 = .ok (.aaload, 1) := by decide +kernel
theorem dX2_tailLetter_17 : decode cX2_tailLetter 17 = .ok (.getfield 68, 3) := by decide +kernel
theorem dX2_tailLetter_20 : decode cX2_tailLetter 20 = .ok (.iload_n 3, 1) := by decide +kernel
theorem dX2_tailLetter_21 : decode cX2_tailLetter 21 = .ok (.isub, 1) := by decide +kernel
theorem dX2_tailLetter_22 : decode cX2_tailLetter 22 = .ok (.if_icmp .ge 19, 3) := by decide +kernel
theorem dX2_tailLetter_25 : decode cX2_tailLetter 25 = .ok (.aload_n 0, 1) := by decide +kernel
theorem dX2_tailLetter_26 : decode cX2_tailLetter 26 = .ok (.getfield 20, 3) := by decide +kernel
theorem dX2_tailLetter_29 : decode cX2_tailLetter 29 = .ok (.iload_n 1, 1) := by decide +kernel
theorem dX2_tailLetter_30 : decode cX2_tailLetter 30 = .ok (.aaload, 1) := by decide +kernel
theorem dX2_tailLetter_31 : decode cX2_tailLetter 31 = .ok (.getfield 74, 3) := by decide +kernel
theorem dX2_tailLetter_34 : decode cX2_tailLetter 34 = .ok (.iload_n 3, 1) := by decide +kernel
theorem dX2_tailLetter_35 : decode cX2_tailLetter 35 = .ok (.iload_n 2, 1) := by decide +kernel
theorem dX2_tailLetter_36 : decode cX2_tailLetter 36 = .ok (.iadd, 1) := by decide +kernel
theorem dX2_tailLetter_37 : decode cX2_tailLetter 37 = .ok (.iaload, 1) := by decide +kernel
theorem dX2_tailLetter_38 : decode cX2_tailLetter 38 = .ok (.goto 5, 3) := by decide +kernel
theorem dX2_tailLetter_41 : decode cX2_tailLetter 41 = .ok (.ldc 77, 2) := by decide +kernel
theorem dX2_tailLetter_43 : decode cX2_tailLetter 43 = .ok (.ireturn, 1) := by decide +kernel
theorem dX2_tailsAlike_0 : decode cX2_tailsAlike 0 = .ok (.aload_n 0, 1) := by decide +kernel
theorem dX2_tailsAlike_1 : decode cX2_tailsAlike 1 = .ok (.iload_n 1, 1) := by decide +kernel
theorem dX2_tailsAlike_2 : decode cX2_tailsAlike 2 = .ok (.invokevirtual 71, 3) := by decide +kernel
theorem dX2_tailsAlike_5 : decode cX2_tailsAlike 5 = .ok (.istore_n 3, 1) := by decide +kernel
theorem dX2_tailsAlike_6 : decode cX2_tailsAlike 6 = .ok (.aload_n 0, 1) := by decide +kernel
theorem dX2_tailsAlike_7 : decode cX2_tailsAlike 7 = .ok (.iload_n 2, 1) := by decide +kernel
theorem dX2_tailsAlike_8 : decode cX2_tailsAlike 8 = .ok (.invokevirtual 71, 3) := by decide +kernel
theorem dX2_tailsAlike_11 : decode cX2_tailsAlike 11 = .ok (.istore 4, 2) := by decide +kernel
theorem dX2_tailsAlike_13 : decode cX2_tailsAlike 13 = .ok (.aload_n 0, 1) := by decide +kernel
theorem dX2_tailsAlike_14 : decode cX2_tailsAlike 14 = .ok (.getfield 20, 3) := by decide +kernel
theorem dX2_tailsAlike_17 : decode cX2_tailsAlike 17 = .ok (.iload_n 1, 1) := by decide +kernel
theorem dX2_tailsAlike_18 : decode cX2_tailsAlike 18 = .ok (.aaload, 1) := by decide +kernel
theorem dX2_tailsAlike_19 : decode cX2_tailsAlike 19 = .ok (.getfield 68, 3) := by decide +kernel
theorem dX2_tailsAlike_22 : decode cX2_tailsAlike 22 = .ok (.iload_n 3, 1) := by decide +kernel
theorem dX2_tailsAlike_23 : decode cX2_tailsAlike 23 = .ok (.isub, 1) := by decide +kernel
theorem dX2_tailsAlike_24 : decode cX2_tailsAlike 24 = .ok (.istore 5, 2) := by decide +kernel
theorem dX2_tailsAlike_26 : decode cX2_tailsAlike 26 = .ok (.iload 5, 2) := by decide +kernel
theorem dX2_tailsAlike_28 : decode cX2_tailsAlike 28 = .ok (.aload_n 0, 1) := by decide +kernel
theorem dX2_tailsAlike_29 : decode cX2_tailsAlike 29 = .ok (.getfield 20, 3) := by decide +kernel
theorem dX2_tailsAlike_32 : decode cX2_tailsAlike 32 = .ok (.iload_n 2, 1) := by decide +kernel
theorem dX2_tailsAlike_33 : decode cX2_tailsAlike 33 = .ok (.aaload, 1) := by decide +kernel
theorem dX2_tailsAlike_34 : decode cX2_tailsAlike 34 = .ok (.getfield 68, 3) := by decide +kernel
theorem dX2_tailsAlike_37 : decode cX2_tailsAlike 37 = .ok (.iload 4, 2) := by decide +kernel
theorem dX2_tailsAlike_39 : decode cX2_tailsAlike 39 = .ok (.isub, 1) := by decide +kernel
theorem dX2_tailsAlike_40 : decode cX2_tailsAlike 40 = .ok (.if_icmp .eq 5, 3) := by decide +kernel
theorem dX2_tailsAlike_43 : decode cX2_tailsAlike 43 = .ok (.iconst 0, 1) := by decide +kernel
theorem dX2_tailsAlike_44 : decode cX2_tailsAlike 44 = .ok (.ireturn, 1) := by decide +kernel
theorem dX2_tailsAlike_45 : decode cX2_tailsAlike 45 = .ok (.iconst 0, 1) := by decide +kernel
theorem dX2_tailsAlike_46 : decode cX2_tailsAlike 46 = .ok (.istore 6, 2) := by decide +kernel
theorem dX2_tailsAlike_48 : decode cX2_tailsAlike 48 = .ok (.iload 6, 2) := by decide +kernel
theorem dX2_tailsAlike_50 : decode cX2_tailsAlike 50 = .ok (.iload 5, 2) := by decide +kernel
theorem dX2_tailsAlike_52 : decode cX2_tailsAlike 52 = .ok (.if_icmp .ge 43, 3) := by decide +kernel
theorem dX2_tailsAlike_55 : decode cX2_tailsAlike 55 = .ok (.aload_n 0, 1) := by decide +kernel
theorem dX2_tailsAlike_56 : decode cX2_tailsAlike 56 = .ok (.getfield 20, 3) := by decide +kernel
theorem dX2_tailsAlike_59 : decode cX2_tailsAlike 59 = .ok (.iload_n 1, 1) := by decide +kernel
theorem dX2_tailsAlike_60 : decode cX2_tailsAlike 60 = .ok (.aaload, 1) := by decide +kernel
theorem dX2_tailsAlike_61 : decode cX2_tailsAlike 61 = .ok (.getfield 74, 3) := by decide +kernel
theorem dX2_tailsAlike_64 : decode cX2_tailsAlike 64 = .ok (.iload_n 3, 1) := by decide +kernel
theorem dX2_tailsAlike_65 : decode cX2_tailsAlike 65 = .ok (.iload 6, 2) := by decide +kernel
theorem dX2_tailsAlike_67 : decode cX2_tailsAlike 67 = .ok (.iadd, 1) := by decide +kernel
theorem dX2_tailsAlike_68 : decode cX2_tailsAlike 68 = .ok (.iaload, 1) := by decide +kernel
theorem dX2_tailsAlike_69 : decode cX2_tailsAlike 69 = .ok (.aload_n 0, 1) := by decide +kernel
theorem dX2_tailsAlike_70 : decode cX2_tailsAlike 70 = .ok (.getfield 20, 3) := by decide +kernel
theorem dX2_tailsAlike_73 : decode cX2_tailsAlike 73 = .ok (.iload_n 2, 1) := by decide +kernel
theorem dX2_tailsAlike_74 : decode cX2_tailsAlike 74 = .ok (.aaload, 1) := by decide +kernel
theorem dX2_tailsAlike_75 : decode cX2_tailsAlike 75 = .ok (.getfield 74, 3) := by decide +kernel
theorem dX2_tailsAlike_78 : decode cX2_tailsAlike 78 = .ok (.iload 4, 2) := by decide +kernel
theorem dX2_tailsAlike_80 : decode cX2_tailsAlike 80 = .ok (.iload 6, 2) := by decide +kernel
theorem dX2_tailsAlike_82 : decode cX2_tailsAlike 82 = .ok (.iadd, 1) := by decide +kernel
theorem dX2_tailsAlike_83 : decode cX2_tailsAlike 83 = .ok (.iaload, 1) := by decide +kernel
theorem dX2_tailsAlike_84 : decode cX2_tailsAlike 84 = .ok (.if_icmp .eq 5, 3) := by decide +kernel
theorem dX2_tailsAlike_87 : decode cX2_tailsAlike 87 = .ok (.iconst 0, 1) := by decide +kernel
theorem dX2_tailsAlike_88 : decode cX2_tailsAlike 88 = .ok (.ireturn, 1) := by decide +kernel
theorem dX2_tailsAlike_89 : decode cX2_tailsAlike 89 = .ok (.iinc 6 1, 3) := by decide +kernel
theorem dX2_tailsAlike_92 : decode cX2_tailsAlike 92 = .ok (.goto (-44), 3) := by decide +kernel
theorem dX2_tailsAlike_95 : decode cX2_tailsAlike 95 = .ok (.iconst 1, 1) := by decide +kernel
theorem dX2_tailsAlike_96 : decode cX2_tailsAlike 96 = .ok (.ireturn, 1) := by decide +kernel
theorem dX2_tellScheme_0 : decode cX2_tellScheme 0 = .ok (.iconst 0, 1) := by decide +kernel
theorem dX2_tellScheme_1 : decode cX2_tellScheme 1 = .ok (.istore_n 1, 1) := by decide +kernel
theorem dX2_tellScheme_2 : decode cX2_tellScheme 2 = .ok (.iconst 0, 1) := by decide +kernel
theorem dX2_tellScheme_3 : decode cX2_tellScheme 3 = .ok (.istore_n 2, 1) := by decide +kernel
theorem dX2_tellScheme_4 : decode cX2_tellScheme 4 = .ok (.iload_n 2, 1) := by decide +kernel
theorem dX2_tellScheme_5 : decode cX2_tellScheme 5 = .ok (.aload_n 0, 1) := by decide +kernel
theorem dX2_tellScheme_6 : decode cX2_tellScheme 6 = .ok (.getfield 31, 3) := by decide +kernel
theorem dX2_tellScheme_9 : decode cX2_tellScheme 9 = .ok (.if_icmp .ge 78, 3) := by decide +kernel
theorem dX2_tellScheme_12 : decode cX2_tellScheme 12 = .ok (.iload_n 2, 1) := by decide +kernel
theorem dX2_tellScheme_13 : decode cX2_tellScheme 13 = .ok (.istore_n 3, 1) := by decide +kernel
theorem dX2_tellScheme_14 : decode cX2_tellScheme 14 = .ok (.iload_n 2, 1) := by decide +kernel
theorem dX2_tellScheme_15 : decode cX2_tellScheme 15 = .ok (.iconst 1, 1) := by decide +kernel
theorem dX2_tellScheme_16 : decode cX2_tellScheme 16 = .ok (.isub, 1) := by decide +kernel
theorem dX2_tellScheme_17 : decode cX2_tellScheme 17 = .ok (.istore 4, 2) := by decide +kernel
theorem dX2_tellScheme_19 : decode cX2_tellScheme 19 = .ok (.iload 4, 2) := by decide +kernel
theorem dX2_tellScheme_21 : decode cX2_tellScheme 21 = .ok (.ifCond .lt 30, 3) := by decide +kernel
theorem dX2_tellScheme_24 : decode cX2_tellScheme 24 = .ok (.aload_n 0, 1) := by decide +kernel
theorem dX2_tellScheme_25 : decode cX2_tellScheme 25 = .ok (.aload_n 0, 1) := by decide +kernel
theorem dX2_tellScheme_26 : decode cX2_tellScheme 26 = .ok (.iload 4, 2) := by decide +kernel
theorem dX2_tellScheme_28 : decode cX2_tellScheme 28 = .ok (.invokevirtual 78, 3) := by decide +kernel
theorem dX2_tellScheme_31 : decode cX2_tellScheme 31 = .ok (.aload_n 0, 1) := by decide +kernel
theorem dX2_tellScheme_32 : decode cX2_tellScheme 32 = .ok (.iload_n 2, 1) := by decide +kernel
theorem dX2_tellScheme_33 : decode cX2_tellScheme 33 = .ok (.invokevirtual 78, 3) := by decide +kernel
theorem dX2_tellScheme_36 : decode cX2_tellScheme 36 = .ok (.invokevirtual 81, 3) := by decide +kernel
theorem dX2_tellScheme_39 : decode cX2_tellScheme 39 = .ok (.ifCond .eq 6, 3) := by decide +kernel
theorem dX2_tellScheme_42 : decode cX2_tellScheme 42 = .ok (.iload 4, 2) := by decide +kernel
theorem dX2_tellScheme_44 : decode cX2_tellScheme 44 = .ok (.istore_n 3, 1) := by decide +kernel
theorem dX2_tellScheme_45 : decode cX2_tellScheme 45 = .ok (.iinc 4 (-1), 3) := by decide +kernel
theorem dX2_tellScheme_48 : decode cX2_tellScheme 48 = .ok (.goto (-29), 3) := by decide +kernel
theorem dX2_tellScheme_51 : decode cX2_tellScheme 51 = .ok (.iload_n 3, 1) := by decide +kernel
theorem dX2_tellScheme_52 : decode cX2_tellScheme 52 = .ok (.iload_n 2, 1) := by decide +kernel
theorem dX2_tellScheme_53 : decode cX2_tellScheme 53 = .ok (.if_icmp .ne 16, 3) := by decide +kernel
theorem dX2_tellScheme_56 : decode cX2_tellScheme 56 = .ok (.aload_n 0, 1) := by decide +kernel
theorem dX2_tellScheme_57 : decode cX2_tellScheme 57 = .ok (.getfield 24, 3) := by decide +kernel
theorem dX2_tellScheme_60 : decode cX2_tellScheme 60 = .ok (.iload_n 2, 1) := by decide +kernel
theorem dX2_tellScheme_61 : decode cX2_tellScheme 61 = .ok (.iload_n 1, 1) := by decide +kernel
theorem dX2_tellScheme_62 : decode cX2_tellScheme 62 = .ok (.iastore, 1) := by decide +kernel
theorem dX2_tellScheme_63 : decode cX2_tellScheme 63 = .ok (.iinc 1 1, 3) := by decide +kernel
theorem dX2_tellScheme_66 : decode cX2_tellScheme 66 = .ok (.goto 15, 3) := by decide +kernel
theorem dX2_tellScheme_69 : decode cX2_tellScheme 69 = .ok (.aload_n 0, 1) := by decide +kernel
theorem dX2_tellScheme_70 : decode cX2_tellScheme 70 = .ok (.getfield 24, 3) := by decide +kernel
theorem dX2_tellScheme_73 : decode cX2_tellScheme 73 = .ok (.iload_n 2, 1) := by decide +kernel
theorem dX2_tellScheme_74 : decode cX2_tellScheme 74 = .ok (.aload_n 0, 1) := by decide +kernel
theorem dX2_tellScheme_75 : decode cX2_tellScheme 75 = .ok (.getfield 24, 3) := by decide +kernel
theorem dX2_tellScheme_78 : decode cX2_tellScheme 78 = .ok (.iload_n 3, 1) := by decide +kernel
theorem dX2_tellScheme_79 : decode cX2_tellScheme 79 = .ok (.iaload, 1) := by decide +kernel
theorem dX2_tellScheme_80 : decode cX2_tellScheme 80 = .ok (.iastore, 1) := by decide +kernel
theorem dX2_tellScheme_81 : decode cX2_tellScheme 81 = .ok (.iinc 2 1, 3) := by decide +kernel
theorem dX2_tellScheme_84 : decode cX2_tellScheme 84 = .ok (.goto (-80), 3) := by decide +kernel
theorem dX2_tellScheme_87 : decode cX2_tellScheme 87 = .ok (.iload_n 1, 1) := by decide +kernel
theorem dX2_tellScheme_88 : decode cX2_tellScheme 88 = .ok (.ireturn, 1) := by decide +kernel
theorem dX2_schemeNumber_0 : decode cX2_schemeNumber 0 = .ok (.aload_n 0, 1) := by decide +kernel
theorem dX2_schemeNumber_1 : decode cX2_schemeNumber 1 = .ok (.invokevirtual 85, 3) := by decide +kernel
theorem dX2_schemeNumber_4 : decode cX2_schemeNumber 4 = .ok (.pop, 1) := by decide +kernel
theorem dX2_schemeNumber_5 : decode cX2_schemeNumber 5 = .ok (.aload_n 0, 1) := by decide +kernel
theorem dX2_schemeNumber_6 : decode cX2_schemeNumber 6 = .ok (.getfield 24, 3) := by decide +kernel
theorem dX2_schemeNumber_9 : decode cX2_schemeNumber 9 = .ok (.iload_n 1, 1) := by decide +kernel
theorem dX2_schemeNumber_10 : decode cX2_schemeNumber 10 = .ok (.iaload, 1) := by decide +kernel
theorem dX2_schemeNumber_11 : decode cX2_schemeNumber 11 = .ok (.ireturn, 1) := by decide +kernel
theorem dX2_allLetters_0 : decode cX2_allLetters 0 = .ok (.iconst 0, 1) := by decide +kernel
theorem dX2_allLetters_1 : decode cX2_allLetters 1 = .ok (.istore_n 1, 1) := by decide +kernel
theorem dX2_allLetters_2 : decode cX2_allLetters 2 = .ok (.iconst 0, 1) := by decide +kernel
theorem dX2_allLetters_3 : decode cX2_allLetters 3 = .ok (.istore_n 2, 1) := by decide +kernel
theorem dX2_allLetters_4 : decode cX2_allLetters 4 = .ok (.iload_n 2, 1) := by decide +kernel
theorem dX2_allLetters_5 : decode cX2_allLetters 5 = .ok (.aload_n 0, 1) := by decide +kernel
theorem dX2_allLetters_6 : decode cX2_allLetters 6 = .ok (.getfield 27, 3) := by decide +kernel
theorem dX2_allLetters_9 : decode cX2_allLetters 9 = .ok (.if_icmp .ge 21, 3) := by decide +kernel
theorem dX2_allLetters_12 : decode cX2_allLetters 12 = .ok (.iload_n 1, 1) := by decide +kernel
theorem dX2_allLetters_13 : decode cX2_allLetters 13 = .ok (.aload_n 0, 1) := by decide +kernel
theorem dX2_allLetters_14 : decode cX2_allLetters 14 = .ok (.getfield 20, 3) := by decide +kernel
theorem dX2_allLetters_17 : decode cX2_allLetters 17 = .ok (.iload_n 2, 1) := by decide +kernel
theorem dX2_allLetters_18 : decode cX2_allLetters 18 = .ok (.aaload, 1) := by decide +kernel
theorem dX2_allLetters_19 : decode cX2_allLetters 19 = .ok (.getfield 89, 3) := by decide +kernel
theorem dX2_allLetters_22 : decode cX2_allLetters 22 = .ok (.iadd, 1) := by decide +kernel
theorem dX2_allLetters_23 : decode cX2_allLetters 23 = .ok (.istore_n 1, 1) := by decide +kernel
theorem dX2_allLetters_24 : decode cX2_allLetters 24 = .ok (.iinc 2 1, 3) := by decide +kernel
theorem dX2_allLetters_27 : decode cX2_allLetters 27 = .ok (.goto (-23), 3) := by decide +kernel
theorem dX2_allLetters_30 : decode cX2_allLetters 30 = .ok (.iload_n 1, 1) := by decide +kernel
theorem dX2_allLetters_31 : decode cX2_allLetters 31 = .ok (.ireturn, 1) := by decide +kernel
theorem dX2_allSyllables_0 : decode cX2_allSyllables 0 = .ok (.iconst 0, 1) := by decide +kernel
theorem dX2_allSyllables_1 : decode cX2_allSyllables 1 = .ok (.istore_n 1, 1) := by decide +kernel
theorem dX2_allSyllables_2 : decode cX2_allSyllables 2 = .ok (.iconst 0, 1) := by decide +kernel
theorem dX2_allSyllables_3 : decode cX2_allSyllables 3 = .ok (.istore_n 2, 1) := by decide +kernel
theorem dX2_allSyllables_4 : decode cX2_allSyllables 4 = .ok (.iload_n 2, 1) := by decide +kernel
theorem dX2_allSyllables_5 : decode cX2_allSyllables 5 = .ok (.aload_n 0, 1) := by decide +kernel
theorem dX2_allSyllables_6 : decode cX2_allSyllables 6 = .ok (.getfield 27, 3) := by decide +kernel
theorem dX2_allSyllables_9 : decode cX2_allSyllables 9 = .ok (.if_icmp .ge 21, 3) := by decide +kernel
theorem dX2_allSyllables_12 : decode cX2_allSyllables 12 = .ok (.iload_n 1, 1) := by decide +kernel
theorem dX2_allSyllables_13 : decode cX2_allSyllables 13 = .ok (.aload_n 0, 1) := by decide +kernel
theorem dX2_allSyllables_14 : decode cX2_allSyllables 14 = .ok (.getfield 20, 3) := by decide +kernel
theorem dX2_allSyllables_17 : decode cX2_allSyllables 17 = .ok (.iload_n 2, 1) := by decide +kernel
theorem dX2_allSyllables_18 : decode cX2_allSyllables 18 = .ok (.aaload, 1) := by decide +kernel
theorem dX2_allSyllables_19 : decode cX2_allSyllables 19 = .ok (.getfield 51, 3) := by decide +kernel
theorem dX2_allSyllables_22 : decode cX2_allSyllables 22 = .ok (.iadd, 1) := by decide +kernel
theorem dX2_allSyllables_23 : decode cX2_allSyllables 23 = .ok (.istore_n 1, 1) := by decide +kernel
theorem dX2_allSyllables_24 : decode cX2_allSyllables 24 = .ok (.iinc 2 1, 3) := by decide +kernel
theorem dX2_allSyllables_27 : decode cX2_allSyllables 27 = .ok (.goto (-23), 3) := by decide +kernel
theorem dX2_allSyllables_30 : decode cX2_allSyllables 30 = .ok (.iload_n 1, 1) := by decide +kernel
theorem dX2_allSyllables_31 : decode cX2_allSyllables 31 = .ok (.ireturn, 1) := by decide +kernel
theorem dX3_init_0 : decode cX3_init 0 = .ok (.aload_n 0, 1) := by decide +kernel
theorem dX3_init_1 : decode cX3_init 1 = .ok (.invokespecial 3, 3) := by decide +kernel
theorem dX3_init_4 : decode cX3_init 4 = .ok (.aload_n 0, 1) := by decide +kernel
theorem dX3_init_5 : decode cX3_init 5 = .ok (.bipush 8, 2) := by decide +kernel
theorem dX3_init_7 : decode cX3_init 7 = .ok (.newarray .int, 2) := by decide +kernel
theorem dX3_init_9 : decode cX3_init 9 = .ok (.putfield 9, 3) := by decide +kernel
theorem dX3_init_12 : decode cX3_init 12 = .ok (.aload_n 0, 1) := by decide +kernel
theorem dX3_init_13 : decode cX3_init 13 = .ok (.sipush 130, 3) := by decide +kernel
theorem dX3_init_16 : decode cX3_init 16 = .ok (.newarray .int, 2) := by decide +kernel
theorem dX3_init_18 : decode cX3_init 18 = .ok (.putfield 15, 3) := by decide +kernel
theorem dX3_init_21 : decode cX3_init 21 = .ok (.return_, 1) := by decide +kernel
theorem dX3_readInto_0 : decode cX3_readInto 0 = .ok (.aload_n 0, 1) := by decide +kernel
theorem dX3_readInto_1 : decode cX3_readInto 1 = .ok (.iconst 0, 1) := by decide +kernel
theorem dX3_readInto_2 : decode cX3_readInto 2 = .ok (.putfield 18, 3) := by decide +kernel
theorem dX3_readInto_5 : decode cX3_readInto 5 = .ok (.aload_n 0, 1) := by decide +kernel
theorem dX3_readInto_6 : decode cX3_readInto 6 = .ok (.iconst 0, 1) := by decide +kernel
theorem dX3_readInto_7 : decode cX3_readInto 7 = .ok (.putfield 22, 3) := by decide +kernel
theorem dX3_readInto_10 : decode cX3_readInto 10 = .ok (.aload_n 0, 1) := by decide +kernel
theorem dX3_readInto_11 : decode cX3_readInto 11 = .ok (.iconst 0, 1) := by decide +kernel
theorem dX3_readInto_12 : decode cX3_readInto 12 = .ok (.putfield 25, 3) := by decide +kernel
theorem dX3_readInto_15 : decode cX3_readInto 15 = .ok (.aload_n 1, 1) := by decide +kernel
theorem dX3_readInto_16 : decode cX3_readInto 16 = .ok (.iconst 0, 1) := by decide +kernel
theorem dX3_readInto_17 : decode cX3_readInto 17 = .ok (.putfield 28, 3) := by decide +kernel
theorem dX3_readInto_20 : decode cX3_readInto 20 = .ok (.aload_n 1, 1) := by decide +kernel
theorem dX3_readInto_21 : decode cX3_readInto 21 = .ok (.iconst 0, 1) := by decide +kernel
theorem dX3_readInto_22 : decode cX3_readInto 22 = .ok (.putfield 33, 3) := by decide +kernel
theorem dX3_readInto_25 : decode cX3_readInto 25 = .ok (.aload_n 0, 1) := by decide +kernel
theorem dX3_readInto_26 : decode cX3_readInto 26 = .ok (.aload_n 1, 1) := by decide +kernel
theorem dX3_readInto_27 : decode cX3_readInto 27 = .ok (.invokevirtual 36, 3) := by decide +kernel
theorem dX3_readInto_30 : decode cX3_readInto 30 = .ok (.ifCond .eq 15, 3) := by decide +kernel
theorem dX3_readInto_33 : decode cX3_readInto 33 = .ok (.aload_n 0, 1) := by decide +kernel
theorem dX3_readInto_34 : decode cX3_readInto 34 = .ok (.aload_n 1, 1) := by decide +kernel
theorem dX3_readInto_35 : decode cX3_readInto 35 = .ok (.invokevirtual 40, 3) := by decide +kernel
theorem dX3_readInto_38 : decode cX3_readInto 38 = .ok (.ifCond .eq 7, 3) := by decide +kernel
theorem dX3_readInto_41 : decode cX3_readInto 41 = .ok (.iconst 1, 1) := by decide +kernel
theorem dX3_readInto_42 : decode cX3_readInto 42 = .ok (.goto 4, 3) := by decide +kernel
theorem dX3_readInto_45 : decode cX3_readInto 45 = .ok (.iconst 0, 1) := by decide +kernel
theorem dX3_readInto_46 : decode cX3_readInto 46 = .ok (.istore_n 2, 1) := by decide +kernel
theorem dX3_readInto_47 : decode cX3_readInto 47 = .ok (.iconst 1, 1) := by decide +kernel
theorem dX3_readInto_48 : decode cX3_readInto 48 = .ok (.istore_n 3, 1) := by decide +kernel
theorem dX3_readInto_49 : decode cX3_readInto 49 = .ok (.iload_n 3, 1) := by decide +kernel
theorem dX3_readInto_50 : decode cX3_readInto 50 = .ok (.iconst 4, 1) := by decide +kernel
theorem dX3_readInto_51 : decode cX3_readInto 51 = .ok (.if_icmp .gt 30, 3) := by decide +kernel
theorem dX3_readInto_54 : decode cX3_readInto 54 = .ok (.iload_n 2, 1) := by decide +kernel
theorem dX3_readInto_55 : decode cX3_readInto 55 = .ok (.ifCond .eq 26, 3) := by decide +kernel
theorem dX3_readInto_58 : decode cX3_readInto 58 = .ok (.aload_n 0, 1) := by decide +kernel
theorem dX3_readInto_59 : decode cX3_readInto 59 = .ok (.getfield 18, 3) := by decide +kernel
theorem dX3_readInto_62 : decode cX3_readInto 62 = .ok (.aload_n 0, 1) := by decide +kernel
theorem dX3_readInto_63 : decode cX3_readInto 63 = .ok (.getfield 43, 3) := by decide +kernel
theorem dX3_readInto_66 : decode cX3_readInto 66 = .ok (.if_icmp .ge 15, 3) := by decide +kernel
theorem dX3_readInto_69 : decode cX3_readInto 69 = .ok (.aload_n 0, 1) := by decide +kernel
theorem dX3_readInto_70 : decode cX3_readInto 70 = .ok (.aload_n 1, 1) := by decide +kernel
theorem dX3_readInto_71 : decode cX3_readInto 71 = .ok (.invokevirtual 40, 3) := by decide +kernel
theorem dX3_readInto_74 : decode cX3_readInto 74 = .ok (.istore_n 2, 1) := by decide +kernel
theorem dX3_readInto_75 : decode cX3_readInto 75 = .ok (.iinc 3 1, 3) := by decide +kernel
theorem dX3_readInto_78 : decode cX3_readInto 78 = .ok (.goto (-29), 3) := by decide +kernel
theorem dX3_readInto_81 : decode cX3_readInto 81 = .ok (.return_, 1) := by decide +kernel
theorem dX3_byteAt_0 : decode cX3_byteAt 0 = .ok (.iload_n 1, 1) := by decide +kernel
theorem dX3_byteAt_1 : decode cX3_byteAt 1 = .ok (.ifCond .lt 27, 3) := by decide +kernel
theorem dX3_byteAt_4 : decode cX3_byteAt 4 = .ok (.iload_n 1, 1) := by decide +kernel
theorem dX3_byteAt_5 : decode cX3_byteAt 5 = .ok (.aload_n 0, 1) := by decide +kernel
theorem dX3_byteAt_6 : decode cX3_byteAt 6 = .ok (.getfield 43, 3) := by decide +kernel
theorem dX3_byteAt_9 : decode cX3_byteAt 9 = .ok (.if_icmp .ge 19, 3) := by decide +kernel
theorem dX3_byteAt_12 : decode cX3_byteAt 12 = .ok (.iload_n 1, 1) := by decide +kernel
theorem dX3_byteAt_13 : decode cX3_byteAt 13 = .ok (.sipush 130, 3) := by decide +kernel
theorem dX3_byteAt_16 : decode cX3_byteAt 16 = .ok (.if_icmp .ge 12, 3) := by decide +kernel
theorem dX3_byteAt_19 : decode cX3_byteAt 19 = .ok (.aload_n 0, 1) := by decide +kernel
theorem dX3_byteAt_20 : decode cX3_byteAt 20 = .ok (.getfield 15, 3) := by decide +kernel
theorem dX3_byteAt_23 : decode cX3_byteAt 23 = .ok (.iload_n 1, 1) := by decide +kernel
theorem dX3_byteAt_24 : decode cX3_byteAt 24 = .ok (.iaload, 1) := by decide +kernel
theorem dX3_byteAt_25 : decode cX3_byteAt 25 = .ok (.goto 4, 3) := by decide +kernel
theorem dX3_byteAt_28 : decode cX3_byteAt 28 = .ok (.iconst (-1), 1) := by decide +kernel
theorem dX3_byteAt_29 : decode cX3_byteAt 29 = .ok (.ireturn, 1) := by decide +kernel
theorem dX3_isFigure_0 : decode cX3_isFigure 0 = .ok (.aload_n 0, 1) := by decide +kernel
theorem dX3_isFigure_1 : decode cX3_isFigure 1 = .ok (.iload_n 1, 1) := by decide +kernel
theorem dX3_isFigure_2 : decode cX3_isFigure 2 = .ok (.invokevirtual 46, 3) := by decide +kernel
theorem dX3_isFigure_5 : decode cX3_isFigure 5 = .ok (.bipush 48, 2) := by decide +kernel
theorem dX3_isFigure_7 : decode cX3_isFigure 7 = .ok (.if_icmp .lt 17, 3) := by decide +kernel
theorem dX3_isFigure_10 : decode cX3_isFigure 10 = .ok (.aload_n 0, 1) := by decide +kernel
theorem dX3_isFigure_11 : decode cX3_isFigure 11 = .ok (.iload_n 1, 1) := by decide +kernel
theorem dX3_isFigure_12 : decode cX3_isFigure 12 = .ok (.invokevirtual 46, 3) := by decide +kernel
theorem dX3_isFigure_15 : decode cX3_isFigure 15 = .ok (.bipush 57, 2) := by decide +kernel
theorem dX3_isFigure_17 : decode cX3_isFigure 17 = .ok (.if_icmp .gt 7, 3) := by decide +kernel
theorem dX3_isFigure_20 : decode cX3_isFigure 20 = .ok (.iconst 1, 1) := by decide +kernel
theorem dX3_isFigure_21 : decode cX3_isFigure 21 = .ok (.goto 4, 3) := by decide +kernel
theorem dX3_isFigure_24 : decode cX3_isFigure 24 = .ok (.iconst 0, 1) := by decide +kernel
theorem dX3_isFigure_25 : decode cX3_isFigure 25 = .ok (.ireturn, 1) := by decide +kernel
theorem dX3_isLetter_0 : decode cX3_isLetter 0 = .ok (.aload_n 0, 1) := by decide +kernel
theorem dX3_isLetter_1 : decode cX3_isLetter 1 = .ok (.iload_n 1, 1) := by decide +kernel
theorem dX3_isLetter_2 : decode cX3_isLetter 2 = .ok (.invokevirtual 46, 3) := by decide +kernel
theorem dX3_isLetter_5 : decode cX3_isLetter 5 = .ok (.bipush 97, 2) := by decide +kernel
theorem dX3_isLetter_7 : decode cX3_isLetter 7 = .ok (.if_icmp .lt 17, 3) := by decide +kernel
theorem dX3_isLetter_10 : decode cX3_isLetter 10 = .ok (.aload_n 0, 1) := by decide +kernel
theorem dX3_isLetter_11 : decode cX3_isLetter 11 = .ok (.iload_n 1, 1) := by decide +kernel
theorem dX3_isLetter_12 : decode cX3_isLetter 12 = .ok (.invokevirtual 46, 3) := by decide +kernel
theorem dX3_isLetter_15 : decode cX3_isLetter 15 = .ok (.bipush 122, 2) := by decide +kernel
theorem dX3_isLetter_17 : decode cX3_isLetter 17 = .ok (.if_icmp .gt 7, 3) := by decide +kernel
theorem dX3_isLetter_20 : decode cX3_isLetter 20 = .ok (.iconst 1, 1) := by decide +kernel
theorem dX3_isLetter_21 : decode cX3_isLetter 21 = .ok (.goto 4, 3) := by decide +kernel
theorem dX3_isLetter_24 : decode cX3_isLetter 24 = .ok (.iconst 0, 1) := by decide +kernel
theorem dX3_isLetter_25 : decode cX3_isLetter 25 = .ok (.ireturn, 1) := by decide +kernel
theorem dX3_failAt_0 : decode cX3_failAt 0 = .ok (.aload_n 0, 1) := by decide +kernel
theorem dX3_failAt_1 : decode cX3_failAt 1 = .ok (.iload_n 2, 1) := by decide +kernel
theorem dX3_failAt_2 : decode cX3_failAt 2 = .ok (.putfield 22, 3) := by decide +kernel
theorem dX3_failAt_5 : decode cX3_failAt 5 = .ok (.aload_n 0, 1) := by decide +kernel
theorem dX3_failAt_6 : decode cX3_failAt 6 = .ok (.iload_n 1, 1) := by decide +kernel
theorem dX3_failAt_7 : decode cX3_failAt 7 = .ok (.putfield 25, 3) := by decide +kernel
theorem dX3_failAt_10 : decode cX3_failAt 10 = .ok (.iconst 0, 1) := by decide +kernel
theorem dX3_failAt_11 : decode cX3_failAt 11 = .ok (.ireturn, 1) := by decide +kernel
theorem dX3_readSign_0 : decode cX3_readSign 0 = .ok (.aload_n 0, 1) := by decide +kernel
theorem dX3_readSign_1 : decode cX3_readSign 1 = .ok (.aload_n 0, 1) := by decide +kernel
theorem dX3_readSign_2 : decode cX3_readSign 2 = .ok (.getfield 18, 3) := by decide +kernel
theorem dX3_readSign_5 : decode cX3_readSign 5 = .ok (.invokevirtual 46, 3) := by decide +kernel
theorem dX3_readSign_8 : decode cX3_readSign 8 = .ok (.iload_n 1, 1) := by decide +kernel
theorem dX3_readSign_9 : decode cX3_readSign 9 = .ok (.if_icmp .eq 13, 3) := by decide +kernel
theorem dX3_readSign_12 : decode cX3_readSign 12 = .ok (.aload_n 0, 1) := by decide +kernel
theorem dX3_readSign_13 : decode cX3_readSign 13 = .ok (.aload_n 0, 1) := by decide +kernel
theorem dX3_readSign_14 : decode cX3_readSign 14 = .ok (.getfield 18, 3) := by decide +kernel
theorem dX3_readSign_17 : decode cX3_readSign 17 = .ok (.iconst 1, 1) := by decide +kernel
theorem dX3_readSign_18 : decode cX3_readSign 18 = .ok (.invokevirtual 50, 3) := by decide +kernel
theorem dX3_readSign_21 : decode cX3_readSign 21 = .ok (.ireturn, 1) := by decide +kernel
theorem dX3_readSign_22 : decode cX3_readSign 22 = .ok (.aload_n 0, 1) := by decide +kernel
theorem dX3_readSign_23 : decode cX3_readSign 23 = .ok (.dup, 1) := by decide +kernel
theorem dX3_readSign_24 : decode cX3_readSign 24 = .ok (.getfield 18, 3) := by decide +kernel
theorem dX3_readSign_27 : decode cX3_readSign 27 = .ok (.iconst 1, 1) := by decide +kernel
theorem dX3_readSign_28 : decode cX3_readSign 28 = .ok (.iadd, 1) := by decide +kernel
theorem dX3_readSign_29 : decode cX3_readSign 29 = .ok (.putfield 18, 3) := by decide +kernel
theorem dX3_readSign_32 : decode cX3_readSign 32 = .ok (.iconst 1, 1) := by decide +kernel
theorem dX3_readSign_33 : decode cX3_readSign 33 = .ok (.ireturn, 1) := by decide +kernel
theorem dX3_readNumber_0 : decode cX3_readNumber 0 = .ok (.aload_n 0, 1) := by decide +kernel
theorem dX3_readNumber_1 : decode cX3_readNumber 1 = .ok (.aload_n 0, 1) := by decide +kernel
theorem dX3_readNumber_2 : decode cX3_readNumber 2 = .ok (.getfield 18, 3) := by decide +kernel
theorem dX3_readNumber_5 : decode cX3_readNumber 5 = .ok (.invokevirtual 54, 3) := by decide +kernel
theorem dX3_readNumber_8 : decode cX3_readNumber 8 = .ok (.ifCond .eq 33, 3) := by decide +kernel
theorem dX3_readNumber_11 : decode cX3_readNumber 11 = .ok (.aload_n 0, 1) := by decide +kernel
theorem dX3_readNumber_12 : decode cX3_readNumber 12 = .ok (.aload_n 0, 1) := by decide +kernel
theorem dX3_readNumber_13 : decode cX3_readNumber 13 = .ok (.getfield 18, 3) := by decide +kernel
theorem dX3_readNumber_16 : decode cX3_readNumber 16 = .ok (.iconst 1, 1) := by decide +kernel
theorem dX3_readNumber_17 : decode cX3_readNumber 17 = .ok (.iadd, 1) := by decide +kernel
theorem dX3_readNumber_18 : decode cX3_readNumber 18 = .ok (.invokevirtual 54, 3) := by decide +kernel
theorem dX3_readNumber_21 : decode cX3_readNumber 21 = .ok (.ifCond .eq 20, 3) := by decide +kernel
theorem dX3_readNumber_24 : decode cX3_readNumber 24 = .ok (.aload_n 0, 1) := by decide +kernel
theorem dX3_readNumber_25 : decode cX3_readNumber 25 = .ok (.aload_n 0, 1) := by decide +kernel
theorem dX3_readNumber_26 : decode cX3_readNumber 26 = .ok (.getfield 18, 3) := by decide +kernel
theorem dX3_readNumber_29 : decode cX3_readNumber 29 = .ok (.iconst 2, 1) := by decide +kernel
theorem dX3_readNumber_30 : decode cX3_readNumber 30 = .ok (.iadd, 1) := by decide +kernel
theorem dX3_readNumber_31 : decode cX3_readNumber 31 = .ok (.invokevirtual 54, 3) := by decide +kernel
theorem dX3_readNumber_34 : decode cX3_readNumber 34 = .ok (.ifCond .eq 7, 3) := by decide +kernel
theorem dX3_readNumber_37 : decode cX3_readNumber 37 = .ok (.iconst 1, 1) := by decide +kernel
theorem dX3_readNumber_38 : decode cX3_readNumber 38 = .ok (.goto 4, 3) := by decide +kernel
theorem dX3_readNumber_41 : decode cX3_readNumber 41 = .ok (.iconst 0, 1) := by decide +kernel
theorem dX3_readNumber_42 : decode cX3_readNumber 42 = .ok (.istore_n 3, 1) := by decide +kernel
theorem dX3_readNumber_43 : decode cX3_readNumber 43 = .ok (.aload_n 0, 1) := by decide +kernel
theorem dX3_readNumber_44 : decode cX3_readNumber 44 = .ok (.aload_n 0, 1) := by decide +kernel
theorem dX3_readNumber_45 : decode cX3_readNumber 45 = .ok (.getfield 18, 3) := by decide +kernel
theorem dX3_readNumber_48 : decode cX3_readNumber 48 = .ok (.invokevirtual 54, 3) := by decide +kernel
theorem dX3_readNumber_51 : decode cX3_readNumber 51 = .ok (.ifCond .eq 7, 3) := by decide +kernel
theorem dX3_readNumber_54 : decode cX3_readNumber 54 = .ok (.iload_n 3, 1) := by decide +kernel
theorem dX3_readNumber_55 : decode cX3_readNumber 55 = .ok (.ifCond .eq 16, 3) := by decide +kernel
theorem dX3_readNumber_58 : decode cX3_readNumber 58 = .ok (.aload_n 0, 1) := by decide +kernel
theorem dX3_readNumber_59 : decode cX3_readNumber 59 = .ok (.aload_n 0, 1) := by decide +kernel
theorem dX3_readNumber_60 : decode cX3_readNumber 60 = .ok (.getfield 18, 3) := by decide +kernel
theorem dX3_readNumber_63 : decode cX3_readNumber 63 = .ok (.iconst 1, 1) := by decide +kernel
theorem dX3_readNumber_64 : decode cX3_readNumber 64 = .ok (.invokevirtual 50, 3) := by decide +kernel
theorem dX3_readNumber_67 : decode cX3_readNumber 67 = .ok (.pop, 1) := by decide +kernel
theorem dX3_readNumber_68 : decode cX3_readNumber 68 = .ok (.ldc 58, 2) := by decide +kernel
theorem dX3_readNumber_70 : decode cX3_readNumber 70 = .ok (.ireturn, 1) := by decide +kernel
theorem dX3_readNumber_71 : decode cX3_readNumber 71 = .ok (.aload_n 0, 1) := by decide +kernel
theorem dX3_readNumber_72 : decode cX3_readNumber 72 = .ok (.aload_n 0, 1) := by decide +kernel
theorem dX3_readNumber_73 : decode cX3_readNumber 73 = .ok (.getfield 18, 3) := by decide +kernel
theorem dX3_readNumber_76 : decode cX3_readNumber 76 = .ok (.iconst 1, 1) := by decide +kernel
theorem dX3_readNumber_77 : decode cX3_readNumber 77 = .ok (.iadd, 1) := by decide +kernel
theorem dX3_readNumber_78 : decode cX3_readNumber 78 = .ok (.invokevirtual 54, 3) := by decide +kernel
theorem dX3_readNumber_81 : decode cX3_readNumber 81 = .ok (.ifCond .eq 7, 3) := by decide +kernel
theorem dX3_readNumber_84 : decode cX3_readNumber 84 = .ok (.iconst 2, 1) := by decide +kernel
theorem dX3_readNumber_85 : decode cX3_readNumber 85 = .ok (.goto 4, 3) := by decide +kernel
theorem dX3_readNumber_88 : decode cX3_readNumber 88 = .ok (.iconst 1, 1) := by decide +kernel
theorem dX3_readNumber_89 : decode cX3_readNumber 89 = .ok (.istore 4, 2) := by decide +kernel
theorem dX3_readNumber_91 : decode cX3_readNumber 91 = .ok (.aload_n 0, 1) := by decide +kernel
theorem dX3_readNumber_92 : decode cX3_readNumber 92 = .ok (.aload_n 0, 1) := by decide +kernel
theorem dX3_readNumber_93 : decode cX3_readNumber 93 = .ok (.getfield 18, 3) := by decide +kernel
theorem dX3_readNumber_96 : decode cX3_readNumber 96 = .ok (.invokevirtual 46, 3) := by decide +kernel
theorem dX3_readNumber_99 : decode cX3_readNumber 99 = .ok (.bipush 48, 2) := by decide +kernel
theorem dX3_readNumber_101 : decode cX3_readNumber 101 = .ok (.isub, 1) := by decide +kernel
theorem dX3_readNumber_102 : decode cX3_readNumber 102 = .ok (.istore 5, 2) := by decide +kernel
theorem dX3_readNumber_104 : decode cX3_readNumber 104 = .ok (.iload 4, 2) := by decide +kernel
theorem dX3_readNumber_106 : decode cX3_readNumber 106 = .ok (.iconst 2, 1) := by decide +kernel
theorem dX3_readNumber_107 : decode cX3_readNumber 107 = .ok (.if_icmp .ne 24, 3) := by decide +kernel
theorem dX3_readNumber_110 : decode cX3_readNumber 110 = .ok (.bipush 10, 2) := by decide +kernel
theorem dX3_readNumber_112 : decode cX3_readNumber 112 = .ok (.iload 5, 2) := by decide +kernel
theorem dX3_readNumber_114 : decode cX3_readNumber 114 = .ok (.imul, 1) := by decide +kernel
theorem dX3_readNumber_115 : decode cX3_readNumber 115 = .ok (.aload_n 0, 1) := by decide +kernel
theorem dX3_readNumber_116 : decode cX3_readNumber 116 = .ok (.aload_n 0, 1) := by decide +kernel
theorem dX3_readNumber_117 : decode cX3_readNumber 117 = .ok (.getfield 18, 3) := by decide +kernel
theorem dX3_readNumber_120 : decode cX3_readNumber 120 = .ok (.iconst 1, 1) := by decide +kernel
theorem dX3_readNumber_121 : decode cX3_readNumber 121 = .ok (.iadd, 1) := by decide +kernel
theorem dX3_readNumber_122 : decode cX3_readNumber 122 = .ok (.invokevirtual 46, 3) := by decide +kernel
theorem dX3_readNumber_125 : decode cX3_readNumber 125 = .ok (.iadd, 1) := by decide +kernel
theorem dX3_readNumber_126 : decode cX3_readNumber 126 = .ok (.bipush 48, 2) := by decide +kernel
theorem dX3_readNumber_128 : decode cX3_readNumber 128 = .ok (.isub, 1) := by decide +kernel
theorem dX3_readNumber_129 : decode cX3_readNumber 129 = .ok (.istore 5, 2) := by decide +kernel
theorem dX3_readNumber_131 : decode cX3_readNumber 131 = .ok (.iload 5, 2) := by decide +kernel
theorem dX3_readNumber_133 : decode cX3_readNumber 133 = .ok (.iload_n 1, 1) := by decide +kernel
theorem dX3_readNumber_134 : decode cX3_readNumber 134 = .ok (.if_icmp .lt 9, 3) := by decide +kernel
theorem dX3_readNumber_137 : decode cX3_readNumber 137 = .ok (.iload 5, 2) := by decide +kernel
theorem dX3_readNumber_139 : decode cX3_readNumber 139 = .ok (.iload_n 2, 1) := by decide +kernel
theorem dX3_readNumber_140 : decode cX3_readNumber 140 = .ok (.if_icmp .le 16, 3) := by decide +kernel
theorem dX3_readNumber_143 : decode cX3_readNumber 143 = .ok (.aload_n 0, 1) := by decide +kernel
theorem dX3_readNumber_144 : decode cX3_readNumber 144 = .ok (.aload_n 0, 1) := by decide +kernel
theorem dX3_readNumber_145 : decode cX3_readNumber 145 = .ok (.getfield 18, 3) := by decide +kernel
theorem dX3_readNumber_148 : decode cX3_readNumber 148 = .ok (.iconst 2, 1) := by decide +kernel
theorem dX3_readNumber_149 : decode cX3_readNumber 149 = .ok (.invokevirtual 50, 3) := by decide +kernel
theorem dX3_readNumber_152 : decode cX3_readNumber 152 = .ok (.pop, 1) := by decide +kernel
theorem dX3_readNumber_153 : decode cX3_readNumber 153 = .ok (.ldc 58, 2) := by decide +kernel
theorem dX3_readNumber_155 : decode cX3_readNumber 155 = .ok (.ireturn, 1) := by decide +kernel
theorem dX3_readNumber_156 : decode cX3_readNumber 156 = .ok (.aload_n 0, 1) := by decide +kernel
theorem dX3_readNumber_157 : decode cX3_readNumber 157 = .ok (.dup, 1) := by decide +kernel
theorem dX3_readNumber_158 : decode cX3_readNumber 158 = .ok (.getfield 18, 3) := by decide +kernel
theorem dX3_readNumber_161 : decode cX3_readNumber 161 = .ok (.iload 4, 2) := by decide +kernel
theorem dX3_readNumber_163 : decode cX3_readNumber 163 = .ok (.iadd, 1) := by decide +kernel
theorem dX3_readNumber_164 : decode cX3_readNumber 164 = .ok (.putfield 18, 3) := by decide +kernel
theorem dX3_readNumber_167 : decode cX3_readNumber 167 = .ok (.iload 5, 2) := by decide +kernel
theorem dX3_readNumber_169 : decode cX3_readNumber 169 = .ok (.ireturn, 1) := by decide +kernel
theorem dX3_readLaw_0 : decode cX3_readLaw 0 = .ok (.aload_n 0, 1) := by decide +kernel
theorem dX3_readLaw_1 : decode cX3_readLaw 1 = .ok (.bipush 113, 2) := by decide +kernel
theorem dX3_readLaw_3 : decode cX3_readLaw 3 = .ok (.invokevirtual 59, 3) := by decide +kernel
theorem dX3_readLaw_6 : decode cX3_readLaw 6 = .ok (.ifCond .ne 5, 3) := by decide +kernel
theorem dX3_readLaw_9 : decode cX3_readLaw 9 = .ok (.iconst 0, 1) := by decide +kernel
theorem dX3_readLaw_10 : decode cX3_readLaw 10 = .ok (.ireturn, 1) := by decide +kernel
theorem dX3_readLaw_11 : decode cX3_readLaw 11 = .ok (.aload_n 1, 1) := by decide +kernel
theorem dX3_readLaw_12 : decode cX3_readLaw 12 = .ok (.aload_n 0, 1) := by decide +kernel
theorem dX3_readLaw_13 : decode cX3_readLaw 13 = .ok (.iconst 0, 1) := by decide +kernel
theorem dX3_readLaw_14 : decode cX3_readLaw 14 = .ok (.getstatic 62, 3) := by decide +kernel
theorem dX3_readLaw_17 : decode cX3_readLaw 17 = .ok (.arraylength, 1) := by decide +kernel
theorem dX3_readLaw_18 : decode cX3_readLaw 18 = .ok (.iconst 1, 1) := by decide +kernel
theorem dX3_readLaw_19 : decode cX3_readLaw 19 = .ok (.isub, 1) := by decide +kernel
theorem dX3_readLaw_20 : decode cX3_readLaw 20 = .ok (.invokevirtual 65, 3) := by decide +kernel
theorem dX3_readLaw_23 : decode cX3_readLaw 23 = .ok (.putfield 69, 3) := by decide +kernel
theorem dX3_readLaw_26 : decode cX3_readLaw 26 = .ok (.aload_n 0, 1) := by decide +kernel
theorem dX3_readLaw_27 : decode cX3_readLaw 27 = .ok (.getfield 22, 3) := by decide +kernel
theorem dX3_readLaw_30 : decode cX3_readLaw 30 = .ok (.ifCond .ne 12, 3) := by decide +kernel
theorem dX3_readLaw_33 : decode cX3_readLaw 33 = .ok (.aload_n 0, 1) := by decide +kernel
theorem dX3_readLaw_34 : decode cX3_readLaw 34 = .ok (.bipush 44, 2) := by decide +kernel
theorem dX3_readLaw_36 : decode cX3_readLaw 36 = .ok (.invokevirtual 59, 3) := by decide +kernel
theorem dX3_readLaw_39 : decode cX3_readLaw 39 = .ok (.ifCond .ne 5, 3) := by decide +kernel
theorem dX3_readLaw_42 : decode cX3_readLaw 42 = .ok (.iconst 0, 1) := by decide +kernel
theorem dX3_readLaw_43 : decode cX3_readLaw 43 = .ok (.ireturn, 1) := by decide +kernel
theorem dX3_readLaw_44 : decode cX3_readLaw 44 = .ok (.aload_n 1, 1) := by decide +kernel
theorem dX3_readLaw_45 : decode cX3_readLaw 45 = .ok (.aload_n 0, 1) := by decide +kernel
theorem dX3_readLaw_46 : decode cX3_readLaw 46 = .ok (.iconst 1, 1) := by decide +kernel
theorem dX3_readLaw_47 : decode cX3_readLaw 47 = .ok (.iconst 5, 1) := by decide +kernel
theorem dX3_readLaw_48 : decode cX3_readLaw 48 = .ok (.invokevirtual 65, 3) := by decide +kernel
theorem dX3_readLaw_51 : decode cX3_readLaw 51 = .ok (.putfield 72, 3) := by decide +kernel
theorem dX3_readLaw_54 : decode cX3_readLaw 54 = .ok (.aload_n 0, 1) := by decide +kernel
theorem dX3_readLaw_55 : decode cX3_readLaw 55 = .ok (.getfield 22, 3) := by decide +kernel
theorem dX3_readLaw_58 : decode cX3_readLaw 58 = .ok (.ifCond .ne 16, 3) := by decide +kernel
theorem dX3_readLaw_61 : decode cX3_readLaw 61 = .ok (.aload_n 0, 1) := by decide +kernel
theorem dX3_readLaw_62 : decode cX3_readLaw 62 = .ok (.bipush 59, 2) := by decide +kernel
theorem dX3_readLaw_64 : decode cX3_readLaw 64 = .ok (.invokevirtual 59, 3) := by decide +kernel
theorem dX3_readLaw_67 : decode cX3_readLaw 67 = .ok (.ifCond .eq 7, 3) := by decide +kernel
theorem dX3_readLaw_70 : decode cX3_readLaw 70 = .ok (.iconst 1, 1) := by decide +kernel
theorem dX3_readLaw_71 : decode cX3_readLaw 71 = .ok (.goto 4, 3) := by decide +kernel
theorem dX3_readLaw_74 : decode cX3_readLaw 74 = .ok (.iconst 0, 1) := by decide +kernel
theorem dX3_readLaw_75 : decode cX3_readLaw 75 = .ok (.ireturn, 1) := by decide +kernel
theorem dX3_readLine_0 : decode cX3_readLine 0 = .ok (.aload_n 1, 1) := by decide +kernel
theorem dX3_readLine_1 : decode cX3_readLine 1 = .ok (.getfield 28, 3) := by decide +kernel
theorem dX3_readLine_4 : decode cX3_readLine 4 = .ok (.iconst 4, 1) := by decide +kernel
theorem dX3_readLine_5 : decode cX3_readLine 5 = .ok (.if_icmp .ge 7, 3) := by decide +kernel
theorem dX3_readLine_8 : decode cX3_readLine 8 = .ok (.iconst 1, 1) := by decide +kernel
theorem dX3_readLine_9 : decode cX3_readLine 9 = .ok (.goto 4, 3) := by decide +kernel
theorem dX3_readLine_12 : decode cX3_readLine 12 = .ok (.iconst 0, 1) := by decide +kernel
theorem dX3_readLine_13 : decode cX3_readLine 13 = .ok (.istore_n 2, 1) := by decide +kernel
theorem dX3_readLine_14 : decode cX3_readLine 14 = .ok (.aload_n 0, 1) := by decide +kernel
theorem dX3_readLine_15 : decode cX3_readLine 15 = .ok (.getfield 18, 3) := by decide +kernel
theorem dX3_readLine_18 : decode cX3_readLine 18 = .ok (.istore_n 3, 1) := by decide +kernel
theorem dX3_readLine_19 : decode cX3_readLine 19 = .ok (.aload_n 0, 1) := by decide +kernel
theorem dX3_readLine_20 : decode cX3_readLine 20 = .ok (.iconst 1, 1) := by decide +kernel
theorem dX3_readLine_21 : decode cX3_readLine 21 = .ok (.iconst 5, 1) := by decide +kernel
theorem dX3_readLine_22 : decode cX3_readLine 22 = .ok (.invokevirtual 65, 3) := by decide +kernel
theorem dX3_readLine_25 : decode cX3_readLine 25 = .ok (.istore 4, 2) := by decide +kernel
theorem dX3_readLine_27 : decode cX3_readLine 27 = .ok (.aload_n 0, 1) := by decide +kernel
theorem dX3_readLine_28 : decode cX3_readLine 28 = .ok (.getfield 22, 3) := by decide +kernel
theorem dX3_readLine_31 : decode cX3_readLine 31 = .ok (.ifCond .eq 5, 3) := by decide +kernel
theorem dX3_readLine_34 : decode cX3_readLine 34 = .ok (.iconst 0, 1) := by decide +kernel
theorem dX3_readLine_35 : decode cX3_readLine 35 = .ok (.ireturn, 1) := by decide +kernel
theorem dX3_readLine_36 : decode cX3_readLine 36 = .ok (.iload_n 2, 1) := by decide +kernel
theorem dX3_readLine_37 : decode cX3_readLine 37 = .ok (.ifCond .ne 10, 3) := by decide +kernel
theorem dX3_readLine_40 : decode cX3_readLine 40 = .ok (.aload_n 0, 1) := by decide +kernel
theorem dX3_readLine_41 : decode cX3_readLine 41 = .ok (.iload_n 3, 1) := by decide +kernel
theorem dX3_readLine_42 : decode cX3_readLine 42 = .ok (.iconst 3, 1) := by decide +kernel
theorem dX3_readLine_43 : decode cX3_readLine 43 = .ok (.invokevirtual 50, 3) := by decide +kernel
theorem dX3_readLine_46 : decode cX3_readLine 46 = .ok (.ireturn, 1) := by decide +kernel
theorem dX3_readLine_47 : decode cX3_readLine 47 = .ok (.aload_n 1, 1) := by decide +kernel
theorem dX3_readLine_48 : decode cX3_readLine 48 = .ok (.invokevirtual 75, 3) := by decide +kernel
theorem dX3_readLine_51 : decode cX3_readLine 51 = .ok (.iconst 1, 1) := by decide +kernel
theorem dX3_readLine_52 : decode cX3_readLine 52 = .ok (.istore 5, 2) := by decide +kernel
theorem dX3_readLine_54 : decode cX3_readLine 54 = .ok (.iload 5, 2) := by decide +kernel
theorem dX3_readLine_56 : decode cX3_readLine 56 = .ok (.iconst 5, 1) := by decide +kernel
theorem dX3_readLine_57 : decode cX3_readLine 57 = .ok (.if_icmp .gt 70, 3) := by decide +kernel
theorem dX3_readLine_60 : decode cX3_readLine 60 = .ok (.aload_n 0, 1) := by decide +kernel
theorem dX3_readLine_61 : decode cX3_readLine 61 = .ok (.aload_n 1, 1) := by decide +kernel
theorem dX3_readLine_62 : decode cX3_readLine 62 = .ok (.iload 4, 2) := by decide +kernel
theorem dX3_readLine_64 : decode cX3_readLine 64 = .ok (.invokevirtual 78, 3) := by decide +kernel
theorem dX3_readLine_67 : decode cX3_readLine 67 = .ok (.ifCond .ne 5, 3) := by decide +kernel
theorem dX3_readLine_70 : decode cX3_readLine 70 = .ok (.iconst 0, 1) := by decide +kernel
theorem dX3_readLine_71 : decode cX3_readLine 71 = .ok (.ireturn, 1) := by decide +kernel
theorem dX3_readLine_72 : decode cX3_readLine 72 = .ok (.iload 5, 2) := by decide +kernel
theorem dX3_readLine_74 : decode cX3_readLine 74 = .ok (.iconst 5, 1) := by decide +kernel
theorem dX3_readLine_75 : decode cX3_readLine 75 = .ok (.if_icmp .eq 52, 3) := by decide +kernel
theorem dX3_readLine_78 : decode cX3_readLine 78 = .ok (.aload_n 0, 1) := by decide +kernel
theorem dX3_readLine_79 : decode cX3_readLine 79 = .ok (.aload_n 0, 1) := by decide +kernel
theorem dX3_readLine_80 : decode cX3_readLine 80 = .ok (.getfield 18, 3) := by decide +kernel
theorem dX3_readLine_83 : decode cX3_readLine 83 = .ok (.invokevirtual 46, 3) := by decide +kernel
theorem dX3_readLine_86 : decode cX3_readLine 86 = .ok (.bipush 44, 2) := by decide +kernel
theorem dX3_readLine_88 : decode cX3_readLine 88 = .ok (.if_icmp .eq 6, 3) := by decide +kernel
theorem dX3_readLine_91 : decode cX3_readLine 91 = .ok (.goto 36, 3) := by decide +kernel
theorem dX3_readLine_94 : decode cX3_readLine 94 = .ok (.aload_n 0, 1) := by decide +kernel
theorem dX3_readLine_95 : decode cX3_readLine 95 = .ok (.dup, 1) := by decide +kernel
theorem dX3_readLine_96 : decode cX3_readLine 96 = .ok (.getfield 18, 3) := by decide +kernel
theorem dX3_readLine_99 : decode cX3_readLine 99 = .ok (.iconst 1, 1) := by decide +kernel
theorem dX3_readLine_100 : decode cX3_readLine 100 = .ok (.iadd, 1) := by decide +kernel
theorem dX3_readLine_101 : decode cX3_readLine 101 = .ok (.putfield 18, 3) := by decide +kernel
theorem dX3_readLine_104 : decode cX3_readLine 104 = .ok (.aload_n 0, 1) := by decide +kernel
theorem dX3_readLine_105 : decode cX3_readLine 105 = .ok (.iconst 1, 1) := by decide +kernel
theorem dX3_readLine_106 : decode cX3_readLine 106 = .ok (.iconst 5, 1) := by decide +kernel
theorem dX3_readLine_107 : decode cX3_readLine 107 = .ok (.invokevirtual 65, 3) := by decide +kernel
theorem dX3_readLine_110 : decode cX3_readLine 110 = .ok (.istore 4, 2) := by decide +kernel
theorem dX3_readLine_112 : decode cX3_readLine 112 = .ok (.aload_n 0, 1) := by decide +kernel
theorem dX3_readLine_113 : decode cX3_readLine 113 = .ok (.getfield 22, 3) := by decide +kernel
theorem dX3_readLine_116 : decode cX3_readLine 116 = .ok (.ifCond .eq 5, 3) := by decide +kernel
theorem dX3_readLine_119 : decode cX3_readLine 119 = .ok (.iconst 0, 1) := by decide +kernel
theorem dX3_readLine_120 : decode cX3_readLine 120 = .ok (.ireturn, 1) := by decide +kernel
theorem dX3_readLine_121 : decode cX3_readLine 121 = .ok (.iinc 5 1, 3) := by decide +kernel
theorem dX3_readLine_124 : decode cX3_readLine 124 = .ok (.goto (-70), 3) := by decide +kernel
theorem dX3_readLine_127 : decode cX3_readLine 127 = .ok (.aload_n 0, 1) := by decide +kernel
theorem dX3_readLine_128 : decode cX3_readLine 128 = .ok (.bipush 59, 2) := by decide +kernel
theorem dX3_readLine_130 : decode cX3_readLine 130 = .ok (.invokevirtual 59, 3) := by decide +kernel
theorem dX3_readLine_133 : decode cX3_readLine 133 = .ok (.ireturn, 1) := by decide +kernel
theorem dX3_readLetters_0 : decode cX3_readLetters 0 = .ok (.aload_n 0, 1) := by decide +kernel
theorem dX3_readLetters_1 : decode cX3_readLetters 1 = .ok (.getfield 18, 3) := by decide +kernel
theorem dX3_readLetters_4 : decode cX3_readLetters 4 = .ok (.istore_n 3, 1) := by decide +kernel
theorem dX3_readLetters_5 : decode cX3_readLetters 5 = .ok (.iconst 0, 1) := by decide +kernel
theorem dX3_readLetters_6 : decode cX3_readLetters 6 = .ok (.istore 4, 2) := by decide +kernel
theorem dX3_readLetters_8 : decode cX3_readLetters 8 = .ok (.iconst 0, 1) := by decide +kernel
theorem dX3_readLetters_9 : decode cX3_readLetters 9 = .ok (.istore 5, 2) := by decide +kernel
theorem dX3_readLetters_11 : decode cX3_readLetters 11 = .ok (.iload 5, 2) := by decide +kernel
theorem dX3_readLetters_13 : decode cX3_readLetters 13 = .ok (.bipush 8, 2) := by decide +kernel
theorem dX3_readLetters_15 : decode cX3_readLetters 15 = .ok (.if_icmp .ge 51, 3) := by decide +kernel
theorem dX3_readLetters_18 : decode cX3_readLetters 18 = .ok (.aload_n 0, 1) := by decide +kernel
theorem dX3_readLetters_19 : decode cX3_readLetters 19 = .ok (.aload_n 0, 1) := by decide +kernel
theorem dX3_readLetters_20 : decode cX3_readLetters 20 = .ok (.getfield 18, 3) := by decide +kernel
theorem dX3_readLetters_23 : decode cX3_readLetters 23 = .ok (.invokevirtual 82, 3) := by decide +kernel
theorem dX3_readLetters_26 : decode cX3_readLetters 26 = .ok (.ifCond .eq 40, 3) := by decide +kernel
theorem dX3_readLetters_29 : decode cX3_readLetters 29 = .ok (.aload_n 0, 1) := by decide +kernel
theorem dX3_readLetters_30 : decode cX3_readLetters 30 = .ok (.getfield 9, 3) := by decide +kernel
theorem dX3_readLetters_33 : decode cX3_readLetters 33 = .ok (.iload 5, 2) := by decide +kernel
theorem dX3_readLetters_35 : decode cX3_readLetters 35 = .ok (.aload_n 0, 1) := by decide +kernel
theorem dX3_readLetters_36 : decode cX3_readLetters 36 = .ok (.aload_n 0, 1) := by decide +kernel
theorem dX3_readLetters_37 : decode cX3_readLetters 37 = .ok (.getfield 18, 3) := by decide +kernel
theorem dX3_readLetters_40 : decode cX3_readLetters 40 = .ok (.invokevirtual 46, 3) := by decide +kernel
theorem dX3_readLetters_43 : decode cX3_readLetters 43 = .ok (.bipush 97, 2) := by decide +kernel
theorem dX3_readLetters_45 : decode cX3_readLetters 45 = .ok (.isub, 1) := by decide +kernel
theorem dX3_readLetters_46 : decode cX3_readLetters 46 = .ok (.iastore, 1) := by decide +kernel
theorem dX3_readLetters_47 : decode cX3_readLetters 47 = .ok (.iinc 4 1, 3) := by decide +kernel
theorem dX3_readLetters_50 : decode cX3_readLetters 50 = .ok (.aload_n 0, 1) := by decide +kernel
theorem dX3_readLetters_51 : decode cX3_readLetters 51 = .ok (.dup, 1) := by decide +kernel
theorem dX3_readLetters_52 : decode cX3_readLetters 52 = .ok (.getfield 18, 3) := by decide +kernel
theorem dX3_readLetters_55 : decode cX3_readLetters 55 = .ok (.iconst 1, 1) := by decide +kernel
theorem dX3_readLetters_56 : decode cX3_readLetters 56 = .ok (.iadd, 1) := by decide +kernel
theorem dX3_readLetters_57 : decode cX3_readLetters 57 = .ok (.putfield 18, 3) := by decide +kernel
theorem dX3_readLetters_60 : decode cX3_readLetters 60 = .ok (.iinc 5 1, 3) := by decide +kernel
theorem dX3_readLetters_63 : decode cX3_readLetters 63 = .ok (.goto (-52), 3) := by decide +kernel
theorem dX3_readLetters_66 : decode cX3_readLetters 66 = .ok (.iload 4, 2) := by decide +kernel
theorem dX3_readLetters_68 : decode cX3_readLetters 68 = .ok (.ifCond .ne 10, 3) := by decide +kernel
theorem dX3_readLetters_71 : decode cX3_readLetters 71 = .ok (.aload_n 0, 1) := by decide +kernel
theorem dX3_readLetters_72 : decode cX3_readLetters 72 = .ok (.iload_n 3, 1) := by decide +kernel
theorem dX3_readLetters_73 : decode cX3_readLetters 73 = .ok (.iconst 1, 1) := by decide +kernel
theorem dX3_readLetters_74 : decode cX3_readLetters 74 = .ok (.invokevirtual 50, 3) := by decide +kernel
theorem dX3_readLetters_77 : decode cX3_readLetters 77 = .ok (.ireturn, 1) := by decide +kernel
theorem dX3_readLetters_78 : decode cX3_readLetters 78 = .ok (.aload_n 0, 1) := by decide +kernel
theorem dX3_readLetters_79 : decode cX3_readLetters 79 = .ok (.getfield 9, 3) := by decide +kernel
theorem dX3_readLetters_82 : decode cX3_readLetters 82 = .ok (.iload 4, 2) := by decide +kernel
theorem dX3_readLetters_84 : decode cX3_readLetters 84 = .ok (.invokestatic 85, 3) := by decide +kernel
theorem dX3_readLetters_87 : decode cX3_readLetters 87 = .ok (.ifCond .ne 10, 3) := by decide +kernel
theorem dX3_readLetters_90 : decode cX3_readLetters 90 = .ok (.aload_n 0, 1) := by decide +kernel
theorem dX3_readLetters_91 : decode cX3_readLetters 91 = .ok (.iload_n 3, 1) := by decide +kernel
theorem dX3_readLetters_92 : decode cX3_readLetters 92 = .ok (.iconst 4, 1) := by decide +kernel
theorem dX3_readLetters_93 : decode cX3_readLetters 93 = .ok (.invokevirtual 50, 3) := by decide +kernel
theorem dX3_readLetters_96 : decode cX3_readLetters 96 = .ok (.ireturn, 1) := by decide +kernel
theorem dX3_readLetters_97 : decode cX3_readLetters 97 = .ok (.aload_n 0, 1) := by decide +kernel
theorem dX3_readLetters_98 : decode cX3_readLetters 98 = .ok (.aload_n 0, 1) := by decide +kernel
theorem dX3_readLetters_99 : decode cX3_readLetters 99 = .ok (.getfield 18, 3) := by decide +kernel
theorem dX3_readLetters_102 : decode cX3_readLetters 102 = .ok (.invokevirtual 82, 3) := by decide +kernel
theorem dX3_readLetters_105 : decode cX3_readLetters 105 = .ok (.ifCond .eq 13, 3) := by decide +kernel
theorem dX3_readLetters_108 : decode cX3_readLetters 108 = .ok (.aload_n 0, 1) := by decide +kernel
theorem dX3_readLetters_109 : decode cX3_readLetters 109 = .ok (.aload_n 0, 1) := by decide +kernel
theorem dX3_readLetters_110 : decode cX3_readLetters 110 = .ok (.getfield 18, 3) := by decide +kernel
theorem dX3_readLetters_113 : decode cX3_readLetters 113 = .ok (.iconst 1, 1) := by decide +kernel
theorem dX3_readLetters_114 : decode cX3_readLetters 114 = .ok (.invokevirtual 50, 3) := by decide +kernel
theorem dX3_readLetters_117 : decode cX3_readLetters 117 = .ok (.ireturn, 1) := by decide +kernel
theorem dX3_readLetters_118 : decode cX3_readLetters 118 = .ok (.aload_n 1, 1) := by decide +kernel
theorem dX3_readLetters_119 : decode cX3_readLetters 119 = .ok (.aload_n 1, 1) := by decide +kernel
theorem dX3_readLetters_120 : decode cX3_readLetters 120 = .ok (.getfield 28, 3) := by decide +kernel
theorem dX3_readLetters_123 : decode cX3_readLetters 123 = .ok (.iconst 1, 1) := by decide +kernel
theorem dX3_readLetters_124 : decode cX3_readLetters 124 = .ok (.isub, 1) := by decide +kernel
theorem dX3_readLetters_125 : decode cX3_readLetters 125 = .ok (.aload_n 1, 1) := by decide +kernel
theorem dX3_readLetters_126 : decode cX3_readLetters 126 = .ok (.getfield 33, 3) := by decide +kernel
theorem dX3_readLetters_129 : decode cX3_readLetters 129 = .ok (.new 89, 3) := by decide +kernel
theorem dX3_readLetters_132 : decode cX3_readLetters 132 = .ok (.dup, 1) := by decide +kernel
theorem dX3_readLetters_133 : decode cX3_readLetters 133 = .ok (.aload_n 0, 1) := by decide +kernel
theorem dX3_readLetters_134 : decode cX3_readLetters 134 = .ok (.getfield 9, 3) := by decide +kernel
theorem dX3_readLetters_137 : decode cX3_readLetters 137 = .ok (.iload 4, 2) := by decide +kernel
theorem dX3_readLetters_139 : decode cX3_readLetters 139 = .ok (.invokespecial 91, 3) := by decide +kernel
theorem dX3_readLetters_142 : decode cX3_readLetters 142 = .ok (.iload_n 2, 1) := by decide +kernel
theorem dX3_readLetters_143 : decode cX3_readLetters 143 = .ok (.invokevirtual 94, 3) := by decide +kernel
theorem dX3_readLetters_146 : decode cX3_readLetters 146 = .ok (.iconst 1, 1) := by decide +kernel
theorem dX3_readLetters_147 : decode cX3_readLetters 147 = .ok (.ireturn, 1) := by decide +kernel
theorem dX4_init_0 : decode cX4_init 0 = .ok (.aload_n 0, 1) := by decide +kernel
theorem dX4_init_1 : decode cX4_init 1 = .ok (.invokespecial 3, 3) := by decide +kernel
theorem dX4_init_4 : decode cX4_init 4 = .ok (.aload_n 0, 1) := by decide +kernel
theorem dX4_init_5 : decode cX4_init 5 = .ok (.bipush 40, 2) := by decide +kernel
theorem dX4_init_7 : decode cX4_init 7 = .ok (.newarray .int, 2) := by decide +kernel
theorem dX4_init_9 : decode cX4_init 9 = .ok (.putfield 9, 3) := by decide +kernel
theorem dX4_init_12 : decode cX4_init 12 = .ok (.aload_n 0, 1) := by decide +kernel
theorem dX4_init_13 : decode cX4_init 13 = .ok (.iconst (-1), 1) := by decide +kernel
theorem dX4_init_14 : decode cX4_init 14 = .ok (.putfield 15, 3) := by decide +kernel
theorem dX4_init_17 : decode cX4_init 17 = .ok (.return_, 1) := by decide +kernel
theorem dX4_isMissing_0 : decode cX4_isMissing 0 = .ok (.aload_n 0, 1) := by decide +kernel
theorem dX4_isMissing_1 : decode cX4_isMissing 1 = .ok (.getfield 15, 3) := by decide +kernel
theorem dX4_isMissing_4 : decode cX4_isMissing 4 = .ok (.iconst (-1), 1) := by decide +kernel
theorem dX4_isMissing_5 : decode cX4_isMissing 5 = .ok (.if_icmp .ne 7, 3) := by decide +kernel
theorem dX4_isMissing_8 : decode cX4_isMissing 8 = .ok (.iconst 1, 1) := by decide +kernel
theorem dX4_isMissing_9 : decode cX4_isMissing 9 = .ok (.goto 4, 3) := by decide +kernel
theorem dX4_isMissing_12 : decode cX4_isMissing 12 = .ok (.iconst 0, 1) := by decide +kernel
theorem dX4_isMissing_13 : decode cX4_isMissing 13 = .ok (.ireturn, 1) := by decide +kernel
theorem dX4_holds_0 : decode cX4_holds 0 = .ok (.iload_n 1, 1) := by decide +kernel
theorem dX4_holds_1 : decode cX4_holds 1 = .ok (.ifCond .lt 29, 3) := by decide +kernel
theorem dX4_holds_4 : decode cX4_holds 4 = .ok (.iload_n 2, 1) := by decide +kernel
theorem dX4_holds_5 : decode cX4_holds 5 = .ok (.ifCond .lt 25, 3) := by decide +kernel
theorem dX4_holds_8 : decode cX4_holds 8 = .ok (.iload_n 1, 1) := by decide +kernel
theorem dX4_holds_9 : decode cX4_holds 9 = .ok (.aload_n 0, 1) := by decide +kernel
theorem dX4_holds_10 : decode cX4_holds 10 = .ok (.getfield 19, 3) := by decide +kernel
theorem dX4_holds_13 : decode cX4_holds 13 = .ok (.if_icmp .gt 17, 3) := by decide +kernel
theorem dX4_holds_16 : decode cX4_holds 16 = .ok (.iload_n 2, 1) := by decide +kernel
theorem dX4_holds_17 : decode cX4_holds 17 = .ok (.aload_n 0, 1) := by decide +kernel
theorem dX4_holds_18 : decode cX4_holds 18 = .ok (.getfield 19, 3) := by decide +kernel
theorem dX4_holds_21 : decode cX4_holds 21 = .ok (.iload_n 1, 1) := by decide +kernel
theorem dX4_holds_22 : decode cX4_holds 22 = .ok (.isub, 1) := by decide +kernel
theorem dX4_holds_23 : decode cX4_holds 23 = .ok (.if_icmp .gt 7, 3) := by decide +kernel
theorem dX4_holds_26 : decode cX4_holds 26 = .ok (.iconst 1, 1) := by decide +kernel
theorem dX4_holds_27 : decode cX4_holds 27 = .ok (.goto 4, 3) := by decide +kernel
theorem dX4_holds_30 : decode cX4_holds 30 = .ok (.iconst 0, 1) := by decide +kernel
theorem dX4_holds_31 : decode cX4_holds 31 = .ok (.ireturn, 1) := by decide +kernel
theorem dX4_begin_0 : decode cX4_begin 0 = .ok (.aload_n 0, 1) := by decide +kernel
theorem dX4_begin_1 : decode cX4_begin 1 = .ok (.iload_n 1, 1) := by decide +kernel
theorem dX4_begin_2 : decode cX4_begin 2 = .ok (.putfield 15, 3) := by decide +kernel
theorem dX4_begin_5 : decode cX4_begin 5 = .ok (.aload_n 0, 1) := by decide +kernel
theorem dX4_begin_6 : decode cX4_begin 6 = .ok (.iload_n 2, 1) := by decide +kernel
theorem dX4_begin_7 : decode cX4_begin 7 = .ok (.putfield 19, 3) := by decide +kernel
theorem dX4_begin_10 : decode cX4_begin 10 = .ok (.iconst 0, 1) := by decide +kernel
theorem dX4_begin_11 : decode cX4_begin 11 = .ok (.istore_n 3, 1) := by decide +kernel
theorem dX4_begin_12 : decode cX4_begin 12 = .ok (.iload_n 3, 1) := by decide +kernel
theorem dX4_begin_13 : decode cX4_begin 13 = .ok (.bipush 40, 2) := by decide +kernel
theorem dX4_begin_15 : decode cX4_begin 15 = .ok (.if_icmp .ge 16, 3) := by decide +kernel
theorem dX4_begin_18 : decode cX4_begin 18 = .ok (.aload_n 0, 1) := by decide +kernel
theorem dX4_begin_19 : decode cX4_begin 19 = .ok (.getfield 9, 3) := by decide +kernel
theorem dX4_begin_22 : decode cX4_begin 22 = .ok (.iload_n 3, 1) := by decide +kernel
theorem dX4_begin_23 : decode cX4_begin 23 = .ok (.iconst 0, 1) := by decide +kernel
theorem dX4_begin_24 : decode cX4_begin 24 = .ok (.iastore, 1) := by decide +kernel
theorem dX4_begin_25 : decode cX4_begin 25 = .ok (.iinc 3 1, 3) := by decide +kernel
theorem dX4_begin_28 : decode cX4_begin 28 = .ok (.goto (-16), 3) := by decide +kernel
theorem dX4_begin_31 : decode cX4_begin 31 = .ok (.return_, 1) := by decide +kernel
theorem dX4_narrowed_0 : decode cX4_narrowed 0 = .ok (.aload_n 0, 1) := by decide +kernel
theorem dX4_narrowed_1 : decode cX4_narrowed 1 = .ok (.getfield 15, 3) := by decide +kernel
theorem dX4_narrowed_4 : decode cX4_narrowed 4 = .ok (.ifCond .ne 6, 3) := by decide +kernel
theorem dX4_narrowed_7 : decode cX4_narrowed 7 = .ok (.iload_n 1, 1) := by decide +kernel
theorem dX4_narrowed_8 : decode cX4_narrowed 8 = .ok (.i2b, 1) := by decide +kernel
theorem dX4_narrowed_9 : decode cX4_narrowed 9 = .ok (.ireturn, 1) := by decide +kernel
theorem dX4_narrowed_10 : decode cX4_narrowed 10 = .ok (.aload_n 0, 1) := by decide +kernel
theorem dX4_narrowed_11 : decode cX4_narrowed 11 = .ok (.getfield 15, 3) := by decide +kernel
theorem dX4_narrowed_14 : decode cX4_narrowed 14 = .ok (.iconst 1, 1) := by decide +kernel
theorem dX4_narrowed_15 : decode cX4_narrowed 15 = .ok (.if_icmp .ne 8, 3) := by decide +kernel
theorem dX4_narrowed_18 : decode cX4_narrowed 18 = .ok (.iload_n 1, 1) := by decide +kernel
theorem dX4_narrowed_19 : decode cX4_narrowed 19 = .ok (.i2s, 1) := by decide +kernel
theorem dX4_narrowed_20 : decode cX4_narrowed 20 = .ok (.goto 4, 3) := by decide +kernel
theorem dX4_narrowed_23 : decode cX4_narrowed 23 = .ok (.iload_n 1, 1) := by decide +kernel
theorem dX4_narrowed_24 : decode cX4_narrowed 24 = .ok (.ireturn, 1) := by decide +kernel
theorem dX5_init_0 : decode cX5_init 0 = .ok (.aload_n 0, 1) := by decide +kernel
theorem dX5_init_1 : decode cX5_init 1 = .ok (.invokespecial 3, 3) := by decide +kernel
theorem dX5_init_4 : decode cX5_init 4 = .ok (.aload_n 0, 1) := by decide +kernel
theorem dX5_init_5 : decode cX5_init 5 = .ok (.iconst 4, 1) := by decide +kernel
theorem dX5_init_6 : decode cX5_init 6 = .ok (.newarray .int, 2) := by decide +kernel
theorem dX5_init_8 : decode cX5_init 8 = .ok (.putfield 9, 3) := by decide +kernel
theorem dX5_init_11 : decode cX5_init 11 = .ok (.aload_n 0, 1) := by decide +kernel
theorem dX5_init_12 : decode cX5_init 12 = .ok (.iconst 0, 1) := by decide +kernel
theorem dX5_init_13 : decode cX5_init 13 = .ok (.iload_n 2, 1) := by decide +kernel
theorem dX5_init_14 : decode cX5_init 14 = .ok (.bipush 8, 2) := by decide +kernel
theorem dX5_init_16 : decode cX5_init 16 = .ok (.invokestatic 15, 3) := by decide +kernel
theorem dX5_init_19 : decode cX5_init 19 = .ok (.aload_n 1, 1) := by decide +kernel
theorem dX5_init_20 : decode cX5_init 20 = .ok (.arraylength, 1) := by decide +kernel
theorem dX5_init_21 : decode cX5_init 21 = .ok (.invokestatic 15, 3) := by decide +kernel
theorem dX5_init_24 : decode cX5_init 24 = .ok (.invokestatic 21, 3) := by decide +kernel
theorem dX5_init_27 : decode cX5_init 27 = .ok (.putfield 24, 3) := by decide +kernel
theorem dX5_init_30 : decode cX5_init 30 = .ok (.aload_n 0, 1) := by decide +kernel
theorem dX5_init_31 : decode cX5_init 31 = .ok (.aload_n 0, 1) := by decide +kernel
theorem dX5_init_32 : decode cX5_init 32 = .ok (.getfield 24, 3) := by decide +kernel
theorem dX5_init_35 : decode cX5_init 35 = .ok (.newarray .int, 2) := by decide +kernel
theorem dX5_init_37 : decode cX5_init 37 = .ok (.putfield 28, 3) := by decide +kernel
theorem dX5_init_40 : decode cX5_init 40 = .ok (.iconst 0, 1) := by decide +kernel
theorem dX5_init_41 : decode cX5_init 41 = .ok (.istore_n 3, 1) := by decide +kernel
theorem dX5_init_42 : decode cX5_init 42 = .ok (.iconst 0, 1) := by decide +kernel
theorem dX5_init_43 : decode cX5_init 43 = .ok (.istore 4, 2) := by decide +kernel
theorem dX5_init_45 : decode cX5_init 45 = .ok (.iconst 0, 1) := by decide +kernel
theorem dX5_init_46 : decode cX5_init 46 = .ok (.istore 5, 2) := by decide +kernel
theorem dX5_init_48 : decode cX5_init 48 = .ok (.iload 5, 2) := by decide +kernel
theorem dX5_init_50 : decode cX5_init 50 = .ok (.aload_n 0, 1) := by decide +kernel
theorem dX5_init_51 : decode cX5_init 51 = .ok (.getfield 24, 3) := by decide +kernel
theorem dX5_init_54 : decode cX5_init 54 = .ok (.if_icmp .ge 62, 3) := by decide +kernel
theorem dX5_init_57 : decode cX5_init 57 = .ok (.aload_n 0, 1) := by decide +kernel
theorem dX5_init_58 : decode cX5_init 58 = .ok (.getfield 28, 3) := by decide +kernel
theorem dX5_init_61 : decode cX5_init 61 = .ok (.iload 5, 2) := by decide +kernel
theorem dX5_init_63 : decode cX5_init 63 = .ok (.aload_n 1, 1) := by decide +kernel
theorem dX5_init_64 : decode cX5_init 64 = .ok (.iload 5, 2) := by decide +kernel
theorem dX5_init_66 : decode cX5_init 66 = .ok (.iaload, 1) := by decide +kernel
theorem dX5_init_67 : decode cX5_init 67 = .ok (.iastore, 1) := by decide +kernel
theorem dX5_init_68 : decode cX5_init 68 = .ok (.aload_n 0, 1) := by decide +kernel
theorem dX5_init_69 : decode cX5_init 69 = .ok (.getfield 28, 3) := by decide +kernel
theorem dX5_init_72 : decode cX5_init 72 = .ok (.iload 5, 2) := by decide +kernel
theorem dX5_init_74 : decode cX5_init 74 = .ok (.iaload, 1) := by decide +kernel
theorem dX5_init_75 : decode cX5_init 75 = .ok (.invokestatic 31, 3) := by decide +kernel
theorem dX5_init_78 : decode cX5_init 78 = .ok (.istore 6, 2) := by decide +kernel
theorem dX5_init_80 : decode cX5_init 80 = .ok (.iload 6, 2) := by decide +kernel
theorem dX5_init_82 : decode cX5_init 82 = .ok (.ifCond .eq 24, 3) := by decide +kernel
theorem dX5_init_85 : decode cX5_init 85 = .ok (.iload 4, 2) := by decide +kernel
theorem dX5_init_87 : decode cX5_init 87 = .ok (.ifCond .ne 19, 3) := by decide +kernel
theorem dX5_init_90 : decode cX5_init 90 = .ok (.iload_n 3, 1) := by decide +kernel
theorem dX5_init_91 : decode cX5_init 91 = .ok (.iconst 4, 1) := by decide +kernel
theorem dX5_init_92 : decode cX5_init 92 = .ok (.if_icmp .ge 14, 3) := by decide +kernel
theorem dX5_init_95 : decode cX5_init 95 = .ok (.aload_n 0, 1) := by decide +kernel
theorem dX5_init_96 : decode cX5_init 96 = .ok (.getfield 9, 3) := by decide +kernel
theorem dX5_init_99 : decode cX5_init 99 = .ok (.iload_n 3, 1) := by decide +kernel
theorem dX5_init_100 : decode cX5_init 100 = .ok (.iload 5, 2) := by decide +kernel
theorem dX5_init_102 : decode cX5_init 102 = .ok (.iastore, 1) := by decide +kernel
theorem dX5_init_103 : decode cX5_init 103 = .ok (.iinc 3 1, 3) := by decide +kernel
theorem dX5_init_106 : decode cX5_init 106 = .ok (.iload 6, 2) := by decide +kernel
theorem dX5_init_108 : decode cX5_init 108 = .ok (.istore 4, 2) := by decide +kernel
theorem dX5_init_110 : decode cX5_init 110 = .ok (.iinc 5 1, 3) := by decide +kernel
theorem dX5_init_113 : decode cX5_init 113 = .ok (.goto (-65), 3) := by decide +kernel
theorem dX5_init_116 : decode cX5_init 116 = .ok (.iload_n 3, 1) := by decide +kernel
theorem dX5_init_117 : decode cX5_init 117 = .ok (.iconst 1, 1) := by decide +kernel
theorem dX5_init_118 : decode cX5_init 118 = .ok (.if_icmp .le 39, 3) := by decide +kernel
theorem dX5_init_121 : decode cX5_init 121 = .ok (.aload_n 0, 1) := by decide +kernel
theorem dX5_init_122 : decode cX5_init 122 = .ok (.getfield 28, 3) := by decide +kernel
theorem dX5_init_125 : decode cX5_init 125 = .ok (.aload_n 0, 1) := by decide +kernel
theorem dX5_init_126 : decode cX5_init 126 = .ok (.getfield 24, 3) := by decide +kernel
theorem dX5_init_129 : decode cX5_init 129 = .ok (.iconst 1, 1) := by decide +kernel
theorem dX5_init_130 : decode cX5_init 130 = .ok (.isub, 1) := by decide +kernel
theorem dX5_init_131 : decode cX5_init 131 = .ok (.iaload, 1) := by decide +kernel
theorem dX5_init_132 : decode cX5_init 132 = .ok (.iconst 4, 1) := by decide +kernel
theorem dX5_init_133 : decode cX5_init 133 = .ok (.if_icmp .ne 24, 3) := by decide +kernel
theorem dX5_init_136 : decode cX5_init 136 = .ok (.aload_n 0, 1) := by decide +kernel
theorem dX5_init_137 : decode cX5_init 137 = .ok (.getfield 9, 3) := by decide +kernel
theorem dX5_init_140 : decode cX5_init 140 = .ok (.iload_n 3, 1) := by decide +kernel
theorem dX5_init_141 : decode cX5_init 141 = .ok (.iconst 1, 1) := by decide +kernel
theorem dX5_init_142 : decode cX5_init 142 = .ok (.isub, 1) := by decide +kernel
theorem dX5_init_143 : decode cX5_init 143 = .ok (.iaload, 1) := by decide +kernel
theorem dX5_init_144 : decode cX5_init 144 = .ok (.aload_n 0, 1) := by decide +kernel
theorem dX5_init_145 : decode cX5_init 145 = .ok (.getfield 24, 3) := by decide +kernel
theorem dX5_init_148 : decode cX5_init 148 = .ok (.iconst 1, 1) := by decide +kernel
theorem dX5_init_149 : decode cX5_init 149 = .ok (.isub, 1) := by decide +kernel
theorem dX5_init_150 : decode cX5_init 150 = .ok (.if_icmp .ne 7, 3) := by decide +kernel
theorem dX5_init_153 : decode cX5_init 153 = .ok (.iconst 1, 1) := by decide +kernel
theorem dX5_init_154 : decode cX5_init 154 = .ok (.goto 4, 3) := by decide +kernel
theorem dX5_init_157 : decode cX5_init 157 = .ok (.iconst 0, 1) := by decide +kernel
theorem dX5_init_158 : decode cX5_init 158 = .ok (.istore 5, 2) := by decide +kernel
theorem dX5_init_160 : decode cX5_init 160 = .ok (.aload_n 0, 1) := by decide +kernel
theorem dX5_init_161 : decode cX5_init 161 = .ok (.iload 5, 2) := by decide +kernel
theorem dX5_init_163 : decode cX5_init 163 = .ok (.ifCond .eq 9, 3) := by decide +kernel
theorem dX5_init_166 : decode cX5_init 166 = .ok (.iload_n 3, 1) := by decide +kernel
theorem dX5_init_167 : decode cX5_init 167 = .ok (.iconst 1, 1) := by decide +kernel
theorem dX5_init_168 : decode cX5_init 168 = .ok (.isub, 1) := by decide +kernel
theorem dX5_init_169 : decode cX5_init 169 = .ok (.goto 4, 3) := by decide +kernel
theorem dX5_init_172 : decode cX5_init 172 = .ok (.iload_n 3, 1) := by decide +kernel
theorem dX5_init_173 : decode cX5_init 173 = .ok (.putfield 35, 3) := by decide +kernel
theorem dX5_init_176 : decode cX5_init 176 = .ok (.aload_n 0, 1) := by decide +kernel
theorem dX5_init_177 : decode cX5_init 177 = .ok (.iload 5, 2) := by decide +kernel
theorem dX5_init_179 : decode cX5_init 179 = .ok (.ifCond .eq 12, 3) := by decide +kernel
theorem dX5_init_182 : decode cX5_init 182 = .ok (.aload_n 0, 1) := by decide +kernel
theorem dX5_init_183 : decode cX5_init 183 = .ok (.getfield 24, 3) := by decide +kernel
theorem dX5_init_186 : decode cX5_init 186 = .ok (.iconst 1, 1) := by decide +kernel
theorem dX5_init_187 : decode cX5_init 187 = .ok (.isub, 1) := by decide +kernel
theorem dX5_init_188 : decode cX5_init 188 = .ok (.goto 7, 3) := by decide +kernel
theorem dX5_init_191 : decode cX5_init 191 = .ok (.aload_n 0, 1) := by decide +kernel
theorem dX5_init_192 : decode cX5_init 192 = .ok (.getfield 24, 3) := by decide +kernel
theorem dX5_init_195 : decode cX5_init 195 = .ok (.putfield 38, 3) := by decide +kernel
theorem dX5_init_198 : decode cX5_init 198 = .ok (.return_, 1) := by decide +kernel
theorem dX5_beginsWithVowel_0 : decode cX5_beginsWithVowel 0 = .ok (.aload_n 0, 1) := by decide +kernel
theorem dX5_beginsWithVowel_1 : decode cX5_beginsWithVowel 1 = .ok (.getfield 24, 3) := by decide +kernel
theorem dX5_beginsWithVowel_4 : decode cX5_beginsWithVowel 4 = .ok (.ifCond .le 19, 3) := by decide +kernel
theorem dX5_beginsWithVowel_7 : decode cX5_beginsWithVowel 7 = .ok (.aload_n 0, 1) := by decide +kernel
theorem dX5_beginsWithVowel_8 : decode cX5_beginsWithVowel 8 = .ok (.getfield 28, 3) := by decide +kernel
theorem dX5_beginsWithVowel_11 : decode cX5_beginsWithVowel 11 = .ok (.iconst 0, 1) := by decide +kernel
theorem dX5_beginsWithVowel_12 : decode cX5_beginsWithVowel 12 = .ok (.iaload, 1) := by decide +kernel
theorem dX5_beginsWithVowel_13 : decode cX5_beginsWithVowel 13 = .ok (.invokestatic 31, 3) := by decide +kernel
theorem dX5_beginsWithVowel_16 : decode cX5_beginsWithVowel 16 = .ok (.ifCond .eq 7, 3) := by decide +kernel
theorem dX5_beginsWithVowel_19 : decode cX5_beginsWithVowel 19 = .ok (.iconst 1, 1) := by decide +kernel
theorem dX5_beginsWithVowel_20 : decode cX5_beginsWithVowel 20 = .ok (.goto 4, 3) := by decide +kernel
theorem dX5_beginsWithVowel_23 : decode cX5_beginsWithVowel 23 = .ok (.iconst 0, 1) := by decide +kernel
theorem dX5_beginsWithVowel_24 : decode cX5_beginsWithVowel 24 = .ok (.ireturn, 1) := by decide +kernel
theorem dX5_endsOnVowel_0 : decode cX5_endsOnVowel 0 = .ok (.aload_n 0, 1) := by decide +kernel
theorem dX5_endsOnVowel_1 : decode cX5_endsOnVowel 1 = .ok (.getfield 24, 3) := by decide +kernel
theorem dX5_endsOnVowel_4 : decode cX5_endsOnVowel 4 = .ok (.ifCond .le 35, 3) := by decide +kernel
theorem dX5_endsOnVowel_7 : decode cX5_endsOnVowel 7 = .ok (.aload_n 0, 1) := by decide +kernel
theorem dX5_endsOnVowel_8 : decode cX5_endsOnVowel 8 = .ok (.getfield 38, 3) := by decide +kernel
theorem dX5_endsOnVowel_11 : decode cX5_endsOnVowel 11 = .ok (.aload_n 0, 1) := by decide +kernel
theorem dX5_endsOnVowel_12 : decode cX5_endsOnVowel 12 = .ok (.getfield 24, 3) := by decide +kernel
theorem dX5_endsOnVowel_15 : decode cX5_endsOnVowel 15 = .ok (.if_icmp .ne 24, 3) := by decide +kernel
theorem dX5_endsOnVowel_18 : decode cX5_endsOnVowel 18 = .ok (.aload_n 0, 1) := by decide +kernel
theorem dX5_endsOnVowel_19 : decode cX5_endsOnVowel 19 = .ok (.getfield 28, 3) := by decide +kernel
theorem dX5_endsOnVowel_22 : decode cX5_endsOnVowel 22 = .ok (.aload_n 0, 1) := by decide +kernel
theorem dX5_endsOnVowel_23 : decode cX5_endsOnVowel 23 = .ok (.getfield 24, 3) := by decide +kernel
theorem dX5_endsOnVowel_26 : decode cX5_endsOnVowel 26 = .ok (.iconst 1, 1) := by decide +kernel
theorem dX5_endsOnVowel_27 : decode cX5_endsOnVowel 27 = .ok (.isub, 1) := by decide +kernel
theorem dX5_endsOnVowel_28 : decode cX5_endsOnVowel 28 = .ok (.iaload, 1) := by decide +kernel
theorem dX5_endsOnVowel_29 : decode cX5_endsOnVowel 29 = .ok (.invokestatic 31, 3) := by decide +kernel
theorem dX5_endsOnVowel_32 : decode cX5_endsOnVowel 32 = .ok (.ifCond .eq 7, 3) := by decide +kernel
theorem dX5_endsOnVowel_35 : decode cX5_endsOnVowel 35 = .ok (.iconst 1, 1) := by decide +kernel
theorem dX5_endsOnVowel_36 : decode cX5_endsOnVowel 36 = .ok (.goto 4, 3) := by decide +kernel
theorem dX5_endsOnVowel_39 : decode cX5_endsOnVowel 39 = .ok (.iconst 0, 1) := by decide +kernel
theorem dX5_endsOnVowel_40 : decode cX5_endsOnVowel 40 = .ok (.ireturn, 1) := by decide +kernel
theorem dJ6_bitCount_0f7a4_0 : decode cJ6_bitCount_0f7a4 0 = .ok (.iload_n 0, 1) := by decide +kernel
theorem dJ6_bitCount_0f7a4_1 : decode cJ6_bitCount_0f7a4 1 = .ok (.iload_n 0, 1) := by decide +kernel
theorem dJ6_bitCount_0f7a4_2 : decode cJ6_bitCount_0f7a4 2 = .ok (.iconst 1, 1) := by decide +kernel
theorem dJ6_bitCount_0f7a4_3 : decode cJ6_bitCount_0f7a4 3 = .ok (.iushr, 1) := by decide +kernel
theorem dJ6_bitCount_0f7a4_4 : decode cJ6_bitCount_0f7a4 4 = .ok (.ldc_w 265, 3) := by decide +kernel
theorem dJ6_bitCount_0f7a4_7 : decode cJ6_bitCount_0f7a4 7 = .ok (.iand, 1) := by decide +kernel
theorem dJ6_bitCount_0f7a4_8 : decode cJ6_bitCount_0f7a4 8 = .ok (.isub, 1) := by decide +kernel
theorem dJ6_bitCount_0f7a4_9 : decode cJ6_bitCount_0f7a4 9 = .ok (.istore_n 0, 1) := by decide +kernel
theorem dJ6_bitCount_0f7a4_10 : decode cJ6_bitCount_0f7a4 10 = .ok (.iload_n 0, 1) := by decide +kernel
theorem dJ6_bitCount_0f7a4_11 : decode cJ6_bitCount_0f7a4 11 = .ok (.ldc_w 266, 3) := by decide +kernel
theorem dJ6_bitCount_0f7a4_14 : decode cJ6_bitCount_0f7a4 14 = .ok (.iand, 1) := by decide +kernel
theorem dJ6_bitCount_0f7a4_15 : decode cJ6_bitCount_0f7a4 15 = .ok (.iload_n 0, 1) := by decide +kernel
theorem dJ6_bitCount_0f7a4_16 : decode cJ6_bitCount_0f7a4 16 = .ok (.iconst 2, 1) := by decide +kernel
theorem dJ6_bitCount_0f7a4_17 : decode cJ6_bitCount_0f7a4 17 = .ok (.iushr, 1) := by decide +kernel
theorem dJ6_bitCount_0f7a4_18 : decode cJ6_bitCount_0f7a4 18 = .ok (.ldc_w 266, 3) := by decide +kernel
theorem dJ6_bitCount_0f7a4_21 : decode cJ6_bitCount_0f7a4 21 = .ok (.iand, 1) := by decide +kernel
theorem dJ6_bitCount_0f7a4_22 : decode cJ6_bitCount_0f7a4 22 = .ok (.iadd, 1) := by decide +kernel
theorem dJ6_bitCount_0f7a4_23 : decode cJ6_bitCount_0f7a4 23 = .ok (.istore_n 0, 1) := by decide +kernel
theorem dJ6_bitCount_0f7a4_24 : decode cJ6_bitCount_0f7a4 24 = .ok (.iload_n 0, 1) := by decide +kernel
theorem dJ6_bitCount_0f7a4_25 : decode cJ6_bitCount_0f7a4 25 = .ok (.iload_n 0, 1) := by decide +kernel
theorem dJ6_bitCount_0f7a4_26 : decode cJ6_bitCount_0f7a4 26 = .ok (.iconst 4, 1) := by decide +kernel
theorem dJ6_bitCount_0f7a4_27 : decode cJ6_bitCount_0f7a4 27 = .ok (.iushr, 1) := by decide +kernel
theorem dJ6_bitCount_0f7a4_28 : decode cJ6_bitCount_0f7a4 28 = .ok (.iadd, 1) := by decide +kernel
theorem dJ6_bitCount_0f7a4_29 : decode cJ6_bitCount_0f7a4 29 = .ok (.ldc_w 267, 3) := by decide +kernel
theorem dJ6_bitCount_0f7a4_32 : decode cJ6_bitCount_0f7a4 32 = .ok (.iand, 1) := by decide +kernel
theorem dJ6_bitCount_0f7a4_33 : decode cJ6_bitCount_0f7a4 33 = .ok (.istore_n 0, 1) := by decide +kernel
theorem dJ6_bitCount_0f7a4_34 : decode cJ6_bitCount_0f7a4 34 = .ok (.iload_n 0, 1) := by decide +kernel
theorem dJ6_bitCount_0f7a4_35 : decode cJ6_bitCount_0f7a4 35 = .ok (.iload_n 0, 1) := by decide +kernel
theorem dJ6_bitCount_0f7a4_36 : decode cJ6_bitCount_0f7a4 36 = .ok (.bipush 8, 2) := by decide +kernel
theorem dJ6_bitCount_0f7a4_38 : decode cJ6_bitCount_0f7a4 38 = .ok (.iushr, 1) := by decide +kernel
theorem dJ6_bitCount_0f7a4_39 : decode cJ6_bitCount_0f7a4 39 = .ok (.iadd, 1) := by decide +kernel
theorem dJ6_bitCount_0f7a4_40 : decode cJ6_bitCount_0f7a4 40 = .ok (.istore_n 0, 1) := by decide +kernel
theorem dJ6_bitCount_0f7a4_41 : decode cJ6_bitCount_0f7a4 41 = .ok (.iload_n 0, 1) := by decide +kernel
theorem dJ6_bitCount_0f7a4_42 : decode cJ6_bitCount_0f7a4 42 = .ok (.iload_n 0, 1) := by decide +kernel
theorem dJ6_bitCount_0f7a4_43 : decode cJ6_bitCount_0f7a4 43 = .ok (.bipush 16, 2) := by decide +kernel
theorem dJ6_bitCount_0f7a4_45 : decode cJ6_bitCount_0f7a4 45 = .ok (.iushr, 1) := by decide +kernel
theorem dJ6_bitCount_0f7a4_46 : decode cJ6_bitCount_0f7a4 46 = .ok (.iadd, 1) := by decide +kernel
theorem dJ6_bitCount_0f7a4_47 : decode cJ6_bitCount_0f7a4 47 = .ok (.istore_n 0, 1) := by decide +kernel
theorem dJ6_bitCount_0f7a4_48 : decode cJ6_bitCount_0f7a4 48 = .ok (.iload_n 0, 1) := by decide +kernel
theorem dJ6_bitCount_0f7a4_49 : decode cJ6_bitCount_0f7a4 49 = .ok (.bipush 63, 2) := by decide +kernel
theorem dJ6_bitCount_0f7a4_51 : decode cJ6_bitCount_0f7a4 51 = .ok (.iand, 1) := by decide +kernel
theorem dJ6_bitCount_0f7a4_52 : decode cJ6_bitCount_0f7a4 52 = .ok (.ireturn, 1) := by decide +kernel
