theorem dX5_init_0 : decode cX5_init 0 = .ok (.aload_n 0, 1) := by decide +kernel
theorem dX5_init_1 : decode cX5_init 1 = .ok (.invokespecial 1, 3) := by decide +kernel
theorem dX5_init_4 : decode cX5_init 4 = .ok (.aload_n 0, 1) := by decide +kernel
theorem dX5_init_5 : decode cX5_init 5 = .ok (.bipush 6, 2) := by decide +kernel
theorem dX5_init_7 : decode cX5_init 7 = .ok (.bipush 40, 2) := by decide +kernel
theorem dX5_init_9 : decode cX5_init 9 = .ok (.multianewarray 9 2, 4) := by decide +kernel
theorem dX5_init_13 : decode cX5_init 13 = .ok (.putfield 11, 3) := by decide +kernel
theorem dX5_init_16 : decode cX5_init 16 = .ok (.aload_n 0, 1) := by decide +kernel
theorem dX5_init_17 : decode cX5_init 17 = .ok (.bipush 6, 2) := by decide +kernel
theorem dX5_init_19 : decode cX5_init 19 = .ok (.newarray .int, 2) := by decide +kernel
theorem dX5_init_21 : decode cX5_init 21 = .ok (.putfield 14, 3) := by decide +kernel
theorem dX5_init_24 : decode cX5_init 24 = .ok (.aload_n 0, 1) := by decide +kernel
theorem dX5_init_25 : decode cX5_init 25 = .ok (.iconst 4, 1) := by decide +kernel
theorem dX5_init_26 : decode cX5_init 26 = .ok (.bipush 60, 2) := by decide +kernel
theorem dX5_init_28 : decode cX5_init 28 = .ok (.multianewarray 18 2, 4) := by decide +kernel
theorem dX5_init_32 : decode cX5_init 32 = .ok (.putfield 20, 3) := by decide +kernel
theorem dX5_init_35 : decode cX5_init 35 = .ok (.aload_n 0, 1) := by decide +kernel
theorem dX5_init_36 : decode cX5_init 36 = .ok (.iconst 4, 1) := by decide +kernel
theorem dX5_init_37 : decode cX5_init 37 = .ok (.newarray .int, 2) := by decide +kernel
theorem dX5_init_39 : decode cX5_init 39 = .ok (.putfield 23, 3) := by decide +kernel
theorem dX5_init_42 : decode cX5_init 42 = .ok (.aload_n 0, 1) := by decide +kernel
theorem dX5_init_43 : decode cX5_init 43 = .ok (.new 26, 3) := by decide +kernel
theorem dX5_init_46 : decode cX5_init 46 = .ok (.dup, 1) := by decide +kernel
theorem dX5_init_47 : decode cX5_init 47 = .ok (.invokespecial 28, 3) := by decide +kernel
theorem dX5_init_50 : decode cX5_init 50 = .ok (.putfield 29, 3) := by decide +kernel
theorem dX5_init_53 : decode cX5_init 53 = .ok (.aload_n 0, 1) := by decide +kernel
theorem dX5_init_54 : decode cX5_init 54 = .ok (.iconst 3, 1) := by decide +kernel
theorem dX5_init_55 : decode cX5_init 55 = .ok (.anewarray 33, 3) := by decide +kernel
theorem dX5_init_58 : decode cX5_init 58 = .ok (.putfield 35, 3) := by decide +kernel
theorem dX5_init_61 : decode cX5_init 61 = .ok (.aload_n 0, 1) := by decide +kernel
theorem dX5_init_62 : decode cX5_init 62 = .ok (.new 39, 3) := by decide +kernel
theorem dX5_init_65 : decode cX5_init 65 = .ok (.dup, 1) := by decide +kernel
theorem dX5_init_66 : decode cX5_init 66 = .ok (.invokespecial 41, 3) := by decide +kernel
theorem dX5_init_69 : decode cX5_init 69 = .ok (.putfield 42, 3) := by decide +kernel
theorem dX5_init_72 : decode cX5_init 72 = .ok (.aload_n 0, 1) := by decide +kernel
theorem dX5_init_73 : decode cX5_init 73 = .ok (.bipush 6, 2) := by decide +kernel
theorem dX5_init_75 : decode cX5_init 75 = .ok (.newarray .int, 2) := by decide +kernel
theorem dX5_init_77 : decode cX5_init 77 = .ok (.putfield 46, 3) := by decide +kernel
theorem dX5_init_80 : decode cX5_init 80 = .ok (.aload_n 0, 1) := by decide +kernel
theorem dX5_init_81 : decode cX5_init 81 = .ok (.iconst 0, 1) := by decide +kernel
theorem dX5_init_82 : decode cX5_init 82 = .ok (.putfield 49, 3) := by decide +kernel
theorem dX5_init_85 : decode cX5_init 85 = .ok (.aload_n 0, 1) := by decide +kernel
theorem dX5_init_86 : decode cX5_init 86 = .ok (.iconst 0, 1) := by decide +kernel
theorem dX5_init_87 : decode cX5_init 87 = .ok (.putfield 53, 3) := by decide +kernel
theorem dX5_init_90 : decode cX5_init 90 = .ok (.aload_n 0, 1) := by decide +kernel
theorem dX5_init_91 : decode cX5_init 91 = .ok (.lconst 0, 1) := by decide +kernel
theorem dX5_init_92 : decode cX5_init 92 = .ok (.putfield 56, 3) := by decide +kernel
theorem dX5_init_95 : decode cX5_init 95 = .ok (.aload_n 0, 1) := by decide +kernel
theorem dX5_init_96 : decode cX5_init 96 = .ok (.lconst 1, 1) := by decide +kernel
theorem dX5_init_97 : decode cX5_init 97 = .ok (.putfield 60, 3) := by decide +kernel
theorem dX5_init_100 : decode cX5_init 100 = .ok (.iconst 0, 1) := by decide +kernel
theorem dX5_init_101 : decode cX5_init 101 = .ok (.istore_n 1, 1) := by decide +kernel
theorem dX5_init_102 : decode cX5_init 102 = .ok (.iload_n 1, 1) := by decide +kernel
theorem dX5_init_103 : decode cX5_init 103 = .ok (.bipush 6, 2) := by decide +kernel
theorem dX5_init_105 : decode cX5_init 105 = .ok (.if_icmp .ge 16, 3) := by decide +kernel
theorem dX5_init_108 : decode cX5_init 108 = .ok (.aload_n 0, 1) := by decide +kernel
theorem dX5_init_109 : decode cX5_init 109 = .ok (.getfield 14, 3) := by decide +kernel
theorem dX5_init_112 : decode cX5_init 112 = .ok (.iload_n 1, 1) := by decide +kernel
theorem dX5_init_113 : decode cX5_init 113 = .ok (.iconst (-1), 1) := by decide +kernel
theorem dX5_init_114 : decode cX5_init 114 = .ok (.iastore, 1) := by decide +kernel
theorem dX5_init_115 : decode cX5_init 115 = .ok (.iinc 1 1, 3) := by decide +kernel
theorem dX5_init_118 : decode cX5_init 118 = .ok (.goto (-16), 3) := by decide +kernel
theorem dX5_init_121 : decode cX5_init 121 = .ok (.iconst 0, 1) := by decide +kernel
theorem dX5_init_122 : decode cX5_init 122 = .ok (.istore_n 1, 1) := by decide +kernel
theorem dX5_init_123 : decode cX5_init 123 = .ok (.iload_n 1, 1) := by decide +kernel
theorem dX5_init_124 : decode cX5_init 124 = .ok (.iconst 4, 1) := by decide +kernel
theorem dX5_init_125 : decode cX5_init 125 = .ok (.if_icmp .ge 16, 3) := by decide +kernel
theorem dX5_init_128 : decode cX5_init 128 = .ok (.aload_n 0, 1) := by decide +kernel
theorem dX5_init_129 : decode cX5_init 129 = .ok (.getfield 23, 3) := by decide +kernel
theorem dX5_init_132 : decode cX5_init 132 = .ok (.iload_n 1, 1) := by decide +kernel
theorem dX5_init_133 : decode cX5_init 133 = .ok (.iconst (-1), 1) := by decide +kernel
theorem dX5_init_134 : decode cX5_init 134 = .ok (.iastore, 1) := by decide +kernel
theorem dX5_init_135 : decode cX5_init 135 = .ok (.iinc 1 1, 3) := by decide +kernel
theorem dX5_init_138 : decode cX5_init 138 = .ok (.goto (-15), 3) := by decide +kernel
theorem dX5_init_141 : decode cX5_init 141 = .ok (.iconst 0, 1) := by decide +kernel
theorem dX5_init_142 : decode cX5_init 142 = .ok (.istore_n 1, 1) := by decide +kernel
theorem dX5_init_143 : decode cX5_init 143 = .ok (.iload_n 1, 1) := by decide +kernel
theorem dX5_init_144 : decode cX5_init 144 = .ok (.iconst 3, 1) := by decide +kernel
theorem dX5_init_145 : decode cX5_init 145 = .ok (.if_icmp .ge 22, 3) := by decide +kernel
theorem dX5_init_148 : decode cX5_init 148 = .ok (.aload_n 0, 1) := by decide +kernel
theorem dX5_init_149 : decode cX5_init 149 = .ok (.getfield 35, 3) := by decide +kernel
theorem dX5_init_152 : decode cX5_init 152 = .ok (.iload_n 1, 1) := by decide +kernel
theorem dX5_init_153 : decode cX5_init 153 = .ok (.new 33, 3) := by decide +kernel
theorem dX5_init_156 : decode cX5_init 156 = .ok (.dup, 1) := by decide +kernel
theorem dX5_init_157 : decode cX5_init 157 = .ok (.invokespecial 63, 3) := by decide +kernel
theorem dX5_init_160 : decode cX5_init 160 = .ok (.aastore, 1) := by decide +kernel
theorem dX5_init_161 : decode cX5_init 161 = .ok (.iinc 1 1, 3) := by decide +kernel
theorem dX5_init_164 : decode cX5_init 164 = .ok (.goto (-21), 3) := by decide +kernel
theorem dX5_init_167 : decode cX5_init 167 = .ok (.return_, 1) := by decide +kernel
theorem dX5_row_0 : decode cX5_row 0 = .ok (.iload_n 1, 1) := by decide +kernel
theorem dX5_row_1 : decode cX5_row 1 = .ok (.invokestatic 64, 3) := by decide +kernel
theorem dX5_row_4 : decode cX5_row 4 = .ok (.ifCond .eq 9, 3) := by decide +kernel
theorem dX5_row_7 : decode cX5_row 7 = .ok (.iload_n 2, 1) := by decide +kernel
theorem dX5_row_8 : decode cX5_row 8 = .ok (.bipush 40, 2) := by decide +kernel
theorem dX5_row_10 : decode cX5_row 10 = .ok (.if_icmp .le 5, 3) := by decide +kernel
theorem dX5_row_13 : decode cX5_row 13 = .ok (.iconst (-1), 1) := by decide +kernel
theorem dX5_row_14 : decode cX5_row 14 = .ok (.ireturn, 1) := by decide +kernel
theorem dX5_row_15 : decode cX5_row 15 = .ok (.iload_n 2, 1) := by decide +kernel
theorem dX5_row_16 : decode cX5_row 16 = .ok (.ifCond .ge 9, 3) := by decide +kernel
theorem dX5_row_19 : decode cX5_row 19 = .ok (.aload_n 0, 1) := by decide +kernel
theorem dX5_row_20 : decode cX5_row 20 = .ok (.iconst 5, 1) := by decide +kernel
theorem dX5_row_21 : decode cX5_row 21 = .ok (.invokevirtual 68, 3) := by decide +kernel
theorem dX5_row_24 : decode cX5_row 24 = .ok (.ireturn, 1) := by decide +kernel
theorem dX5_row_25 : decode cX5_row 25 = .ok (.aload_n 0, 1) := by decide +kernel
theorem dX5_row_26 : decode cX5_row 26 = .ok (.iload_n 1, 1) := by decide +kernel
theorem dX5_row_27 : decode cX5_row 27 = .ok (.iload_n 2, 1) := by decide +kernel
theorem dX5_row_28 : decode cX5_row 28 = .ok (.invokevirtual 72, 3) := by decide +kernel
theorem dX5_row_31 : decode cX5_row 31 = .ok (.iload_n 2, 1) := by decide +kernel
theorem dX5_row_32 : decode cX5_row 32 = .ok (.ireturn, 1) := by decide +kernel
theorem dX5_lay_0 : decode cX5_lay 0 = .ok (.aload_n 0, 1) := by decide +kernel
theorem dX5_lay_1 : decode cX5_lay 1 = .ok (.iload_n 1, 1) := by decide +kernel
theorem dX5_lay_2 : decode cX5_lay 2 = .ok (.iload_n 2, 1) := by decide +kernel
theorem dX5_lay_3 : decode cX5_lay 3 = .ok (.invokevirtual 76, 3) := by decide +kernel
theorem dX5_lay_6 : decode cX5_lay 6 = .ok (.istore 4, 2) := by decide +kernel
theorem dX5_lay_8 : decode cX5_lay 8 = .ok (.iload 4, 2) := by decide +kernel
theorem dX5_lay_10 : decode cX5_lay 10 = .ok (.ifCond .eq 6, 3) := by decide +kernel
theorem dX5_lay_13 : decode cX5_lay 13 = .ok (.iload 4, 2) := by decide +kernel
theorem dX5_lay_15 : decode cX5_lay 15 = .ok (.ireturn, 1) := by decide +kernel
theorem dX5_lay_16 : decode cX5_lay 16 = .ok (.aload_n 0, 1) := by decide +kernel
theorem dX5_lay_17 : decode cX5_lay 17 = .ok (.aload_n 0, 1) := by decide +kernel
theorem dX5_lay_18 : decode cX5_lay 18 = .ok (.getfield 11, 3) := by decide +kernel
theorem dX5_lay_21 : decode cX5_lay 21 = .ok (.iload_n 1, 1) := by decide +kernel
theorem dX5_lay_22 : decode cX5_lay 22 = .ok (.aaload, 1) := by decide +kernel
theorem dX5_lay_23 : decode cX5_lay 23 = .ok (.iload_n 2, 1) := by decide +kernel
theorem dX5_lay_24 : decode cX5_lay 24 = .ok (.iaload, 1) := by decide +kernel
theorem dX5_lay_25 : decode cX5_lay 25 = .ok (.putfield 53, 3) := by decide +kernel
theorem dX5_lay_28 : decode cX5_lay 28 = .ok (.aload_n 0, 1) := by decide +kernel
theorem dX5_lay_29 : decode cX5_lay 29 = .ok (.getfield 11, 3) := by decide +kernel
theorem dX5_lay_32 : decode cX5_lay 32 = .ok (.iload_n 1, 1) := by decide +kernel
theorem dX5_lay_33 : decode cX5_lay 33 = .ok (.aaload, 1) := by decide +kernel
theorem dX5_lay_34 : decode cX5_lay 34 = .ok (.iload_n 2, 1) := by decide +kernel
theorem dX5_lay_35 : decode cX5_lay 35 = .ok (.iload_n 3, 1) := by decide +kernel
theorem dX5_lay_36 : decode cX5_lay 36 = .ok (.iastore, 1) := by decide +kernel
theorem dX5_lay_37 : decode cX5_lay 37 = .ok (.iconst 1, 1) := by decide +kernel
theorem dX5_lay_38 : decode cX5_lay 38 = .ok (.ireturn, 1) := by decide +kernel
theorem dX5_at_0 : decode cX5_at 0 = .ok (.aload_n 0, 1) := by decide +kernel
theorem dX5_at_1 : decode cX5_at 1 = .ok (.iload_n 1, 1) := by decide +kernel
theorem dX5_at_2 : decode cX5_at 2 = .ok (.iload_n 2, 1) := by decide +kernel
theorem dX5_at_3 : decode cX5_at 3 = .ok (.invokevirtual 76, 3) := by decide +kernel
theorem dX5_at_6 : decode cX5_at 6 = .ok (.istore_n 3, 1) := by decide +kernel
theorem dX5_at_7 : decode cX5_at 7 = .ok (.iload_n 3, 1) := by decide +kernel
theorem dX5_at_8 : decode cX5_at 8 = .ok (.ifCond .eq 5, 3) := by decide +kernel
theorem dX5_at_11 : decode cX5_at 11 = .ok (.iload_n 3, 1) := by decide +kernel
theorem dX5_at_12 : decode cX5_at 12 = .ok (.ireturn, 1) := by decide +kernel
theorem dX5_at_13 : decode cX5_at 13 = .ok (.aload_n 0, 1) := by decide +kernel
theorem dX5_at_14 : decode cX5_at 14 = .ok (.aload_n 0, 1) := by decide +kernel
theorem dX5_at_15 : decode cX5_at 15 = .ok (.getfield 11, 3) := by decide +kernel
theorem dX5_at_18 : decode cX5_at 18 = .ok (.iload_n 1, 1) := by decide +kernel
theorem dX5_at_19 : decode cX5_at 19 = .ok (.aaload, 1) := by decide +kernel
theorem dX5_at_20 : decode cX5_at 20 = .ok (.iload_n 2, 1) := by decide +kernel
theorem dX5_at_21 : decode cX5_at 21 = .ok (.iaload, 1) := by decide +kernel
theorem dX5_at_22 : decode cX5_at 22 = .ok (.putfield 53, 3) := by decide +kernel
theorem dX5_at_25 : decode cX5_at 25 = .ok (.iconst 1, 1) := by decide +kernel
theorem dX5_at_26 : decode cX5_at 26 = .ok (.ireturn, 1) := by decide +kernel
theorem dX5_tear_0 : decode cX5_tear 0 = .ok (.aload_n 0, 1) := by decide +kernel
theorem dX5_tear_1 : decode cX5_tear 1 = .ok (.iload_n 1, 1) := by decide +kernel
theorem dX5_tear_2 : decode cX5_tear 2 = .ok (.invokevirtual 80, 3) := by decide +kernel
theorem dX5_tear_5 : decode cX5_tear 5 = .ok (.istore_n 2, 1) := by decide +kernel
theorem dX5_tear_6 : decode cX5_tear 6 = .ok (.iload_n 2, 1) := by decide +kernel
theorem dX5_tear_7 : decode cX5_tear 7 = .ok (.ifCond .eq 5, 3) := by decide +kernel
theorem dX5_tear_10 : decode cX5_tear 10 = .ok (.iload_n 2, 1) := by decide +kernel
theorem dX5_tear_11 : decode cX5_tear 11 = .ok (.ireturn, 1) := by decide +kernel
theorem dX5_tear_12 : decode cX5_tear 12 = .ok (.aload_n 0, 1) := by decide +kernel
theorem dX5_tear_13 : decode cX5_tear 13 = .ok (.getfield 14, 3) := by decide +kernel
theorem dX5_tear_16 : decode cX5_tear 16 = .ok (.iload_n 1, 1) := by decide +kernel
theorem dX5_tear_17 : decode cX5_tear 17 = .ok (.iconst (-1), 1) := by decide +kernel
theorem dX5_tear_18 : decode cX5_tear 18 = .ok (.iastore, 1) := by decide +kernel
theorem dX5_tear_19 : decode cX5_tear 19 = .ok (.iconst 1, 1) := by decide +kernel
theorem dX5_tear_20 : decode cX5_tear 20 = .ok (.ireturn, 1) := by decide +kernel
theorem dX5_copy_0 : decode cX5_copy 0 = .ok (.iload_n 1, 1) := by decide +kernel
theorem dX5_copy_1 : decode cX5_copy 1 = .ok (.invokestatic 64, 3) := by decide +kernel
theorem dX5_copy_4 : decode cX5_copy 4 = .ok (.ifCond .eq 10, 3) := by decide +kernel
theorem dX5_copy_7 : decode cX5_copy 7 = .ok (.iload_n 3, 1) := by decide +kernel
theorem dX5_copy_8 : decode cX5_copy 8 = .ok (.invokestatic 64, 3) := by decide +kernel
theorem dX5_copy_11 : decode cX5_copy 11 = .ok (.ifCond .ne 5, 3) := by decide +kernel
theorem dX5_copy_14 : decode cX5_copy 14 = .ok (.iconst (-1), 1) := by decide +kernel
theorem dX5_copy_15 : decode cX5_copy 15 = .ok (.ireturn, 1) := by decide +kernel
theorem dX5_copy_16 : decode cX5_copy 16 = .ok (.iload 5, 2) := by decide +kernel
theorem dX5_copy_18 : decode cX5_copy 18 = .ok (.ifCond .ge 9, 3) := by decide +kernel
theorem dX5_copy_21 : decode cX5_copy 21 = .ok (.aload_n 0, 1) := by decide +kernel
theorem dX5_copy_22 : decode cX5_copy 22 = .ok (.iconst 5, 1) := by decide +kernel
theorem dX5_copy_23 : decode cX5_copy 23 = .ok (.invokevirtual 68, 3) := by decide +kernel
theorem dX5_copy_26 : decode cX5_copy 26 = .ok (.ireturn, 1) := by decide +kernel
theorem dX5_copy_27 : decode cX5_copy 27 = .ok (.aload_n 0, 1) := by decide +kernel
theorem dX5_copy_28 : decode cX5_copy 28 = .ok (.getfield 14, 3) := by decide +kernel
theorem dX5_copy_31 : decode cX5_copy 31 = .ok (.iload_n 1, 1) := by decide +kernel
theorem dX5_copy_32 : decode cX5_copy 32 = .ok (.iaload, 1) := by decide +kernel
theorem dX5_copy_33 : decode cX5_copy 33 = .ok (.ifCond .lt 12, 3) := by decide +kernel
theorem dX5_copy_36 : decode cX5_copy 36 = .ok (.aload_n 0, 1) := by decide +kernel
theorem dX5_copy_37 : decode cX5_copy 37 = .ok (.getfield 14, 3) := by decide +kernel
theorem dX5_copy_40 : decode cX5_copy 40 = .ok (.iload_n 3, 1) := by decide +kernel
theorem dX5_copy_41 : decode cX5_copy 41 = .ok (.iaload, 1) := by decide +kernel
theorem dX5_copy_42 : decode cX5_copy 42 = .ok (.ifCond .ge 9, 3) := by decide +kernel
theorem dX5_copy_45 : decode cX5_copy 45 = .ok (.aload_n 0, 1) := by decide +kernel
theorem dX5_copy_46 : decode cX5_copy 46 = .ok (.iconst 1, 1) := by decide +kernel
theorem dX5_copy_47 : decode cX5_copy 47 = .ok (.invokevirtual 68, 3) := by decide +kernel
theorem dX5_copy_50 : decode cX5_copy 50 = .ok (.ireturn, 1) := by decide +kernel
theorem dX5_copy_51 : decode cX5_copy 51 = .ok (.iload_n 2, 1) := by decide +kernel
theorem dX5_copy_52 : decode cX5_copy 52 = .ok (.ifCond .lt 35, 3) := by decide +kernel
theorem dX5_copy_55 : decode cX5_copy 55 = .ok (.iload 4, 2) := by decide +kernel
theorem dX5_copy_57 : decode cX5_copy 57 = .ok (.ifCond .lt 30, 3) := by decide +kernel
theorem dX5_copy_60 : decode cX5_copy 60 = .ok (.iload_n 2, 1) := by decide +kernel
theorem dX5_copy_61 : decode cX5_copy 61 = .ok (.aload_n 0, 1) := by decide +kernel
theorem dX5_copy_62 : decode cX5_copy 62 = .ok (.getfield 14, 3) := by decide +kernel
theorem dX5_copy_65 : decode cX5_copy 65 = .ok (.iload_n 1, 1) := by decide +kernel
theorem dX5_copy_66 : decode cX5_copy 66 = .ok (.iaload, 1) := by decide +kernel
theorem dX5_copy_67 : decode cX5_copy 67 = .ok (.iload 5, 2) := by decide +kernel
theorem dX5_copy_69 : decode cX5_copy 69 = .ok (.isub, 1) := by decide +kernel
theorem dX5_copy_70 : decode cX5_copy 70 = .ok (.if_icmp .gt 17, 3) := by decide +kernel
theorem dX5_copy_73 : decode cX5_copy 73 = .ok (.iload 4, 2) := by decide +kernel
theorem dX5_copy_75 : decode cX5_copy 75 = .ok (.aload_n 0, 1) := by decide +kernel
theorem dX5_copy_76 : decode cX5_copy 76 = .ok (.getfield 14, 3) := by decide +kernel
theorem dX5_copy_79 : decode cX5_copy 79 = .ok (.iload_n 3, 1) := by decide +kernel
theorem dX5_copy_80 : decode cX5_copy 80 = .ok (.iaload, 1) := by decide +kernel
theorem dX5_copy_81 : decode cX5_copy 81 = .ok (.iload 5, 2) := by decide +kernel
theorem dX5_copy_83 : decode cX5_copy 83 = .ok (.isub, 1) := by decide +kernel
theorem dX5_copy_84 : decode cX5_copy 84 = .ok (.if_icmp .le 9, 3) := by decide +kernel
theorem dX5_copy_87 : decode cX5_copy 87 = .ok (.aload_n 0, 1) := by decide +kernel
theorem dX5_copy_88 : decode cX5_copy 88 = .ok (.iconst 2, 1) := by decide +kernel
theorem dX5_copy_89 : decode cX5_copy 89 = .ok (.invokevirtual 68, 3) := by decide +kernel
theorem dX5_copy_92 : decode cX5_copy 92 = .ok (.ireturn, 1) := by decide +kernel
theorem dX5_copy_93 : decode cX5_copy 93 = .ok (.aload_n 0, 1) := by decide +kernel
theorem dX5_copy_94 : decode cX5_copy 94 = .ok (.getfield 11, 3) := by decide +kernel
theorem dX5_copy_97 : decode cX5_copy 97 = .ok (.iload_n 1, 1) := by decide +kernel
theorem dX5_copy_98 : decode cX5_copy 98 = .ok (.aaload, 1) := by decide +kernel
theorem dX5_copy_99 : decode cX5_copy 99 = .ok (.iload_n 2, 1) := by decide +kernel
theorem dX5_copy_100 : decode cX5_copy 100 = .ok (.aload_n 0, 1) := by decide +kernel
theorem dX5_copy_101 : decode cX5_copy 101 = .ok (.getfield 11, 3) := by decide +kernel
theorem dX5_copy_104 : decode cX5_copy 104 = .ok (.iload_n 3, 1) := by decide +kernel
theorem dX5_copy_105 : decode cX5_copy 105 = .ok (.aaload, 1) := by decide +kernel
theorem dX5_copy_106 : decode cX5_copy 106 = .ok (.iload 4, 2) := by decide +kernel
theorem dX5_copy_108 : decode cX5_copy 108 = .ok (.iload 5, 2) := by decide +kernel
theorem dX5_copy_110 : decode cX5_copy 110 = .ok (.invokestatic 83, 3) := by decide +kernel
theorem dX5_copy_113 : decode cX5_copy 113 = .ok (.iconst 1, 1) := by decide +kernel
theorem dX5_copy_114 : decode cX5_copy 114 = .ok (.ireturn, 1) := by decide +kernel
theorem dX5_mean_0 : decode cX5_mean 0 = .ok (.aload_n 0, 1) := by decide +kernel
theorem dX5_mean_1 : decode cX5_mean 1 = .ok (.iload_n 1, 1) := by decide +kernel
theorem dX5_mean_2 : decode cX5_mean 2 = .ok (.invokevirtual 80, 3) := by decide +kernel
theorem dX5_mean_5 : decode cX5_mean 5 = .ok (.istore_n 2, 1) := by decide +kernel
theorem dX5_mean_6 : decode cX5_mean 6 = .ok (.iload_n 2, 1) := by decide +kernel
theorem dX5_mean_7 : decode cX5_mean 7 = .ok (.ifCond .eq 5, 3) := by decide +kernel
theorem dX5_mean_10 : decode cX5_mean 10 = .ok (.iload_n 2, 1) := by decide +kernel
theorem dX5_mean_11 : decode cX5_mean 11 = .ok (.ireturn, 1) := by decide +kernel
theorem dX5_mean_12 : decode cX5_mean 12 = .ok (.aload_n 0, 1) := by decide +kernel
theorem dX5_mean_13 : decode cX5_mean 13 = .ok (.getfield 14, 3) := by decide +kernel
theorem dX5_mean_16 : decode cX5_mean 16 = .ok (.iload_n 1, 1) := by decide +kernel
theorem dX5_mean_17 : decode cX5_mean 17 = .ok (.iaload, 1) := by decide +kernel
theorem dX5_mean_18 : decode cX5_mean 18 = .ok (.ifCond .ne 9, 3) := by decide +kernel
theorem dX5_mean_21 : decode cX5_mean 21 = .ok (.aload_n 0, 1) := by decide +kernel
theorem dX5_mean_22 : decode cX5_mean 22 = .ok (.iconst 4, 1) := by decide +kernel
theorem dX5_mean_23 : decode cX5_mean 23 = .ok (.invokevirtual 68, 3) := by decide +kernel
theorem dX5_mean_26 : decode cX5_mean 26 = .ok (.ireturn, 1) := by decide +kernel
theorem dX5_mean_27 : decode cX5_mean 27 = .ok (.lconst 0, 1) := by decide +kernel
theorem dX5_mean_28 : decode cX5_mean 28 = .ok (.lstore_n 3, 1) := by decide +kernel
theorem dX5_mean_29 : decode cX5_mean 29 = .ok (.iconst 0, 1) := by decide +kernel
theorem dX5_mean_30 : decode cX5_mean 30 = .ok (.istore 5, 2) := by decide +kernel
theorem dX5_mean_32 : decode cX5_mean 32 = .ok (.iload 5, 2) := by decide +kernel
theorem dX5_mean_34 : decode cX5_mean 34 = .ok (.aload_n 0, 1) := by decide +kernel
theorem dX5_mean_35 : decode cX5_mean 35 = .ok (.getfield 14, 3) := by decide +kernel
theorem dX5_mean_38 : decode cX5_mean 38 = .ok (.iload_n 1, 1) := by decide +kernel
theorem dX5_mean_39 : decode cX5_mean 39 = .ok (.iaload, 1) := by decide +kernel
theorem dX5_mean_40 : decode cX5_mean 40 = .ok (.if_icmp .ge 22, 3) := by decide +kernel
theorem dX5_mean_43 : decode cX5_mean 43 = .ok (.lload_n 3, 1) := by decide +kernel
theorem dX5_mean_44 : decode cX5_mean 44 = .ok (.aload_n 0, 1) := by decide +kernel
theorem dX5_mean_45 : decode cX5_mean 45 = .ok (.getfield 11, 3) := by decide +kernel
theorem dX5_mean_48 : decode cX5_mean 48 = .ok (.iload_n 1, 1) := by decide +kernel
theorem dX5_mean_49 : decode cX5_mean 49 = .ok (.aaload, 1) := by decide +kernel
theorem dX5_mean_50 : decode cX5_mean 50 = .ok (.iload 5, 2) := by decide +kernel
theorem dX5_mean_52 : decode cX5_mean 52 = .ok (.iaload, 1) := by decide +kernel
theorem dX5_mean_53 : decode cX5_mean 53 = .ok (.i2l, 1) := by decide +kernel
theorem dX5_mean_54 : decode cX5_mean 54 = .ok (.ladd, 1) := by decide +kernel
theorem dX5_mean_55 : decode cX5_mean 55 = .ok (.lstore_n 3, 1) := by decide +kernel
theorem dX5_mean_56 : decode cX5_mean 56 = .ok (.iinc 5 1, 3) := by decide +kernel
theorem dX5_mean_59 : decode cX5_mean 59 = .ok (.goto (-27), 3) := by decide +kernel
theorem dX5_mean_62 : decode cX5_mean 62 = .ok (.aload_n 0, 1) := by decide +kernel
theorem dX5_mean_63 : decode cX5_mean 63 = .ok (.lload_n 3, 1) := by decide +kernel
theorem dX5_mean_64 : decode cX5_mean 64 = .ok (.aload_n 0, 1) := by decide +kernel
theorem dX5_mean_65 : decode cX5_mean 65 = .ok (.getfield 14, 3) := by decide +kernel
theorem dX5_mean_68 : decode cX5_mean 68 = .ok (.iload_n 1, 1) := by decide +kernel
theorem dX5_mean_69 : decode cX5_mean 69 = .ok (.iaload, 1) := by decide +kernel
theorem dX5_mean_70 : decode cX5_mean 70 = .ok (.i2l, 1) := by decide +kernel
theorem dX5_mean_71 : decode cX5_mean 71 = .ok (.ldiv, 1) := by decide +kernel
theorem dX5_mean_72 : decode cX5_mean 72 = .ok (.l2i, 1) := by decide +kernel
theorem dX5_mean_73 : decode cX5_mean 73 = .ok (.putfield 53, 3) := by decide +kernel
theorem dX5_mean_76 : decode cX5_mean 76 = .ok (.iconst 1, 1) := by decide +kernel
theorem dX5_mean_77 : decode cX5_mean 77 = .ok (.ireturn, 1) := by decide +kernel
theorem dX5_text_0 : decode cX5_text 0 = .ok (.iload_n 1, 1) := by decide +kernel
theorem dX5_text_1 : decode cX5_text 1 = .ok (.invokestatic 89, 3) := by decide +kernel
theorem dX5_text_4 : decode cX5_text 4 = .ok (.ifCond .eq 9, 3) := by decide +kernel
theorem dX5_text_7 : decode cX5_text 7 = .ok (.iload_n 2, 1) := by decide +kernel
theorem dX5_text_8 : decode cX5_text 8 = .ok (.bipush 60, 2) := by decide +kernel
theorem dX5_text_10 : decode cX5_text 10 = .ok (.if_icmp .le 5, 3) := by decide +kernel
theorem dX5_text_13 : decode cX5_text 13 = .ok (.iconst (-1), 1) := by decide +kernel
theorem dX5_text_14 : decode cX5_text 14 = .ok (.ireturn, 1) := by decide +kernel
theorem dX5_text_15 : decode cX5_text 15 = .ok (.iload_n 2, 1) := by decide +kernel
theorem dX5_text_16 : decode cX5_text 16 = .ok (.ifCond .ge 9, 3) := by decide +kernel
theorem dX5_text_19 : decode cX5_text 19 = .ok (.aload_n 0, 1) := by decide +kernel
theorem dX5_text_20 : decode cX5_text 20 = .ok (.iconst 5, 1) := by decide +kernel
theorem dX5_text_21 : decode cX5_text 21 = .ok (.invokevirtual 68, 3) := by decide +kernel
theorem dX5_text_24 : decode cX5_text 24 = .ok (.ireturn, 1) := by decide +kernel
theorem dX5_text_25 : decode cX5_text 25 = .ok (.iconst 0, 1) := by decide +kernel
theorem dX5_text_26 : decode cX5_text 26 = .ok (.istore_n 3, 1) := by decide +kernel
theorem dX5_text_27 : decode cX5_text 27 = .ok (.iload_n 3, 1) := by decide +kernel
theorem dX5_text_28 : decode cX5_text 28 = .ok (.iload_n 2, 1) := by decide +kernel
theorem dX5_text_29 : decode cX5_text 29 = .ok (.if_icmp .ge 19, 3) := by decide +kernel
theorem dX5_text_32 : decode cX5_text 32 = .ok (.aload_n 0, 1) := by decide +kernel
theorem dX5_text_33 : decode cX5_text 33 = .ok (.getfield 20, 3) := by decide +kernel
theorem dX5_text_36 : decode cX5_text 36 = .ok (.iload_n 1, 1) := by decide +kernel
theorem dX5_text_37 : decode cX5_text 37 = .ok (.aaload, 1) := by decide +kernel
theorem dX5_text_38 : decode cX5_text 38 = .ok (.iload_n 3, 1) := by decide +kernel
theorem dX5_text_39 : decode cX5_text 39 = .ok (.bipush 32, 2) := by decide +kernel
theorem dX5_text_41 : decode cX5_text 41 = .ok (.bastore, 1) := by decide +kernel
theorem dX5_text_42 : decode cX5_text 42 = .ok (.iinc 3 1, 3) := by decide +kernel
theorem dX5_text_45 : decode cX5_text 45 = .ok (.goto (-18), 3) := by decide +kernel
theorem dX5_text_48 : decode cX5_text 48 = .ok (.aload_n 0, 1) := by decide +kernel
theorem dX5_text_49 : decode cX5_text 49 = .ok (.getfield 23, 3) := by decide +kernel
theorem dX5_text_52 : decode cX5_text 52 = .ok (.iload_n 1, 1) := by decide +kernel
theorem dX5_text_53 : decode cX5_text 53 = .ok (.iload_n 2, 1) := by decide +kernel
theorem dX5_text_54 : decode cX5_text 54 = .ok (.iastore, 1) := by decide +kernel
theorem dX5_text_55 : decode cX5_text 55 = .ok (.iload_n 2, 1) := by decide +kernel
theorem dX5_text_56 : decode cX5_text 56 = .ok (.ireturn, 1) := by decide +kernel
theorem dX5_put_0 : decode cX5_put 0 = .ok (.aload_n 0, 1) := by decide +kernel
theorem dX5_put_1 : decode cX5_put 1 = .ok (.iload_n 1, 1) := by decide +kernel
theorem dX5_put_2 : decode cX5_put 2 = .ok (.invokevirtual 92, 3) := by decide +kernel
theorem dX5_put_5 : decode cX5_put 5 = .ok (.istore 4, 2) := by decide +kernel
theorem dX5_put_7 : decode cX5_put 7 = .ok (.iload 4, 2) := by decide +kernel
theorem dX5_put_9 : decode cX5_put 9 = .ok (.ifCond .eq 6, 3) := by decide +kernel
theorem dX5_put_12 : decode cX5_put 12 = .ok (.iload 4, 2) := by decide +kernel
theorem dX5_put_14 : decode cX5_put 14 = .ok (.ireturn, 1) := by decide +kernel
theorem dX5_put_15 : decode cX5_put 15 = .ok (.iload_n 2, 1) := by decide +kernel
theorem dX5_put_16 : decode cX5_put 16 = .ok (.ifCond .lt 13, 3) := by decide +kernel
theorem dX5_put_19 : decode cX5_put 19 = .ok (.iload_n 2, 1) := by decide +kernel
theorem dX5_put_20 : decode cX5_put 20 = .ok (.aload_n 0, 1) := by decide +kernel
theorem dX5_put_21 : decode cX5_put 21 = .ok (.getfield 23, 3) := by decide +kernel
theorem dX5_put_24 : decode cX5_put 24 = .ok (.iload_n 1, 1) := by decide +kernel
theorem dX5_put_25 : decode cX5_put 25 = .ok (.iaload, 1) := by decide +kernel
theorem dX5_put_26 : decode cX5_put 26 = .ok (.if_icmp .lt 9, 3) := by decide +kernel
theorem dX5_put_29 : decode cX5_put 29 = .ok (.aload_n 0, 1) := by decide +kernel
theorem dX5_put_30 : decode cX5_put 30 = .ok (.iconst 2, 1) := by decide +kernel
theorem dX5_put_31 : decode cX5_put 31 = .ok (.invokevirtual 68, 3) := by decide +kernel
theorem dX5_put_34 : decode cX5_put 34 = .ok (.ireturn, 1) := by decide +kernel
theorem dX5_put_35 : decode cX5_put 35 = .ok (.aload_n 0, 1) := by decide +kernel
theorem dX5_put_36 : decode cX5_put 36 = .ok (.getfield 20, 3) := by decide +kernel
theorem dX5_put_39 : decode cX5_put 39 = .ok (.iload_n 1, 1) := by decide +kernel
theorem dX5_put_40 : decode cX5_put 40 = .ok (.aaload, 1) := by decide +kernel
theorem dX5_put_41 : decode cX5_put 41 = .ok (.iload_n 2, 1) := by decide +kernel
theorem dX5_put_42 : decode cX5_put 42 = .ok (.baload, 1) := by decide +kernel
theorem dX5_put_43 : decode cX5_put 43 = .ok (.istore 5, 2) := by decide +kernel
theorem dX5_put_45 : decode cX5_put 45 = .ok (.aload_n 0, 1) := by decide +kernel
theorem dX5_put_46 : decode cX5_put 46 = .ok (.getfield 20, 3) := by decide +kernel
theorem dX5_put_49 : decode cX5_put 49 = .ok (.iload_n 1, 1) := by decide +kernel
theorem dX5_put_50 : decode cX5_put 50 = .ok (.aaload, 1) := by decide +kernel
theorem dX5_put_51 : decode cX5_put 51 = .ok (.iload_n 2, 1) := by decide +kernel
theorem dX5_put_52 : decode cX5_put 52 = .ok (.iload_n 3, 1) := by decide +kernel
theorem dX5_put_53 : decode cX5_put 53 = .ok (.i2b, 1) := by decide +kernel
theorem dX5_put_54 : decode cX5_put 54 = .ok (.bastore, 1) := by decide +kernel
theorem dX5_put_55 : decode cX5_put 55 = .ok (.iload 5, 2) := by decide +kernel
theorem dX5_put_57 : decode cX5_put 57 = .ok (.sipush 1000, 3) := by decide +kernel
theorem dX5_put_60 : decode cX5_put 60 = .ok (.iadd, 1) := by decide +kernel
theorem dX5_put_61 : decode cX5_put 61 = .ok (.ireturn, 1) := by decide +kernel
theorem dX5_fault_0 : decode cX5_fault 0 = .ok (.aload_n 0, 1) := by decide +kernel
theorem dX5_fault_1 : decode cX5_fault 1 = .ok (.iload_n 1, 1) := by decide +kernel
theorem dX5_fault_2 : decode cX5_fault 2 = .ok (.invokevirtual 92, 3) := by decide +kernel
theorem dX5_fault_5 : decode cX5_fault 5 = .ok (.istore_n 2, 1) := by decide +kernel
theorem dX5_fault_6 : decode cX5_fault 6 = .ok (.iload_n 2, 1) := by decide +kernel
theorem dX5_fault_7 : decode cX5_fault 7 = .ok (.ifCond .eq 5, 3) := by decide +kernel
theorem dX5_fault_10 : decode cX5_fault 10 = .ok (.iload_n 2, 1) := by decide +kernel
theorem dX5_fault_11 : decode cX5_fault 11 = .ok (.ireturn, 1) := by decide +kernel
theorem dX5_fault_12 : decode cX5_fault 12 = .ok (.aload_n 0, 1) := by decide +kernel
theorem dX5_fault_13 : decode cX5_fault 13 = .ok (.getfield 20, 3) := by decide +kernel
theorem dX5_fault_16 : decode cX5_fault 16 = .ok (.iload_n 1, 1) := by decide +kernel
theorem dX5_fault_17 : decode cX5_fault 17 = .ok (.aaload, 1) := by decide +kernel
theorem dX5_fault_18 : decode cX5_fault 18 = .ok (.aload_n 0, 1) := by decide +kernel
theorem dX5_fault_19 : decode cX5_fault 19 = .ok (.getfield 23, 3) := by decide +kernel
theorem dX5_fault_22 : decode cX5_fault 22 = .ok (.iload_n 1, 1) := by decide +kernel
theorem dX5_fault_23 : decode cX5_fault 23 = .ok (.iaload, 1) := by decide +kernel
theorem dX5_fault_24 : decode cX5_fault 24 = .ok (.invokestatic 95, 3) := by decide +kernel
theorem dX5_fault_27 : decode cX5_fault 27 = .ok (.ireturn, 1) := by decide +kernel
theorem dX5_shop_0 : decode cX5_shop 0 = .ok (.aload_n 0, 1) := by decide +kernel
theorem dX5_shop_1 : decode cX5_shop 1 = .ok (.iload_n 1, 1) := by decide +kernel
theorem dX5_shop_2 : decode cX5_shop 2 = .ok (.invokevirtual 92, 3) := by decide +kernel
theorem dX5_shop_5 : decode cX5_shop 5 = .ok (.istore_n 2, 1) := by decide +kernel
theorem dX5_shop_6 : decode cX5_shop 6 = .ok (.iload_n 2, 1) := by decide +kernel
theorem dX5_shop_7 : decode cX5_shop 7 = .ok (.ifCond .eq 5, 3) := by decide +kernel
theorem dX5_shop_10 : decode cX5_shop 10 = .ok (.iload_n 2, 1) := by decide +kernel
theorem dX5_shop_11 : decode cX5_shop 11 = .ok (.ireturn, 1) := by decide +kernel
theorem dX5_shop_12 : decode cX5_shop 12 = .ok (.aload_n 0, 1) := by decide +kernel
theorem dX5_shop_13 : decode cX5_shop 13 = .ok (.getfield 20, 3) := by decide +kernel
theorem dX5_shop_16 : decode cX5_shop 16 = .ok (.iload_n 1, 1) := by decide +kernel
theorem dX5_shop_17 : decode cX5_shop 17 = .ok (.aaload, 1) := by decide +kernel
theorem dX5_shop_18 : decode cX5_shop 18 = .ok (.aload_n 0, 1) := by decide +kernel
theorem dX5_shop_19 : decode cX5_shop 19 = .ok (.getfield 23, 3) := by decide +kernel
theorem dX5_shop_22 : decode cX5_shop 22 = .ok (.iload_n 1, 1) := by decide +kernel
theorem dX5_shop_23 : decode cX5_shop 23 = .ok (.iaload, 1) := by decide +kernel
theorem dX5_shop_24 : decode cX5_shop 24 = .ok (.invokestatic 95, 3) := by decide +kernel
theorem dX5_shop_27 : decode cX5_shop 27 = .ok (.bipush (-9), 2) := by decide +kernel
theorem dX5_shop_29 : decode cX5_shop 29 = .ok (.if_icmp .eq 6, 3) := by decide +kernel
theorem dX5_shop_32 : decode cX5_shop 32 = .ok (.bipush (-4), 2) := by decide +kernel
theorem dX5_shop_34 : decode cX5_shop 34 = .ok (.ireturn, 1) := by decide +kernel
theorem dX5_shop_35 : decode cX5_shop 35 = .ok (.aload_n 0, 1) := by decide +kernel
theorem dX5_shop_36 : decode cX5_shop 36 = .ok (.getfield 29, 3) := by decide +kernel
theorem dX5_shop_39 : decode cX5_shop 39 = .ok (.aload_n 0, 1) := by decide +kernel
theorem dX5_shop_40 : decode cX5_shop 40 = .ok (.getfield 20, 3) := by decide +kernel
theorem dX5_shop_43 : decode cX5_shop 43 = .ok (.iload_n 1, 1) := by decide +kernel
theorem dX5_shop_44 : decode cX5_shop 44 = .ok (.aaload, 1) := by decide +kernel
theorem dX5_shop_45 : decode cX5_shop 45 = .ok (.aload_n 0, 1) := by decide +kernel
theorem dX5_shop_46 : decode cX5_shop 46 = .ok (.getfield 23, 3) := by decide +kernel
theorem dX5_shop_49 : decode cX5_shop 49 = .ok (.iload_n 1, 1) := by decide +kernel
theorem dX5_shop_50 : decode cX5_shop 50 = .ok (.iaload, 1) := by decide +kernel
theorem dX5_shop_51 : decode cX5_shop 51 = .ok (.invokevirtual 99, 3) := by decide +kernel
theorem dX5_shop_54 : decode cX5_shop 54 = .ok (.iconst 0, 1) := by decide +kernel
theorem dX5_shop_55 : decode cX5_shop 55 = .ok (.istore_n 3, 1) := by decide +kernel
theorem dX5_shop_56 : decode cX5_shop 56 = .ok (.iload_n 3, 1) := by decide +kernel
theorem dX5_shop_57 : decode cX5_shop 57 = .ok (.iconst 3, 1) := by decide +kernel
theorem dX5_shop_58 : decode cX5_shop 58 = .ok (.if_icmp .ge 19, 3) := by decide +kernel
theorem dX5_shop_61 : decode cX5_shop 61 = .ok (.aload_n 0, 1) := by decide +kernel
theorem dX5_shop_62 : decode cX5_shop 62 = .ok (.getfield 35, 3) := by decide +kernel
theorem dX5_shop_65 : decode cX5_shop 65 = .ok (.iload_n 3, 1) := by decide +kernel
theorem dX5_shop_66 : decode cX5_shop 66 = .ok (.aaload, 1) := by decide +kernel
theorem dX5_shop_67 : decode cX5_shop 67 = .ok (.iconst 0, 1) := by decide +kernel
theorem dX5_shop_68 : decode cX5_shop 68 = .ok (.putfield 103, 3) := by decide +kernel
theorem dX5_shop_71 : decode cX5_shop 71 = .ok (.iinc 3 1, 3) := by decide +kernel
theorem dX5_shop_74 : decode cX5_shop 74 = .ok (.goto (-18), 3) := by decide +kernel
theorem dX5_shop_77 : decode cX5_shop 77 = .ok (.aload_n 0, 1) := by decide +kernel
theorem dX5_shop_78 : decode cX5_shop 78 = .ok (.getfield 29, 3) := by decide +kernel
theorem dX5_shop_81 : decode cX5_shop 81 = .ok (.getfield 107, 3) := by decide +kernel
theorem dX5_shop_84 : decode cX5_shop 84 = .ok (.ireturn, 1) := by decide +kernel
theorem dX5_regular_0 : decode cX5_regular 0 = .ok (.aload_n 0, 1) := by decide +kernel
theorem dX5_regular_1 : decode cX5_regular 1 = .ok (.iload_n 1, 1) := by decide +kernel
theorem dX5_regular_2 : decode cX5_regular 2 = .ok (.invokevirtual 110, 3) := by decide +kernel
theorem dX5_regular_5 : decode cX5_regular 5 = .ok (.ifCond .eq 13, 3) := by decide +kernel
theorem dX5_regular_8 : decode cX5_regular 8 = .ok (.iload_n 2, 1) := by decide +kernel
theorem dX5_regular_9 : decode cX5_regular 9 = .ok (.ifCond .lt 9, 3) := by decide +kernel
theorem dX5_regular_12 : decode cX5_regular 12 = .ok (.iload_n 2, 1) := by decide +kernel
theorem dX5_regular_13 : decode cX5_regular 13 = .ok (.bipush 9, 2) := by decide +kernel
theorem dX5_regular_15 : decode cX5_regular 15 = .ok (.if_icmp .lt 5, 3) := by decide +kernel
theorem dX5_regular_18 : decode cX5_regular 18 = .ok (.iconst (-1), 1) := by decide +kernel
theorem dX5_regular_19 : decode cX5_regular 19 = .ok (.ireturn, 1) := by decide +kernel
theorem dX5_regular_20 : decode cX5_regular 20 = .ok (.aload_n 0, 1) := by decide +kernel
theorem dX5_regular_21 : decode cX5_regular 21 = .ok (.aload_n 0, 1) := by decide +kernel
theorem dX5_regular_22 : decode cX5_regular 22 = .ok (.getfield 29, 3) := by decide +kernel
theorem dX5_regular_25 : decode cX5_regular 25 = .ok (.iload_n 1, 1) := by decide +kernel
theorem dX5_regular_26 : decode cX5_regular 26 = .ok (.iload_n 2, 1) := by decide +kernel
theorem dX5_regular_27 : decode cX5_regular 27 = .ok (.invokevirtual 113, 3) := by decide +kernel
theorem dX5_regular_30 : decode cX5_regular 30 = .ok (.putfield 53, 3) := by decide +kernel
theorem dX5_regular_33 : decode cX5_regular 33 = .ok (.iconst 1, 1) := by decide +kernel
theorem dX5_regular_34 : decode cX5_regular 34 = .ok (.ireturn, 1) := by decide +kernel
theorem dX5_mark_0 : decode cX5_mark 0 = .ok (.aload_n 0, 1) := by decide +kernel
theorem dX5_mark_1 : decode cX5_mark 1 = .ok (.iload_n 1, 1) := by decide +kernel
theorem dX5_mark_2 : decode cX5_mark 2 = .ok (.invokevirtual 110, 3) := by decide +kernel
theorem dX5_mark_5 : decode cX5_mark 5 = .ok (.ifCond .eq 13, 3) := by decide +kernel
theorem dX5_mark_8 : decode cX5_mark 8 = .ok (.iload_n 2, 1) := by decide +kernel
theorem dX5_mark_9 : decode cX5_mark 9 = .ok (.ifCond .le 9, 3) := by decide +kernel
theorem dX5_mark_12 : decode cX5_mark 12 = .ok (.iload_n 2, 1) := by decide +kernel
theorem dX5_mark_13 : decode cX5_mark 13 = .ok (.bipush 6, 2) := by decide +kernel
theorem dX5_mark_15 : decode cX5_mark 15 = .ok (.if_icmp .lt 5, 3) := by decide +kernel
theorem dX5_mark_18 : decode cX5_mark 18 = .ok (.iconst (-1), 1) := by decide +kernel
theorem dX5_mark_19 : decode cX5_mark 19 = .ok (.ireturn, 1) := by decide +kernel
theorem dX5_mark_20 : decode cX5_mark 20 = .ok (.aload_n 0, 1) := by decide +kernel
theorem dX5_mark_21 : decode cX5_mark 21 = .ok (.getfield 29, 3) := by decide +kernel
theorem dX5_mark_24 : decode cX5_mark 24 = .ok (.getfield 116, 3) := by decide +kernel
theorem dX5_mark_27 : decode cX5_mark 27 = .ok (.iload_n 1, 1) := by decide +kernel
theorem dX5_mark_28 : decode cX5_mark 28 = .ok (.aaload, 1) := by decide +kernel
theorem dX5_mark_29 : decode cX5_mark 29 = .ok (.astore_n 3, 1) := by decide +kernel
theorem dX5_mark_30 : decode cX5_mark 30 = .ok (.aload_n 3, 1) := by decide +kernel
theorem dX5_mark_31 : decode cX5_mark 31 = .ok (.iload_n 2, 1) := by decide +kernel
theorem dX5_mark_32 : decode cX5_mark 32 = .ok (.invokevirtual 120, 3) := by decide +kernel
theorem dX5_mark_35 : decode cX5_mark 35 = .ok (.ifCond .ne 9, 3) := by decide +kernel
theorem dX5_mark_38 : decode cX5_mark 38 = .ok (.aload_n 0, 1) := by decide +kernel
theorem dX5_mark_39 : decode cX5_mark 39 = .ok (.iconst 3, 1) := by decide +kernel
theorem dX5_mark_40 : decode cX5_mark 40 = .ok (.invokevirtual 68, 3) := by decide +kernel
theorem dX5_mark_43 : decode cX5_mark 43 = .ok (.ireturn, 1) := by decide +kernel
theorem dX5_mark_44 : decode cX5_mark 44 = .ok (.iload_n 2, 1) := by decide +kernel
theorem dX5_mark_45 : decode cX5_mark 45 = .ok (.tableswitch 81 1 4 #[31, 43, 55, 60], 31) := by decide +kernel
theorem dX5_mark_76 : decode cX5_mark 76 = .ok (.aload_n 3, 1) := by decide +kernel
theorem dX5_mark_77 : decode cX5_mark 77 = .ok (.aload_n 0, 1) := by decide +kernel
theorem dX5_mark_78 : decode cX5_mark 78 = .ok (.getfield 29, 3) := by decide +kernel
theorem dX5_mark_81 : decode cX5_mark 81 = .ok (.getfield 125, 3) := by decide +kernel
theorem dX5_mark_84 : decode cX5_mark 84 = .ok (.invokevirtual 128, 3) := by decide +kernel
theorem dX5_mark_87 : decode cX5_mark 87 = .ok (.ireturn, 1) := by decide +kernel
theorem dX5_mark_88 : decode cX5_mark 88 = .ok (.aload_n 3, 1) := by decide +kernel
theorem dX5_mark_89 : decode cX5_mark 89 = .ok (.aload_n 0, 1) := by decide +kernel
theorem dX5_mark_90 : decode cX5_mark 90 = .ok (.getfield 29, 3) := by decide +kernel
theorem dX5_mark_93 : decode cX5_mark 93 = .ok (.getfield 125, 3) := by decide +kernel
theorem dX5_mark_96 : decode cX5_mark 96 = .ok (.invokevirtual 131, 3) := by decide +kernel
theorem dX5_mark_99 : decode cX5_mark 99 = .ok (.ireturn, 1) := by decide +kernel
theorem dX5_mark_100 : decode cX5_mark 100 = .ok (.aload_n 3, 1) := by decide +kernel
theorem dX5_mark_101 : decode cX5_mark 101 = .ok (.invokevirtual 134, 3) := by decide +kernel
theorem dX5_mark_104 : decode cX5_mark 104 = .ok (.ireturn, 1) := by decide +kernel
theorem dX5_mark_105 : decode cX5_mark 105 = .ok (.aload_n 0, 1) := by decide +kernel
theorem dX5_mark_106 : decode cX5_mark 106 = .ok (.getfield 29, 3) := by decide +kernel
theorem dX5_mark_109 : decode cX5_mark 109 = .ok (.aload_n 3, 1) := by decide +kernel
theorem dX5_mark_110 : decode cX5_mark 110 = .ok (.getfield 138, 3) := by decide +kernel
theorem dX5_mark_113 : decode cX5_mark 113 = .ok (.aload_n 3, 1) := by decide +kernel
theorem dX5_mark_114 : decode cX5_mark 114 = .ok (.getfield 141, 3) := by decide +kernel
theorem dX5_mark_117 : decode cX5_mark 117 = .ok (.invokevirtual 144, 3) := by decide +kernel
theorem dX5_mark_120 : decode cX5_mark 120 = .ok (.invokestatic 147, 3) := by decide +kernel
theorem dX5_mark_123 : decode cX5_mark 123 = .ok (.iconst 1, 1) := by decide +kernel
theorem dX5_mark_124 : decode cX5_mark 124 = .ok (.isub, 1) := by decide +kernel
theorem dX5_mark_125 : decode cX5_mark 125 = .ok (.ireturn, 1) := by decide +kernel
theorem dX5_mark_126 : decode cX5_mark 126 = .ok (.aload_n 3, 1) := by decide +kernel
theorem dX5_mark_127 : decode cX5_mark 127 = .ok (.bipush 10, 2) := by decide +kernel
theorem dX5_mark_129 : decode cX5_mark 129 = .ok (.invokevirtual 152, 3) := by decide +kernel
theorem dX5_mark_132 : decode cX5_mark 132 = .ok (.ireturn, 1) := by decide +kernel
theorem dX5_other_0 : decode cX5_other 0 = .ok (.aload_n 0, 1) := by decide +kernel
theorem dX5_other_1 : decode cX5_other 1 = .ok (.iload_n 1, 1) := by decide +kernel
theorem dX5_other_2 : decode cX5_other 2 = .ok (.invokevirtual 110, 3) := by decide +kernel
theorem dX5_other_5 : decode cX5_other 5 = .ok (.ifCond .eq 10, 3) := by decide +kernel
theorem dX5_other_8 : decode cX5_other 8 = .ok (.iload_n 2, 1) := by decide +kernel
theorem dX5_other_9 : decode cX5_other 9 = .ok (.invokestatic 155, 3) := by decide +kernel
theorem dX5_other_12 : decode cX5_other 12 = .ok (.ifCond .ne 5, 3) := by decide +kernel
theorem dX5_other_15 : decode cX5_other 15 = .ok (.iconst (-1), 1) := by decide +kernel
theorem dX5_other_16 : decode cX5_other 16 = .ok (.ireturn, 1) := by decide +kernel
theorem dX5_other_17 : decode cX5_other 17 = .ok (.aload_n 0, 1) := by decide +kernel
theorem dX5_other_18 : decode cX5_other 18 = .ok (.getfield 29, 3) := by decide +kernel
theorem dX5_other_21 : decode cX5_other 21 = .ok (.getfield 158, 3) := by decide +kernel
theorem dX5_other_24 : decode cX5_other 24 = .ok (.getfield 162, 3) := by decide +kernel
theorem dX5_other_27 : decode cX5_other 27 = .ok (.ifCond .le 6, 3) := by decide +kernel
theorem dX5_other_30 : decode cX5_other 30 = .ok (.bipush (-4), 2) := by decide +kernel
theorem dX5_other_32 : decode cX5_other 32 = .ok (.ireturn, 1) := by decide +kernel
theorem dX5_other_33 : decode cX5_other 33 = .ok (.aload_n 0, 1) := by decide +kernel
theorem dX5_other_34 : decode cX5_other 34 = .ok (.getfield 29, 3) := by decide +kernel
theorem dX5_other_37 : decode cX5_other 37 = .ok (.getfield 116, 3) := by decide +kernel
theorem dX5_other_40 : decode cX5_other 40 = .ok (.iload_n 1, 1) := by decide +kernel
theorem dX5_other_41 : decode cX5_other 41 = .ok (.aaload, 1) := by decide +kernel
theorem dX5_other_42 : decode cX5_other 42 = .ok (.getfield 165, 3) := by decide +kernel
theorem dX5_other_45 : decode cX5_other 45 = .ok (.istore_n 3, 1) := by decide +kernel
theorem dX5_other_46 : decode cX5_other 46 = .ok (.aload_n 0, 1) := by decide +kernel
theorem dX5_other_47 : decode cX5_other 47 = .ok (.getfield 29, 3) := by decide +kernel
theorem dX5_other_50 : decode cX5_other 50 = .ok (.getfield 116, 3) := by decide +kernel
theorem dX5_other_53 : decode cX5_other 53 = .ok (.iload_n 1, 1) := by decide +kernel
theorem dX5_other_54 : decode cX5_other 54 = .ok (.aaload, 1) := by decide +kernel
theorem dX5_other_55 : decode cX5_other 55 = .ok (.iload_n 2, 1) := by decide +kernel
theorem dX5_other_56 : decode cX5_other 56 = .ok (.putfield 165, 3) := by decide +kernel
theorem dX5_other_59 : decode cX5_other 59 = .ok (.iload_n 3, 1) := by decide +kernel
theorem dX5_other_60 : decode cX5_other 60 = .ok (.ireturn, 1) := by decide +kernel
theorem dX5_serve_0 : decode cX5_serve 0 = .ok (.aload_n 0, 1) := by decide +kernel
theorem dX5_serve_1 : decode cX5_serve 1 = .ok (.iload_n 1, 1) := by decide +kernel
theorem dX5_serve_2 : decode cX5_serve 2 = .ok (.invokevirtual 110, 3) := by decide +kernel
theorem dX5_serve_5 : decode cX5_serve 5 = .ok (.ifCond .eq 10, 3) := by decide +kernel
theorem dX5_serve_8 : decode cX5_serve 8 = .ok (.iload_n 2, 1) := by decide +kernel
theorem dX5_serve_9 : decode cX5_serve 9 = .ok (.invokestatic 168, 3) := by decide +kernel
theorem dX5_serve_12 : decode cX5_serve 12 = .ok (.ifCond .ne 5, 3) := by decide +kernel
theorem dX5_serve_15 : decode cX5_serve 15 = .ok (.iconst (-1), 1) := by decide +kernel
theorem dX5_serve_16 : decode cX5_serve 16 = .ok (.ireturn, 1) := by decide +kernel
theorem dX5_serve_17 : decode cX5_serve 17 = .ok (.aload_n 0, 1) := by decide +kernel
theorem dX5_serve_18 : decode cX5_serve 18 = .ok (.getfield 29, 3) := by decide +kernel
theorem dX5_serve_21 : decode cX5_serve 21 = .ok (.getfield 171, 3) := by decide +kernel
theorem dX5_serve_24 : decode cX5_serve 24 = .ok (.aload_n 0, 1) := by decide +kernel
theorem dX5_serve_25 : decode cX5_serve 25 = .ok (.getfield 29, 3) := by decide +kernel
theorem dX5_serve_28 : decode cX5_serve 28 = .ok (.getfield 116, 3) := by decide +kernel
theorem dX5_serve_31 : decode cX5_serve 31 = .ok (.iload_n 1, 1) := by decide +kernel
theorem dX5_serve_32 : decode cX5_serve 32 = .ok (.aaload, 1) := by decide +kernel
theorem dX5_serve_33 : decode cX5_serve 33 = .ok (.iload_n 2, 1) := by decide +kernel
theorem dX5_serve_34 : decode cX5_serve 34 = .ok (.aload_n 0, 1) := by decide +kernel
theorem dX5_serve_35 : decode cX5_serve 35 = .ok (.getfield 29, 3) := by decide +kernel
theorem dX5_serve_38 : decode cX5_serve 38 = .ok (.getfield 125, 3) := by decide +kernel
theorem dX5_serve_41 : decode cX5_serve 41 = .ok (.invokevirtual 174, 3) := by decide +kernel
theorem dX5_serve_44 : decode cX5_serve 44 = .ok (.iadd, 1) := by decide +kernel
theorem dX5_serve_45 : decode cX5_serve 45 = .ok (.sipush 9999, 3) := by decide +kernel
theorem dX5_serve_48 : decode cX5_serve 48 = .ok (.if_icmp .le 6, 3) := by decide +kernel
theorem dX5_serve_51 : decode cX5_serve 51 = .ok (.bipush (-4), 2) := by decide +kernel
theorem dX5_serve_53 : decode cX5_serve 53 = .ok (.ireturn, 1) := by decide +kernel
theorem dX5_serve_54 : decode cX5_serve 54 = .ok (.aload_n 0, 1) := by decide +kernel
theorem dX5_serve_55 : decode cX5_serve 55 = .ok (.getfield 29, 3) := by decide +kernel
theorem dX5_serve_58 : decode cX5_serve 58 = .ok (.getfield 158, 3) := by decide +kernel
theorem dX5_serve_61 : decode cX5_serve 61 = .ok (.getfield 162, 3) := by decide +kernel
theorem dX5_serve_64 : decode cX5_serve 64 = .ok (.bipush 60, 2) := by decide +kernel
theorem dX5_serve_66 : decode cX5_serve 66 = .ok (.if_icmp .lt 6, 3) := by decide +kernel
theorem dX5_serve_69 : decode cX5_serve 69 = .ok (.bipush (-2), 2) := by decide +kernel
theorem dX5_serve_71 : decode cX5_serve 71 = .ok (.ireturn, 1) := by decide +kernel
theorem dX5_serve_72 : decode cX5_serve 72 = .ok (.aload_n 0, 1) := by decide +kernel
theorem dX5_serve_73 : decode cX5_serve 73 = .ok (.getfield 29, 3) := by decide +kernel
theorem dX5_serve_76 : decode cX5_serve 76 = .ok (.iload_n 1, 1) := by decide +kernel
theorem dX5_serve_77 : decode cX5_serve 77 = .ok (.iload_n 2, 1) := by decide +kernel
theorem dX5_serve_78 : decode cX5_serve 78 = .ok (.invokevirtual 177, 3) := by decide +kernel
theorem dX5_serve_81 : decode cX5_serve 81 = .ok (.ireturn, 1) := by decide +kernel
theorem dX5_morning_0 : decode cX5_morning 0 = .ok (.aload_n 0, 1) := by decide +kernel
theorem dX5_morning_1 : decode cX5_morning 1 = .ok (.getfield 29, 3) := by decide +kernel
theorem dX5_morning_4 : decode cX5_morning 4 = .ok (.getfield 107, 3) := by decide +kernel
theorem dX5_morning_7 : decode cX5_morning 7 = .ok (.ifCond .ne 6, 3) := by decide +kernel
theorem dX5_morning_10 : decode cX5_morning 10 = .ok (.bipush (-4), 2) := by decide +kernel
theorem dX5_morning_12 : decode cX5_morning 12 = .ok (.ireturn, 1) := by decide +kernel
theorem dX5_morning_13 : decode cX5_morning 13 = .ok (.aload_n 0, 1) := by decide +kernel
theorem dX5_morning_14 : decode cX5_morning 14 = .ok (.getfield 29, 3) := by decide +kernel
theorem dX5_morning_17 : decode cX5_morning 17 = .ok (.getfield 158, 3) := by decide +kernel
theorem dX5_morning_20 : decode cX5_morning 20 = .ok (.getfield 162, 3) := by decide +kernel
theorem dX5_morning_23 : decode cX5_morning 23 = .ok (.bipush 60, 2) := by decide +kernel
theorem dX5_morning_25 : decode cX5_morning 25 = .ok (.if_icmp .lt 6, 3) := by decide +kernel
theorem dX5_morning_28 : decode cX5_morning 28 = .ok (.bipush (-2), 2) := by decide +kernel
theorem dX5_morning_30 : decode cX5_morning 30 = .ok (.ireturn, 1) := by decide +kernel
theorem dX5_morning_31 : decode cX5_morning 31 = .ok (.aload_n 0, 1) := by decide +kernel
theorem dX5_morning_32 : decode cX5_morning 32 = .ok (.getfield 29, 3) := by decide +kernel
theorem dX5_morning_35 : decode cX5_morning 35 = .ok (.invokevirtual 180, 3) := by decide +kernel
theorem dX5_morning_38 : decode cX5_morning 38 = .ok (.aload_n 0, 1) := by decide +kernel
theorem dX5_morning_39 : decode cX5_morning 39 = .ok (.getfield 29, 3) := by decide +kernel
theorem dX5_morning_42 : decode cX5_morning 42 = .ok (.getfield 125, 3) := by decide +kernel
theorem dX5_morning_45 : decode cX5_morning 45 = .ok (.ireturn, 1) := by decide +kernel
theorem dX5_undo_0 : decode cX5_undo 0 = .ok (.iload_n 1, 1) := by decide +kernel
theorem dX5_undo_1 : decode cX5_undo 1 = .ok (.ifCond .lt 17, 3) := by decide +kernel
theorem dX5_undo_4 : decode cX5_undo 4 = .ok (.iload_n 1, 1) := by decide +kernel
theorem dX5_undo_5 : decode cX5_undo 5 = .ok (.aload_n 0, 1) := by decide +kernel
theorem dX5_undo_6 : decode cX5_undo 6 = .ok (.getfield 29, 3) := by decide +kernel
theorem dX5_undo_9 : decode cX5_undo 9 = .ok (.getfield 158, 3) := by decide +kernel
theorem dX5_undo_12 : decode cX5_undo 12 = .ok (.getfield 162, 3) := by decide +kernel
theorem dX5_undo_15 : decode cX5_undo 15 = .ok (.if_icmp .le 5, 3) := by decide +kernel
theorem dX5_undo_18 : decode cX5_undo 18 = .ok (.iconst (-1), 1) := by decide +kernel
theorem dX5_undo_19 : decode cX5_undo 19 = .ok (.ireturn, 1) := by decide +kernel
theorem dX5_undo_20 : decode cX5_undo 20 = .ok (.aload_n 0, 1) := by decide +kernel
theorem dX5_undo_21 : decode cX5_undo 21 = .ok (.getfield 29, 3) := by decide +kernel
theorem dX5_undo_24 : decode cX5_undo 24 = .ok (.getfield 158, 3) := by decide +kernel
theorem dX5_undo_27 : decode cX5_undo 27 = .ok (.getfield 162, 3) := by decide +kernel
theorem dX5_undo_30 : decode cX5_undo 30 = .ok (.iload_n 1, 1) := by decide +kernel
theorem dX5_undo_31 : decode cX5_undo 31 = .ok (.isub, 1) := by decide +kernel
theorem dX5_undo_32 : decode cX5_undo 32 = .ok (.istore_n 2, 1) := by decide +kernel
theorem dX5_undo_33 : decode cX5_undo 33 = .ok (.aload_n 0, 1) := by decide +kernel
theorem dX5_undo_34 : decode cX5_undo 34 = .ok (.getfield 29, 3) := by decide +kernel
theorem dX5_undo_37 : decode cX5_undo 37 = .ok (.iload_n 1, 1) := by decide +kernel
theorem dX5_undo_38 : decode cX5_undo 38 = .ok (.invokevirtual 183, 3) := by decide +kernel
theorem dX5_undo_41 : decode cX5_undo 41 = .ok (.iload_n 2, 1) := by decide +kernel
theorem dX5_undo_42 : decode cX5_undo 42 = .ok (.ireturn, 1) := by decide +kernel
theorem dX5_keep_0 : decode cX5_keep 0 = .ok (.iload_n 1, 1) := by decide +kernel
theorem dX5_keep_1 : decode cX5_keep 1 = .ok (.invokestatic 187, 3) := by decide +kernel
theorem dX5_keep_4 : decode cX5_keep 4 = .ok (.ifCond .ne 5, 3) := by decide +kernel
theorem dX5_keep_7 : decode cX5_keep 7 = .ok (.iconst (-1), 1) := by decide +kernel
theorem dX5_keep_8 : decode cX5_keep 8 = .ok (.ireturn, 1) := by decide +kernel
theorem dX5_keep_9 : decode cX5_keep 9 = .ok (.aload_n 0, 1) := by decide +kernel
theorem dX5_keep_10 : decode cX5_keep 10 = .ok (.getfield 29, 3) := by decide +kernel
theorem dX5_keep_13 : decode cX5_keep 13 = .ok (.getfield 107, 3) := by decide +kernel
theorem dX5_keep_16 : decode cX5_keep 16 = .ok (.ifCond .ne 6, 3) := by decide +kernel
theorem dX5_keep_19 : decode cX5_keep 19 = .ok (.bipush (-4), 2) := by decide +kernel
theorem dX5_keep_21 : decode cX5_keep 21 = .ok (.ireturn, 1) := by decide +kernel
theorem dX5_keep_22 : decode cX5_keep 22 = .ok (.aload_n 0, 1) := by decide +kernel
theorem dX5_keep_23 : decode cX5_keep 23 = .ok (.getfield 35, 3) := by decide +kernel
theorem dX5_keep_26 : decode cX5_keep 26 = .ok (.iload_n 1, 1) := by decide +kernel
theorem dX5_keep_27 : decode cX5_keep 27 = .ok (.aaload, 1) := by decide +kernel
theorem dX5_keep_28 : decode cX5_keep 28 = .ok (.aload_n 0, 1) := by decide +kernel
theorem dX5_keep_29 : decode cX5_keep 29 = .ok (.getfield 29, 3) := by decide +kernel
theorem dX5_keep_32 : decode cX5_keep 32 = .ok (.invokevirtual 190, 3) := by decide +kernel
theorem dX5_keep_35 : decode cX5_keep 35 = .ok (.aload_n 0, 1) := by decide +kernel
theorem dX5_keep_36 : decode cX5_keep 36 = .ok (.getfield 29, 3) := by decide +kernel
theorem dX5_keep_39 : decode cX5_keep 39 = .ok (.getfield 158, 3) := by decide +kernel
theorem dX5_keep_42 : decode cX5_keep 42 = .ok (.getfield 162, 3) := by decide +kernel
theorem dX5_keep_45 : decode cX5_keep 45 = .ok (.ireturn, 1) := by decide +kernel
theorem dX5_on_0 : decode cX5_on 0 = .ok (.iload_n 1, 1) := by decide +kernel
theorem dX5_on_1 : decode cX5_on 1 = .ok (.invokestatic 187, 3) := by decide +kernel
theorem dX5_on_4 : decode cX5_on 4 = .ok (.ifCond .ne 5, 3) := by decide +kernel
theorem dX5_on_7 : decode cX5_on 7 = .ok (.iconst (-1), 1) := by decide +kernel
theorem dX5_on_8 : decode cX5_on 8 = .ok (.ireturn, 1) := by decide +kernel
theorem dX5_on_9 : decode cX5_on 9 = .ok (.aload_n 0, 1) := by decide +kernel
theorem dX5_on_10 : decode cX5_on 10 = .ok (.getfield 35, 3) := by decide +kernel
theorem dX5_on_13 : decode cX5_on 13 = .ok (.iload_n 1, 1) := by decide +kernel
theorem dX5_on_14 : decode cX5_on 14 = .ok (.aaload, 1) := by decide +kernel
theorem dX5_on_15 : decode cX5_on 15 = .ok (.getfield 103, 3) := by decide +kernel
theorem dX5_on_18 : decode cX5_on 18 = .ok (.ifCond .ne 9, 3) := by decide +kernel
theorem dX5_on_21 : decode cX5_on 21 = .ok (.aload_n 0, 1) := by decide +kernel
theorem dX5_on_22 : decode cX5_on 22 = .ok (.iconst 1, 1) := by decide +kernel
theorem dX5_on_23 : decode cX5_on 23 = .ok (.invokevirtual 68, 3) := by decide +kernel
theorem dX5_on_26 : decode cX5_on 26 = .ok (.ireturn, 1) := by decide +kernel
theorem dX5_on_27 : decode cX5_on 27 = .ok (.aload_n 0, 1) := by decide +kernel
theorem dX5_on_28 : decode cX5_on 28 = .ok (.getfield 35, 3) := by decide +kernel
theorem dX5_on_31 : decode cX5_on 31 = .ok (.iload_n 1, 1) := by decide +kernel
theorem dX5_on_32 : decode cX5_on 32 = .ok (.aaload, 1) := by decide +kernel
theorem dX5_on_33 : decode cX5_on 33 = .ok (.aload_n 0, 1) := by decide +kernel
theorem dX5_on_34 : decode cX5_on 34 = .ok (.getfield 29, 3) := by decide +kernel
theorem dX5_on_37 : decode cX5_on 37 = .ok (.invokevirtual 194, 3) := by decide +kernel
theorem dX5_on_40 : decode cX5_on 40 = .ok (.aload_n 0, 1) := by decide +kernel
theorem dX5_on_41 : decode cX5_on 41 = .ok (.getfield 29, 3) := by decide +kernel
theorem dX5_on_44 : decode cX5_on 44 = .ok (.getfield 158, 3) := by decide +kernel
theorem dX5_on_47 : decode cX5_on 47 = .ok (.getfield 162, 3) := by decide +kernel
theorem dX5_on_50 : decode cX5_on 50 = .ok (.ireturn, 1) := by decide +kernel
theorem dX5_who_0 : decode cX5_who 0 = .ok (.iload_n 1, 1) := by decide +kernel
theorem dX5_who_1 : decode cX5_who 1 = .ok (.invokestatic 197, 3) := by decide +kernel
theorem dX5_who_4 : decode cX5_who 4 = .ok (.ifCond .eq 10, 3) := by decide +kernel
theorem dX5_who_7 : decode cX5_who 7 = .ok (.iload_n 2, 1) := by decide +kernel
theorem dX5_who_8 : decode cX5_who 8 = .ok (.invokestatic 197, 3) := by decide +kernel
theorem dX5_who_11 : decode cX5_who 11 = .ok (.ifCond .ne 5, 3) := by decide +kernel
theorem dX5_who_14 : decode cX5_who 14 = .ok (.iconst (-1), 1) := by decide +kernel
theorem dX5_who_15 : decode cX5_who 15 = .ok (.ireturn, 1) := by decide +kernel
theorem dX5_who_16 : decode cX5_who 16 = .ok (.aload_n 0, 1) := by decide +kernel
theorem dX5_who_17 : decode cX5_who 17 = .ok (.getfield 29, 3) := by decide +kernel
theorem dX5_who_20 : decode cX5_who 20 = .ok (.iload_n 1, 1) := by decide +kernel
theorem dX5_who_21 : decode cX5_who 21 = .ok (.iload_n 2, 1) := by decide +kernel
theorem dX5_who_22 : decode cX5_who 22 = .ok (.invokevirtual 144, 3) := by decide +kernel
theorem dX5_who_25 : decode cX5_who 25 = .ok (.ireturn, 1) := by decide +kernel
theorem dX5_parts_0 : decode cX5_parts 0 = .ok (.aload_n 0, 1) := by decide +kernel
theorem dX5_parts_1 : decode cX5_parts 1 = .ok (.iload_n 1, 1) := by decide +kernel
theorem dX5_parts_2 : decode cX5_parts 2 = .ok (.iload_n 2, 1) := by decide +kernel
theorem dX5_parts_3 : decode cX5_parts 3 = .ok (.invokevirtual 200, 3) := by decide +kernel
theorem dX5_parts_6 : decode cX5_parts 6 = .ok (.ifCond .ne 5, 3) := by decide +kernel
theorem dX5_parts_9 : decode cX5_parts 9 = .ok (.iconst (-1), 1) := by decide +kernel
theorem dX5_parts_10 : decode cX5_parts 10 = .ok (.ireturn, 1) := by decide +kernel
theorem dX5_parts_11 : decode cX5_parts 11 = .ok (.aload_n 0, 1) := by decide +kernel
theorem dX5_parts_12 : decode cX5_parts 12 = .ok (.getfield 29, 3) := by decide +kernel
theorem dX5_parts_15 : decode cX5_parts 15 = .ok (.getfield 116, 3) := by decide +kernel
theorem dX5_parts_18 : decode cX5_parts 18 = .ok (.iload_n 1, 1) := by decide +kernel
theorem dX5_parts_19 : decode cX5_parts 19 = .ok (.aaload, 1) := by decide +kernel
theorem dX5_parts_20 : decode cX5_parts 20 = .ok (.getfield 138, 3) := by decide +kernel
theorem dX5_parts_23 : decode cX5_parts 23 = .ok (.aload_n 0, 1) := by decide +kernel
theorem dX5_parts_24 : decode cX5_parts 24 = .ok (.getfield 29, 3) := by decide +kernel
theorem dX5_parts_27 : decode cX5_parts 27 = .ok (.getfield 116, 3) := by decide +kernel
theorem dX5_parts_30 : decode cX5_parts 30 = .ok (.iload_n 2, 1) := by decide +kernel
theorem dX5_parts_31 : decode cX5_parts 31 = .ok (.aaload, 1) := by decide +kernel
theorem dX5_parts_32 : decode cX5_parts 32 = .ok (.getfield 138, 3) := by decide +kernel
theorem dX5_parts_35 : decode cX5_parts 35 = .ok (.if_icmp .eq 7, 3) := by decide +kernel
theorem dX5_parts_38 : decode cX5_parts 38 = .ok (.iconst 1, 1) := by decide +kernel
theorem dX5_parts_39 : decode cX5_parts 39 = .ok (.goto 4, 3) := by decide +kernel
theorem dX5_parts_42 : decode cX5_parts 42 = .ok (.iconst 0, 1) := by decide +kernel
theorem dX5_parts_43 : decode cX5_parts 43 = .ok (.istore_n 3, 1) := by decide +kernel
theorem dX5_parts_44 : decode cX5_parts 44 = .ok (.aload_n 0, 1) := by decide +kernel
theorem dX5_parts_45 : decode cX5_parts 45 = .ok (.getfield 29, 3) := by decide +kernel
theorem dX5_parts_48 : decode cX5_parts 48 = .ok (.getfield 116, 3) := by decide +kernel
theorem dX5_parts_51 : decode cX5_parts 51 = .ok (.iload_n 1, 1) := by decide +kernel
theorem dX5_parts_52 : decode cX5_parts 52 = .ok (.aaload, 1) := by decide +kernel
theorem dX5_parts_53 : decode cX5_parts 53 = .ok (.getfield 141, 3) := by decide +kernel
theorem dX5_parts_56 : decode cX5_parts 56 = .ok (.aload_n 0, 1) := by decide +kernel
theorem dX5_parts_57 : decode cX5_parts 57 = .ok (.getfield 29, 3) := by decide +kernel
theorem dX5_parts_60 : decode cX5_parts 60 = .ok (.getfield 116, 3) := by decide +kernel
theorem dX5_parts_63 : decode cX5_parts 63 = .ok (.iload_n 2, 1) := by decide +kernel
theorem dX5_parts_64 : decode cX5_parts 64 = .ok (.aaload, 1) := by decide +kernel
theorem dX5_parts_65 : decode cX5_parts 65 = .ok (.getfield 141, 3) := by decide +kernel
theorem dX5_parts_68 : decode cX5_parts 68 = .ok (.if_icmp .eq 7, 3) := by decide +kernel
theorem dX5_parts_71 : decode cX5_parts 71 = .ok (.iconst 2, 1) := by decide +kernel
theorem dX5_parts_72 : decode cX5_parts 72 = .ok (.goto 4, 3) := by decide +kernel
theorem dX5_parts_75 : decode cX5_parts 75 = .ok (.iconst 0, 1) := by decide +kernel
theorem dX5_parts_76 : decode cX5_parts 76 = .ok (.istore 4, 2) := by decide +kernel
theorem dX5_parts_78 : decode cX5_parts 78 = .ok (.iload_n 3, 1) := by decide +kernel
theorem dX5_parts_79 : decode cX5_parts 79 = .ok (.iload 4, 2) := by decide +kernel
theorem dX5_parts_81 : decode cX5_parts 81 = .ok (.iadd, 1) := by decide +kernel
theorem dX5_parts_82 : decode cX5_parts 82 = .ok (.ireturn, 1) := by decide +kernel
theorem dX5_wants_0 : decode cX5_wants 0 = .ok (.aload_n 0, 1) := by decide +kernel
theorem dX5_wants_1 : decode cX5_wants 1 = .ok (.iload_n 1, 1) := by decide +kernel
theorem dX5_wants_2 : decode cX5_wants 2 = .ok (.invokevirtual 110, 3) := by decide +kernel
theorem dX5_wants_5 : decode cX5_wants 5 = .ok (.ifCond .eq 10, 3) := by decide +kernel
theorem dX5_wants_8 : decode cX5_wants 8 = .ok (.iload_n 2, 1) := by decide +kernel
theorem dX5_wants_9 : decode cX5_wants 9 = .ok (.invokestatic 204, 3) := by decide +kernel
theorem dX5_wants_12 : decode cX5_wants 12 = .ok (.ifCond .ne 5, 3) := by decide +kernel
theorem dX5_wants_15 : decode cX5_wants 15 = .ok (.iconst (-1), 1) := by decide +kernel
theorem dX5_wants_16 : decode cX5_wants 16 = .ok (.ireturn, 1) := by decide +kernel
theorem dX5_wants_17 : decode cX5_wants 17 = .ok (.aload_n 0, 1) := by decide +kernel
theorem dX5_wants_18 : decode cX5_wants 18 = .ok (.getfield 29, 3) := by decide +kernel
theorem dX5_wants_21 : decode cX5_wants 21 = .ok (.getfield 116, 3) := by decide +kernel
theorem dX5_wants_24 : decode cX5_wants 24 = .ok (.iload_n 1, 1) := by decide +kernel
theorem dX5_wants_25 : decode cX5_wants 25 = .ok (.aaload, 1) := by decide +kernel
theorem dX5_wants_26 : decode cX5_wants 26 = .ok (.iload_n 2, 1) := by decide +kernel
theorem dX5_wants_27 : decode cX5_wants 27 = .ok (.invokevirtual 207, 3) := by decide +kernel
theorem dX5_wants_30 : decode cX5_wants 30 = .ok (.ireturn, 1) := by decide +kernel
theorem dX5_likely_0 : decode cX5_likely 0 = .ok (.iload_n 1, 1) := by decide +kernel
theorem dX5_likely_1 : decode cX5_likely 1 = .ok (.invokestatic 197, 3) := by decide +kernel
theorem dX5_likely_4 : decode cX5_likely 4 = .ok (.ifCond .eq 17, 3) := by decide +kernel
theorem dX5_likely_7 : decode cX5_likely 7 = .ok (.iload_n 2, 1) := by decide +kernel
theorem dX5_likely_8 : decode cX5_likely 8 = .ok (.invokestatic 197, 3) := by decide +kernel
theorem dX5_likely_11 : decode cX5_likely 11 = .ok (.ifCond .eq 10, 3) := by decide +kernel
theorem dX5_likely_14 : decode cX5_likely 14 = .ok (.iload_n 3, 1) := by decide +kernel
theorem dX5_likely_15 : decode cX5_likely 15 = .ok (.invokestatic 155, 3) := by decide +kernel
theorem dX5_likely_18 : decode cX5_likely 18 = .ok (.ifCond .ne 5, 3) := by decide +kernel
theorem dX5_likely_21 : decode cX5_likely 21 = .ok (.iconst (-1), 1) := by decide +kernel
theorem dX5_likely_22 : decode cX5_likely 22 = .ok (.ireturn, 1) := by decide +kernel
theorem dX5_likely_23 : decode cX5_likely 23 = .ok (.aload_n 0, 1) := by decide +kernel
theorem dX5_likely_24 : decode cX5_likely 24 = .ok (.getfield 29, 3) := by decide +kernel
theorem dX5_likely_27 : decode cX5_likely 27 = .ok (.iload_n 1, 1) := by decide +kernel
theorem dX5_likely_28 : decode cX5_likely 28 = .ok (.iload_n 2, 1) := by decide +kernel
theorem dX5_likely_29 : decode cX5_likely 29 = .ok (.invokevirtual 144, 3) := by decide +kernel
theorem dX5_likely_32 : decode cX5_likely 32 = .ok (.istore 4, 2) := by decide +kernel
theorem dX5_likely_34 : decode cX5_likely 34 = .ok (.iload 4, 2) := by decide +kernel
theorem dX5_likely_36 : decode cX5_likely 36 = .ok (.ifCond .ne 9, 3) := by decide +kernel
theorem dX5_likely_39 : decode cX5_likely 39 = .ok (.aload_n 0, 1) := by decide +kernel
theorem dX5_likely_40 : decode cX5_likely 40 = .ok (.iconst 4, 1) := by decide +kernel
theorem dX5_likely_41 : decode cX5_likely 41 = .ok (.invokevirtual 68, 3) := by decide +kernel
theorem dX5_likely_44 : decode cX5_likely 44 = .ok (.ireturn, 1) := by decide +kernel
theorem dX5_likely_45 : decode cX5_likely 45 = .ok (.aload_n 0, 1) := by decide +kernel
theorem dX5_likely_46 : decode cX5_likely 46 = .ok (.aload_n 0, 1) := by decide +kernel
theorem dX5_likely_47 : decode cX5_likely 47 = .ok (.getfield 29, 3) := by decide +kernel
theorem dX5_likely_50 : decode cX5_likely 50 = .ok (.iload 4, 2) := by decide +kernel
theorem dX5_likely_52 : decode cX5_likely 52 = .ok (.iload_n 3, 1) := by decide +kernel
theorem dX5_likely_53 : decode cX5_likely 53 = .ok (.invokevirtual 210, 3) := by decide +kernel
theorem dX5_likely_56 : decode cX5_likely 56 = .ok (.i2l, 1) := by decide +kernel
theorem dX5_likely_57 : decode cX5_likely 57 = .ok (.aload_n 0, 1) := by decide +kernel
theorem dX5_likely_58 : decode cX5_likely 58 = .ok (.getfield 29, 3) := by decide +kernel
theorem dX5_likely_61 : decode cX5_likely 61 = .ok (.iload 4, 2) := by decide +kernel
theorem dX5_likely_63 : decode cX5_likely 63 = .ok (.invokevirtual 213, 3) := by decide +kernel
theorem dX5_likely_66 : decode cX5_likely 66 = .ok (.i2l, 1) := by decide +kernel
theorem dX5_likely_67 : decode cX5_likely 67 = .ok (.invokevirtual 216, 3) := by decide +kernel
theorem dX5_likely_70 : decode cX5_likely 70 = .ok (.iconst 1, 1) := by decide +kernel
theorem dX5_likely_71 : decode cX5_likely 71 = .ok (.ireturn, 1) := by decide +kernel
theorem dX5_takes_0 : decode cX5_takes 0 = .ok (.iload_n 1, 1) := by decide +kernel
theorem dX5_takes_1 : decode cX5_takes 1 = .ok (.invokestatic 197, 3) := by decide +kernel
theorem dX5_takes_4 : decode cX5_takes 4 = .ok (.ifCond .eq 17, 3) := by decide +kernel
theorem dX5_takes_7 : decode cX5_takes 7 = .ok (.iload_n 2, 1) := by decide +kernel
theorem dX5_takes_8 : decode cX5_takes 8 = .ok (.invokestatic 197, 3) := by decide +kernel
theorem dX5_takes_11 : decode cX5_takes 11 = .ok (.ifCond .eq 10, 3) := by decide +kernel
theorem dX5_takes_14 : decode cX5_takes 14 = .ok (.iload_n 3, 1) := by decide +kernel
theorem dX5_takes_15 : decode cX5_takes 15 = .ok (.invokestatic 168, 3) := by decide +kernel
theorem dX5_takes_18 : decode cX5_takes 18 = .ok (.ifCond .ne 5, 3) := by decide +kernel
theorem dX5_takes_21 : decode cX5_takes 21 = .ok (.iconst (-1), 1) := by decide +kernel
theorem dX5_takes_22 : decode cX5_takes 22 = .ok (.ireturn, 1) := by decide +kernel
theorem dX5_takes_23 : decode cX5_takes 23 = .ok (.aload_n 0, 1) := by decide +kernel
theorem dX5_takes_24 : decode cX5_takes 24 = .ok (.getfield 29, 3) := by decide +kernel
theorem dX5_takes_27 : decode cX5_takes 27 = .ok (.iload_n 1, 1) := by decide +kernel
theorem dX5_takes_28 : decode cX5_takes 28 = .ok (.iload_n 2, 1) := by decide +kernel
theorem dX5_takes_29 : decode cX5_takes 29 = .ok (.invokevirtual 144, 3) := by decide +kernel
theorem dX5_takes_32 : decode cX5_takes 32 = .ok (.istore 4, 2) := by decide +kernel
theorem dX5_takes_34 : decode cX5_takes 34 = .ok (.iload 4, 2) := by decide +kernel
theorem dX5_takes_36 : decode cX5_takes 36 = .ok (.ifCond .ne 9, 3) := by decide +kernel
theorem dX5_takes_39 : decode cX5_takes 39 = .ok (.aload_n 0, 1) := by decide +kernel
theorem dX5_takes_40 : decode cX5_takes 40 = .ok (.iconst 4, 1) := by decide +kernel
theorem dX5_takes_41 : decode cX5_takes 41 = .ok (.invokevirtual 68, 3) := by decide +kernel
theorem dX5_takes_44 : decode cX5_takes 44 = .ok (.ireturn, 1) := by decide +kernel
theorem dX5_takes_45 : decode cX5_takes 45 = .ok (.aload_n 0, 1) := by decide +kernel
theorem dX5_takes_46 : decode cX5_takes 46 = .ok (.aload_n 0, 1) := by decide +kernel
theorem dX5_takes_47 : decode cX5_takes 47 = .ok (.getfield 29, 3) := by decide +kernel
theorem dX5_takes_50 : decode cX5_takes 50 = .ok (.iload 4, 2) := by decide +kernel
theorem dX5_takes_52 : decode cX5_takes 52 = .ok (.iload_n 3, 1) := by decide +kernel
theorem dX5_takes_53 : decode cX5_takes 53 = .ok (.invokevirtual 220, 3) := by decide +kernel
theorem dX5_takes_56 : decode cX5_takes 56 = .ok (.i2l, 1) := by decide +kernel
theorem dX5_takes_57 : decode cX5_takes 57 = .ok (.aload_n 0, 1) := by decide +kernel
theorem dX5_takes_58 : decode cX5_takes 58 = .ok (.getfield 29, 3) := by decide +kernel
theorem dX5_takes_61 : decode cX5_takes 61 = .ok (.iload 4, 2) := by decide +kernel
theorem dX5_takes_63 : decode cX5_takes 63 = .ok (.invokevirtual 213, 3) := by decide +kernel
theorem dX5_takes_66 : decode cX5_takes 66 = .ok (.i2l, 1) := by decide +kernel
theorem dX5_takes_67 : decode cX5_takes 67 = .ok (.invokevirtual 216, 3) := by decide +kernel
theorem dX5_takes_70 : decode cX5_takes 70 = .ok (.iconst 1, 1) := by decide +kernel
theorem dX5_takes_71 : decode cX5_takes 71 = .ok (.ireturn, 1) := by decide +kernel
theorem dX5_quickest_0 : decode cX5_quickest 0 = .ok (.iload_n 1, 1) := by decide +kernel
theorem dX5_quickest_1 : decode cX5_quickest 1 = .ok (.invokestatic 197, 3) := by decide +kernel
theorem dX5_quickest_4 : decode cX5_quickest 4 = .ok (.ifCond .eq 10, 3) := by decide +kernel
theorem dX5_quickest_7 : decode cX5_quickest 7 = .ok (.iload_n 2, 1) := by decide +kernel
theorem dX5_quickest_8 : decode cX5_quickest 8 = .ok (.invokestatic 197, 3) := by decide +kernel
theorem dX5_quickest_11 : decode cX5_quickest 11 = .ok (.ifCond .ne 5, 3) := by decide +kernel
theorem dX5_quickest_14 : decode cX5_quickest 14 = .ok (.iconst (-1), 1) := by decide +kernel
theorem dX5_quickest_15 : decode cX5_quickest 15 = .ok (.ireturn, 1) := by decide +kernel
theorem dX5_quickest_16 : decode cX5_quickest 16 = .ok (.aload_n 0, 1) := by decide +kernel
theorem dX5_quickest_17 : decode cX5_quickest 17 = .ok (.getfield 29, 3) := by decide +kernel
theorem dX5_quickest_20 : decode cX5_quickest 20 = .ok (.iload_n 1, 1) := by decide +kernel
theorem dX5_quickest_21 : decode cX5_quickest 21 = .ok (.iload_n 2, 1) := by decide +kernel
theorem dX5_quickest_22 : decode cX5_quickest 22 = .ok (.invokevirtual 144, 3) := by decide +kernel
theorem dX5_quickest_25 : decode cX5_quickest 25 = .ok (.istore_n 3, 1) := by decide +kernel
theorem dX5_quickest_26 : decode cX5_quickest 26 = .ok (.iload_n 3, 1) := by decide +kernel
theorem dX5_quickest_27 : decode cX5_quickest 27 = .ok (.ifCond .ne 9, 3) := by decide +kernel
theorem dX5_quickest_30 : decode cX5_quickest 30 = .ok (.aload_n 0, 1) := by decide +kernel
theorem dX5_quickest_31 : decode cX5_quickest 31 = .ok (.iconst 4, 1) := by decide +kernel
theorem dX5_quickest_32 : decode cX5_quickest 32 = .ok (.invokevirtual 68, 3) := by decide +kernel
theorem dX5_quickest_35 : decode cX5_quickest 35 = .ok (.ireturn, 1) := by decide +kernel
theorem dX5_quickest_36 : decode cX5_quickest 36 = .ok (.aload_n 0, 1) := by decide +kernel
theorem dX5_quickest_37 : decode cX5_quickest 37 = .ok (.getfield 29, 3) := by decide +kernel
theorem dX5_quickest_40 : decode cX5_quickest 40 = .ok (.iload_n 3, 1) := by decide +kernel
theorem dX5_quickest_41 : decode cX5_quickest 41 = .ok (.invokevirtual 223, 3) := by decide +kernel
theorem dX5_quickest_44 : decode cX5_quickest 44 = .ok (.istore 4, 2) := by decide +kernel
theorem dX5_quickest_46 : decode cX5_quickest 46 = .ok (.aload_n 0, 1) := by decide +kernel
theorem dX5_quickest_47 : decode cX5_quickest 47 = .ok (.aload_n 0, 1) := by decide +kernel
theorem dX5_quickest_48 : decode cX5_quickest 48 = .ok (.getfield 29, 3) := by decide +kernel
theorem dX5_quickest_51 : decode cX5_quickest 51 = .ok (.iload_n 3, 1) := by decide +kernel
theorem dX5_quickest_52 : decode cX5_quickest 52 = .ok (.iload 4, 2) := by decide +kernel
theorem dX5_quickest_54 : decode cX5_quickest 54 = .ok (.invokevirtual 226, 3) := by decide +kernel
theorem dX5_quickest_57 : decode cX5_quickest 57 = .ok (.invokestatic 147, 3) := by decide +kernel
theorem dX5_quickest_60 : decode cX5_quickest 60 = .ok (.putfield 53, 3) := by decide +kernel
theorem dX5_quickest_63 : decode cX5_quickest 63 = .ok (.iload 4, 2) := by decide +kernel
theorem dX5_quickest_65 : decode cX5_quickest 65 = .ok (.ireturn, 1) := by decide +kernel
theorem dX5_queue_0 : decode cX5_queue 0 = .ok (.aload_n 0, 1) := by decide +kernel
theorem dX5_queue_1 : decode cX5_queue 1 = .ok (.iload_n 1, 1) := by decide +kernel
theorem dX5_queue_2 : decode cX5_queue 2 = .ok (.invokevirtual 229, 3) := by decide +kernel
theorem dX5_queue_5 : decode cX5_queue 5 = .ok (.istore_n 2, 1) := by decide +kernel
theorem dX5_queue_6 : decode cX5_queue 6 = .ok (.iload_n 2, 1) := by decide +kernel
theorem dX5_queue_7 : decode cX5_queue 7 = .ok (.ifCond .eq 5, 3) := by decide +kernel
theorem dX5_queue_10 : decode cX5_queue 10 = .ok (.iload_n 2, 1) := by decide +kernel
theorem dX5_queue_11 : decode cX5_queue 11 = .ok (.ireturn, 1) := by decide +kernel
theorem dX5_queue_12 : decode cX5_queue 12 = .ok (.aload_n 0, 1) := by decide +kernel
theorem dX5_queue_13 : decode cX5_queue 13 = .ok (.getfield 42, 3) := by decide +kernel
theorem dX5_queue_16 : decode cX5_queue 16 = .ok (.aload_n 0, 1) := by decide +kernel
theorem dX5_queue_17 : decode cX5_queue 17 = .ok (.getfield 29, 3) := by decide +kernel
theorem dX5_queue_20 : decode cX5_queue 20 = .ok (.getfield 116, 3) := by decide +kernel
theorem dX5_queue_23 : decode cX5_queue 23 = .ok (.aload_n 0, 1) := by decide +kernel
theorem dX5_queue_24 : decode cX5_queue 24 = .ok (.getfield 11, 3) := by decide +kernel
theorem dX5_queue_27 : decode cX5_queue 27 = .ok (.iload_n 1, 1) := by decide +kernel
theorem dX5_queue_28 : decode cX5_queue 28 = .ok (.aaload, 1) := by decide +kernel
theorem dX5_queue_29 : decode cX5_queue 29 = .ok (.aload_n 0, 1) := by decide +kernel
theorem dX5_queue_30 : decode cX5_queue 30 = .ok (.getfield 14, 3) := by decide +kernel
theorem dX5_queue_33 : decode cX5_queue 33 = .ok (.iload_n 1, 1) := by decide +kernel
theorem dX5_queue_34 : decode cX5_queue 34 = .ok (.iaload, 1) := by decide +kernel
theorem dX5_queue_35 : decode cX5_queue 35 = .ok (.sipush 9999, 3) := by decide +kernel
theorem dX5_queue_38 : decode cX5_queue 38 = .ok (.invokevirtual 232, 3) := by decide +kernel
theorem dX5_queue_41 : decode cX5_queue 41 = .ok (.aload_n 0, 1) := by decide +kernel
theorem dX5_queue_42 : decode cX5_queue 42 = .ok (.aload_n 0, 1) := by decide +kernel
theorem dX5_queue_43 : decode cX5_queue 43 = .ok (.getfield 42, 3) := by decide +kernel
theorem dX5_queue_46 : decode cX5_queue 46 = .ok (.getfield 236, 3) := by decide +kernel
theorem dX5_queue_49 : decode cX5_queue 49 = .ok (.putfield 53, 3) := by decide +kernel
theorem dX5_queue_52 : decode cX5_queue 52 = .ok (.aload_n 0, 1) := by decide +kernel
theorem dX5_queue_53 : decode cX5_queue 53 = .ok (.getfield 42, 3) := by decide +kernel
theorem dX5_queue_56 : decode cX5_queue 56 = .ok (.getfield 239, 3) := by decide +kernel
theorem dX5_queue_59 : decode cX5_queue 59 = .ok (.ireturn, 1) := by decide +kernel
theorem dX5_by_0 : decode cX5_by 0 = .ok (.iload_n 2, 1) := by decide +kernel
theorem dX5_by_1 : decode cX5_by 1 = .ok (.ifCond .lt 10, 3) := by decide +kernel
theorem dX5_by_4 : decode cX5_by 4 = .ok (.iload_n 2, 1) := by decide +kernel
theorem dX5_by_5 : decode cX5_by 5 = .ok (.sipush 9999, 3) := by decide +kernel
theorem dX5_by_8 : decode cX5_by 8 = .ok (.if_icmp .le 5, 3) := by decide +kernel
theorem dX5_by_11 : decode cX5_by 11 = .ok (.iconst (-1), 1) := by decide +kernel
theorem dX5_by_12 : decode cX5_by 12 = .ok (.ireturn, 1) := by decide +kernel
theorem dX5_by_13 : decode cX5_by 13 = .ok (.aload_n 0, 1) := by decide +kernel
theorem dX5_by_14 : decode cX5_by 14 = .ok (.iload_n 1, 1) := by decide +kernel
theorem dX5_by_15 : decode cX5_by 15 = .ok (.invokevirtual 229, 3) := by decide +kernel
theorem dX5_by_18 : decode cX5_by 18 = .ok (.istore_n 3, 1) := by decide +kernel
theorem dX5_by_19 : decode cX5_by 19 = .ok (.iload_n 3, 1) := by decide +kernel
theorem dX5_by_20 : decode cX5_by 20 = .ok (.ifCond .eq 5, 3) := by decide +kernel
theorem dX5_by_23 : decode cX5_by 23 = .ok (.iload_n 3, 1) := by decide +kernel
theorem dX5_by_24 : decode cX5_by 24 = .ok (.ireturn, 1) := by decide +kernel
theorem dX5_by_25 : decode cX5_by 25 = .ok (.aload_n 0, 1) := by decide +kernel
theorem dX5_by_26 : decode cX5_by 26 = .ok (.getfield 42, 3) := by decide +kernel
theorem dX5_by_29 : decode cX5_by 29 = .ok (.aload_n 0, 1) := by decide +kernel
theorem dX5_by_30 : decode cX5_by 30 = .ok (.getfield 29, 3) := by decide +kernel
theorem dX5_by_33 : decode cX5_by 33 = .ok (.getfield 116, 3) := by decide +kernel
theorem dX5_by_36 : decode cX5_by 36 = .ok (.aload_n 0, 1) := by decide +kernel
theorem dX5_by_37 : decode cX5_by 37 = .ok (.getfield 11, 3) := by decide +kernel
theorem dX5_by_40 : decode cX5_by 40 = .ok (.iload_n 1, 1) := by decide +kernel
theorem dX5_by_41 : decode cX5_by 41 = .ok (.aaload, 1) := by decide +kernel
theorem dX5_by_42 : decode cX5_by 42 = .ok (.aload_n 0, 1) := by decide +kernel
theorem dX5_by_43 : decode cX5_by 43 = .ok (.getfield 14, 3) := by decide +kernel
theorem dX5_by_46 : decode cX5_by 46 = .ok (.iload_n 1, 1) := by decide +kernel
theorem dX5_by_47 : decode cX5_by 47 = .ok (.iaload, 1) := by decide +kernel
theorem dX5_by_48 : decode cX5_by 48 = .ok (.iload_n 2, 1) := by decide +kernel
theorem dX5_by_49 : decode cX5_by 49 = .ok (.invokevirtual 232, 3) := by decide +kernel
theorem dX5_by_52 : decode cX5_by 52 = .ok (.aload_n 0, 1) := by decide +kernel
theorem dX5_by_53 : decode cX5_by 53 = .ok (.getfield 42, 3) := by decide +kernel
theorem dX5_by_56 : decode cX5_by 56 = .ok (.getfield 242, 3) := by decide +kernel
theorem dX5_by_59 : decode cX5_by 59 = .ok (.ireturn, 1) := by decide +kernel
theorem dX5_order_0 : decode cX5_order 0 = .ok (.iload_n 1, 1) := by decide +kernel
theorem dX5_order_1 : decode cX5_order 1 = .ok (.invokestatic 64, 3) := by decide +kernel
theorem dX5_order_4 : decode cX5_order 4 = .ok (.ifCond .ne 5, 3) := by decide +kernel
theorem dX5_order_7 : decode cX5_order 7 = .ok (.iconst (-1), 1) := by decide +kernel
theorem dX5_order_8 : decode cX5_order 8 = .ok (.ireturn, 1) := by decide +kernel
theorem dX5_order_9 : decode cX5_order 9 = .ok (.aload_n 0, 1) := by decide +kernel
theorem dX5_order_10 : decode cX5_order 10 = .ok (.getfield 29, 3) := by decide +kernel
theorem dX5_order_13 : decode cX5_order 13 = .ok (.getfield 107, 3) := by decide +kernel
theorem dX5_order_16 : decode cX5_order 16 = .ok (.ifCond .ne 6, 3) := by decide +kernel
theorem dX5_order_19 : decode cX5_order 19 = .ok (.bipush (-4), 2) := by decide +kernel
theorem dX5_order_21 : decode cX5_order 21 = .ok (.ireturn, 1) := by decide +kernel
theorem dX5_order_22 : decode cX5_order 22 = .ok (.aload_n 0, 1) := by decide +kernel
theorem dX5_order_23 : decode cX5_order 23 = .ok (.iload_n 1, 1) := by decide +kernel
theorem dX5_order_24 : decode cX5_order 24 = .ok (.aload_n 0, 1) := by decide +kernel
theorem dX5_order_25 : decode cX5_order 25 = .ok (.getfield 29, 3) := by decide +kernel
theorem dX5_order_28 : decode cX5_order 28 = .ok (.getfield 107, 3) := by decide +kernel
theorem dX5_order_31 : decode cX5_order 31 = .ok (.invokevirtual 72, 3) := by decide +kernel
theorem dX5_order_34 : decode cX5_order 34 = .ok (.aload_n 0, 1) := by decide +kernel
theorem dX5_order_35 : decode cX5_order 35 = .ok (.iload_n 1, 1) := by decide +kernel
theorem dX5_order_36 : decode cX5_order 36 = .ok (.iconst 0, 1) := by decide +kernel
theorem dX5_order_37 : decode cX5_order 37 = .ok (.iconst 1, 1) := by decide +kernel
theorem dX5_order_38 : decode cX5_order 38 = .ok (.invokevirtual 245, 3) := by decide +kernel
theorem dX5_order_41 : decode cX5_order 41 = .ok (.istore_n 2, 1) := by decide +kernel
theorem dX5_order_42 : decode cX5_order 42 = .ok (.aload_n 0, 1) := by decide +kernel
theorem dX5_order_43 : decode cX5_order 43 = .ok (.iload_n 1, 1) := by decide +kernel
theorem dX5_order_44 : decode cX5_order 44 = .ok (.iload_n 2, 1) := by decide +kernel
theorem dX5_order_45 : decode cX5_order 45 = .ok (.iconst 0, 1) := by decide +kernel
theorem dX5_order_46 : decode cX5_order 46 = .ok (.invokevirtual 245, 3) := by decide +kernel
theorem dX5_order_49 : decode cX5_order 49 = .ok (.pop, 1) := by decide +kernel
theorem dX5_order_50 : decode cX5_order 50 = .ok (.iconst 0, 1) := by decide +kernel
theorem dX5_order_51 : decode cX5_order 51 = .ok (.istore_n 3, 1) := by decide +kernel
theorem dX5_order_52 : decode cX5_order 52 = .ok (.iconst 0, 1) := by decide +kernel
theorem dX5_order_53 : decode cX5_order 53 = .ok (.istore 4, 2) := by decide +kernel
theorem dX5_order_55 : decode cX5_order 55 = .ok (.iconst 0, 1) := by decide +kernel
theorem dX5_order_56 : decode cX5_order 56 = .ok (.istore 5, 2) := by decide +kernel
theorem dX5_order_58 : decode cX5_order 58 = .ok (.iload 5, 2) := by decide +kernel
theorem dX5_order_60 : decode cX5_order 60 = .ok (.aload_n 0, 1) := by decide +kernel
theorem dX5_order_61 : decode cX5_order 61 = .ok (.getfield 29, 3) := by decide +kernel
theorem dX5_order_64 : decode cX5_order 64 = .ok (.getfield 107, 3) := by decide +kernel
theorem dX5_order_67 : decode cX5_order 67 = .ok (.if_icmp .ge 32, 3) := by decide +kernel
theorem dX5_order_70 : decode cX5_order 70 = .ok (.iload_n 3, 1) := by decide +kernel
theorem dX5_order_71 : decode cX5_order 71 = .ok (.iload 4, 2) := by decide +kernel
theorem dX5_order_73 : decode cX5_order 73 = .ok (.iadd, 1) := by decide +kernel
theorem dX5_order_74 : decode cX5_order 74 = .ok (.istore_n 3, 1) := by decide +kernel
theorem dX5_order_75 : decode cX5_order 75 = .ok (.iload 4, 2) := by decide +kernel
theorem dX5_order_77 : decode cX5_order 77 = .ok (.iload 5, 2) := by decide +kernel
theorem dX5_order_79 : decode cX5_order 79 = .ok (.iload_n 2, 1) := by decide +kernel
theorem dX5_order_80 : decode cX5_order 80 = .ok (.if_icmp .ge 8, 3) := by decide +kernel
theorem dX5_order_83 : decode cX5_order 83 = .ok (.bipush 9, 2) := by decide +kernel
theorem dX5_order_85 : decode cX5_order 85 = .ok (.goto 5, 3) := by decide +kernel
theorem dX5_order_88 : decode cX5_order 88 = .ok (.bipush 40, 2) := by decide +kernel
theorem dX5_order_90 : decode cX5_order 90 = .ok (.iadd, 1) := by decide +kernel
theorem dX5_order_91 : decode cX5_order 91 = .ok (.istore 4, 2) := by decide +kernel
theorem dX5_order_93 : decode cX5_order 93 = .ok (.iinc 5 1, 3) := by decide +kernel
theorem dX5_order_96 : decode cX5_order 96 = .ok (.goto (-38), 3) := by decide +kernel
theorem dX5_order_99 : decode cX5_order 99 = .ok (.iload_n 3, 1) := by decide +kernel
theorem dX5_order_100 : decode cX5_order 100 = .ok (.ireturn, 1) := by decide +kernel
theorem dX5_learn_0 : decode cX5_learn 0 = .ok (.iload_n 1, 1) := by decide +kernel
theorem dX5_learn_1 : decode cX5_learn 1 = .ok (.ifCond .lt 9, 3) := by decide +kernel
theorem dX5_learn_4 : decode cX5_learn 4 = .ok (.iload_n 1, 1) := by decide +kernel
theorem dX5_learn_5 : decode cX5_learn 5 = .ok (.bipush 6, 2) := by decide +kernel
theorem dX5_learn_7 : decode cX5_learn 7 = .ok (.if_icmp .le 5, 3) := by decide +kernel
theorem dX5_learn_10 : decode cX5_learn 10 = .ok (.iconst (-1), 1) := by decide +kernel
theorem dX5_learn_11 : decode cX5_learn 11 = .ok (.ireturn, 1) := by decide +kernel
theorem dX5_learn_12 : decode cX5_learn 12 = .ok (.iload_n 1, 1) := by decide +kernel
theorem dX5_learn_13 : decode cX5_learn 13 = .ok (.aload_n 0, 1) := by decide +kernel
theorem dX5_learn_14 : decode cX5_learn 14 = .ok (.getfield 29, 3) := by decide +kernel
theorem dX5_learn_17 : decode cX5_learn 17 = .ok (.getfield 107, 3) := by decide +kernel
theorem dX5_learn_20 : decode cX5_learn 20 = .ok (.if_icmp .le 6, 3) := by decide +kernel
theorem dX5_learn_23 : decode cX5_learn 23 = .ok (.bipush (-4), 2) := by decide +kernel
theorem dX5_learn_25 : decode cX5_learn 25 = .ok (.ireturn, 1) := by decide +kernel
theorem dX5_learn_26 : decode cX5_learn 26 = .ok (.iconst 1, 1) := by decide +kernel
theorem dX5_learn_27 : decode cX5_learn 27 = .ok (.iload_n 1, 1) := by decide +kernel
theorem dX5_learn_28 : decode cX5_learn 28 = .ok (.ishl, 1) := by decide +kernel
theorem dX5_learn_29 : decode cX5_learn 29 = .ok (.iconst 1, 1) := by decide +kernel
theorem dX5_learn_30 : decode cX5_learn 30 = .ok (.isub, 1) := by decide +kernel
theorem dX5_learn_31 : decode cX5_learn 31 = .ok (.istore_n 2, 1) := by decide +kernel
theorem dX5_learn_32 : decode cX5_learn 32 = .ok (.aload_n 0, 1) := by decide +kernel
theorem dX5_learn_33 : decode cX5_learn 33 = .ok (.getfield 29, 3) := by decide +kernel
theorem dX5_learn_36 : decode cX5_learn 36 = .ok (.iload_n 2, 1) := by decide +kernel
theorem dX5_learn_37 : decode cX5_learn 37 = .ok (.invokevirtual 249, 3) := by decide +kernel
theorem dX5_learn_40 : decode cX5_learn 40 = .ok (.istore_n 3, 1) := by decide +kernel
theorem dX5_learn_41 : decode cX5_learn 41 = .ok (.iload_n 2, 1) := by decide +kernel
theorem dX5_learn_42 : decode cX5_learn 42 = .ok (.iconst 1, 1) := by decide +kernel
theorem dX5_learn_43 : decode cX5_learn 43 = .ok (.iadd, 1) := by decide +kernel
theorem dX5_learn_44 : decode cX5_learn 44 = .ok (.istore 4, 2) := by decide +kernel
theorem dX5_learn_46 : decode cX5_learn 46 = .ok (.iload 4, 2) := by decide +kernel
theorem dX5_learn_48 : decode cX5_learn 48 = .ok (.iconst 1, 1) := by decide +kernel
theorem dX5_learn_49 : decode cX5_learn 49 = .ok (.aload_n 0, 1) := by decide +kernel
theorem dX5_learn_50 : decode cX5_learn 50 = .ok (.getfield 29, 3) := by decide +kernel
theorem dX5_learn_53 : decode cX5_learn 53 = .ok (.getfield 107, 3) := by decide +kernel
theorem dX5_learn_56 : decode cX5_learn 56 = .ok (.ishl, 1) := by decide +kernel
theorem dX5_learn_57 : decode cX5_learn 57 = .ok (.if_icmp .ge 41, 3) := by decide +kernel
theorem dX5_learn_60 : decode cX5_learn 60 = .ok (.aload_n 0, 1) := by decide +kernel
theorem dX5_learn_61 : decode cX5_learn 61 = .ok (.getfield 29, 3) := by decide +kernel
theorem dX5_learn_64 : decode cX5_learn 64 = .ok (.iload 4, 2) := by decide +kernel
theorem dX5_learn_66 : decode cX5_learn 66 = .ok (.invokevirtual 249, 3) := by decide +kernel
theorem dX5_learn_69 : decode cX5_learn 69 = .ok (.istore 5, 2) := by decide +kernel
theorem dX5_learn_71 : decode cX5_learn 71 = .ok (.iload 4, 2) := by decide +kernel
theorem dX5_learn_73 : decode cX5_learn 73 = .ok (.invokestatic 147, 3) := by decide +kernel
theorem dX5_learn_76 : decode cX5_learn 76 = .ok (.iload_n 1, 1) := by decide +kernel
theorem dX5_learn_77 : decode cX5_learn 77 = .ok (.if_icmp .ne 15, 3) := by decide +kernel
theorem dX5_learn_80 : decode cX5_learn 80 = .ok (.iload 5, 2) := by decide +kernel
theorem dX5_learn_82 : decode cX5_learn 82 = .ok (.iload_n 3, 1) := by decide +kernel
theorem dX5_learn_83 : decode cX5_learn 83 = .ok (.if_icmp .ge 9, 3) := by decide +kernel
theorem dX5_learn_86 : decode cX5_learn 86 = .ok (.iload 4, 2) := by decide +kernel
theorem dX5_learn_88 : decode cX5_learn 88 = .ok (.istore_n 2, 1) := by decide +kernel
theorem dX5_learn_89 : decode cX5_learn 89 = .ok (.iload 5, 2) := by decide +kernel
theorem dX5_learn_91 : decode cX5_learn 91 = .ok (.istore_n 3, 1) := by decide +kernel
theorem dX5_learn_92 : decode cX5_learn 92 = .ok (.iinc 4 1, 3) := by decide +kernel
theorem dX5_learn_95 : decode cX5_learn 95 = .ok (.goto (-49), 3) := by decide +kernel
theorem dX5_learn_98 : decode cX5_learn 98 = .ok (.aload_n 0, 1) := by decide +kernel
theorem dX5_learn_99 : decode cX5_learn 99 = .ok (.iload_n 3, 1) := by decide +kernel
theorem dX5_learn_100 : decode cX5_learn 100 = .ok (.putfield 53, 3) := by decide +kernel
theorem dX5_learn_103 : decode cX5_learn 103 = .ok (.iload_n 2, 1) := by decide +kernel
theorem dX5_learn_104 : decode cX5_learn 104 = .ok (.ireturn, 1) := by decide +kernel
theorem dX5_fits_0 : decode cX5_fits 0 = .ok (.aload_n 0, 1) := by decide +kernel
theorem dX5_fits_1 : decode cX5_fits 1 = .ok (.iload_n 1, 1) := by decide +kernel
theorem dX5_fits_2 : decode cX5_fits 2 = .ok (.invokevirtual 252, 3) := by decide +kernel
theorem dX5_fits_5 : decode cX5_fits 5 = .ok (.istore_n 2, 1) := by decide +kernel
theorem dX5_fits_6 : decode cX5_fits 6 = .ok (.iload_n 2, 1) := by decide +kernel
theorem dX5_fits_7 : decode cX5_fits 7 = .ok (.ifCond .eq 5, 3) := by decide +kernel
theorem dX5_fits_10 : decode cX5_fits 10 = .ok (.iload_n 2, 1) := by decide +kernel
theorem dX5_fits_11 : decode cX5_fits 11 = .ok (.ireturn, 1) := by decide +kernel
theorem dX5_fits_12 : decode cX5_fits 12 = .ok (.iconst 0, 1) := by decide +kernel
theorem dX5_fits_13 : decode cX5_fits 13 = .ok (.istore_n 3, 1) := by decide +kernel
theorem dX5_fits_14 : decode cX5_fits 14 = .ok (.iconst 0, 1) := by decide +kernel
theorem dX5_fits_15 : decode cX5_fits 15 = .ok (.istore 4, 2) := by decide +kernel
theorem dX5_fits_17 : decode cX5_fits 17 = .ok (.iload 4, 2) := by decide +kernel
theorem dX5_fits_19 : decode cX5_fits 19 = .ok (.aload_n 0, 1) := by decide +kernel
theorem dX5_fits_20 : decode cX5_fits 20 = .ok (.getfield 29, 3) := by decide +kernel
theorem dX5_fits_23 : decode cX5_fits 23 = .ok (.getfield 107, 3) := by decide +kernel
theorem dX5_fits_26 : decode cX5_fits 26 = .ok (.if_icmp .ge 26, 3) := by decide +kernel
theorem dX5_fits_29 : decode cX5_fits 29 = .ok (.aload_n 0, 1) := by decide +kernel
theorem dX5_fits_30 : decode cX5_fits 30 = .ok (.iload 4, 2) := by decide +kernel
theorem dX5_fits_32 : decode cX5_fits 32 = .ok (.iload_n 1, 1) := by decide +kernel
theorem dX5_fits_33 : decode cX5_fits 33 = .ok (.invokevirtual 255, 3) := by decide +kernel
theorem dX5_fits_36 : decode cX5_fits 36 = .ok (.ifCond .ne 10, 3) := by decide +kernel
theorem dX5_fits_39 : decode cX5_fits 39 = .ok (.iload_n 3, 1) := by decide +kernel
theorem dX5_fits_40 : decode cX5_fits 40 = .ok (.iconst 1, 1) := by decide +kernel
theorem dX5_fits_41 : decode cX5_fits 41 = .ok (.iload 4, 2) := by decide +kernel
theorem dX5_fits_43 : decode cX5_fits 43 = .ok (.ishl, 1) := by decide +kernel
theorem dX5_fits_44 : decode cX5_fits 44 = .ok (.ior, 1) := by decide +kernel
theorem dX5_fits_45 : decode cX5_fits 45 = .ok (.istore_n 3, 1) := by decide +kernel
theorem dX5_fits_46 : decode cX5_fits 46 = .ok (.iinc 4 1, 3) := by decide +kernel
theorem dX5_fits_49 : decode cX5_fits 49 = .ok (.goto (-32), 3) := by decide +kernel
theorem dX5_fits_52 : decode cX5_fits 52 = .ok (.iload_n 3, 1) := by decide +kernel
theorem dX5_fits_53 : decode cX5_fits 53 = .ok (.ireturn, 1) := by decide +kernel
theorem dX5_kinds_0 : decode cX5_kinds 0 = .ok (.iload_n 2, 1) := by decide +kernel
theorem dX5_kinds_1 : decode cX5_kinds 1 = .ok (.invokestatic 155, 3) := by decide +kernel
theorem dX5_kinds_4 : decode cX5_kinds 4 = .ok (.ifCond .eq 10, 3) := by decide +kernel
theorem dX5_kinds_7 : decode cX5_kinds 7 = .ok (.iload_n 3, 1) := by decide +kernel
theorem dX5_kinds_8 : decode cX5_kinds 8 = .ok (.invokestatic 155, 3) := by decide +kernel
theorem dX5_kinds_11 : decode cX5_kinds 11 = .ok (.ifCond .ne 5, 3) := by decide +kernel
theorem dX5_kinds_14 : decode cX5_kinds 14 = .ok (.iconst (-1), 1) := by decide +kernel
theorem dX5_kinds_15 : decode cX5_kinds 15 = .ok (.ireturn, 1) := by decide +kernel
theorem dX5_kinds_16 : decode cX5_kinds 16 = .ok (.aload_n 0, 1) := by decide +kernel
theorem dX5_kinds_17 : decode cX5_kinds 17 = .ok (.iload_n 1, 1) := by decide +kernel
theorem dX5_kinds_18 : decode cX5_kinds 18 = .ok (.invokevirtual 252, 3) := by decide +kernel
theorem dX5_kinds_21 : decode cX5_kinds 21 = .ok (.istore 4, 2) := by decide +kernel
theorem dX5_kinds_23 : decode cX5_kinds 23 = .ok (.iload 4, 2) := by decide +kernel
theorem dX5_kinds_25 : decode cX5_kinds 25 = .ok (.ifCond .eq 6, 3) := by decide +kernel
theorem dX5_kinds_28 : decode cX5_kinds 28 = .ok (.iload 4, 2) := by decide +kernel
theorem dX5_kinds_30 : decode cX5_kinds 30 = .ok (.ireturn, 1) := by decide +kernel
theorem dX5_kinds_31 : decode cX5_kinds 31 = .ok (.iconst 0, 1) := by decide +kernel
theorem dX5_kinds_32 : decode cX5_kinds 32 = .ok (.istore 5, 2) := by decide +kernel
theorem dX5_kinds_34 : decode cX5_kinds 34 = .ok (.iconst 0, 1) := by decide +kernel
theorem dX5_kinds_35 : decode cX5_kinds 35 = .ok (.istore 6, 2) := by decide +kernel
theorem dX5_kinds_37 : decode cX5_kinds 37 = .ok (.iload 6, 2) := by decide +kernel
theorem dX5_kinds_39 : decode cX5_kinds 39 = .ok (.bipush 6, 2) := by decide +kernel
theorem dX5_kinds_41 : decode cX5_kinds 41 = .ok (.if_icmp .ge 40, 3) := by decide +kernel
theorem dX5_kinds_44 : decode cX5_kinds 44 = .ok (.aload_n 0, 1) := by decide +kernel
theorem dX5_kinds_45 : decode cX5_kinds 45 = .ok (.getfield 11, 3) := by decide +kernel
theorem dX5_kinds_48 : decode cX5_kinds 48 = .ok (.iload_n 1, 1) := by decide +kernel
theorem dX5_kinds_49 : decode cX5_kinds 49 = .ok (.aaload, 1) := by decide +kernel
theorem dX5_kinds_50 : decode cX5_kinds 50 = .ok (.aload_n 0, 1) := by decide +kernel
theorem dX5_kinds_51 : decode cX5_kinds 51 = .ok (.getfield 14, 3) := by decide +kernel
theorem dX5_kinds_54 : decode cX5_kinds 54 = .ok (.iload_n 1, 1) := by decide +kernel
theorem dX5_kinds_55 : decode cX5_kinds 55 = .ok (.iaload, 1) := by decide +kernel
theorem dX5_kinds_56 : decode cX5_kinds 56 = .ok (.iload 6, 2) := by decide +kernel
theorem dX5_kinds_58 : decode cX5_kinds 58 = .ok (.iload_n 2, 1) := by decide +kernel
theorem dX5_kinds_59 : decode cX5_kinds 59 = .ok (.iload_n 3, 1) := by decide +kernel
theorem dX5_kinds_60 : decode cX5_kinds 60 = .ok (.invokestatic 258, 3) := by decide +kernel
theorem dX5_kinds_63 : decode cX5_kinds 63 = .ok (.ifCond .ne 12, 3) := by decide +kernel
theorem dX5_kinds_66 : decode cX5_kinds 66 = .ok (.iload 5, 2) := by decide +kernel
theorem dX5_kinds_68 : decode cX5_kinds 68 = .ok (.iconst 1, 1) := by decide +kernel
theorem dX5_kinds_69 : decode cX5_kinds 69 = .ok (.iload 6, 2) := by decide +kernel
theorem dX5_kinds_71 : decode cX5_kinds 71 = .ok (.ishl, 1) := by decide +kernel
theorem dX5_kinds_72 : decode cX5_kinds 72 = .ok (.ior, 1) := by decide +kernel
theorem dX5_kinds_73 : decode cX5_kinds 73 = .ok (.istore 5, 2) := by decide +kernel
theorem dX5_kinds_75 : decode cX5_kinds 75 = .ok (.iinc 6 1, 3) := by decide +kernel
theorem dX5_kinds_78 : decode cX5_kinds 78 = .ok (.goto (-41), 3) := by decide +kernel
theorem dX5_kinds_81 : decode cX5_kinds 81 = .ok (.iload 5, 2) := by decide +kernel
theorem dX5_kinds_83 : decode cX5_kinds 83 = .ok (.ireturn, 1) := by decide +kernel
theorem dX5_lies_0 : decode cX5_lies 0 = .ok (.iload_n 1, 1) := by decide +kernel
theorem dX5_lies_1 : decode cX5_lies 1 = .ok (.invokestatic 64, 3) := by decide +kernel
theorem dX5_lies_4 : decode cX5_lies 4 = .ok (.ifCond .ne 5, 3) := by decide +kernel
theorem dX5_lies_7 : decode cX5_lies 7 = .ok (.iconst (-1), 1) := by decide +kernel
theorem dX5_lies_8 : decode cX5_lies 8 = .ok (.ireturn, 1) := by decide +kernel
theorem dX5_lies_9 : decode cX5_lies 9 = .ok (.aload_n 0, 1) := by decide +kernel
theorem dX5_lies_10 : decode cX5_lies 10 = .ok (.getfield 29, 3) := by decide +kernel
theorem dX5_lies_13 : decode cX5_lies 13 = .ok (.getfield 107, 3) := by decide +kernel
theorem dX5_lies_16 : decode cX5_lies 16 = .ok (.ifCond .ne 6, 3) := by decide +kernel
theorem dX5_lies_19 : decode cX5_lies 19 = .ok (.bipush (-4), 2) := by decide +kernel
theorem dX5_lies_21 : decode cX5_lies 21 = .ok (.ireturn, 1) := by decide +kernel
theorem dX5_lies_22 : decode cX5_lies 22 = .ok (.aload_n 0, 1) := by decide +kernel
theorem dX5_lies_23 : decode cX5_lies 23 = .ok (.iload_n 1, 1) := by decide +kernel
theorem dX5_lies_24 : decode cX5_lies 24 = .ok (.invokevirtual 252, 3) := by decide +kernel
theorem dX5_lies_27 : decode cX5_lies 27 = .ok (.istore_n 2, 1) := by decide +kernel
theorem dX5_lies_28 : decode cX5_lies 28 = .ok (.iload_n 2, 1) := by decide +kernel
theorem dX5_lies_29 : decode cX5_lies 29 = .ok (.ifCond .eq 5, 3) := by decide +kernel
theorem dX5_lies_32 : decode cX5_lies 32 = .ok (.iload_n 2, 1) := by decide +kernel
theorem dX5_lies_33 : decode cX5_lies 33 = .ok (.ireturn, 1) := by decide +kernel
theorem dX5_lies_34 : decode cX5_lies 34 = .ok (.iconst 0, 1) := by decide +kernel
theorem dX5_lies_35 : decode cX5_lies 35 = .ok (.istore_n 3, 1) := by decide +kernel
theorem dX5_lies_36 : decode cX5_lies 36 = .ok (.iconst 1, 1) := by decide +kernel
theorem dX5_lies_37 : decode cX5_lies 37 = .ok (.istore 4, 2) := by decide +kernel
theorem dX5_lies_39 : decode cX5_lies 39 = .ok (.iload 4, 2) := by decide +kernel
theorem dX5_lies_41 : decode cX5_lies 41 = .ok (.aload_n 0, 1) := by decide +kernel
theorem dX5_lies_42 : decode cX5_lies 42 = .ok (.getfield 29, 3) := by decide +kernel
theorem dX5_lies_45 : decode cX5_lies 45 = .ok (.getfield 107, 3) := by decide +kernel
theorem dX5_lies_48 : decode cX5_lies 48 = .ok (.if_icmp .ge 28, 3) := by decide +kernel
theorem dX5_lies_51 : decode cX5_lies 51 = .ok (.aload_n 0, 1) := by decide +kernel
theorem dX5_lies_52 : decode cX5_lies 52 = .ok (.iload 4, 2) := by decide +kernel
theorem dX5_lies_54 : decode cX5_lies 54 = .ok (.iload_n 1, 1) := by decide +kernel
theorem dX5_lies_55 : decode cX5_lies 55 = .ok (.invokevirtual 255, 3) := by decide +kernel
theorem dX5_lies_58 : decode cX5_lies 58 = .ok (.aload_n 0, 1) := by decide +kernel
theorem dX5_lies_59 : decode cX5_lies 59 = .ok (.iload_n 3, 1) := by decide +kernel
theorem dX5_lies_60 : decode cX5_lies 60 = .ok (.iload_n 1, 1) := by decide +kernel
theorem dX5_lies_61 : decode cX5_lies 61 = .ok (.invokevirtual 255, 3) := by decide +kernel
theorem dX5_lies_64 : decode cX5_lies 64 = .ok (.if_icmp .ge 6, 3) := by decide +kernel
theorem dX5_lies_67 : decode cX5_lies 67 = .ok (.iload 4, 2) := by decide +kernel
theorem dX5_lies_69 : decode cX5_lies 69 = .ok (.istore_n 3, 1) := by decide +kernel
theorem dX5_lies_70 : decode cX5_lies 70 = .ok (.iinc 4 1, 3) := by decide +kernel
theorem dX5_lies_73 : decode cX5_lies 73 = .ok (.goto (-34), 3) := by decide +kernel
theorem dX5_lies_76 : decode cX5_lies 76 = .ok (.aload_n 0, 1) := by decide +kernel
theorem dX5_lies_77 : decode cX5_lies 77 = .ok (.iload_n 3, 1) := by decide +kernel
theorem dX5_lies_78 : decode cX5_lies 78 = .ok (.putfield 53, 3) := by decide +kernel
theorem dX5_lies_81 : decode cX5_lies 81 = .ok (.aload_n 0, 1) := by decide +kernel
theorem dX5_lies_82 : decode cX5_lies 82 = .ok (.iload_n 3, 1) := by decide +kernel
theorem dX5_lies_83 : decode cX5_lies 83 = .ok (.iload_n 1, 1) := by decide +kernel
theorem dX5_lies_84 : decode cX5_lies 84 = .ok (.invokevirtual 255, 3) := by decide +kernel
theorem dX5_lies_87 : decode cX5_lies 87 = .ok (.ireturn, 1) := by decide +kernel
theorem dX5_apart_0 : decode cX5_apart 0 = .ok (.aload_n 0, 1) := by decide +kernel
theorem dX5_apart_1 : decode cX5_apart 1 = .ok (.iload_n 1, 1) := by decide +kernel
theorem dX5_apart_2 : decode cX5_apart 2 = .ok (.iload_n 2, 1) := by decide +kernel
theorem dX5_apart_3 : decode cX5_apart 3 = .ok (.invokevirtual 200, 3) := by decide +kernel
theorem dX5_apart_6 : decode cX5_apart 6 = .ok (.ifCond .eq 24, 3) := by decide +kernel
theorem dX5_apart_9 : decode cX5_apart 9 = .ok (.iload_n 3, 1) := by decide +kernel
theorem dX5_apart_10 : decode cX5_apart 10 = .ok (.invokestatic 204, 3) := by decide +kernel
theorem dX5_apart_13 : decode cX5_apart 13 = .ok (.ifCond .eq 17, 3) := by decide +kernel
theorem dX5_apart_16 : decode cX5_apart 16 = .ok (.iload 4, 2) := by decide +kernel
theorem dX5_apart_18 : decode cX5_apart 18 = .ok (.invokestatic 204, 3) := by decide +kernel
theorem dX5_apart_21 : decode cX5_apart 21 = .ok (.ifCond .eq 9, 3) := by decide +kernel
theorem dX5_apart_24 : decode cX5_apart 24 = .ok (.iload 4, 2) := by decide +kernel
theorem dX5_apart_26 : decode cX5_apart 26 = .ok (.iload_n 3, 1) := by decide +kernel
theorem dX5_apart_27 : decode cX5_apart 27 = .ok (.if_icmp .ge 5, 3) := by decide +kernel
theorem dX5_apart_30 : decode cX5_apart 30 = .ok (.iconst (-1), 1) := by decide +kernel
theorem dX5_apart_31 : decode cX5_apart 31 = .ok (.ireturn, 1) := by decide +kernel
theorem dX5_apart_32 : decode cX5_apart 32 = .ok (.iload_n 3, 1) := by decide +kernel
theorem dX5_apart_33 : decode cX5_apart 33 = .ok (.istore 5, 2) := by decide +kernel
theorem dX5_apart_35 : decode cX5_apart 35 = .ok (.iload 5, 2) := by decide +kernel
theorem dX5_apart_37 : decode cX5_apart 37 = .ok (.iload 4, 2) := by decide +kernel
theorem dX5_apart_39 : decode cX5_apart 39 = .ok (.if_icmp .gt 43, 3) := by decide +kernel
theorem dX5_apart_42 : decode cX5_apart 42 = .ok (.aload_n 0, 1) := by decide +kernel
theorem dX5_apart_43 : decode cX5_apart 43 = .ok (.getfield 29, 3) := by decide +kernel
theorem dX5_apart_46 : decode cX5_apart 46 = .ok (.getfield 116, 3) := by decide +kernel
theorem dX5_apart_49 : decode cX5_apart 49 = .ok (.iload_n 1, 1) := by decide +kernel
theorem dX5_apart_50 : decode cX5_apart 50 = .ok (.aaload, 1) := by decide +kernel
theorem dX5_apart_51 : decode cX5_apart 51 = .ok (.iload 5, 2) := by decide +kernel
theorem dX5_apart_53 : decode cX5_apart 53 = .ok (.invokevirtual 207, 3) := by decide +kernel
theorem dX5_apart_56 : decode cX5_apart 56 = .ok (.aload_n 0, 1) := by decide +kernel
theorem dX5_apart_57 : decode cX5_apart 57 = .ok (.getfield 29, 3) := by decide +kernel
theorem dX5_apart_60 : decode cX5_apart 60 = .ok (.getfield 116, 3) := by decide +kernel
theorem dX5_apart_63 : decode cX5_apart 63 = .ok (.iload_n 2, 1) := by decide +kernel
theorem dX5_apart_64 : decode cX5_apart 64 = .ok (.aaload, 1) := by decide +kernel
theorem dX5_apart_65 : decode cX5_apart 65 = .ok (.iload 5, 2) := by decide +kernel
theorem dX5_apart_67 : decode cX5_apart 67 = .ok (.invokevirtual 207, 3) := by decide +kernel
theorem dX5_apart_70 : decode cX5_apart 70 = .ok (.if_icmp .eq 6, 3) := by decide +kernel
theorem dX5_apart_73 : decode cX5_apart 73 = .ok (.iload 5, 2) := by decide +kernel
theorem dX5_apart_75 : decode cX5_apart 75 = .ok (.ireturn, 1) := by decide +kernel
theorem dX5_apart_76 : decode cX5_apart 76 = .ok (.iinc 5 1, 3) := by decide +kernel
theorem dX5_apart_79 : decode cX5_apart 79 = .ok (.goto (-44), 3) := by decide +kernel
theorem dX5_apart_82 : decode cX5_apart 82 = .ok (.bipush (-9), 2) := by decide +kernel
theorem dX5_apart_84 : decode cX5_apart 84 = .ok (.ireturn, 1) := by decide +kernel
theorem dX5_sour_0 : decode cX5_sour 0 = .ok (.iload_n 1, 1) := by decide +kernel
theorem dX5_sour_1 : decode cX5_sour 1 = .ok (.invokestatic 155, 3) := by decide +kernel
theorem dX5_sour_4 : decode cX5_sour 4 = .ok (.ifCond .ne 5, 3) := by decide +kernel
theorem dX5_sour_7 : decode cX5_sour 7 = .ok (.iconst (-1), 1) := by decide +kernel
theorem dX5_sour_8 : decode cX5_sour 8 = .ok (.ireturn, 1) := by decide +kernel
theorem dX5_sour_9 : decode cX5_sour 9 = .ok (.aload_n 0, 1) := by decide +kernel
theorem dX5_sour_10 : decode cX5_sour 10 = .ok (.aload_n 0, 1) := by decide +kernel
theorem dX5_sour_11 : decode cX5_sour 11 = .ok (.getfield 29, 3) := by decide +kernel
theorem dX5_sour_14 : decode cX5_sour 14 = .ok (.aload_n 0, 1) := by decide +kernel
theorem dX5_sour_15 : decode cX5_sour 15 = .ok (.getfield 29, 3) := by decide +kernel
theorem dX5_sour_18 : decode cX5_sour 18 = .ok (.invokevirtual 262, 3) := by decide +kernel
theorem dX5_sour_21 : decode cX5_sour 21 = .ok (.iload_n 1, 1) := by decide +kernel
theorem dX5_sour_22 : decode cX5_sour 22 = .ok (.invokevirtual 226, 3) := by decide +kernel
theorem dX5_sour_25 : decode cX5_sour 25 = .ok (.putfield 53, 3) := by decide +kernel
theorem dX5_sour_28 : decode cX5_sour 28 = .ok (.aload_n 0, 1) := by decide +kernel
theorem dX5_sour_29 : decode cX5_sour 29 = .ok (.getfield 53, 3) := by decide +kernel
theorem dX5_sour_32 : decode cX5_sour 32 = .ok (.invokestatic 147, 3) := by decide +kernel
theorem dX5_sour_35 : decode cX5_sour 35 = .ok (.ireturn, 1) := by decide +kernel
theorem dX5_odds_0 : decode cX5_odds 0 = .ok (.iload_n 1, 1) := by decide +kernel
theorem dX5_odds_1 : decode cX5_odds 1 = .ok (.iconst 1, 1) := by decide +kernel
theorem dX5_odds_2 : decode cX5_odds 2 = .ok (.if_icmp .lt 8, 3) := by decide +kernel
theorem dX5_odds_5 : decode cX5_odds 5 = .ok (.iload_n 1, 1) := by decide +kernel
theorem dX5_odds_6 : decode cX5_odds 6 = .ok (.iconst 3, 1) := by decide +kernel
theorem dX5_odds_7 : decode cX5_odds 7 = .ok (.if_icmp .le 5, 3) := by decide +kernel
theorem dX5_odds_10 : decode cX5_odds 10 = .ok (.iconst (-1), 1) := by decide +kernel
theorem dX5_odds_11 : decode cX5_odds 11 = .ok (.ireturn, 1) := by decide +kernel
theorem dX5_odds_12 : decode cX5_odds 12 = .ok (.aload_n 0, 1) := by decide +kernel
theorem dX5_odds_13 : decode cX5_odds 13 = .ok (.getfield 29, 3) := by decide +kernel
theorem dX5_odds_16 : decode cX5_odds 16 = .ok (.getfield 107, 3) := by decide +kernel
theorem dX5_odds_19 : decode cX5_odds 19 = .ok (.ifCond .ne 6, 3) := by decide +kernel
theorem dX5_odds_22 : decode cX5_odds 22 = .ok (.bipush (-4), 2) := by decide +kernel
theorem dX5_odds_24 : decode cX5_odds 24 = .ok (.ireturn, 1) := by decide +kernel
theorem dX5_odds_25 : decode cX5_odds 25 = .ok (.aload_n 0, 1) := by decide +kernel
theorem dX5_odds_26 : decode cX5_odds 26 = .ok (.getfield 29, 3) := by decide +kernel
theorem dX5_odds_29 : decode cX5_odds 29 = .ok (.invokevirtual 262, 3) := by decide +kernel
theorem dX5_odds_32 : decode cX5_odds 32 = .ok (.istore_n 2, 1) := by decide +kernel
theorem dX5_odds_33 : decode cX5_odds 33 = .ok (.lconst 0, 1) := by decide +kernel
theorem dX5_odds_34 : decode cX5_odds 34 = .ok (.lstore_n 3, 1) := by decide +kernel
theorem dX5_odds_35 : decode cX5_odds 35 = .ok (.iconst 0, 1) := by decide +kernel
theorem dX5_odds_36 : decode cX5_odds 36 = .ok (.istore 5, 2) := by decide +kernel
theorem dX5_odds_38 : decode cX5_odds 38 = .ok (.iload 5, 2) := by decide +kernel
theorem dX5_odds_40 : decode cX5_odds 40 = .ok (.bipush 6, 2) := by decide +kernel
theorem dX5_odds_42 : decode cX5_odds 42 = .ok (.if_icmp .ge 27, 3) := by decide +kernel
theorem dX5_odds_45 : decode cX5_odds 45 = .ok (.lload_n 3, 1) := by decide +kernel
theorem dX5_odds_46 : decode cX5_odds 46 = .ok (.aload_n 0, 1) := by decide +kernel
theorem dX5_odds_47 : decode cX5_odds 47 = .ok (.getfield 29, 3) := by decide +kernel
theorem dX5_odds_50 : decode cX5_odds 50 = .ok (.iload_n 2, 1) := by decide +kernel
theorem dX5_odds_51 : decode cX5_odds 51 = .ok (.iload 5, 2) := by decide +kernel
theorem dX5_odds_53 : decode cX5_odds 53 = .ok (.invokevirtual 210, 3) := by decide +kernel
theorem dX5_odds_56 : decode cX5_odds 56 = .ok (.i2l, 1) := by decide +kernel
theorem dX5_odds_57 : decode cX5_odds 57 = .ok (.iload_n 1, 1) := by decide +kernel
theorem dX5_odds_58 : decode cX5_odds 58 = .ok (.invokestatic 265, 3) := by decide +kernel
theorem dX5_odds_61 : decode cX5_odds 61 = .ok (.ladd, 1) := by decide +kernel
theorem dX5_odds_62 : decode cX5_odds 62 = .ok (.lstore_n 3, 1) := by decide +kernel
theorem dX5_odds_63 : decode cX5_odds 63 = .ok (.iinc 5 1, 3) := by decide +kernel
theorem dX5_odds_66 : decode cX5_odds 66 = .ok (.goto (-28), 3) := by decide +kernel
theorem dX5_odds_69 : decode cX5_odds 69 = .ok (.aload_n 0, 1) := by decide +kernel
theorem dX5_odds_70 : decode cX5_odds 70 = .ok (.lload_n 3, 1) := by decide +kernel
theorem dX5_odds_71 : decode cX5_odds 71 = .ok (.aload_n 0, 1) := by decide +kernel
theorem dX5_odds_72 : decode cX5_odds 72 = .ok (.getfield 29, 3) := by decide +kernel
theorem dX5_odds_75 : decode cX5_odds 75 = .ok (.iload_n 2, 1) := by decide +kernel
theorem dX5_odds_76 : decode cX5_odds 76 = .ok (.invokevirtual 213, 3) := by decide +kernel
theorem dX5_odds_79 : decode cX5_odds 79 = .ok (.i2l, 1) := by decide +kernel
theorem dX5_odds_80 : decode cX5_odds 80 = .ok (.iload_n 1, 1) := by decide +kernel
theorem dX5_odds_81 : decode cX5_odds 81 = .ok (.invokestatic 265, 3) := by decide +kernel
theorem dX5_odds_84 : decode cX5_odds 84 = .ok (.invokevirtual 216, 3) := by decide +kernel
theorem dX5_odds_87 : decode cX5_odds 87 = .ok (.iconst 1, 1) := by decide +kernel
theorem dX5_odds_88 : decode cX5_odds 88 = .ok (.ireturn, 1) := by decide +kernel
theorem dX5_lots_0 : decode cX5_lots 0 = .ok (.iload_n 1, 1) := by decide +kernel
theorem dX5_lots_1 : decode cX5_lots 1 = .ok (.iconst 1, 1) := by decide +kernel
theorem dX5_lots_2 : decode cX5_lots 2 = .ok (.if_icmp .lt 23, 3) := by decide +kernel
theorem dX5_lots_5 : decode cX5_lots 5 = .ok (.iload_n 1, 1) := by decide +kernel
theorem dX5_lots_6 : decode cX5_lots 6 = .ok (.bipush 20, 2) := by decide +kernel
theorem dX5_lots_8 : decode cX5_lots 8 = .ok (.if_icmp .gt 17, 3) := by decide +kernel
theorem dX5_lots_11 : decode cX5_lots 11 = .ok (.iload_n 2, 1) := by decide +kernel
theorem dX5_lots_12 : decode cX5_lots 12 = .ok (.iconst 1, 1) := by decide +kernel
theorem dX5_lots_13 : decode cX5_lots 13 = .ok (.if_icmp .lt 12, 3) := by decide +kernel
theorem dX5_lots_16 : decode cX5_lots 16 = .ok (.iload_n 2, 1) := by decide +kernel
theorem dX5_lots_17 : decode cX5_lots 17 = .ok (.i2l, 1) := by decide +kernel
theorem dX5_lots_18 : decode cX5_lots 18 = .ok (.ldc2_w 269, 3) := by decide +kernel
theorem dX5_lots_21 : decode cX5_lots 21 = .ok (.lcmp, 1) := by decide +kernel
theorem dX5_lots_22 : decode cX5_lots 22 = .ok (.ifCond .lt 5, 3) := by decide +kernel
theorem dX5_lots_25 : decode cX5_lots 25 = .ok (.iconst (-1), 1) := by decide +kernel
theorem dX5_lots_26 : decode cX5_lots 26 = .ok (.ireturn, 1) := by decide +kernel
theorem dX5_lots_27 : decode cX5_lots 27 = .ok (.aload_n 0, 1) := by decide +kernel
theorem dX5_lots_28 : decode cX5_lots 28 = .ok (.getfield 29, 3) := by decide +kernel
theorem dX5_lots_31 : decode cX5_lots 31 = .ok (.getfield 107, 3) := by decide +kernel
theorem dX5_lots_34 : decode cX5_lots 34 = .ok (.ifCond .eq 21, 3) := by decide +kernel
theorem dX5_lots_37 : decode cX5_lots 37 = .ok (.aload_n 0, 1) := by decide +kernel
theorem dX5_lots_38 : decode cX5_lots 38 = .ok (.getfield 29, 3) := by decide +kernel
theorem dX5_lots_41 : decode cX5_lots 41 = .ok (.getfield 171, 3) := by decide +kernel
theorem dX5_lots_44 : decode cX5_lots 44 = .ok (.bipush 70, 2) := by decide +kernel
theorem dX5_lots_46 : decode cX5_lots 46 = .ok (.iload_n 1, 1) := by decide +kernel
theorem dX5_lots_47 : decode cX5_lots 47 = .ok (.imul, 1) := by decide +kernel
theorem dX5_lots_48 : decode cX5_lots 48 = .ok (.iadd, 1) := by decide +kernel
theorem dX5_lots_49 : decode cX5_lots 49 = .ok (.sipush 9999, 3) := by decide +kernel
theorem dX5_lots_52 : decode cX5_lots 52 = .ok (.if_icmp .le 6, 3) := by decide +kernel
theorem dX5_lots_55 : decode cX5_lots 55 = .ok (.bipush (-4), 2) := by decide +kernel
theorem dX5_lots_57 : decode cX5_lots 57 = .ok (.ireturn, 1) := by decide +kernel
theorem dX5_lots_58 : decode cX5_lots 58 = .ok (.aload_n 0, 1) := by decide +kernel
theorem dX5_lots_59 : decode cX5_lots 59 = .ok (.getfield 29, 3) := by decide +kernel
theorem dX5_lots_62 : decode cX5_lots 62 = .ok (.getfield 158, 3) := by decide +kernel
theorem dX5_lots_65 : decode cX5_lots 65 = .ok (.getfield 162, 3) := by decide +kernel
theorem dX5_lots_68 : decode cX5_lots 68 = .ok (.iload_n 1, 1) := by decide +kernel
theorem dX5_lots_69 : decode cX5_lots 69 = .ok (.iadd, 1) := by decide +kernel
theorem dX5_lots_70 : decode cX5_lots 70 = .ok (.bipush 60, 2) := by decide +kernel
theorem dX5_lots_72 : decode cX5_lots 72 = .ok (.if_icmp .le 6, 3) := by decide +kernel
theorem dX5_lots_75 : decode cX5_lots 75 = .ok (.bipush (-2), 2) := by decide +kernel
theorem dX5_lots_77 : decode cX5_lots 77 = .ok (.ireturn, 1) := by decide +kernel
theorem dX5_lots_78 : decode cX5_lots 78 = .ok (.iload_n 2, 1) := by decide +kernel
theorem dX5_lots_79 : decode cX5_lots 79 = .ok (.i2l, 1) := by decide +kernel
theorem dX5_lots_80 : decode cX5_lots 80 = .ok (.lstore_n 3, 1) := by decide +kernel
theorem dX5_lots_81 : decode cX5_lots 81 = .ok (.iconst 0, 1) := by decide +kernel
theorem dX5_lots_82 : decode cX5_lots 82 = .ok (.istore 5, 2) := by decide +kernel
theorem dX5_lots_84 : decode cX5_lots 84 = .ok (.iconst 0, 1) := by decide +kernel
theorem dX5_lots_85 : decode cX5_lots 85 = .ok (.istore 6, 2) := by decide +kernel
theorem dX5_lots_87 : decode cX5_lots 87 = .ok (.iload 6, 2) := by decide +kernel
theorem dX5_lots_89 : decode cX5_lots 89 = .ok (.iload_n 1, 1) := by decide +kernel
theorem dX5_lots_90 : decode cX5_lots 90 = .ok (.if_icmp .ge 90, 3) := by decide +kernel
theorem dX5_lots_93 : decode cX5_lots 93 = .ok (.lload_n 3, 1) := by decide +kernel
theorem dX5_lots_94 : decode cX5_lots 94 = .ok (.ldc2_w 271, 3) := by decide +kernel
theorem dX5_lots_97 : decode cX5_lots 97 = .ok (.lmul, 1) := by decide +kernel
theorem dX5_lots_98 : decode cX5_lots 98 = .ok (.ldc2_w 269, 3) := by decide +kernel
theorem dX5_lots_101 : decode cX5_lots 101 = .ok (.lrem, 1) := by decide +kernel
theorem dX5_lots_102 : decode cX5_lots 102 = .ok (.lstore_n 3, 1) := by decide +kernel
theorem dX5_lots_103 : decode cX5_lots 103 = .ok (.lload_n 3, 1) := by decide +kernel
theorem dX5_lots_104 : decode cX5_lots 104 = .ok (.aload_n 0, 1) := by decide +kernel
theorem dX5_lots_105 : decode cX5_lots 105 = .ok (.getfield 29, 3) := by decide +kernel
theorem dX5_lots_108 : decode cX5_lots 108 = .ok (.getfield 107, 3) := by decide +kernel
theorem dX5_lots_111 : decode cX5_lots 111 = .ok (.i2l, 1) := by decide +kernel
theorem dX5_lots_112 : decode cX5_lots 112 = .ok (.lrem, 1) := by decide +kernel
theorem dX5_lots_113 : decode cX5_lots 113 = .ok (.l2i, 1) := by decide +kernel
theorem dX5_lots_114 : decode cX5_lots 114 = .ok (.istore 7, 2) := by decide +kernel
theorem dX5_lots_116 : decode cX5_lots 116 = .ok (.aload_n 0, 1) := by decide +kernel
theorem dX5_lots_117 : decode cX5_lots 117 = .ok (.getfield 29, 3) := by decide +kernel
theorem dX5_lots_120 : decode cX5_lots 120 = .ok (.aload_n 0, 1) := by decide +kernel
theorem dX5_lots_121 : decode cX5_lots 121 = .ok (.getfield 29, 3) := by decide +kernel
theorem dX5_lots_124 : decode cX5_lots 124 = .ok (.getfield 116, 3) := by decide +kernel
theorem dX5_lots_127 : decode cX5_lots 127 = .ok (.iload 7, 2) := by decide +kernel
theorem dX5_lots_129 : decode cX5_lots 129 = .ok (.aaload, 1) := by decide +kernel
theorem dX5_lots_130 : decode cX5_lots 130 = .ok (.getfield 138, 3) := by decide +kernel
theorem dX5_lots_133 : decode cX5_lots 133 = .ok (.aload_n 0, 1) := by decide +kernel
theorem dX5_lots_134 : decode cX5_lots 134 = .ok (.getfield 29, 3) := by decide +kernel
theorem dX5_lots_137 : decode cX5_lots 137 = .ok (.getfield 116, 3) := by decide +kernel
theorem dX5_lots_140 : decode cX5_lots 140 = .ok (.iload 7, 2) := by decide +kernel
theorem dX5_lots_142 : decode cX5_lots 142 = .ok (.aaload, 1) := by decide +kernel
theorem dX5_lots_143 : decode cX5_lots 143 = .ok (.getfield 141, 3) := by decide +kernel
theorem dX5_lots_146 : decode cX5_lots 146 = .ok (.invokevirtual 144, 3) := by decide +kernel
theorem dX5_lots_149 : decode cX5_lots 149 = .ok (.istore 8, 2) := by decide +kernel
theorem dX5_lots_151 : decode cX5_lots 151 = .ok (.iload 5, 2) := by decide +kernel
theorem dX5_lots_153 : decode cX5_lots 153 = .ok (.aload_n 0, 1) := by decide +kernel
theorem dX5_lots_154 : decode cX5_lots 154 = .ok (.getfield 29, 3) := by decide +kernel
theorem dX5_lots_157 : decode cX5_lots 157 = .ok (.iload 7, 2) := by decide +kernel
theorem dX5_lots_159 : decode cX5_lots 159 = .ok (.aload_n 0, 1) := by decide +kernel
theorem dX5_lots_160 : decode cX5_lots 160 = .ok (.getfield 29, 3) := by decide +kernel
theorem dX5_lots_163 : decode cX5_lots 163 = .ok (.iload 8, 2) := by decide +kernel
theorem dX5_lots_165 : decode cX5_lots 165 = .ok (.invokevirtual 223, 3) := by decide +kernel
theorem dX5_lots_168 : decode cX5_lots 168 = .ok (.invokevirtual 177, 3) := by decide +kernel
theorem dX5_lots_171 : decode cX5_lots 171 = .ok (.iadd, 1) := by decide +kernel
theorem dX5_lots_172 : decode cX5_lots 172 = .ok (.istore 5, 2) := by decide +kernel
theorem dX5_lots_174 : decode cX5_lots 174 = .ok (.iinc 6 1, 3) := by decide +kernel
theorem dX5_lots_177 : decode cX5_lots 177 = .ok (.goto (-90), 3) := by decide +kernel
theorem dX5_lots_180 : decode cX5_lots 180 = .ok (.iload 5, 2) := by decide +kernel
theorem dX5_lots_182 : decode cX5_lots 182 = .ok (.ireturn, 1) := by decide +kernel
theorem dX5_asked_0 : decode cX5_asked 0 = .ok (.aload_n 0, 1) := by decide +kernel
theorem dX5_asked_1 : decode cX5_asked 1 = .ok (.getfield 53, 3) := by decide +kernel
theorem dX5_asked_4 : decode cX5_asked 4 = .ok (.ireturn, 1) := by decide +kernel
theorem dX5_upper_0 : decode cX5_upper 0 = .ok (.aload_n 0, 1) := by decide +kernel
theorem dX5_upper_1 : decode cX5_upper 1 = .ok (.getfield 56, 3) := by decide +kernel
theorem dX5_upper_4 : decode cX5_upper 4 = .ok (.lreturn, 1) := by decide +kernel
theorem dX5_lower_0 : decode cX5_lower 0 = .ok (.aload_n 0, 1) := by decide +kernel
theorem dX5_lower_1 : decode cX5_lower 1 = .ok (.getfield 60, 3) := by decide +kernel
theorem dX5_lower_4 : decode cX5_lower 4 = .ok (.lreturn, 1) := by decide +kernel
theorem dX5_count_0 : decode cX5_count 0 = .ok (.iload_n 1, 1) := by decide +kernel
theorem dX5_count_1 : decode cX5_count 1 = .ok (.tableswitch 135 0 9 #[55, 63, 71, 79, 90, 98, 106, 114, 122, 130], 55) := by decide +kernel
theorem dX5_count_56 : decode cX5_count 56 = .ok (.aload_n 0, 1) := by decide +kernel
theorem dX5_count_57 : decode cX5_count 57 = .ok (.getfield 29, 3) := by decide +kernel
theorem dX5_count_60 : decode cX5_count 60 = .ok (.getfield 107, 3) := by decide +kernel
theorem dX5_count_63 : decode cX5_count 63 = .ok (.ireturn, 1) := by decide +kernel
theorem dX5_count_64 : decode cX5_count 64 = .ok (.aload_n 0, 1) := by decide +kernel
theorem dX5_count_65 : decode cX5_count 65 = .ok (.getfield 29, 3) := by decide +kernel
theorem dX5_count_68 : decode cX5_count 68 = .ok (.getfield 125, 3) := by decide +kernel
theorem dX5_count_71 : decode cX5_count 71 = .ok (.ireturn, 1) := by decide +kernel
theorem dX5_count_72 : decode cX5_count 72 = .ok (.aload_n 0, 1) := by decide +kernel
theorem dX5_count_73 : decode cX5_count 73 = .ok (.getfield 29, 3) := by decide +kernel
theorem dX5_count_76 : decode cX5_count 76 = .ok (.getfield 171, 3) := by decide +kernel
theorem dX5_count_79 : decode cX5_count 79 = .ok (.ireturn, 1) := by decide +kernel
theorem dX5_count_80 : decode cX5_count 80 = .ok (.aload_n 0, 1) := by decide +kernel
theorem dX5_count_81 : decode cX5_count 81 = .ok (.getfield 29, 3) := by decide +kernel
theorem dX5_count_84 : decode cX5_count 84 = .ok (.getfield 158, 3) := by decide +kernel
theorem dX5_count_87 : decode cX5_count 87 = .ok (.getfield 162, 3) := by decide +kernel
theorem dX5_count_90 : decode cX5_count 90 = .ok (.ireturn, 1) := by decide +kernel
theorem dX5_count_91 : decode cX5_count 91 = .ok (.aload_n 0, 1) := by decide +kernel
theorem dX5_count_92 : decode cX5_count 92 = .ok (.getfield 29, 3) := by decide +kernel
theorem dX5_count_95 : decode cX5_count 95 = .ok (.invokevirtual 273, 3) := by decide +kernel
theorem dX5_count_98 : decode cX5_count 98 = .ok (.ireturn, 1) := by decide +kernel
theorem dX5_count_99 : decode cX5_count 99 = .ok (.aload_n 0, 1) := by decide +kernel
theorem dX5_count_100 : decode cX5_count 100 = .ok (.getfield 29, 3) := by decide +kernel
theorem dX5_count_103 : decode cX5_count 103 = .ok (.invokevirtual 276, 3) := by decide +kernel
theorem dX5_count_106 : decode cX5_count 106 = .ok (.ireturn, 1) := by decide +kernel
theorem dX5_count_107 : decode cX5_count 107 = .ok (.aload_n 0, 1) := by decide +kernel
theorem dX5_count_108 : decode cX5_count 108 = .ok (.getfield 29, 3) := by decide +kernel
theorem dX5_count_111 : decode cX5_count 111 = .ok (.invokevirtual 279, 3) := by decide +kernel
theorem dX5_count_114 : decode cX5_count 114 = .ok (.ireturn, 1) := by decide +kernel
theorem dX5_count_115 : decode cX5_count 115 = .ok (.aload_n 0, 1) := by decide +kernel
theorem dX5_count_116 : decode cX5_count 116 = .ok (.getfield 14, 3) := by decide +kernel
theorem dX5_count_119 : decode cX5_count 119 = .ok (.invokestatic 282, 3) := by decide +kernel
theorem dX5_count_122 : decode cX5_count 122 = .ok (.ireturn, 1) := by decide +kernel
theorem dX5_count_123 : decode cX5_count 123 = .ok (.aload_n 0, 1) := by decide +kernel
theorem dX5_count_124 : decode cX5_count 124 = .ok (.getfield 23, 3) := by decide +kernel
theorem dX5_count_127 : decode cX5_count 127 = .ok (.invokestatic 282, 3) := by decide +kernel
theorem dX5_count_130 : decode cX5_count 130 = .ok (.ireturn, 1) := by decide +kernel
theorem dX5_count_131 : decode cX5_count 131 = .ok (.aload_n 0, 1) := by decide +kernel
theorem dX5_count_132 : decode cX5_count 132 = .ok (.invokevirtual 286, 3) := by decide +kernel
theorem dX5_count_135 : decode cX5_count 135 = .ok (.ireturn, 1) := by decide +kernel
theorem dX5_count_136 : decode cX5_count 136 = .ok (.iconst (-1), 1) := by decide +kernel
theorem dX5_count_137 : decode cX5_count 137 = .ok (.ireturn, 1) := by decide +kernel
theorem dX5_finding_0 : decode cX5_finding 0 = .ok (.aload_n 0, 1) := by decide +kernel
theorem dX5_finding_1 : decode cX5_finding 1 = .ok (.getfield 49, 3) := by decide +kernel
theorem dX5_finding_4 : decode cX5_finding 4 = .ok (.ireturn, 1) := by decide +kernel
theorem dX5_findings_0 : decode cX5_findings 0 = .ok (.iload_n 1, 1) := by decide +kernel
theorem dX5_findings_1 : decode cX5_findings 1 = .ok (.iconst 1, 1) := by decide +kernel
theorem dX5_findings_2 : decode cX5_findings 2 = .ok (.if_icmp .lt 8, 3) := by decide +kernel
theorem dX5_findings_5 : decode cX5_findings 5 = .ok (.iload_n 1, 1) := by decide +kernel
theorem dX5_findings_6 : decode cX5_findings 6 = .ok (.iconst 5, 1) := by decide +kernel
theorem dX5_findings_7 : decode cX5_findings 7 = .ok (.if_icmp .le 5, 3) := by decide +kernel
theorem dX5_findings_10 : decode cX5_findings 10 = .ok (.iconst (-1), 1) := by decide +kernel
theorem dX5_findings_11 : decode cX5_findings 11 = .ok (.ireturn, 1) := by decide +kernel
theorem dX5_findings_12 : decode cX5_findings 12 = .ok (.aload_n 0, 1) := by decide +kernel
theorem dX5_findings_13 : decode cX5_findings 13 = .ok (.getfield 46, 3) := by decide +kernel
theorem dX5_findings_16 : decode cX5_findings 16 = .ok (.iload_n 1, 1) := by decide +kernel
theorem dX5_findings_17 : decode cX5_findings 17 = .ok (.iaload, 1) := by decide +kernel
theorem dX5_findings_18 : decode cX5_findings 18 = .ok (.ireturn, 1) := by decide +kernel
theorem dX5_digest_0 : decode cX5_digest 0 = .ok (.ldc2_w 289, 3) := by decide +kernel
theorem dX5_digest_3 : decode cX5_digest 3 = .ok (.lstore_n 1, 1) := by decide +kernel
theorem dX5_digest_4 : decode cX5_digest 4 = .ok (.iconst 0, 1) := by decide +kernel
theorem dX5_digest_5 : decode cX5_digest 5 = .ok (.istore_n 3, 1) := by decide +kernel
theorem dX5_digest_6 : decode cX5_digest 6 = .ok (.iload_n 3, 1) := by decide +kernel
theorem dX5_digest_7 : decode cX5_digest 7 = .ok (.bipush 10, 2) := by decide +kernel
theorem dX5_digest_9 : decode cX5_digest 9 = .ok (.if_icmp .ge 22, 3) := by decide +kernel
theorem dX5_digest_12 : decode cX5_digest 12 = .ok (.ldc2_w 291, 3) := by decide +kernel
theorem dX5_digest_15 : decode cX5_digest 15 = .ok (.lload_n 1, 1) := by decide +kernel
theorem dX5_digest_16 : decode cX5_digest 16 = .ok (.lmul, 1) := by decide +kernel
theorem dX5_digest_17 : decode cX5_digest 17 = .ok (.aload_n 0, 1) := by decide +kernel
theorem dX5_digest_18 : decode cX5_digest 18 = .ok (.iload_n 3, 1) := by decide +kernel
theorem dX5_digest_19 : decode cX5_digest 19 = .ok (.invokevirtual 293, 3) := by decide +kernel
theorem dX5_digest_22 : decode cX5_digest 22 = .ok (.i2l, 1) := by decide +kernel
theorem dX5_digest_23 : decode cX5_digest 23 = .ok (.ladd, 1) := by decide +kernel
theorem dX5_digest_24 : decode cX5_digest 24 = .ok (.lstore_n 1, 1) := by decide +kernel
theorem dX5_digest_25 : decode cX5_digest 25 = .ok (.iinc 3 1, 3) := by decide +kernel
theorem dX5_digest_28 : decode cX5_digest 28 = .ok (.goto (-22), 3) := by decide +kernel
theorem dX5_digest_31 : decode cX5_digest 31 = .ok (.iconst 0, 1) := by decide +kernel
theorem dX5_digest_32 : decode cX5_digest 32 = .ok (.istore_n 3, 1) := by decide +kernel
theorem dX5_digest_33 : decode cX5_digest 33 = .ok (.iload_n 3, 1) := by decide +kernel
theorem dX5_digest_34 : decode cX5_digest 34 = .ok (.aload_n 0, 1) := by decide +kernel
theorem dX5_digest_35 : decode cX5_digest 35 = .ok (.getfield 29, 3) := by decide +kernel
theorem dX5_digest_38 : decode cX5_digest 38 = .ok (.getfield 107, 3) := by decide +kernel
theorem dX5_digest_41 : decode cX5_digest 41 = .ok (.if_icmp .ge 43, 3) := by decide +kernel
theorem dX5_digest_44 : decode cX5_digest 44 = .ok (.iconst 0, 1) := by decide +kernel
theorem dX5_digest_45 : decode cX5_digest 45 = .ok (.istore 4, 2) := by decide +kernel
theorem dX5_digest_47 : decode cX5_digest 47 = .ok (.iload 4, 2) := by decide +kernel
theorem dX5_digest_49 : decode cX5_digest 49 = .ok (.bipush 9, 2) := by decide +kernel
theorem dX5_digest_51 : decode cX5_digest 51 = .ok (.if_icmp .ge 27, 3) := by decide +kernel
theorem dX5_digest_54 : decode cX5_digest 54 = .ok (.ldc2_w 291, 3) := by decide +kernel
theorem dX5_digest_57 : decode cX5_digest 57 = .ok (.lload_n 1, 1) := by decide +kernel
theorem dX5_digest_58 : decode cX5_digest 58 = .ok (.lmul, 1) := by decide +kernel
theorem dX5_digest_59 : decode cX5_digest 59 = .ok (.aload_n 0, 1) := by decide +kernel
theorem dX5_digest_60 : decode cX5_digest 60 = .ok (.getfield 29, 3) := by decide +kernel
theorem dX5_digest_63 : decode cX5_digest 63 = .ok (.iload_n 3, 1) := by decide +kernel
theorem dX5_digest_64 : decode cX5_digest 64 = .ok (.iload 4, 2) := by decide +kernel
theorem dX5_digest_66 : decode cX5_digest 66 = .ok (.invokevirtual 113, 3) := by decide +kernel
theorem dX5_digest_69 : decode cX5_digest 69 = .ok (.i2l, 1) := by decide +kernel
theorem dX5_digest_70 : decode cX5_digest 70 = .ok (.ladd, 1) := by decide +kernel
theorem dX5_digest_71 : decode cX5_digest 71 = .ok (.lstore_n 1, 1) := by decide +kernel
theorem dX5_digest_72 : decode cX5_digest 72 = .ok (.iinc 4 1, 3) := by decide +kernel
theorem dX5_digest_75 : decode cX5_digest 75 = .ok (.goto (-28), 3) := by decide +kernel
theorem dX5_digest_78 : decode cX5_digest 78 = .ok (.iinc 3 1, 3) := by decide +kernel
theorem dX5_digest_81 : decode cX5_digest 81 = .ok (.goto (-48), 3) := by decide +kernel
theorem dX5_digest_84 : decode cX5_digest 84 = .ok (.iconst 0, 1) := by decide +kernel
theorem dX5_digest_85 : decode cX5_digest 85 = .ok (.istore_n 3, 1) := by decide +kernel
theorem dX5_digest_86 : decode cX5_digest 86 = .ok (.iload_n 3, 1) := by decide +kernel
theorem dX5_digest_87 : decode cX5_digest 87 = .ok (.iconst 3, 1) := by decide +kernel
theorem dX5_digest_88 : decode cX5_digest 88 = .ok (.if_icmp .ge 45, 3) := by decide +kernel
theorem dX5_digest_91 : decode cX5_digest 91 = .ok (.ldc2_w 291, 3) := by decide +kernel
theorem dX5_digest_94 : decode cX5_digest 94 = .ok (.lload_n 1, 1) := by decide +kernel
theorem dX5_digest_95 : decode cX5_digest 95 = .ok (.lmul, 1) := by decide +kernel
theorem dX5_digest_96 : decode cX5_digest 96 = .ok (.aload_n 0, 1) := by decide +kernel
theorem dX5_digest_97 : decode cX5_digest 97 = .ok (.getfield 35, 3) := by decide +kernel
theorem dX5_digest_100 : decode cX5_digest 100 = .ok (.iload_n 3, 1) := by decide +kernel
theorem dX5_digest_101 : decode cX5_digest 101 = .ok (.aaload, 1) := by decide +kernel
theorem dX5_digest_102 : decode cX5_digest 102 = .ok (.getfield 103, 3) := by decide +kernel
theorem dX5_digest_105 : decode cX5_digest 105 = .ok (.ifCond .eq 18, 3) := by decide +kernel
theorem dX5_digest_108 : decode cX5_digest 108 = .ok (.aload_n 0, 1) := by decide +kernel
theorem dX5_digest_109 : decode cX5_digest 109 = .ok (.getfield 35, 3) := by decide +kernel
theorem dX5_digest_112 : decode cX5_digest 112 = .ok (.iload_n 3, 1) := by decide +kernel
theorem dX5_digest_113 : decode cX5_digest 113 = .ok (.aaload, 1) := by decide +kernel
theorem dX5_digest_114 : decode cX5_digest 114 = .ok (.getfield 296, 3) := by decide +kernel
theorem dX5_digest_117 : decode cX5_digest 117 = .ok (.getfield 162, 3) := by decide +kernel
theorem dX5_digest_120 : decode cX5_digest 120 = .ok (.goto 4, 3) := by decide +kernel
theorem dX5_digest_123 : decode cX5_digest 123 = .ok (.iconst (-1), 1) := by decide +kernel
theorem dX5_digest_124 : decode cX5_digest 124 = .ok (.i2l, 1) := by decide +kernel
theorem dX5_digest_125 : decode cX5_digest 125 = .ok (.ladd, 1) := by decide +kernel
theorem dX5_digest_126 : decode cX5_digest 126 = .ok (.lstore_n 1, 1) := by decide +kernel
theorem dX5_digest_127 : decode cX5_digest 127 = .ok (.iinc 3 1, 3) := by decide +kernel
theorem dX5_digest_130 : decode cX5_digest 130 = .ok (.goto (-44), 3) := by decide +kernel
theorem dX5_digest_133 : decode cX5_digest 133 = .ok (.iconst 0, 1) := by decide +kernel
theorem dX5_digest_134 : decode cX5_digest 134 = .ok (.istore_n 3, 1) := by decide +kernel
theorem dX5_digest_135 : decode cX5_digest 135 = .ok (.iload_n 3, 1) := by decide +kernel
theorem dX5_digest_136 : decode cX5_digest 136 = .ok (.bipush 6, 2) := by decide +kernel
theorem dX5_digest_138 : decode cX5_digest 138 = .ok (.if_icmp .ge 60, 3) := by decide +kernel
theorem dX5_digest_141 : decode cX5_digest 141 = .ok (.ldc2_w 291, 3) := by decide +kernel
theorem dX5_digest_144 : decode cX5_digest 144 = .ok (.lload_n 1, 1) := by decide +kernel
theorem dX5_digest_145 : decode cX5_digest 145 = .ok (.lmul, 1) := by decide +kernel
theorem dX5_digest_146 : decode cX5_digest 146 = .ok (.aload_n 0, 1) := by decide +kernel
theorem dX5_digest_147 : decode cX5_digest 147 = .ok (.getfield 14, 3) := by decide +kernel
theorem dX5_digest_150 : decode cX5_digest 150 = .ok (.iload_n 3, 1) := by decide +kernel
theorem dX5_digest_151 : decode cX5_digest 151 = .ok (.iaload, 1) := by decide +kernel
theorem dX5_digest_152 : decode cX5_digest 152 = .ok (.i2l, 1) := by decide +kernel
theorem dX5_digest_153 : decode cX5_digest 153 = .ok (.ladd, 1) := by decide +kernel
theorem dX5_digest_154 : decode cX5_digest 154 = .ok (.lstore_n 1, 1) := by decide +kernel
theorem dX5_digest_155 : decode cX5_digest 155 = .ok (.iconst 0, 1) := by decide +kernel
theorem dX5_digest_156 : decode cX5_digest 156 = .ok (.istore 4, 2) := by decide +kernel
theorem dX5_digest_158 : decode cX5_digest 158 = .ok (.iload 4, 2) := by decide +kernel
theorem dX5_digest_160 : decode cX5_digest 160 = .ok (.aload_n 0, 1) := by decide +kernel
theorem dX5_digest_161 : decode cX5_digest 161 = .ok (.getfield 14, 3) := by decide +kernel
theorem dX5_digest_164 : decode cX5_digest 164 = .ok (.iload_n 3, 1) := by decide +kernel
theorem dX5_digest_165 : decode cX5_digest 165 = .ok (.iaload, 1) := by decide +kernel
theorem dX5_digest_166 : decode cX5_digest 166 = .ok (.if_icmp .ge 26, 3) := by decide +kernel
theorem dX5_digest_169 : decode cX5_digest 169 = .ok (.ldc2_w 291, 3) := by decide +kernel
theorem dX5_digest_172 : decode cX5_digest 172 = .ok (.lload_n 1, 1) := by decide +kernel
theorem dX5_digest_173 : decode cX5_digest 173 = .ok (.lmul, 1) := by decide +kernel
theorem dX5_digest_174 : decode cX5_digest 174 = .ok (.aload_n 0, 1) := by decide +kernel
theorem dX5_digest_175 : decode cX5_digest 175 = .ok (.getfield 11, 3) := by decide +kernel
theorem dX5_digest_178 : decode cX5_digest 178 = .ok (.iload_n 3, 1) := by decide +kernel
theorem dX5_digest_179 : decode cX5_digest 179 = .ok (.aaload, 1) := by decide +kernel
theorem dX5_digest_180 : decode cX5_digest 180 = .ok (.iload 4, 2) := by decide +kernel
theorem dX5_digest_182 : decode cX5_digest 182 = .ok (.iaload, 1) := by decide +kernel
theorem dX5_digest_183 : decode cX5_digest 183 = .ok (.i2l, 1) := by decide +kernel
theorem dX5_digest_184 : decode cX5_digest 184 = .ok (.ladd, 1) := by decide +kernel
theorem dX5_digest_185 : decode cX5_digest 185 = .ok (.lstore_n 1, 1) := by decide +kernel
theorem dX5_digest_186 : decode cX5_digest 186 = .ok (.iinc 4 1, 3) := by decide +kernel
theorem dX5_digest_189 : decode cX5_digest 189 = .ok (.goto (-31), 3) := by decide +kernel
theorem dX5_digest_192 : decode cX5_digest 192 = .ok (.iinc 3 1, 3) := by decide +kernel
theorem dX5_digest_195 : decode cX5_digest 195 = .ok (.goto (-60), 3) := by decide +kernel
theorem dX5_digest_198 : decode cX5_digest 198 = .ok (.iconst 0, 1) := by decide +kernel
theorem dX5_digest_199 : decode cX5_digest 199 = .ok (.istore_n 3, 1) := by decide +kernel
theorem dX5_digest_200 : decode cX5_digest 200 = .ok (.iload_n 3, 1) := by decide +kernel
theorem dX5_digest_201 : decode cX5_digest 201 = .ok (.iconst 4, 1) := by decide +kernel
theorem dX5_digest_202 : decode cX5_digest 202 = .ok (.if_icmp .ge 60, 3) := by decide +kernel
theorem dX5_digest_205 : decode cX5_digest 205 = .ok (.ldc2_w 291, 3) := by decide +kernel
theorem dX5_digest_208 : decode cX5_digest 208 = .ok (.lload_n 1, 1) := by decide +kernel
theorem dX5_digest_209 : decode cX5_digest 209 = .ok (.lmul, 1) := by decide +kernel
theorem dX5_digest_210 : decode cX5_digest 210 = .ok (.aload_n 0, 1) := by decide +kernel
theorem dX5_digest_211 : decode cX5_digest 211 = .ok (.getfield 23, 3) := by decide +kernel
theorem dX5_digest_214 : decode cX5_digest 214 = .ok (.iload_n 3, 1) := by decide +kernel
theorem dX5_digest_215 : decode cX5_digest 215 = .ok (.iaload, 1) := by decide +kernel
theorem dX5_digest_216 : decode cX5_digest 216 = .ok (.i2l, 1) := by decide +kernel
theorem dX5_digest_217 : decode cX5_digest 217 = .ok (.ladd, 1) := by decide +kernel
theorem dX5_digest_218 : decode cX5_digest 218 = .ok (.lstore_n 1, 1) := by decide +kernel
theorem dX5_digest_219 : decode cX5_digest 219 = .ok (.iconst 0, 1) := by decide +kernel
theorem dX5_digest_220 : decode cX5_digest 220 = .ok (.istore 4, 2) := by decide +kernel
theorem dX5_digest_222 : decode cX5_digest 222 = .ok (.iload 4, 2) := by decide +kernel
theorem dX5_digest_224 : decode cX5_digest 224 = .ok (.aload_n 0, 1) := by decide +kernel
theorem dX5_digest_225 : decode cX5_digest 225 = .ok (.getfield 23, 3) := by decide +kernel
theorem dX5_digest_228 : decode cX5_digest 228 = .ok (.iload_n 3, 1) := by decide +kernel
theorem dX5_digest_229 : decode cX5_digest 229 = .ok (.iaload, 1) := by decide +kernel
theorem dX5_digest_230 : decode cX5_digest 230 = .ok (.if_icmp .ge 26, 3) := by decide +kernel
theorem dX5_digest_233 : decode cX5_digest 233 = .ok (.ldc2_w 291, 3) := by decide +kernel
theorem dX5_digest_236 : decode cX5_digest 236 = .ok (.lload_n 1, 1) := by decide +kernel
theorem dX5_digest_237 : decode cX5_digest 237 = .ok (.lmul, 1) := by decide +kernel
theorem dX5_digest_238 : decode cX5_digest 238 = .ok (.aload_n 0, 1) := by decide +kernel
theorem dX5_digest_239 : decode cX5_digest 239 = .ok (.getfield 20, 3) := by decide +kernel
theorem dX5_digest_242 : decode cX5_digest 242 = .ok (.iload_n 3, 1) := by decide +kernel
theorem dX5_digest_243 : decode cX5_digest 243 = .ok (.aaload, 1) := by decide +kernel
theorem dX5_digest_244 : decode cX5_digest 244 = .ok (.iload 4, 2) := by decide +kernel
theorem dX5_digest_246 : decode cX5_digest 246 = .ok (.baload, 1) := by decide +kernel
theorem dX5_digest_247 : decode cX5_digest 247 = .ok (.i2l, 1) := by decide +kernel
theorem dX5_digest_248 : decode cX5_digest 248 = .ok (.ladd, 1) := by decide +kernel
theorem dX5_digest_249 : decode cX5_digest 249 = .ok (.lstore_n 1, 1) := by decide +kernel
theorem dX5_digest_250 : decode cX5_digest 250 = .ok (.iinc 4 1, 3) := by decide +kernel
theorem dX5_digest_253 : decode cX5_digest 253 = .ok (.goto (-31), 3) := by decide +kernel
theorem dX5_digest_256 : decode cX5_digest 256 = .ok (.iinc 3 1, 3) := by decide +kernel
theorem dX5_digest_259 : decode cX5_digest 259 = .ok (.goto (-59), 3) := by decide +kernel
theorem dX5_digest_262 : decode cX5_digest 262 = .ok (.lload_n 1, 1) := by decide +kernel
theorem dX5_digest_263 : decode cX5_digest 263 = .ok (.lreturn, 1) := by decide +kernel
theorem dX5_isRow_0 : decode cX5_isRow 0 = .ok (.iload_n 0, 1) := by decide +kernel
theorem dX5_isRow_1 : decode cX5_isRow 1 = .ok (.ifCond .lt 13, 3) := by decide +kernel
theorem dX5_isRow_4 : decode cX5_isRow 4 = .ok (.iload_n 0, 1) := by decide +kernel
theorem dX5_isRow_5 : decode cX5_isRow 5 = .ok (.bipush 6, 2) := by decide +kernel
theorem dX5_isRow_7 : decode cX5_isRow 7 = .ok (.if_icmp .ge 7, 3) := by decide +kernel
theorem dX5_isRow_10 : decode cX5_isRow 10 = .ok (.iconst 1, 1) := by decide +kernel
theorem dX5_isRow_11 : decode cX5_isRow 11 = .ok (.goto 4, 3) := by decide +kernel
theorem dX5_isRow_14 : decode cX5_isRow 14 = .ok (.iconst 0, 1) := by decide +kernel
theorem dX5_isRow_15 : decode cX5_isRow 15 = .ok (.ireturn, 1) := by decide +kernel
theorem dX5_isText_0 : decode cX5_isText 0 = .ok (.iload_n 0, 1) := by decide +kernel
theorem dX5_isText_1 : decode cX5_isText 1 = .ok (.ifCond .lt 12, 3) := by decide +kernel
theorem dX5_isText_4 : decode cX5_isText 4 = .ok (.iload_n 0, 1) := by decide +kernel
theorem dX5_isText_5 : decode cX5_isText 5 = .ok (.iconst 4, 1) := by decide +kernel
theorem dX5_isText_6 : decode cX5_isText 6 = .ok (.if_icmp .ge 7, 3) := by decide +kernel
theorem dX5_isText_9 : decode cX5_isText 9 = .ok (.iconst 1, 1) := by decide +kernel
theorem dX5_isText_10 : decode cX5_isText 10 = .ok (.goto 4, 3) := by decide +kernel
theorem dX5_isText_13 : decode cX5_isText 13 = .ok (.iconst 0, 1) := by decide +kernel
theorem dX5_isText_14 : decode cX5_isText 14 = .ok (.ireturn, 1) := by decide +kernel
theorem dX5_isPlace_0 : decode cX5_isPlace 0 = .ok (.iload_n 0, 1) := by decide +kernel
theorem dX5_isPlace_1 : decode cX5_isPlace 1 = .ok (.ifCond .lt 12, 3) := by decide +kernel
theorem dX5_isPlace_4 : decode cX5_isPlace 4 = .ok (.iload_n 0, 1) := by decide +kernel
theorem dX5_isPlace_5 : decode cX5_isPlace 5 = .ok (.iconst 3, 1) := by decide +kernel
theorem dX5_isPlace_6 : decode cX5_isPlace 6 = .ok (.if_icmp .ge 7, 3) := by decide +kernel
theorem dX5_isPlace_9 : decode cX5_isPlace 9 = .ok (.iconst 1, 1) := by decide +kernel
theorem dX5_isPlace_10 : decode cX5_isPlace 10 = .ok (.goto 4, 3) := by decide +kernel
theorem dX5_isPlace_13 : decode cX5_isPlace 13 = .ok (.iconst 0, 1) := by decide +kernel
theorem dX5_isPlace_14 : decode cX5_isPlace 14 = .ok (.ireturn, 1) := by decide +kernel
theorem dX5_isThing_0 : decode cX5_isThing 0 = .ok (.iload_n 0, 1) := by decide +kernel
theorem dX5_isThing_1 : decode cX5_isThing 1 = .ok (.ifCond .lt 13, 3) := by decide +kernel
theorem dX5_isThing_4 : decode cX5_isThing 4 = .ok (.iload_n 0, 1) := by decide +kernel
theorem dX5_isThing_5 : decode cX5_isThing 5 = .ok (.bipush 6, 2) := by decide +kernel
theorem dX5_isThing_7 : decode cX5_isThing 7 = .ok (.if_icmp .ge 7, 3) := by decide +kernel
theorem dX5_isThing_10 : decode cX5_isThing 10 = .ok (.iconst 1, 1) := by decide +kernel
theorem dX5_isThing_11 : decode cX5_isThing 11 = .ok (.goto 4, 3) := by decide +kernel
theorem dX5_isThing_14 : decode cX5_isThing 14 = .ok (.iconst 0, 1) := by decide +kernel
theorem dX5_isThing_15 : decode cX5_isThing 15 = .ok (.ireturn, 1) := by decide +kernel
theorem dX5_isThingOrNone_0 : decode cX5_isThingOrNone 0 = .ok (.iload_n 0, 1) := by decide +kernel
theorem dX5_isThingOrNone_1 : decode cX5_isThingOrNone 1 = .ok (.bipush (-9), 2) := by decide +kernel
theorem dX5_isThingOrNone_3 : decode cX5_isThingOrNone 3 = .ok (.if_icmp .eq 10, 3) := by decide +kernel
theorem dX5_isThingOrNone_6 : decode cX5_isThingOrNone 6 = .ok (.iload_n 0, 1) := by decide +kernel
theorem dX5_isThingOrNone_7 : decode cX5_isThingOrNone 7 = .ok (.invokestatic 155, 3) := by decide +kernel
theorem dX5_isThingOrNone_10 : decode cX5_isThingOrNone 10 = .ok (.ifCond .eq 7, 3) := by decide +kernel
theorem dX5_isThingOrNone_13 : decode cX5_isThingOrNone 13 = .ok (.iconst 1, 1) := by decide +kernel
theorem dX5_isThingOrNone_14 : decode cX5_isThingOrNone 14 = .ok (.goto 4, 3) := by decide +kernel
theorem dX5_isThingOrNone_17 : decode cX5_isThingOrNone 17 = .ok (.iconst 0, 1) := by decide +kernel
theorem dX5_isThingOrNone_18 : decode cX5_isThingOrNone 18 = .ok (.ireturn, 1) := by decide +kernel
theorem dX5_isSign_0 : decode cX5_isSign 0 = .ok (.iload_n 0, 1) := by decide +kernel
theorem dX5_isSign_1 : decode cX5_isSign 1 = .ok (.bipush (-9), 2) := by decide +kernel
theorem dX5_isSign_3 : decode cX5_isSign 3 = .ok (.if_icmp .eq 12, 3) := by decide +kernel
theorem dX5_isSign_6 : decode cX5_isSign 6 = .ok (.iload_n 0, 1) := by decide +kernel
theorem dX5_isSign_7 : decode cX5_isSign 7 = .ok (.ifCond .lt 12, 3) := by decide +kernel
theorem dX5_isSign_10 : decode cX5_isSign 10 = .ok (.iload_n 0, 1) := by decide +kernel
theorem dX5_isSign_11 : decode cX5_isSign 11 = .ok (.iconst 4, 1) := by decide +kernel
theorem dX5_isSign_12 : decode cX5_isSign 12 = .ok (.if_icmp .ge 7, 3) := by decide +kernel
theorem dX5_isSign_15 : decode cX5_isSign 15 = .ok (.iconst 1, 1) := by decide +kernel
theorem dX5_isSign_16 : decode cX5_isSign 16 = .ok (.goto 4, 3) := by decide +kernel
theorem dX5_isSign_19 : decode cX5_isSign 19 = .ok (.iconst 0, 1) := by decide +kernel
theorem dX5_isSign_20 : decode cX5_isSign 20 = .ok (.ireturn, 1) := by decide +kernel
theorem dX5_isMorning_0 : decode cX5_isMorning 0 = .ok (.iload_n 0, 1) := by decide +kernel
theorem dX5_isMorning_1 : decode cX5_isMorning 1 = .ok (.ifCond .lt 14, 3) := by decide +kernel
theorem dX5_isMorning_4 : decode cX5_isMorning 4 = .ok (.iload_n 0, 1) := by decide +kernel
theorem dX5_isMorning_5 : decode cX5_isMorning 5 = .ok (.sipush 999, 3) := by decide +kernel
theorem dX5_isMorning_8 : decode cX5_isMorning 8 = .ok (.if_icmp .gt 7, 3) := by decide +kernel
theorem dX5_isMorning_11 : decode cX5_isMorning 11 = .ok (.iconst 1, 1) := by decide +kernel
theorem dX5_isMorning_12 : decode cX5_isMorning 12 = .ok (.goto 4, 3) := by decide +kernel
theorem dX5_isMorning_15 : decode cX5_isMorning 15 = .ok (.iconst 0, 1) := by decide +kernel
theorem dX5_isMorning_16 : decode cX5_isMorning 16 = .ok (.ireturn, 1) := by decide +kernel
theorem dX5_isRegular_0 : decode cX5_isRegular 0 = .ok (.iload_n 1, 1) := by decide +kernel
theorem dX5_isRegular_1 : decode cX5_isRegular 1 = .ok (.ifCond .lt 18, 3) := by decide +kernel
theorem dX5_isRegular_4 : decode cX5_isRegular 4 = .ok (.iload_n 1, 1) := by decide +kernel
theorem dX5_isRegular_5 : decode cX5_isRegular 5 = .ok (.aload_n 0, 1) := by decide +kernel
theorem dX5_isRegular_6 : decode cX5_isRegular 6 = .ok (.getfield 29, 3) := by decide +kernel
theorem dX5_isRegular_9 : decode cX5_isRegular 9 = .ok (.getfield 107, 3) := by decide +kernel
theorem dX5_isRegular_12 : decode cX5_isRegular 12 = .ok (.if_icmp .ge 7, 3) := by decide +kernel
theorem dX5_isRegular_15 : decode cX5_isRegular 15 = .ok (.iconst 1, 1) := by decide +kernel
theorem dX5_isRegular_16 : decode cX5_isRegular 16 = .ok (.goto 4, 3) := by decide +kernel
theorem dX5_isRegular_19 : decode cX5_isRegular 19 = .ok (.iconst 0, 1) := by decide +kernel
theorem dX5_isRegular_20 : decode cX5_isRegular 20 = .ok (.ireturn, 1) := by decide +kernel
theorem dX5_areTwo_0 : decode cX5_areTwo 0 = .ok (.aload_n 0, 1) := by decide +kernel
theorem dX5_areTwo_1 : decode cX5_areTwo 1 = .ok (.iload_n 1, 1) := by decide +kernel
theorem dX5_areTwo_2 : decode cX5_areTwo 2 = .ok (.invokevirtual 110, 3) := by decide +kernel
theorem dX5_areTwo_5 : decode cX5_areTwo 5 = .ok (.ifCond .eq 20, 3) := by decide +kernel
theorem dX5_areTwo_8 : decode cX5_areTwo 8 = .ok (.aload_n 0, 1) := by decide +kernel
theorem dX5_areTwo_9 : decode cX5_areTwo 9 = .ok (.iload_n 2, 1) := by decide +kernel
theorem dX5_areTwo_10 : decode cX5_areTwo 10 = .ok (.invokevirtual 110, 3) := by decide +kernel
theorem dX5_areTwo_13 : decode cX5_areTwo 13 = .ok (.ifCond .eq 12, 3) := by decide +kernel
theorem dX5_areTwo_16 : decode cX5_areTwo 16 = .ok (.iload_n 1, 1) := by decide +kernel
theorem dX5_areTwo_17 : decode cX5_areTwo 17 = .ok (.iload_n 2, 1) := by decide +kernel
theorem dX5_areTwo_18 : decode cX5_areTwo 18 = .ok (.if_icmp .eq 7, 3) := by decide +kernel
theorem dX5_areTwo_21 : decode cX5_areTwo 21 = .ok (.iconst 1, 1) := by decide +kernel
theorem dX5_areTwo_22 : decode cX5_areTwo 22 = .ok (.goto 4, 3) := by decide +kernel
theorem dX5_areTwo_25 : decode cX5_areTwo 25 = .ok (.iconst 0, 1) := by decide +kernel
theorem dX5_areTwo_26 : decode cX5_areTwo 26 = .ok (.ireturn, 1) := by decide +kernel
theorem dX5_found_0 : decode cX5_found 0 = .ok (.aload_n 0, 1) := by decide +kernel
theorem dX5_found_1 : decode cX5_found 1 = .ok (.iload_n 1, 1) := by decide +kernel
theorem dX5_found_2 : decode cX5_found 2 = .ok (.putfield 49, 3) := by decide +kernel
theorem dX5_found_5 : decode cX5_found 5 = .ok (.aload_n 0, 1) := by decide +kernel
theorem dX5_found_6 : decode cX5_found 6 = .ok (.getfield 46, 3) := by decide +kernel
theorem dX5_found_9 : decode cX5_found 9 = .ok (.iload_n 1, 1) := by decide +kernel
theorem dX5_found_10 : decode cX5_found 10 = .ok (.dup2, 1) := by decide +kernel
theorem dX5_found_11 : decode cX5_found 11 = .ok (.iaload, 1) := by decide +kernel
theorem dX5_found_12 : decode cX5_found 12 = .ok (.iconst 1, 1) := by decide +kernel
theorem dX5_found_13 : decode cX5_found 13 = .ok (.iadd, 1) := by decide +kernel
theorem dX5_found_14 : decode cX5_found 14 = .ok (.iastore, 1) := by decide +kernel
theorem dX5_found_15 : decode cX5_found 15 = .ok (.bipush (-3), 2) := by decide +kernel
theorem dX5_found_17 : decode cX5_found 17 = .ok (.ireturn, 1) := by decide +kernel
theorem dX5_rowRefusal_0 : decode cX5_rowRefusal 0 = .ok (.iload_n 1, 1) := by decide +kernel
theorem dX5_rowRefusal_1 : decode cX5_rowRefusal 1 = .ok (.invokestatic 64, 3) := by decide +kernel
theorem dX5_rowRefusal_4 : decode cX5_rowRefusal 4 = .ok (.ifCond .ne 5, 3) := by decide +kernel
theorem dX5_rowRefusal_7 : decode cX5_rowRefusal 7 = .ok (.iconst (-1), 1) := by decide +kernel
theorem dX5_rowRefusal_8 : decode cX5_rowRefusal 8 = .ok (.ireturn, 1) := by decide +kernel
theorem dX5_rowRefusal_9 : decode cX5_rowRefusal 9 = .ok (.aload_n 0, 1) := by decide +kernel
theorem dX5_rowRefusal_10 : decode cX5_rowRefusal 10 = .ok (.getfield 14, 3) := by decide +kernel
theorem dX5_rowRefusal_13 : decode cX5_rowRefusal 13 = .ok (.iload_n 1, 1) := by decide +kernel
theorem dX5_rowRefusal_14 : decode cX5_rowRefusal 14 = .ok (.iaload, 1) := by decide +kernel
theorem dX5_rowRefusal_15 : decode cX5_rowRefusal 15 = .ok (.ifCond .ge 11, 3) := by decide +kernel
theorem dX5_rowRefusal_18 : decode cX5_rowRefusal 18 = .ok (.aload_n 0, 1) := by decide +kernel
theorem dX5_rowRefusal_19 : decode cX5_rowRefusal 19 = .ok (.iconst 1, 1) := by decide +kernel
theorem dX5_rowRefusal_20 : decode cX5_rowRefusal 20 = .ok (.invokevirtual 68, 3) := by decide +kernel
theorem dX5_rowRefusal_23 : decode cX5_rowRefusal 23 = .ok (.goto 4, 3) := by decide +kernel
theorem dX5_rowRefusal_26 : decode cX5_rowRefusal 26 = .ok (.iconst 0, 1) := by decide +kernel
theorem dX5_rowRefusal_27 : decode cX5_rowRefusal 27 = .ok (.ireturn, 1) := by decide +kernel
theorem dX5_placeRefusal_0 : decode cX5_placeRefusal 0 = .ok (.aload_n 0, 1) := by decide +kernel
theorem dX5_placeRefusal_1 : decode cX5_placeRefusal 1 = .ok (.iload_n 1, 1) := by decide +kernel
theorem dX5_placeRefusal_2 : decode cX5_placeRefusal 2 = .ok (.invokevirtual 80, 3) := by decide +kernel
theorem dX5_placeRefusal_5 : decode cX5_placeRefusal 5 = .ok (.istore_n 3, 1) := by decide +kernel
theorem dX5_placeRefusal_6 : decode cX5_placeRefusal 6 = .ok (.iload_n 3, 1) := by decide +kernel
theorem dX5_placeRefusal_7 : decode cX5_placeRefusal 7 = .ok (.ifCond .eq 5, 3) := by decide +kernel
theorem dX5_placeRefusal_10 : decode cX5_placeRefusal 10 = .ok (.iload_n 3, 1) := by decide +kernel
theorem dX5_placeRefusal_11 : decode cX5_placeRefusal 11 = .ok (.ireturn, 1) := by decide +kernel
theorem dX5_placeRefusal_12 : decode cX5_placeRefusal 12 = .ok (.iload_n 2, 1) := by decide +kernel
theorem dX5_placeRefusal_13 : decode cX5_placeRefusal 13 = .ok (.ifCond .lt 13, 3) := by decide +kernel
theorem dX5_placeRefusal_16 : decode cX5_placeRefusal 16 = .ok (.iload_n 2, 1) := by decide +kernel
theorem dX5_placeRefusal_17 : decode cX5_placeRefusal 17 = .ok (.aload_n 0, 1) := by decide +kernel
theorem dX5_placeRefusal_18 : decode cX5_placeRefusal 18 = .ok (.getfield 14, 3) := by decide +kernel
theorem dX5_placeRefusal_21 : decode cX5_placeRefusal 21 = .ok (.iload_n 1, 1) := by decide +kernel
theorem dX5_placeRefusal_22 : decode cX5_placeRefusal 22 = .ok (.iaload, 1) := by decide +kernel
theorem dX5_placeRefusal_23 : decode cX5_placeRefusal 23 = .ok (.if_icmp .lt 11, 3) := by decide +kernel
theorem dX5_placeRefusal_26 : decode cX5_placeRefusal 26 = .ok (.aload_n 0, 1) := by decide +kernel
theorem dX5_placeRefusal_27 : decode cX5_placeRefusal 27 = .ok (.iconst 2, 1) := by decide +kernel
theorem dX5_placeRefusal_28 : decode cX5_placeRefusal 28 = .ok (.invokevirtual 68, 3) := by decide +kernel
theorem dX5_placeRefusal_31 : decode cX5_placeRefusal 31 = .ok (.goto 4, 3) := by decide +kernel
theorem dX5_placeRefusal_34 : decode cX5_placeRefusal 34 = .ok (.iconst 0, 1) := by decide +kernel
theorem dX5_placeRefusal_35 : decode cX5_placeRefusal 35 = .ok (.ireturn, 1) := by decide +kernel
theorem dX5_textRefusal_0 : decode cX5_textRefusal 0 = .ok (.iload_n 1, 1) := by decide +kernel
theorem dX5_textRefusal_1 : decode cX5_textRefusal 1 = .ok (.invokestatic 89, 3) := by decide +kernel
theorem dX5_textRefusal_4 : decode cX5_textRefusal 4 = .ok (.ifCond .ne 5, 3) := by decide +kernel
theorem dX5_textRefusal_7 : decode cX5_textRefusal 7 = .ok (.iconst (-1), 1) := by decide +kernel
theorem dX5_textRefusal_8 : decode cX5_textRefusal 8 = .ok (.ireturn, 1) := by decide +kernel
theorem dX5_textRefusal_9 : decode cX5_textRefusal 9 = .ok (.aload_n 0, 1) := by decide +kernel
theorem dX5_textRefusal_10 : decode cX5_textRefusal 10 = .ok (.getfield 23, 3) := by decide +kernel
theorem dX5_textRefusal_13 : decode cX5_textRefusal 13 = .ok (.iload_n 1, 1) := by decide +kernel
theorem dX5_textRefusal_14 : decode cX5_textRefusal 14 = .ok (.iaload, 1) := by decide +kernel
theorem dX5_textRefusal_15 : decode cX5_textRefusal 15 = .ok (.ifCond .ge 11, 3) := by decide +kernel
theorem dX5_textRefusal_18 : decode cX5_textRefusal 18 = .ok (.aload_n 0, 1) := by decide +kernel
theorem dX5_textRefusal_19 : decode cX5_textRefusal 19 = .ok (.iconst 1, 1) := by decide +kernel
theorem dX5_textRefusal_20 : decode cX5_textRefusal 20 = .ok (.invokevirtual 68, 3) := by decide +kernel
theorem dX5_textRefusal_23 : decode cX5_textRefusal 23 = .ok (.goto 4, 3) := by decide +kernel
theorem dX5_textRefusal_26 : decode cX5_textRefusal 26 = .ok (.iconst 0, 1) := by decide +kernel
theorem dX5_textRefusal_27 : decode cX5_textRefusal 27 = .ok (.ireturn, 1) := by decide +kernel
theorem dX5_queueRefusal_0 : decode cX5_queueRefusal 0 = .ok (.iload_n 1, 1) := by decide +kernel
theorem dX5_queueRefusal_1 : decode cX5_queueRefusal 1 = .ok (.invokestatic 64, 3) := by decide +kernel
theorem dX5_queueRefusal_4 : decode cX5_queueRefusal 4 = .ok (.ifCond .ne 5, 3) := by decide +kernel
theorem dX5_queueRefusal_7 : decode cX5_queueRefusal 7 = .ok (.iconst (-1), 1) := by decide +kernel
theorem dX5_queueRefusal_8 : decode cX5_queueRefusal 8 = .ok (.ireturn, 1) := by decide +kernel
theorem dX5_queueRefusal_9 : decode cX5_queueRefusal 9 = .ok (.aload_n 0, 1) := by decide +kernel
theorem dX5_queueRefusal_10 : decode cX5_queueRefusal 10 = .ok (.getfield 29, 3) := by decide +kernel
theorem dX5_queueRefusal_13 : decode cX5_queueRefusal 13 = .ok (.getfield 107, 3) := by decide +kernel
theorem dX5_queueRefusal_16 : decode cX5_queueRefusal 16 = .ok (.ifCond .ne 6, 3) := by decide +kernel
theorem dX5_queueRefusal_19 : decode cX5_queueRefusal 19 = .ok (.bipush (-4), 2) := by decide +kernel
theorem dX5_queueRefusal_21 : decode cX5_queueRefusal 21 = .ok (.ireturn, 1) := by decide +kernel
theorem dX5_queueRefusal_22 : decode cX5_queueRefusal 22 = .ok (.aload_n 0, 1) := by decide +kernel
theorem dX5_queueRefusal_23 : decode cX5_queueRefusal 23 = .ok (.getfield 14, 3) := by decide +kernel
theorem dX5_queueRefusal_26 : decode cX5_queueRefusal 26 = .ok (.iload_n 1, 1) := by decide +kernel
theorem dX5_queueRefusal_27 : decode cX5_queueRefusal 27 = .ok (.iaload, 1) := by decide +kernel
theorem dX5_queueRefusal_28 : decode cX5_queueRefusal 28 = .ok (.ifCond .ge 9, 3) := by decide +kernel
theorem dX5_queueRefusal_31 : decode cX5_queueRefusal 31 = .ok (.aload_n 0, 1) := by decide +kernel
theorem dX5_queueRefusal_32 : decode cX5_queueRefusal 32 = .ok (.iconst 1, 1) := by decide +kernel
theorem dX5_queueRefusal_33 : decode cX5_queueRefusal 33 = .ok (.invokevirtual 68, 3) := by decide +kernel
theorem dX5_queueRefusal_36 : decode cX5_queueRefusal 36 = .ok (.ireturn, 1) := by decide +kernel
theorem dX5_queueRefusal_37 : decode cX5_queueRefusal 37 = .ok (.aload_n 0, 1) := by decide +kernel
theorem dX5_queueRefusal_38 : decode cX5_queueRefusal 38 = .ok (.getfield 14, 3) := by decide +kernel
theorem dX5_queueRefusal_41 : decode cX5_queueRefusal 41 = .ok (.iload_n 1, 1) := by decide +kernel
theorem dX5_queueRefusal_42 : decode cX5_queueRefusal 42 = .ok (.iaload, 1) := by decide +kernel
theorem dX5_queueRefusal_43 : decode cX5_queueRefusal 43 = .ok (.iconst 2, 1) := by decide +kernel
theorem dX5_queueRefusal_44 : decode cX5_queueRefusal 44 = .ok (.irem, 1) := by decide +kernel
theorem dX5_queueRefusal_45 : decode cX5_queueRefusal 45 = .ok (.ifCond .ne 14, 3) := by decide +kernel
theorem dX5_queueRefusal_48 : decode cX5_queueRefusal 48 = .ok (.aload_n 0, 1) := by decide +kernel
theorem dX5_queueRefusal_49 : decode cX5_queueRefusal 49 = .ok (.getfield 14, 3) := by decide +kernel
theorem dX5_queueRefusal_52 : decode cX5_queueRefusal 52 = .ok (.iload_n 1, 1) := by decide +kernel
theorem dX5_queueRefusal_53 : decode cX5_queueRefusal 53 = .ok (.iaload, 1) := by decide +kernel
theorem dX5_queueRefusal_54 : decode cX5_queueRefusal 54 = .ok (.bipush 16, 2) := by decide +kernel
theorem dX5_queueRefusal_56 : decode cX5_queueRefusal 56 = .ok (.if_icmp .le 9, 3) := by decide +kernel
theorem dX5_queueRefusal_59 : decode cX5_queueRefusal 59 = .ok (.aload_n 0, 1) := by decide +kernel
theorem dX5_queueRefusal_60 : decode cX5_queueRefusal 60 = .ok (.iconst 5, 1) := by decide +kernel
theorem dX5_queueRefusal_61 : decode cX5_queueRefusal 61 = .ok (.invokevirtual 68, 3) := by decide +kernel
theorem dX5_queueRefusal_64 : decode cX5_queueRefusal 64 = .ok (.ireturn, 1) := by decide +kernel
theorem dX5_queueRefusal_65 : decode cX5_queueRefusal 65 = .ok (.aload_n 0, 1) := by decide +kernel
theorem dX5_queueRefusal_66 : decode cX5_queueRefusal 66 = .ok (.aload_n 0, 1) := by decide +kernel
theorem dX5_queueRefusal_67 : decode cX5_queueRefusal 67 = .ok (.getfield 11, 3) := by decide +kernel
theorem dX5_queueRefusal_70 : decode cX5_queueRefusal 70 = .ok (.iload_n 1, 1) := by decide +kernel
theorem dX5_queueRefusal_71 : decode cX5_queueRefusal 71 = .ok (.aaload, 1) := by decide +kernel
theorem dX5_queueRefusal_72 : decode cX5_queueRefusal 72 = .ok (.aload_n 0, 1) := by decide +kernel
theorem dX5_queueRefusal_73 : decode cX5_queueRefusal 73 = .ok (.getfield 14, 3) := by decide +kernel
theorem dX5_queueRefusal_76 : decode cX5_queueRefusal 76 = .ok (.iload_n 1, 1) := by decide +kernel
theorem dX5_queueRefusal_77 : decode cX5_queueRefusal 77 = .ok (.iaload, 1) := by decide +kernel
theorem dX5_queueRefusal_78 : decode cX5_queueRefusal 78 = .ok (.invokevirtual 297, 3) := by decide +kernel
theorem dX5_queueRefusal_81 : decode cX5_queueRefusal 81 = .ok (.ifCond .eq 7, 3) := by decide +kernel
theorem dX5_queueRefusal_84 : decode cX5_queueRefusal 84 = .ok (.iconst 0, 1) := by decide +kernel
theorem dX5_queueRefusal_85 : decode cX5_queueRefusal 85 = .ok (.goto 8, 3) := by decide +kernel
theorem dX5_queueRefusal_88 : decode cX5_queueRefusal 88 = .ok (.aload_n 0, 1) := by decide +kernel
theorem dX5_queueRefusal_89 : decode cX5_queueRefusal 89 = .ok (.iconst 3, 1) := by decide +kernel
theorem dX5_queueRefusal_90 : decode cX5_queueRefusal 90 = .ok (.invokevirtual 68, 3) := by decide +kernel
theorem dX5_queueRefusal_93 : decode cX5_queueRefusal 93 = .ok (.ireturn, 1) := by decide +kernel
theorem dX5_bookRefusal_0 : decode cX5_bookRefusal 0 = .ok (.aload_n 0, 1) := by decide +kernel
theorem dX5_bookRefusal_1 : decode cX5_bookRefusal 1 = .ok (.iload_n 1, 1) := by decide +kernel
theorem dX5_bookRefusal_2 : decode cX5_bookRefusal 2 = .ok (.invokevirtual 80, 3) := by decide +kernel
theorem dX5_bookRefusal_5 : decode cX5_bookRefusal 5 = .ok (.istore_n 2, 1) := by decide +kernel
theorem dX5_bookRefusal_6 : decode cX5_bookRefusal 6 = .ok (.iload_n 2, 1) := by decide +kernel
theorem dX5_bookRefusal_7 : decode cX5_bookRefusal 7 = .ok (.ifCond .eq 5, 3) := by decide +kernel
theorem dX5_bookRefusal_10 : decode cX5_bookRefusal 10 = .ok (.iload_n 2, 1) := by decide +kernel
theorem dX5_bookRefusal_11 : decode cX5_bookRefusal 11 = .ok (.ireturn, 1) := by decide +kernel
theorem dX5_bookRefusal_12 : decode cX5_bookRefusal 12 = .ok (.aload_n 0, 1) := by decide +kernel
theorem dX5_bookRefusal_13 : decode cX5_bookRefusal 13 = .ok (.getfield 14, 3) := by decide +kernel
theorem dX5_bookRefusal_16 : decode cX5_bookRefusal 16 = .ok (.iload_n 1, 1) := by decide +kernel
theorem dX5_bookRefusal_17 : decode cX5_bookRefusal 17 = .ok (.iaload, 1) := by decide +kernel
theorem dX5_bookRefusal_18 : decode cX5_bookRefusal 18 = .ok (.iconst 2, 1) := by decide +kernel
theorem dX5_bookRefusal_19 : decode cX5_bookRefusal 19 = .ok (.irem, 1) := by decide +kernel
theorem dX5_bookRefusal_20 : decode cX5_bookRefusal 20 = .ok (.ifCond .eq 9, 3) := by decide +kernel
theorem dX5_bookRefusal_23 : decode cX5_bookRefusal 23 = .ok (.aload_n 0, 1) := by decide +kernel
theorem dX5_bookRefusal_24 : decode cX5_bookRefusal 24 = .ok (.iconst 5, 1) := by decide +kernel
theorem dX5_bookRefusal_25 : decode cX5_bookRefusal 25 = .ok (.invokevirtual 68, 3) := by decide +kernel
theorem dX5_bookRefusal_28 : decode cX5_bookRefusal 28 = .ok (.ireturn, 1) := by decide +kernel
theorem dX5_bookRefusal_29 : decode cX5_bookRefusal 29 = .ok (.aload_n 0, 1) := by decide +kernel
theorem dX5_bookRefusal_30 : decode cX5_bookRefusal 30 = .ok (.getfield 11, 3) := by decide +kernel
theorem dX5_bookRefusal_33 : decode cX5_bookRefusal 33 = .ok (.iload_n 1, 1) := by decide +kernel
theorem dX5_bookRefusal_34 : decode cX5_bookRefusal 34 = .ok (.aaload, 1) := by decide +kernel
theorem dX5_bookRefusal_35 : decode cX5_bookRefusal 35 = .ok (.aload_n 0, 1) := by decide +kernel
theorem dX5_bookRefusal_36 : decode cX5_bookRefusal 36 = .ok (.getfield 14, 3) := by decide +kernel
theorem dX5_bookRefusal_39 : decode cX5_bookRefusal 39 = .ok (.iload_n 1, 1) := by decide +kernel
theorem dX5_bookRefusal_40 : decode cX5_bookRefusal 40 = .ok (.iaload, 1) := by decide +kernel
theorem dX5_bookRefusal_41 : decode cX5_bookRefusal 41 = .ok (.invokestatic 301, 3) := by decide +kernel
theorem dX5_bookRefusal_44 : decode cX5_bookRefusal 44 = .ok (.ifCond .eq 7, 3) := by decide +kernel
theorem dX5_bookRefusal_47 : decode cX5_bookRefusal 47 = .ok (.iconst 0, 1) := by decide +kernel
theorem dX5_bookRefusal_48 : decode cX5_bookRefusal 48 = .ok (.goto 8, 3) := by decide +kernel
theorem dX5_bookRefusal_51 : decode cX5_bookRefusal 51 = .ok (.aload_n 0, 1) := by decide +kernel
theorem dX5_bookRefusal_52 : decode cX5_bookRefusal 52 = .ok (.iconst 3, 1) := by decide +kernel
theorem dX5_bookRefusal_53 : decode cX5_bookRefusal 53 = .ok (.invokevirtual 68, 3) := by decide +kernel
theorem dX5_bookRefusal_56 : decode cX5_bookRefusal 56 = .ok (.ireturn, 1) := by decide +kernel
theorem dX5_isQueue_0 : decode cX5_isQueue 0 = .ok (.iconst 0, 1) := by decide +kernel
theorem dX5_isQueue_1 : decode cX5_isQueue 1 = .ok (.istore_n 3, 1) := by decide +kernel
theorem dX5_isQueue_2 : decode cX5_isQueue 2 = .ok (.iconst 0, 1) := by decide +kernel
theorem dX5_isQueue_3 : decode cX5_isQueue 3 = .ok (.istore 4, 2) := by decide +kernel
theorem dX5_isQueue_5 : decode cX5_isQueue 5 = .ok (.iload 4, 2) := by decide +kernel
theorem dX5_isQueue_7 : decode cX5_isQueue 7 = .ok (.iconst 1, 1) := by decide +kernel
theorem dX5_isQueue_8 : decode cX5_isQueue 8 = .ok (.iadd, 1) := by decide +kernel
theorem dX5_isQueue_9 : decode cX5_isQueue 9 = .ok (.iload_n 2, 1) := by decide +kernel
theorem dX5_isQueue_10 : decode cX5_isQueue 10 = .ok (.if_icmp .ge 51, 3) := by decide +kernel
theorem dX5_isQueue_13 : decode cX5_isQueue 13 = .ok (.aload_n 0, 1) := by decide +kernel
theorem dX5_isQueue_14 : decode cX5_isQueue 14 = .ok (.aload_n 1, 1) := by decide +kernel
theorem dX5_isQueue_15 : decode cX5_isQueue 15 = .ok (.iload 4, 2) := by decide +kernel
theorem dX5_isQueue_17 : decode cX5_isQueue 17 = .ok (.iaload, 1) := by decide +kernel
theorem dX5_isQueue_18 : decode cX5_isQueue 18 = .ok (.invokevirtual 110, 3) := by decide +kernel
theorem dX5_isQueue_21 : decode cX5_isQueue 21 = .ok (.ifCond .eq 25, 3) := by decide +kernel
theorem dX5_isQueue_24 : decode cX5_isQueue 24 = .ok (.aload_n 1, 1) := by decide +kernel
theorem dX5_isQueue_25 : decode cX5_isQueue 25 = .ok (.iload 4, 2) := by decide +kernel
theorem dX5_isQueue_27 : decode cX5_isQueue 27 = .ok (.iconst 1, 1) := by decide +kernel
theorem dX5_isQueue_28 : decode cX5_isQueue 28 = .ok (.iadd, 1) := by decide +kernel
theorem dX5_isQueue_29 : decode cX5_isQueue 29 = .ok (.iaload, 1) := by decide +kernel
theorem dX5_isQueue_30 : decode cX5_isQueue 30 = .ok (.iload_n 3, 1) := by decide +kernel
theorem dX5_isQueue_31 : decode cX5_isQueue 31 = .ok (.if_icmp .lt 15, 3) := by decide +kernel
theorem dX5_isQueue_34 : decode cX5_isQueue 34 = .ok (.aload_n 1, 1) := by decide +kernel
theorem dX5_isQueue_35 : decode cX5_isQueue 35 = .ok (.iload 4, 2) := by decide +kernel
theorem dX5_isQueue_37 : decode cX5_isQueue 37 = .ok (.iconst 1, 1) := by decide +kernel
theorem dX5_isQueue_38 : decode cX5_isQueue 38 = .ok (.iadd, 1) := by decide +kernel
theorem dX5_isQueue_39 : decode cX5_isQueue 39 = .ok (.iaload, 1) := by decide +kernel
theorem dX5_isQueue_40 : decode cX5_isQueue 40 = .ok (.sipush 999, 3) := by decide +kernel
theorem dX5_isQueue_43 : decode cX5_isQueue 43 = .ok (.if_icmp .le 5, 3) := by decide +kernel
theorem dX5_isQueue_46 : decode cX5_isQueue 46 = .ok (.iconst 0, 1) := by decide +kernel
theorem dX5_isQueue_47 : decode cX5_isQueue 47 = .ok (.ireturn, 1) := by decide +kernel
theorem dX5_isQueue_48 : decode cX5_isQueue 48 = .ok (.aload_n 1, 1) := by decide +kernel
theorem dX5_isQueue_49 : decode cX5_isQueue 49 = .ok (.iload 4, 2) := by decide +kernel
theorem dX5_isQueue_51 : decode cX5_isQueue 51 = .ok (.iconst 1, 1) := by decide +kernel
theorem dX5_isQueue_52 : decode cX5_isQueue 52 = .ok (.iadd, 1) := by decide +kernel
theorem dX5_isQueue_53 : decode cX5_isQueue 53 = .ok (.iaload, 1) := by decide +kernel
theorem dX5_isQueue_54 : decode cX5_isQueue 54 = .ok (.istore_n 3, 1) := by decide +kernel
theorem dX5_isQueue_55 : decode cX5_isQueue 55 = .ok (.iinc 4 2, 3) := by decide +kernel
theorem dX5_isQueue_58 : decode cX5_isQueue 58 = .ok (.goto (-53), 3) := by decide +kernel
theorem dX5_isQueue_61 : decode cX5_isQueue 61 = .ok (.iconst 1, 1) := by decide +kernel
theorem dX5_isQueue_62 : decode cX5_isQueue 62 = .ok (.ireturn, 1) := by decide +kernel
theorem dX5_isBook_0 : decode cX5_isBook 0 = .ok (.iconst 0, 1) := by decide +kernel
theorem dX5_isBook_1 : decode cX5_isBook 1 = .ok (.istore_n 2, 1) := by decide +kernel
theorem dX5_isBook_2 : decode cX5_isBook 2 = .ok (.iload_n 2, 1) := by decide +kernel
theorem dX5_isBook_3 : decode cX5_isBook 3 = .ok (.iconst 1, 1) := by decide +kernel
theorem dX5_isBook_4 : decode cX5_isBook 4 = .ok (.iadd, 1) := by decide +kernel
theorem dX5_isBook_5 : decode cX5_isBook 5 = .ok (.iload_n 1, 1) := by decide +kernel
theorem dX5_isBook_6 : decode cX5_isBook 6 = .ok (.if_icmp .ge 31, 3) := by decide +kernel
theorem dX5_isBook_9 : decode cX5_isBook 9 = .ok (.aload_n 0, 1) := by decide +kernel
theorem dX5_isBook_10 : decode cX5_isBook 10 = .ok (.iload_n 2, 1) := by decide +kernel
theorem dX5_isBook_11 : decode cX5_isBook 11 = .ok (.iaload, 1) := by decide +kernel
theorem dX5_isBook_12 : decode cX5_isBook 12 = .ok (.invokestatic 204, 3) := by decide +kernel
theorem dX5_isBook_15 : decode cX5_isBook 15 = .ok (.ifCond .eq 14, 3) := by decide +kernel
theorem dX5_isBook_18 : decode cX5_isBook 18 = .ok (.aload_n 0, 1) := by decide +kernel
theorem dX5_isBook_19 : decode cX5_isBook 19 = .ok (.iload_n 2, 1) := by decide +kernel
theorem dX5_isBook_20 : decode cX5_isBook 20 = .ok (.iconst 1, 1) := by decide +kernel
theorem dX5_isBook_21 : decode cX5_isBook 21 = .ok (.iadd, 1) := by decide +kernel
theorem dX5_isBook_22 : decode cX5_isBook 22 = .ok (.iaload, 1) := by decide +kernel
theorem dX5_isBook_23 : decode cX5_isBook 23 = .ok (.invokestatic 155, 3) := by decide +kernel
theorem dX5_isBook_26 : decode cX5_isBook 26 = .ok (.ifCond .ne 5, 3) := by decide +kernel
theorem dX5_isBook_29 : decode cX5_isBook 29 = .ok (.iconst 0, 1) := by decide +kernel
theorem dX5_isBook_30 : decode cX5_isBook 30 = .ok (.ireturn, 1) := by decide +kernel
theorem dX5_isBook_31 : decode cX5_isBook 31 = .ok (.iinc 2 2, 3) := by decide +kernel
theorem dX5_isBook_34 : decode cX5_isBook 34 = .ok (.goto (-32), 3) := by decide +kernel
theorem dX5_isBook_37 : decode cX5_isBook 37 = .ok (.iconst 1, 1) := by decide +kernel
theorem dX5_isBook_38 : decode cX5_isBook 38 = .ok (.ireturn, 1) := by decide +kernel
theorem dX5_makeRow_0 : decode cX5_makeRow 0 = .ok (.iconst 0, 1) := by decide +kernel
theorem dX5_makeRow_1 : decode cX5_makeRow 1 = .ok (.istore_n 3, 1) := by decide +kernel
theorem dX5_makeRow_2 : decode cX5_makeRow 2 = .ok (.iload_n 3, 1) := by decide +kernel
theorem dX5_makeRow_3 : decode cX5_makeRow 3 = .ok (.iload_n 2, 1) := by decide +kernel
theorem dX5_makeRow_4 : decode cX5_makeRow 4 = .ok (.if_icmp .ge 18, 3) := by decide +kernel
theorem dX5_makeRow_7 : decode cX5_makeRow 7 = .ok (.aload_n 0, 1) := by decide +kernel
theorem dX5_makeRow_8 : decode cX5_makeRow 8 = .ok (.getfield 11, 3) := by decide +kernel
theorem dX5_makeRow_11 : decode cX5_makeRow 11 = .ok (.iload_n 1, 1) := by decide +kernel
theorem dX5_makeRow_12 : decode cX5_makeRow 12 = .ok (.aaload, 1) := by decide +kernel
theorem dX5_makeRow_13 : decode cX5_makeRow 13 = .ok (.iload_n 3, 1) := by decide +kernel
theorem dX5_makeRow_14 : decode cX5_makeRow 14 = .ok (.iconst 0, 1) := by decide +kernel
theorem dX5_makeRow_15 : decode cX5_makeRow 15 = .ok (.iastore, 1) := by decide +kernel
theorem dX5_makeRow_16 : decode cX5_makeRow 16 = .ok (.iinc 3 1, 3) := by decide +kernel
theorem dX5_makeRow_19 : decode cX5_makeRow 19 = .ok (.goto (-17), 3) := by decide +kernel
theorem dX5_makeRow_22 : decode cX5_makeRow 22 = .ok (.aload_n 0, 1) := by decide +kernel
theorem dX5_makeRow_23 : decode cX5_makeRow 23 = .ok (.getfield 14, 3) := by decide +kernel
theorem dX5_makeRow_26 : decode cX5_makeRow 26 = .ok (.iload_n 1, 1) := by decide +kernel
theorem dX5_makeRow_27 : decode cX5_makeRow 27 = .ok (.iload_n 2, 1) := by decide +kernel
theorem dX5_makeRow_28 : decode cX5_makeRow 28 = .ok (.iastore, 1) := by decide +kernel
theorem dX5_makeRow_29 : decode cX5_makeRow 29 = .ok (.return_, 1) := by decide +kernel
theorem dX5_lineUp_0 : decode cX5_lineUp 0 = .ok (.iload_n 2, 1) := by decide +kernel
theorem dX5_lineUp_1 : decode cX5_lineUp 1 = .ok (.istore 4, 2) := by decide +kernel
theorem dX5_lineUp_3 : decode cX5_lineUp 3 = .ok (.iconst 0, 1) := by decide +kernel
theorem dX5_lineUp_4 : decode cX5_lineUp 4 = .ok (.istore 5, 2) := by decide +kernel
theorem dX5_lineUp_6 : decode cX5_lineUp 6 = .ok (.iload 5, 2) := by decide +kernel
theorem dX5_lineUp_8 : decode cX5_lineUp 8 = .ok (.aload_n 0, 1) := by decide +kernel
theorem dX5_lineUp_9 : decode cX5_lineUp 9 = .ok (.getfield 29, 3) := by decide +kernel
theorem dX5_lineUp_12 : decode cX5_lineUp 12 = .ok (.getfield 107, 3) := by decide +kernel
theorem dX5_lineUp_15 : decode cX5_lineUp 15 = .ok (.if_icmp .ge 40, 3) := by decide +kernel
theorem dX5_lineUp_18 : decode cX5_lineUp 18 = .ok (.aload_n 0, 1) := by decide +kernel
theorem dX5_lineUp_19 : decode cX5_lineUp 19 = .ok (.getfield 29, 3) := by decide +kernel
theorem dX5_lineUp_22 : decode cX5_lineUp 22 = .ok (.getfield 116, 3) := by decide +kernel
theorem dX5_lineUp_25 : decode cX5_lineUp 25 = .ok (.iload 5, 2) := by decide +kernel
theorem dX5_lineUp_27 : decode cX5_lineUp 27 = .ok (.aaload, 1) := by decide +kernel
theorem dX5_lineUp_28 : decode cX5_lineUp 28 = .ok (.invokevirtual 304, 3) := by decide +kernel
theorem dX5_lineUp_31 : decode cX5_lineUp 31 = .ok (.iload_n 3, 1) := by decide +kernel
theorem dX5_lineUp_32 : decode cX5_lineUp 32 = .ok (.if_icmp .ne 17, 3) := by decide +kernel
theorem dX5_lineUp_35 : decode cX5_lineUp 35 = .ok (.aload_n 0, 1) := by decide +kernel
theorem dX5_lineUp_36 : decode cX5_lineUp 36 = .ok (.getfield 11, 3) := by decide +kernel
theorem dX5_lineUp_39 : decode cX5_lineUp 39 = .ok (.iload_n 1, 1) := by decide +kernel
theorem dX5_lineUp_40 : decode cX5_lineUp 40 = .ok (.aaload, 1) := by decide +kernel
theorem dX5_lineUp_41 : decode cX5_lineUp 41 = .ok (.iload 4, 2) := by decide +kernel
theorem dX5_lineUp_43 : decode cX5_lineUp 43 = .ok (.iload 5, 2) := by decide +kernel
theorem dX5_lineUp_45 : decode cX5_lineUp 45 = .ok (.iastore, 1) := by decide +kernel
theorem dX5_lineUp_46 : decode cX5_lineUp 46 = .ok (.iinc 4 1, 3) := by decide +kernel
theorem dX5_lineUp_49 : decode cX5_lineUp 49 = .ok (.iinc 5 1, 3) := by decide +kernel
theorem dX5_lineUp_52 : decode cX5_lineUp 52 = .ok (.goto (-46), 3) := by decide +kernel
theorem dX5_lineUp_55 : decode cX5_lineUp 55 = .ok (.iload 4, 2) := by decide +kernel
theorem dX5_lineUp_57 : decode cX5_lineUp 57 = .ok (.ireturn, 1) := by decide +kernel
theorem dX5_liesOf_0 : decode cX5_liesOf 0 = .ok (.aload_n 0, 1) := by decide +kernel
theorem dX5_liesOf_1 : decode cX5_liesOf 1 = .ok (.getfield 29, 3) := by decide +kernel
theorem dX5_liesOf_4 : decode cX5_liesOf 4 = .ok (.getfield 116, 3) := by decide +kernel
theorem dX5_liesOf_7 : decode cX5_liesOf 7 = .ok (.iload_n 1, 1) := by decide +kernel
theorem dX5_liesOf_8 : decode cX5_liesOf 8 = .ok (.aaload, 1) := by decide +kernel
theorem dX5_liesOf_9 : decode cX5_liesOf 9 = .ok (.astore_n 3, 1) := by decide +kernel
theorem dX5_liesOf_10 : decode cX5_liesOf 10 = .ok (.aload_n 0, 1) := by decide +kernel
theorem dX5_liesOf_11 : decode cX5_liesOf 11 = .ok (.getfield 11, 3) := by decide +kernel
theorem dX5_liesOf_14 : decode cX5_liesOf 14 = .ok (.iload_n 2, 1) := by decide +kernel
theorem dX5_liesOf_15 : decode cX5_liesOf 15 = .ok (.aaload, 1) := by decide +kernel
theorem dX5_liesOf_16 : decode cX5_liesOf 16 = .ok (.aload_n 0, 1) := by decide +kernel
theorem dX5_liesOf_17 : decode cX5_liesOf 17 = .ok (.getfield 14, 3) := by decide +kernel
theorem dX5_liesOf_20 : decode cX5_liesOf 20 = .ok (.iload_n 2, 1) := by decide +kernel
theorem dX5_liesOf_21 : decode cX5_liesOf 21 = .ok (.iaload, 1) := by decide +kernel
theorem dX5_liesOf_22 : decode cX5_liesOf 22 = .ok (.aload_n 3, 1) := by decide +kernel
theorem dX5_liesOf_23 : decode cX5_liesOf 23 = .ok (.getfield 308, 3) := by decide +kernel
theorem dX5_liesOf_26 : decode cX5_liesOf 26 = .ok (.aload_n 3, 1) := by decide +kernel
theorem dX5_liesOf_27 : decode cX5_liesOf 27 = .ok (.getfield 311, 3) := by decide +kernel
theorem dX5_liesOf_30 : decode cX5_liesOf 30 = .ok (.aload_n 3, 1) := by decide +kernel
theorem dX5_liesOf_31 : decode cX5_liesOf 31 = .ok (.getfield 165, 3) := by decide +kernel
theorem dX5_liesOf_34 : decode cX5_liesOf 34 = .ok (.invokestatic 258, 3) := by decide +kernel
theorem dX5_liesOf_37 : decode cX5_liesOf 37 = .ok (.ireturn, 1) := by decide +kernel
theorem dX5_unlikeSales_0 : decode cX5_unlikeSales 0 = .ok (.iconst 0, 1) := by decide +kernel
theorem dX5_unlikeSales_1 : decode cX5_unlikeSales 1 = .ok (.istore 5, 2) := by decide +kernel
theorem dX5_unlikeSales_3 : decode cX5_unlikeSales 3 = .ok (.iconst 0, 1) := by decide +kernel
theorem dX5_unlikeSales_4 : decode cX5_unlikeSales 4 = .ok (.istore 6, 2) := by decide +kernel
theorem dX5_unlikeSales_6 : decode cX5_unlikeSales 6 = .ok (.iload 6, 2) := by decide +kernel
theorem dX5_unlikeSales_8 : decode cX5_unlikeSales 8 = .ok (.iconst 1, 1) := by decide +kernel
theorem dX5_unlikeSales_9 : decode cX5_unlikeSales 9 = .ok (.iadd, 1) := by decide +kernel
theorem dX5_unlikeSales_10 : decode cX5_unlikeSales 10 = .ok (.iload_n 1, 1) := by decide +kernel
theorem dX5_unlikeSales_11 : decode cX5_unlikeSales 11 = .ok (.if_icmp .ge 42, 3) := by decide +kernel
theorem dX5_unlikeSales_14 : decode cX5_unlikeSales 14 = .ok (.iload_n 2, 1) := by decide +kernel
theorem dX5_unlikeSales_15 : decode cX5_unlikeSales 15 = .ok (.aload_n 0, 1) := by decide +kernel
theorem dX5_unlikeSales_16 : decode cX5_unlikeSales 16 = .ok (.iload 6, 2) := by decide +kernel
theorem dX5_unlikeSales_18 : decode cX5_unlikeSales 18 = .ok (.iaload, 1) := by decide +kernel
theorem dX5_unlikeSales_19 : decode cX5_unlikeSales 19 = .ok (.invokestatic 314, 3) := by decide +kernel
theorem dX5_unlikeSales_22 : decode cX5_unlikeSales 22 = .ok (.ifCond .eq 8, 3) := by decide +kernel
theorem dX5_unlikeSales_25 : decode cX5_unlikeSales 25 = .ok (.iload 4, 2) := by decide +kernel
theorem dX5_unlikeSales_27 : decode cX5_unlikeSales 27 = .ok (.goto 4, 3) := by decide +kernel
theorem dX5_unlikeSales_30 : decode cX5_unlikeSales 30 = .ok (.iload_n 3, 1) := by decide +kernel
theorem dX5_unlikeSales_31 : decode cX5_unlikeSales 31 = .ok (.istore 7, 2) := by decide +kernel
theorem dX5_unlikeSales_33 : decode cX5_unlikeSales 33 = .ok (.iload 7, 2) := by decide +kernel
theorem dX5_unlikeSales_35 : decode cX5_unlikeSales 35 = .ok (.aload_n 0, 1) := by decide +kernel
theorem dX5_unlikeSales_36 : decode cX5_unlikeSales 36 = .ok (.iload 6, 2) := by decide +kernel
theorem dX5_unlikeSales_38 : decode cX5_unlikeSales 38 = .ok (.iconst 1, 1) := by decide +kernel
theorem dX5_unlikeSales_39 : decode cX5_unlikeSales 39 = .ok (.iadd, 1) := by decide +kernel
theorem dX5_unlikeSales_40 : decode cX5_unlikeSales 40 = .ok (.iaload, 1) := by decide +kernel
theorem dX5_unlikeSales_41 : decode cX5_unlikeSales 41 = .ok (.if_icmp .eq 6, 3) := by decide +kernel
theorem dX5_unlikeSales_44 : decode cX5_unlikeSales 44 = .ok (.iinc 5 1, 3) := by decide +kernel
theorem dX5_unlikeSales_47 : decode cX5_unlikeSales 47 = .ok (.iinc 6 2, 3) := by decide +kernel
theorem dX5_unlikeSales_50 : decode cX5_unlikeSales 50 = .ok (.goto (-44), 3) := by decide +kernel
theorem dX5_unlikeSales_53 : decode cX5_unlikeSales 53 = .ok (.iload 5, 2) := by decide +kernel
theorem dX5_unlikeSales_55 : decode cX5_unlikeSales 55 = .ok (.ireturn, 1) := by decide +kernel
theorem dX5_thoseThere_0 : decode cX5_thoseThere 0 = .ok (.iconst 0, 1) := by decide +kernel
theorem dX5_thoseThere_1 : decode cX5_thoseThere 1 = .ok (.istore_n 1, 1) := by decide +kernel
theorem dX5_thoseThere_2 : decode cX5_thoseThere 2 = .ok (.aload_n 0, 1) := by decide +kernel
theorem dX5_thoseThere_3 : decode cX5_thoseThere 3 = .ok (.astore_n 2, 1) := by decide +kernel
theorem dX5_thoseThere_4 : decode cX5_thoseThere 4 = .ok (.aload_n 2, 1) := by decide +kernel
theorem dX5_thoseThere_5 : decode cX5_thoseThere 5 = .ok (.arraylength, 1) := by decide +kernel
theorem dX5_thoseThere_6 : decode cX5_thoseThere 6 = .ok (.istore_n 3, 1) := by decide +kernel
theorem dX5_thoseThere_7 : decode cX5_thoseThere 7 = .ok (.iconst 0, 1) := by decide +kernel
theorem dX5_thoseThere_8 : decode cX5_thoseThere 8 = .ok (.istore 4, 2) := by decide +kernel
theorem dX5_thoseThere_10 : decode cX5_thoseThere 10 = .ok (.iload 4, 2) := by decide +kernel
theorem dX5_thoseThere_12 : decode cX5_thoseThere 12 = .ok (.iload_n 3, 1) := by decide +kernel
theorem dX5_thoseThere_13 : decode cX5_thoseThere 13 = .ok (.if_icmp .ge 23, 3) := by decide +kernel
theorem dX5_thoseThere_16 : decode cX5_thoseThere 16 = .ok (.aload_n 2, 1) := by decide +kernel
theorem dX5_thoseThere_17 : decode cX5_thoseThere 17 = .ok (.iload 4, 2) := by decide +kernel
theorem dX5_thoseThere_19 : decode cX5_thoseThere 19 = .ok (.iaload, 1) := by decide +kernel
theorem dX5_thoseThere_20 : decode cX5_thoseThere 20 = .ok (.istore 5, 2) := by decide +kernel
theorem dX5_thoseThere_22 : decode cX5_thoseThere 22 = .ok (.iload 5, 2) := by decide +kernel
theorem dX5_thoseThere_24 : decode cX5_thoseThere 24 = .ok (.ifCond .lt 6, 3) := by decide +kernel
theorem dX5_thoseThere_27 : decode cX5_thoseThere 27 = .ok (.iinc 1 1, 3) := by decide +kernel
theorem dX5_thoseThere_30 : decode cX5_thoseThere 30 = .ok (.iinc 4 1, 3) := by decide +kernel
theorem dX5_thoseThere_33 : decode cX5_thoseThere 33 = .ok (.goto (-23), 3) := by decide +kernel
theorem dX5_thoseThere_36 : decode cX5_thoseThere 36 = .ok (.iload_n 1, 1) := by decide +kernel
theorem dX5_thoseThere_37 : decode cX5_thoseThere 37 = .ok (.ireturn, 1) := by decide +kernel
theorem dX5_shopsKept_0 : decode cX5_shopsKept 0 = .ok (.iconst 0, 1) := by decide +kernel
theorem dX5_shopsKept_1 : decode cX5_shopsKept 1 = .ok (.istore_n 1, 1) := by decide +kernel
theorem dX5_shopsKept_2 : decode cX5_shopsKept 2 = .ok (.iconst 0, 1) := by decide +kernel
theorem dX5_shopsKept_3 : decode cX5_shopsKept 3 = .ok (.istore_n 2, 1) := by decide +kernel
theorem dX5_shopsKept_4 : decode cX5_shopsKept 4 = .ok (.iload_n 2, 1) := by decide +kernel
theorem dX5_shopsKept_5 : decode cX5_shopsKept 5 = .ok (.iconst 3, 1) := by decide +kernel
theorem dX5_shopsKept_6 : decode cX5_shopsKept 6 = .ok (.if_icmp .ge 24, 3) := by decide +kernel
theorem dX5_shopsKept_9 : decode cX5_shopsKept 9 = .ok (.aload_n 0, 1) := by decide +kernel
theorem dX5_shopsKept_10 : decode cX5_shopsKept 10 = .ok (.getfield 35, 3) := by decide +kernel
theorem dX5_shopsKept_13 : decode cX5_shopsKept 13 = .ok (.iload_n 2, 1) := by decide +kernel
theorem dX5_shopsKept_14 : decode cX5_shopsKept 14 = .ok (.aaload, 1) := by decide +kernel
theorem dX5_shopsKept_15 : decode cX5_shopsKept 15 = .ok (.getfield 103, 3) := by decide +kernel
theorem dX5_shopsKept_18 : decode cX5_shopsKept 18 = .ok (.ifCond .eq 6, 3) := by decide +kernel
theorem dX5_shopsKept_21 : decode cX5_shopsKept 21 = .ok (.iinc 1 1, 3) := by decide +kernel
theorem dX5_shopsKept_24 : decode cX5_shopsKept 24 = .ok (.iinc 2 1, 3) := by decide +kernel
theorem dX5_shopsKept_27 : decode cX5_shopsKept 27 = .ok (.goto (-23), 3) := by decide +kernel
theorem dX5_shopsKept_30 : decode cX5_shopsKept 30 = .ok (.iload_n 1, 1) := by decide +kernel
theorem dX5_shopsKept_31 : decode cX5_shopsKept 31 = .ok (.ireturn, 1) := by decide +kernel
theorem dX5_tell_0 : decode cX5_tell 0 = .ok (.lload_n 1, 1) := by decide +kernel
theorem dX5_tell_1 : decode cX5_tell 1 = .ok (.lload_n 3, 1) := by decide +kernel
theorem dX5_tell_2 : decode cX5_tell 2 = .ok (.invokestatic 317, 3) := by decide +kernel
theorem dX5_tell_5 : decode cX5_tell 5 = .ok (.lstore 5, 2) := by decide +kernel
theorem dX5_tell_7 : decode cX5_tell 7 = .ok (.lload 5, 2) := by decide +kernel
theorem dX5_tell_9 : decode cX5_tell 9 = .ok (.lconst 0, 1) := by decide +kernel
theorem dX5_tell_10 : decode cX5_tell 10 = .ok (.lcmp, 1) := by decide +kernel
theorem dX5_tell_11 : decode cX5_tell 11 = .ok (.ifCond .le 19, 3) := by decide +kernel
theorem dX5_tell_14 : decode cX5_tell 14 = .ok (.aload_n 0, 1) := by decide +kernel
theorem dX5_tell_15 : decode cX5_tell 15 = .ok (.lload_n 1, 1) := by decide +kernel
theorem dX5_tell_16 : decode cX5_tell 16 = .ok (.lload 5, 2) := by decide +kernel
theorem dX5_tell_18 : decode cX5_tell 18 = .ok (.ldiv, 1) := by decide +kernel
theorem dX5_tell_19 : decode cX5_tell 19 = .ok (.putfield 56, 3) := by decide +kernel
theorem dX5_tell_22 : decode cX5_tell 22 = .ok (.aload_n 0, 1) := by decide +kernel
theorem dX5_tell_23 : decode cX5_tell 23 = .ok (.lload_n 3, 1) := by decide +kernel
theorem dX5_tell_24 : decode cX5_tell 24 = .ok (.lload 5, 2) := by decide +kernel
theorem dX5_tell_26 : decode cX5_tell 26 = .ok (.ldiv, 1) := by decide +kernel
theorem dX5_tell_27 : decode cX5_tell 27 = .ok (.putfield 60, 3) := by decide +kernel
theorem dX5_tell_30 : decode cX5_tell 30 = .ok (.return_, 1) := by decide +kernel
theorem dX5_commonDivisor_0 : decode cX5_commonDivisor 0 = .ok (.lload_n 0, 1) := by decide +kernel
theorem dX5_commonDivisor_1 : decode cX5_commonDivisor 1 = .ok (.lstore 4, 2) := by decide +kernel
theorem dX5_commonDivisor_3 : decode cX5_commonDivisor 3 = .ok (.lload_n 2, 1) := by decide +kernel
theorem dX5_commonDivisor_4 : decode cX5_commonDivisor 4 = .ok (.lstore 6, 2) := by decide +kernel
theorem dX5_commonDivisor_6 : decode cX5_commonDivisor 6 = .ok (.iconst 0, 1) := by decide +kernel
theorem dX5_commonDivisor_7 : decode cX5_commonDivisor 7 = .ok (.istore 8, 2) := by decide +kernel
theorem dX5_commonDivisor_9 : decode cX5_commonDivisor 9 = .ok (.iload 8, 2) := by decide +kernel
theorem dX5_commonDivisor_11 : decode cX5_commonDivisor 11 = .ok (.sipush 200, 3) := by decide +kernel
theorem dX5_commonDivisor_14 : decode cX5_commonDivisor 14 = .ok (.if_icmp .ge 31, 3) := by decide +kernel
theorem dX5_commonDivisor_17 : decode cX5_commonDivisor 17 = .ok (.lload 6, 2) := by decide +kernel
theorem dX5_commonDivisor_19 : decode cX5_commonDivisor 19 = .ok (.lconst 0, 1) := by decide +kernel
theorem dX5_commonDivisor_20 : decode cX5_commonDivisor 20 = .ok (.lcmp, 1) := by decide +kernel
theorem dX5_commonDivisor_21 : decode cX5_commonDivisor 21 = .ok (.ifCond .eq 24, 3) := by decide +kernel
theorem dX5_commonDivisor_24 : decode cX5_commonDivisor 24 = .ok (.lload 4, 2) := by decide +kernel
theorem dX5_commonDivisor_26 : decode cX5_commonDivisor 26 = .ok (.lload 6, 2) := by decide +kernel
theorem dX5_commonDivisor_28 : decode cX5_commonDivisor 28 = .ok (.lrem, 1) := by decide +kernel
theorem dX5_commonDivisor_29 : decode cX5_commonDivisor 29 = .ok (.lstore 9, 2) := by decide +kernel
theorem dX5_commonDivisor_31 : decode cX5_commonDivisor 31 = .ok (.lload 6, 2) := by decide +kernel
theorem dX5_commonDivisor_33 : decode cX5_commonDivisor 33 = .ok (.lstore 4, 2) := by decide +kernel
theorem dX5_commonDivisor_35 : decode cX5_commonDivisor 35 = .ok (.lload 9, 2) := by decide +kernel
theorem dX5_commonDivisor_37 : decode cX5_commonDivisor 37 = .ok (.lstore 6, 2) := by decide +kernel
theorem dX5_commonDivisor_39 : decode cX5_commonDivisor 39 = .ok (.iinc 8 1, 3) := by decide +kernel
theorem dX5_commonDivisor_42 : decode cX5_commonDivisor 42 = .ok (.goto (-33), 3) := by decide +kernel
theorem dX5_commonDivisor_45 : decode cX5_commonDivisor 45 = .ok (.lload 4, 2) := by decide +kernel
theorem dX5_commonDivisor_47 : decode cX5_commonDivisor 47 = .ok (.lreturn, 1) := by decide +kernel
theorem dX5_power_0 : decode cX5_power 0 = .ok (.lconst 1, 1) := by decide +kernel
theorem dX5_power_1 : decode cX5_power 1 = .ok (.lstore_n 3, 1) := by decide +kernel
theorem dX5_power_2 : decode cX5_power 2 = .ok (.iconst 0, 1) := by decide +kernel
theorem dX5_power_3 : decode cX5_power 3 = .ok (.istore 5, 2) := by decide +kernel
theorem dX5_power_5 : decode cX5_power 5 = .ok (.iload 5, 2) := by decide +kernel
theorem dX5_power_7 : decode cX5_power 7 = .ok (.iload_n 2, 1) := by decide +kernel
theorem dX5_power_8 : decode cX5_power 8 = .ok (.if_icmp .ge 13, 3) := by decide +kernel
theorem dX5_power_11 : decode cX5_power 11 = .ok (.lload_n 3, 1) := by decide +kernel
theorem dX5_power_12 : decode cX5_power 12 = .ok (.lload_n 0, 1) := by decide +kernel
theorem dX5_power_13 : decode cX5_power 13 = .ok (.lmul, 1) := by decide +kernel
theorem dX5_power_14 : decode cX5_power 14 = .ok (.lstore_n 3, 1) := by decide +kernel
theorem dX5_power_15 : decode cX5_power 15 = .ok (.iinc 5 1, 3) := by decide +kernel
theorem dX5_power_18 : decode cX5_power 18 = .ok (.goto (-13), 3) := by decide +kernel
theorem dX5_power_21 : decode cX5_power 21 = .ok (.lload_n 3, 1) := by decide +kernel
theorem dX5_power_22 : decode cX5_power 22 = .ok (.lreturn, 1) := by decide +kernel
theorem dX5_faultOf_0 : decode cX5_faultOf 0 = .ok (.iconst 0, 1) := by decide +kernel
theorem dX5_faultOf_1 : decode cX5_faultOf 1 = .ok (.istore_n 2, 1) := by decide +kernel
theorem dX5_faultOf_2 : decode cX5_faultOf 2 = .ok (.iconst 0, 1) := by decide +kernel
theorem dX5_faultOf_3 : decode cX5_faultOf 3 = .ok (.istore_n 3, 1) := by decide +kernel
theorem dX5_faultOf_4 : decode cX5_faultOf 4 = .ok (.iload_n 3, 1) := by decide +kernel
theorem dX5_faultOf_5 : decode cX5_faultOf 5 = .ok (.iload_n 1, 1) := by decide +kernel
theorem dX5_faultOf_6 : decode cX5_faultOf 6 = .ok (.if_icmp .ge 52, 3) := by decide +kernel
theorem dX5_faultOf_9 : decode cX5_faultOf 9 = .ok (.aload_n 0, 1) := by decide +kernel
theorem dX5_faultOf_10 : decode cX5_faultOf 10 = .ok (.iload_n 3, 1) := by decide +kernel
theorem dX5_faultOf_11 : decode cX5_faultOf 11 = .ok (.baload, 1) := by decide +kernel
theorem dX5_faultOf_12 : decode cX5_faultOf 12 = .ok (.bipush 32, 2) := by decide +kernel
theorem dX5_faultOf_14 : decode cX5_faultOf 14 = .ok (.if_icmp .ne 9, 3) := by decide +kernel
theorem dX5_faultOf_17 : decode cX5_faultOf 17 = .ok (.iinc 3 1, 3) := by decide +kernel
theorem dX5_faultOf_20 : decode cX5_faultOf 20 = .ok (.goto (-16), 3) := by decide +kernel
theorem dX5_faultOf_23 : decode cX5_faultOf 23 = .ok (.iload_n 2, 1) := by decide +kernel
theorem dX5_faultOf_24 : decode cX5_faultOf 24 = .ok (.bipush 6, 2) := by decide +kernel
theorem dX5_faultOf_26 : decode cX5_faultOf 26 = .ok (.if_icmp .ne 5, 3) := by decide +kernel
theorem dX5_faultOf_29 : decode cX5_faultOf 29 = .ok (.iload_n 3, 1) := by decide +kernel
theorem dX5_faultOf_30 : decode cX5_faultOf 30 = .ok (.ireturn, 1) := by decide +kernel
theorem dX5_faultOf_31 : decode cX5_faultOf 31 = .ok (.aload_n 0, 1) := by decide +kernel
theorem dX5_faultOf_32 : decode cX5_faultOf 32 = .ok (.iload_n 1, 1) := by decide +kernel
theorem dX5_faultOf_33 : decode cX5_faultOf 33 = .ok (.iload_n 3, 1) := by decide +kernel
theorem dX5_faultOf_34 : decode cX5_faultOf 34 = .ok (.invokestatic 321, 3) := by decide +kernel
theorem dX5_faultOf_37 : decode cX5_faultOf 37 = .ok (.istore 4, 2) := by decide +kernel
theorem dX5_faultOf_39 : decode cX5_faultOf 39 = .ok (.iload 4, 2) := by decide +kernel
theorem dX5_faultOf_41 : decode cX5_faultOf 41 = .ok (.bipush (-9), 2) := by decide +kernel
theorem dX5_faultOf_43 : decode cX5_faultOf 43 = .ok (.if_icmp .eq 6, 3) := by decide +kernel
theorem dX5_faultOf_46 : decode cX5_faultOf 46 = .ok (.iload 4, 2) := by decide +kernel
theorem dX5_faultOf_48 : decode cX5_faultOf 48 = .ok (.ireturn, 1) := by decide +kernel
theorem dX5_faultOf_49 : decode cX5_faultOf 49 = .ok (.iinc 2 1, 3) := by decide +kernel
theorem dX5_faultOf_52 : decode cX5_faultOf 52 = .ok (.iinc 3 6, 3) := by decide +kernel
theorem dX5_faultOf_55 : decode cX5_faultOf 55 = .ok (.goto (-51), 3) := by decide +kernel
theorem dX5_faultOf_58 : decode cX5_faultOf 58 = .ok (.iload_n 2, 1) := by decide +kernel
theorem dX5_faultOf_59 : decode cX5_faultOf 59 = .ok (.ifCond .ne 7, 3) := by decide +kernel
theorem dX5_faultOf_62 : decode cX5_faultOf 62 = .ok (.iload_n 1, 1) := by decide +kernel
theorem dX5_faultOf_63 : decode cX5_faultOf 63 = .ok (.goto 5, 3) := by decide +kernel
theorem dX5_faultOf_66 : decode cX5_faultOf 66 = .ok (.bipush (-9), 2) := by decide +kernel
theorem dX5_faultOf_68 : decode cX5_faultOf 68 = .ok (.ireturn, 1) := by decide +kernel
theorem dX5_itemFault_0 : decode cX5_itemFault 0 = .ok (.iconst 0, 1) := by decide +kernel
theorem dX5_itemFault_1 : decode cX5_itemFault 1 = .ok (.istore_n 3, 1) := by decide +kernel
theorem dX5_itemFault_2 : decode cX5_itemFault 2 = .ok (.iload_n 3, 1) := by decide +kernel
theorem dX5_itemFault_3 : decode cX5_itemFault 3 = .ok (.bipush 6, 2) := by decide +kernel
theorem dX5_itemFault_5 : decode cX5_itemFault 5 = .ok (.if_icmp .ge 34, 3) := by decide +kernel
theorem dX5_itemFault_8 : decode cX5_itemFault 8 = .ok (.iload_n 2, 1) := by decide +kernel
theorem dX5_itemFault_9 : decode cX5_itemFault 9 = .ok (.iload_n 3, 1) := by decide +kernel
theorem dX5_itemFault_10 : decode cX5_itemFault 10 = .ok (.iadd, 1) := by decide +kernel
theorem dX5_itemFault_11 : decode cX5_itemFault 11 = .ok (.istore 4, 2) := by decide +kernel
theorem dX5_itemFault_13 : decode cX5_itemFault 13 = .ok (.iload 4, 2) := by decide +kernel
theorem dX5_itemFault_15 : decode cX5_itemFault 15 = .ok (.iload_n 1, 1) := by decide +kernel
theorem dX5_itemFault_16 : decode cX5_itemFault 16 = .ok (.if_icmp .ge 14, 3) := by decide +kernel
theorem dX5_itemFault_19 : decode cX5_itemFault 19 = .ok (.aload_n 0, 1) := by decide +kernel
theorem dX5_itemFault_20 : decode cX5_itemFault 20 = .ok (.iload 4, 2) := by decide +kernel
theorem dX5_itemFault_22 : decode cX5_itemFault 22 = .ok (.baload, 1) := by decide +kernel
theorem dX5_itemFault_23 : decode cX5_itemFault 23 = .ok (.iload_n 3, 1) := by decide +kernel
theorem dX5_itemFault_24 : decode cX5_itemFault 24 = .ok (.invokestatic 325, 3) := by decide +kernel
theorem dX5_itemFault_27 : decode cX5_itemFault 27 = .ok (.ifCond .ne 6, 3) := by decide +kernel
theorem dX5_itemFault_30 : decode cX5_itemFault 30 = .ok (.iload 4, 2) := by decide +kernel
theorem dX5_itemFault_32 : decode cX5_itemFault 32 = .ok (.ireturn, 1) := by decide +kernel
theorem dX5_itemFault_33 : decode cX5_itemFault 33 = .ok (.iinc 3 1, 3) := by decide +kernel
theorem dX5_itemFault_36 : decode cX5_itemFault 36 = .ok (.goto (-34), 3) := by decide +kernel
theorem dX5_itemFault_39 : decode cX5_itemFault 39 = .ok (.bipush (-9), 2) := by decide +kernel
theorem dX5_itemFault_41 : decode cX5_itemFault 41 = .ok (.ireturn, 1) := by decide +kernel
theorem dX5_mayStand_0 : decode cX5_mayStand 0 = .ok (.iload_n 1, 1) := by decide +kernel
theorem dX5_mayStand_1 : decode cX5_mayStand 1 = .ok (.ifCond .ne 18, 3) := by decide +kernel
theorem dX5_mayStand_4 : decode cX5_mayStand 4 = .ok (.iload_n 0, 1) := by decide +kernel
theorem dX5_mayStand_5 : decode cX5_mayStand 5 = .ok (.invokestatic 328, 3) := by decide +kernel
theorem dX5_mayStand_8 : decode cX5_mayStand 8 = .ok (.bipush (-9), 2) := by decide +kernel
theorem dX5_mayStand_10 : decode cX5_mayStand 10 = .ok (.if_icmp .eq 7, 3) := by decide +kernel
theorem dX5_mayStand_13 : decode cX5_mayStand 13 = .ok (.iconst 1, 1) := by decide +kernel
theorem dX5_mayStand_14 : decode cX5_mayStand 14 = .ok (.goto 4, 3) := by decide +kernel
theorem dX5_mayStand_17 : decode cX5_mayStand 17 = .ok (.iconst 0, 1) := by decide +kernel
theorem dX5_mayStand_18 : decode cX5_mayStand 18 = .ok (.ireturn, 1) := by decide +kernel
theorem dX5_mayStand_19 : decode cX5_mayStand 19 = .ok (.iload_n 0, 1) := by decide +kernel
theorem dX5_mayStand_20 : decode cX5_mayStand 20 = .ok (.bipush 48, 2) := by decide +kernel
theorem dX5_mayStand_22 : decode cX5_mayStand 22 = .ok (.isub, 1) := by decide +kernel
theorem dX5_mayStand_23 : decode cX5_mayStand 23 = .ok (.istore_n 2, 1) := by decide +kernel
theorem dX5_mayStand_24 : decode cX5_mayStand 24 = .ok (.iload_n 2, 1) := by decide +kernel
theorem dX5_mayStand_25 : decode cX5_mayStand 25 = .ok (.getstatic 331, 3) := by decide +kernel
theorem dX5_mayStand_28 : decode cX5_mayStand 28 = .ok (.iload_n 1, 1) := by decide +kernel
theorem dX5_mayStand_29 : decode cX5_mayStand 29 = .ok (.iaload, 1) := by decide +kernel
theorem dX5_mayStand_30 : decode cX5_mayStand 30 = .ok (.if_icmp .lt 16, 3) := by decide +kernel
theorem dX5_mayStand_33 : decode cX5_mayStand 33 = .ok (.iload_n 2, 1) := by decide +kernel
theorem dX5_mayStand_34 : decode cX5_mayStand 34 = .ok (.getstatic 334, 3) := by decide +kernel
theorem dX5_mayStand_37 : decode cX5_mayStand 37 = .ok (.iload_n 1, 1) := by decide +kernel
theorem dX5_mayStand_38 : decode cX5_mayStand 38 = .ok (.iaload, 1) := by decide +kernel
theorem dX5_mayStand_39 : decode cX5_mayStand 39 = .ok (.if_icmp .gt 7, 3) := by decide +kernel
theorem dX5_mayStand_42 : decode cX5_mayStand 42 = .ok (.iconst 1, 1) := by decide +kernel
theorem dX5_mayStand_43 : decode cX5_mayStand 43 = .ok (.goto 4, 3) := by decide +kernel
theorem dX5_mayStand_46 : decode cX5_mayStand 46 = .ok (.iconst 0, 1) := by decide +kernel
theorem dX5_mayStand_47 : decode cX5_mayStand 47 = .ok (.ireturn, 1) := by decide +kernel
theorem dX5_kindOf_0 : decode cX5_kindOf 0 = .ok (.iconst 0, 1) := by decide +kernel
theorem dX5_kindOf_1 : decode cX5_kindOf 1 = .ok (.istore_n 1, 1) := by decide +kernel
theorem dX5_kindOf_2 : decode cX5_kindOf 2 = .ok (.iload_n 1, 1) := by decide +kernel
theorem dX5_kindOf_3 : decode cX5_kindOf 3 = .ok (.bipush 6, 2) := by decide +kernel
theorem dX5_kindOf_5 : decode cX5_kindOf 5 = .ok (.if_icmp .ge 20, 3) := by decide +kernel
theorem dX5_kindOf_8 : decode cX5_kindOf 8 = .ok (.getstatic 337, 3) := by decide +kernel
theorem dX5_kindOf_11 : decode cX5_kindOf 11 = .ok (.iload_n 1, 1) := by decide +kernel
theorem dX5_kindOf_12 : decode cX5_kindOf 12 = .ok (.iaload, 1) := by decide +kernel
theorem dX5_kindOf_13 : decode cX5_kindOf 13 = .ok (.iload_n 0, 1) := by decide +kernel
theorem dX5_kindOf_14 : decode cX5_kindOf 14 = .ok (.if_icmp .ne 5, 3) := by decide +kernel
theorem dX5_kindOf_17 : decode cX5_kindOf 17 = .ok (.iload_n 1, 1) := by decide +kernel
theorem dX5_kindOf_18 : decode cX5_kindOf 18 = .ok (.ireturn, 1) := by decide +kernel
theorem dX5_kindOf_19 : decode cX5_kindOf 19 = .ok (.iinc 1 1, 3) := by decide +kernel
theorem dX5_kindOf_22 : decode cX5_kindOf 22 = .ok (.goto (-20), 3) := by decide +kernel
theorem dX5_kindOf_25 : decode cX5_kindOf 25 = .ok (.bipush (-9), 2) := by decide +kernel
theorem dX5_kindOf_27 : decode cX5_kindOf 27 = .ok (.ireturn, 1) := by decide +kernel
theorem dX5_wantsOther_0 : decode cX5_wantsOther 0 = .ok (.iload_n 0, 1) := by decide +kernel
theorem dX5_wantsOther_1 : decode cX5_wantsOther 1 = .ok (.tableswitch 86 2 5 #[31, 86, 73, 42], 31) := by decide +kernel
theorem dX5_wantsOther_32 : decode cX5_wantsOther 32 = .ok (.iload_n 1, 1) := by decide +kernel
theorem dX5_wantsOther_33 : decode cX5_wantsOther 33 = .ok (.iconst 3, 1) := by decide +kernel
theorem dX5_wantsOther_34 : decode cX5_wantsOther 34 = .ok (.if_icmp .lt 7, 3) := by decide +kernel
theorem dX5_wantsOther_37 : decode cX5_wantsOther 37 = .ok (.iconst 1, 1) := by decide +kernel
theorem dX5_wantsOther_38 : decode cX5_wantsOther 38 = .ok (.goto 4, 3) := by decide +kernel
theorem dX5_wantsOther_41 : decode cX5_wantsOther 41 = .ok (.iconst 0, 1) := by decide +kernel
theorem dX5_wantsOther_42 : decode cX5_wantsOther 42 = .ok (.ireturn, 1) := by decide +kernel
theorem dX5_wantsOther_43 : decode cX5_wantsOther 43 = .ok (.iload_n 1, 1) := by decide +kernel
theorem dX5_wantsOther_44 : decode cX5_wantsOther 44 = .ok (.iconst 5, 1) := by decide +kernel
theorem dX5_wantsOther_45 : decode cX5_wantsOther 45 = .ok (.irem, 1) := by decide +kernel
theorem dX5_wantsOther_46 : decode cX5_wantsOther 46 = .ok (.iconst 4, 1) := by decide +kernel
theorem dX5_wantsOther_47 : decode cX5_wantsOther 47 = .ok (.if_icmp .ne 16, 3) := by decide +kernel
theorem dX5_wantsOther_50 : decode cX5_wantsOther 50 = .ok (.iload_n 1, 1) := by decide +kernel
theorem dX5_wantsOther_51 : decode cX5_wantsOther 51 = .ok (.iconst 3, 1) := by decide +kernel
theorem dX5_wantsOther_52 : decode cX5_wantsOther 52 = .ok (.if_icmp .ge 7, 3) := by decide +kernel
theorem dX5_wantsOther_55 : decode cX5_wantsOther 55 = .ok (.iconst 1, 1) := by decide +kernel
theorem dX5_wantsOther_56 : decode cX5_wantsOther 56 = .ok (.goto 17, 3) := by decide +kernel
theorem dX5_wantsOther_59 : decode cX5_wantsOther 59 = .ok (.iconst 0, 1) := by decide +kernel
theorem dX5_wantsOther_60 : decode cX5_wantsOther 60 = .ok (.goto 13, 3) := by decide +kernel
theorem dX5_wantsOther_63 : decode cX5_wantsOther 63 = .ok (.iload_n 1, 1) := by decide +kernel
theorem dX5_wantsOther_64 : decode cX5_wantsOther 64 = .ok (.iconst 3, 1) := by decide +kernel
theorem dX5_wantsOther_65 : decode cX5_wantsOther 65 = .ok (.if_icmp .lt 7, 3) := by decide +kernel
theorem dX5_wantsOther_68 : decode cX5_wantsOther 68 = .ok (.iconst 1, 1) := by decide +kernel
theorem dX5_wantsOther_69 : decode cX5_wantsOther 69 = .ok (.goto 4, 3) := by decide +kernel
theorem dX5_wantsOther_72 : decode cX5_wantsOther 72 = .ok (.iconst 0, 1) := by decide +kernel
theorem dX5_wantsOther_73 : decode cX5_wantsOther 73 = .ok (.ireturn, 1) := by decide +kernel
theorem dX5_wantsOther_74 : decode cX5_wantsOther 74 = .ok (.iload_n 1, 1) := by decide +kernel
theorem dX5_wantsOther_75 : decode cX5_wantsOther 75 = .ok (.iconst 2, 1) := by decide +kernel
theorem dX5_wantsOther_76 : decode cX5_wantsOther 76 = .ok (.irem, 1) := by decide +kernel
theorem dX5_wantsOther_77 : decode cX5_wantsOther 77 = .ok (.iconst 1, 1) := by decide +kernel
theorem dX5_wantsOther_78 : decode cX5_wantsOther 78 = .ok (.if_icmp .ne 7, 3) := by decide +kernel
theorem dX5_wantsOther_81 : decode cX5_wantsOther 81 = .ok (.iconst 1, 1) := by decide +kernel
theorem dX5_wantsOther_82 : decode cX5_wantsOther 82 = .ok (.goto 4, 3) := by decide +kernel
theorem dX5_wantsOther_85 : decode cX5_wantsOther 85 = .ok (.iconst 0, 1) := by decide +kernel
theorem dX5_wantsOther_86 : decode cX5_wantsOther 86 = .ok (.ireturn, 1) := by decide +kernel
theorem dX5_wantsOther_87 : decode cX5_wantsOther 87 = .ok (.iconst 0, 1) := by decide +kernel
theorem dX5_wantsOther_88 : decode cX5_wantsOther 88 = .ok (.ireturn, 1) := by decide +kernel
